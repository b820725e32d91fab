theorem tw_357 : Cond.constant RL 7 (2450003 : Int32) ∈ gw := gw_tab (i := 357) (by decide +kernel) (by rfl)
theorem dL_writes_0 : decode cL_writes 0 = .ok (.aload_n 0, 1) := by decide +kernel
theorem dL_writes_1 : decode cL_writes 1 = .ok (.iconst 0, 1) := by decide +kernel
theorem dL_writes_2 : decode cL_writes 2 = .ok (.invokevirtual 13, 3) := by decide +kernel
theorem dL_writes_5 : decode cL_writes 5 = .ok (.ifCond .eq 11, 3) := by decide +kernel
theorem dL_writes_8 : decode cL_writes 8 = .ok (.aload_n 0, 1) := by decide +kernel
theorem dL_writes_9 : decode cL_writes 9 = .ok (.iconst 1, 1) := by decide +kernel
theorem dL_writes_10 : decode cL_writes 10 = .ok (.invokevirtual 13, 3) := by decide +kernel
theorem dL_writes_13 : decode cL_writes 13 = .ok (.ifCond .ne 21, 3) := by decide +kernel
theorem dL_writes_16 : decode cL_writes 16 = .ok (.aload_n 0, 1) := by decide +kernel
theorem dL_writes_17 : decode cL_writes 17 = .ok (.iconst 0, 1) := by decide +kernel
theorem dL_writes_18 : decode cL_writes 18 = .ok (.iconst 0, 1) := by decide +kernel
theorem dL_writes_19 : decode cL_writes 19 = .ok (.iconst 0, 1) := by decide +kernel
theorem dL_writes_20 : decode cL_writes 20 = .ok (.invokevirtual 84, 3) := by decide +kernel
theorem dL_writes_23 : decode cL_writes 23 = .ok (.ldc 46, 2) := by decide +kernel
theorem dL_writes_25 : decode cL_writes 25 = .ok (.if_icmp .ne 7, 3) := by decide +kernel
theorem dL_writes_28 : decode cL_writes 28 = .ok (.iconst 1, 1) := by decide +kernel
theorem dL_writes_29 : decode cL_writes 29 = .ok (.goto 4, 3) := by decide +kernel
theorem dL_writes_32 : decode cL_writes 32 = .ok (.iconst 0, 1) := by decide +kernel
theorem dL_writes_33 : decode cL_writes 33 = .ok (.ireturn, 1) := by decide +kernel
theorem dL_writes_34 : decode cL_writes 34 = .ok (.iload_n 1, 1) := by decide +kernel
theorem dL_writes_35 : decode cL_writes 35 = .ok (.aload_n 0, 1) := by decide +kernel
theorem dL_writes_36 : decode cL_writes 36 = .ok (.iconst 1, 1) := by decide +kernel
theorem dL_writes_37 : decode cL_writes 37 = .ok (.invokevirtual 13, 3) := by decide +kernel
theorem dL_writes_40 : decode cL_writes 40 = .ok (.invokestatic 57, 3) := by decide +kernel
theorem dL_writes_43 : decode cL_writes 43 = .ok (.istore_n 3, 1) := by decide +kernel
theorem dL_writes_44 : decode cL_writes 44 = .ok (.iload_n 1, 1) := by decide +kernel
theorem dL_writes_45 : decode cL_writes 45 = .ok (.iconst 5, 1) := by decide +kernel
theorem dL_writes_46 : decode cL_writes 46 = .ok (.ishr, 1) := by decide +kernel
theorem dL_writes_47 : decode cL_writes 47 = .ok (.aload_n 0, 1) := by decide +kernel
theorem dL_writes_48 : decode cL_writes 48 = .ok (.iconst 0, 1) := by decide +kernel
theorem dL_writes_49 : decode cL_writes 49 = .ok (.invokevirtual 13, 3) := by decide +kernel
theorem dL_writes_52 : decode cL_writes 52 = .ok (.invokestatic 57, 3) := by decide +kernel
theorem dL_writes_55 : decode cL_writes 55 = .ok (.istore 4, 2) := by decide +kernel
theorem dL_writes_57 : decode cL_writes 57 = .ok (.iload_n 2, 1) := by decide +kernel
theorem dL_writes_58 : decode cL_writes 58 = .ok (.aload_n 0, 1) := by decide +kernel
theorem dL_writes_59 : decode cL_writes 59 = .ok (.iload 4, 2) := by decide +kernel
theorem dL_writes_61 : decode cL_writes 61 = .ok (.bipush 8, 2) := by decide +kernel
theorem dL_writes_63 : decode cL_writes 63 = .ok (.invokevirtual 19, 3) := by decide +kernel
theorem dL_writes_66 : decode cL_writes 66 = .ok (.iconst 1, 1) := by decide +kernel
theorem dL_writes_67 : decode cL_writes 67 = .ok (.iadd, 1) := by decide +kernel
theorem dL_writes_68 : decode cL_writes 68 = .ok (.invokestatic 57, 3) := by decide +kernel
theorem dL_writes_71 : decode cL_writes 71 = .ok (.istore 5, 2) := by decide +kernel
theorem dL_writes_73 : decode cL_writes 73 = .ok (.aload_n 0, 1) := by decide +kernel
theorem dL_writes_74 : decode cL_writes 74 = .ok (.iload_n 3, 1) := by decide +kernel
theorem dL_writes_75 : decode cL_writes 75 = .ok (.iload 4, 2) := by decide +kernel
theorem dL_writes_77 : decode cL_writes 77 = .ok (.iload 5, 2) := by decide +kernel
theorem dL_writes_79 : decode cL_writes 79 = .ok (.invokevirtual 51, 3) := by decide +kernel
theorem dL_writes_82 : decode cL_writes 82 = .ok (.istore 6, 2) := by decide +kernel
theorem dL_writes_84 : decode cL_writes 84 = .ok (.aload_n 0, 1) := by decide +kernel
theorem dL_writes_85 : decode cL_writes 85 = .ok (.iconst 2, 1) := by decide +kernel
theorem dL_writes_86 : decode cL_writes 86 = .ok (.invokevirtual 13, 3) := by decide +kernel
theorem dL_writes_89 : decode cL_writes 89 = .ok (.istore 7, 2) := by decide +kernel
theorem dL_writes_91 : decode cL_writes 91 = .ok (.aload_n 0, 1) := by decide +kernel
theorem dL_writes_92 : decode cL_writes 92 = .ok (.iload_n 3, 1) := by decide +kernel
theorem dL_writes_93 : decode cL_writes 93 = .ok (.iload 4, 2) := by decide +kernel
theorem dL_writes_95 : decode cL_writes 95 = .ok (.iload 5, 2) := by decide +kernel
theorem dL_writes_97 : decode cL_writes 97 = .ok (.invokevirtual 84, 3) := by decide +kernel
theorem dL_writes_100 : decode cL_writes 100 = .ok (.istore 8, 2) := by decide +kernel
theorem dL_writes_102 : decode cL_writes 102 = .ok (.aload_n 0, 1) := by decide +kernel
theorem dL_writes_103 : decode cL_writes 103 = .ok (.iload_n 3, 1) := by decide +kernel
theorem dL_writes_104 : decode cL_writes 104 = .ok (.iload 4, 2) := by decide +kernel
theorem dL_writes_106 : decode cL_writes 106 = .ok (.aload_n 0, 1) := by decide +kernel
theorem dL_writes_107 : decode cL_writes 107 = .ok (.iload 4, 2) := by decide +kernel
theorem dL_writes_109 : decode cL_writes 109 = .ok (.bipush 8, 2) := by decide +kernel
theorem dL_writes_111 : decode cL_writes 111 = .ok (.invokevirtual 19, 3) := by decide +kernel
theorem dL_writes_114 : decode cL_writes 114 = .ok (.iconst 1, 1) := by decide +kernel
theorem dL_writes_115 : decode cL_writes 115 = .ok (.iadd, 1) := by decide +kernel
theorem dL_writes_116 : decode cL_writes 116 = .ok (.invokevirtual 84, 3) := by decide +kernel
theorem dL_writes_119 : decode cL_writes 119 = .ok (.ldc 38, 2) := by decide +kernel
theorem dL_writes_121 : decode cL_writes 121 = .ok (.if_icmp .eq 5, 3) := by decide +kernel
theorem dL_writes_124 : decode cL_writes 124 = .ok (.iconst 0, 1) := by decide +kernel
theorem dL_writes_125 : decode cL_writes 125 = .ok (.ireturn, 1) := by decide +kernel
theorem dL_writes_126 : decode cL_writes 126 = .ok (.iload 7, 2) := by decide +kernel
theorem dL_writes_128 : decode cL_writes 128 = .ok (.bipush 60, 2) := by decide +kernel
theorem dL_writes_130 : decode cL_writes 130 = .ok (.if_icmp .ne 18, 3) := by decide +kernel
theorem dL_writes_133 : decode cL_writes 133 = .ok (.iload 8, 2) := by decide +kernel
theorem dL_writes_135 : decode cL_writes 135 = .ok (.ldc 64, 2) := by decide +kernel
theorem dL_writes_137 : decode cL_writes 137 = .ok (.if_icmp .ne 7, 3) := by decide +kernel
theorem dL_writes_140 : decode cL_writes 140 = .ok (.iconst 1, 1) := by decide +kernel
theorem dL_writes_141 : decode cL_writes 141 = .ok (.goto 63, 3) := by decide +kernel
theorem dL_writes_144 : decode cL_writes 144 = .ok (.iconst 0, 1) := by decide +kernel
theorem dL_writes_145 : decode cL_writes 145 = .ok (.goto 59, 3) := by decide +kernel
theorem dL_writes_148 : decode cL_writes 148 = .ok (.iload 8, 2) := by decide +kernel
theorem dL_writes_150 : decode cL_writes 150 = .ok (.aload_n 0, 1) := by decide +kernel
theorem dL_writes_151 : decode cL_writes 151 = .ok (.iload 4, 2) := by decide +kernel
theorem dL_writes_153 : decode cL_writes 153 = .ok (.iload 5, 2) := by decide +kernel
theorem dL_writes_155 : decode cL_writes 155 = .ok (.iload 6, 2) := by decide +kernel
theorem dL_writes_157 : decode cL_writes 157 = .ok (.invokestatic 42, 3) := by decide +kernel
theorem dL_writes_160 : decode cL_writes 160 = .ok (.if_icmp .ne 43, 3) := by decide +kernel
theorem dL_writes_163 : decode cL_writes 163 = .ok (.aload_n 0, 1) := by decide +kernel
theorem dL_writes_164 : decode cL_writes 164 = .ok (.iload 7, 2) := by decide +kernel
theorem dL_writes_166 : decode cL_writes 166 = .ok (.iconst 3, 1) := by decide +kernel
theorem dL_writes_167 : decode cL_writes 167 = .ok (.invokevirtual 26, 3) := by decide +kernel
theorem dL_writes_170 : decode cL_writes 170 = .ok (.iload 6, 2) := by decide +kernel
theorem dL_writes_172 : decode cL_writes 172 = .ok (.if_icmp .ne 31, 3) := by decide +kernel
theorem dL_writes_175 : decode cL_writes 175 = .ok (.aload_n 0, 1) := by decide +kernel
theorem dL_writes_176 : decode cL_writes 176 = .ok (.iload 7, 2) := by decide +kernel
theorem dL_writes_178 : decode cL_writes 178 = .ok (.iconst 2, 1) := by decide +kernel
theorem dL_writes_179 : decode cL_writes 179 = .ok (.invokevirtual 26, 3) := by decide +kernel
theorem dL_writes_182 : decode cL_writes 182 = .ok (.iload 5, 2) := by decide +kernel
theorem dL_writes_184 : decode cL_writes 184 = .ok (.if_icmp .ne 19, 3) := by decide +kernel
theorem dL_writes_187 : decode cL_writes 187 = .ok (.aload_n 0, 1) := by decide +kernel
theorem dL_writes_188 : decode cL_writes 188 = .ok (.iload 7, 2) := by decide +kernel
theorem dL_writes_190 : decode cL_writes 190 = .ok (.iconst 4, 1) := by decide +kernel
theorem dL_writes_191 : decode cL_writes 191 = .ok (.invokevirtual 26, 3) := by decide +kernel
theorem dL_writes_194 : decode cL_writes 194 = .ok (.iload 8, 2) := by decide +kernel
theorem dL_writes_196 : decode cL_writes 196 = .ok (.if_icmp .ne 7, 3) := by decide +kernel
theorem dL_writes_199 : decode cL_writes 199 = .ok (.iconst 1, 1) := by decide +kernel
theorem dL_writes_200 : decode cL_writes 200 = .ok (.goto 4, 3) := by decide +kernel
theorem dL_writes_203 : decode cL_writes 203 = .ok (.iconst 0, 1) := by decide +kernel
theorem dL_writes_204 : decode cL_writes 204 = .ok (.ireturn, 1) := by decide +kernel
def f_L_writes_b16    (σ : Sg)  : Option (Int32 × Sg) := (f_X4_write σ (0 : Int32) (0 : Int32) (0 : Int32)).bind fun q6 => lts q6.2 fun σ4 => lt q6.1 fun r3 => if r3 = (-10000001 : Int32) then (some ((1 : Int32), σ4)) else none
def f_L_writes (σ : Sg)  (p1 p2 : Int32) : Option (Int32 × Sg) := (f_X4_count σ (0 : Int32)).bind fun r1 => if r1 = 0 then (f_L_writes_b16 σ) else ((f_X4_count σ (1 : Int32)).bind fun r7 => if r7 = 0 then (f_L_writes_b16 σ) else ((f_X4_count σ (1 : Int32)).bind fun r9 => (f_L_low σ p1 r9).bind fun r10 => (f_X4_count σ (0 : Int32)).bind fun r11 => (f_L_low σ (p1 >>> ((5 : Int32) &&& 31)) r11).bind fun r12 => (f_X4_instrument σ r12 (8 : Int32)).bind fun r13 => (f_L_low σ p2 (r13 + (1 : Int32))).bind fun r14 => (f_X4_answer σ r10 r12 r14).bind fun r15 => (f_X4_count σ (2 : Int32)).bind fun r16 => (f_X4_write σ r10 r12 r14).bind fun q34 => lts q34.2 fun σ18 => lt q34.1 fun r17 => (f_X4_instrument σ18 r12 (8 : Int32)).bind fun r19 => (f_X4_write σ18 r10 r12 (r19 + (1 : Int32))).bind fun q33 => lts q33.2 fun σ21 => lt q33.1 fun r20 => if r20 = (-10000002 : Int32) then (if r16 = (60 : Int32) then (if r17 = (-10000003 : Int32) then (some ((1 : Int32), σ21)) else none) else ((f_L_mark σ21 r12 r14 r15).bind fun r24 => if r17 = r24 then ((f_X4_paper σ21 r16 (3 : Int32)).bind fun r26 => if r26 = r15 then ((f_X4_paper σ21 r16 (2 : Int32)).bind fun r28 => if r28 = r14 then ((f_X4_paper σ21 r16 (4 : Int32)).bind fun r30 => if r30 = r17 then (some ((1 : Int32), σ21)) else none) else none) else none) else none)) else none))
set_option maxHeartbeats 4000000 in
set_option maxRecDepth 100000 in
theorem L_L_writes_b16 {Γ : Cx} (G : va_G) (cls : Cls) (ad : Nat → Nat) (hi : inj 49 ad) (hC : CX Γ (YX G cls ad) cL_writes RL 9 (some .boolean) 7 172) (hz0 : Γ.2.2.2.2.2.1 = 0) (hz1 : Γ.2.2.2.2.2.2 = 0)     (σ : Sg)  : WX Γ (YX G cls ad) (qf Γ (YX G cls ad) fiS) 9 16 [(0, .ref (ad 25))] [] σ (f_L_writes_b16   σ) := by
  unfold f_L_writes_b16
  refine X_aload_n hC 0 rfl dL_writes_16 ?_
  refine X_iconst (v := 0) hC (by decide) dL_writes_17 ?_
  refine X_iconst (v := 0) hC (by decide) dL_writes_18 ?_
  refine X_iconst (v := 0) hC (by decide) dL_writes_19 ?_
  refine X_callS (C := RX4) (T := TX4) (N := 5) (ci := 4) (rest := []) hC (c_X4_write _ G cls ad hi σ (0 : Int32) (0 : Int32) (0 : Int32)) (gV tw_490 tw_491 tw_492 tw_1 tw_493) rfl (wX (k := 25) (by omega) cX_vs) rfl rfl okm_X4_write (by decide) dL_writes_20 rfl (Nat.le_of_ble_eq_true rfl) (fun q6 => X_lts fun σ4 => X_lt fun r3 => ?_)
  refine X_ldc (v := -10000001) hC tw_405 dL_writes_23 ?_
  refine X_icmp_ne hC 32 dL_writes_25 (by decide) (fun h5 => ?_) (fun h5 => ?_)
  · refine X_iconst (v := 0) hC (by decide) dL_writes_32 ?_
    exact X_none
  · refine X_iconst (v := 1) hC (by decide) dL_writes_28 ?_
    refine X_goto hC 33 dL_writes_29 (by decide) ?_
    exact X_zret hC hz0 hz1 rfl dL_writes_33 rfl
theorem okm_L_writes : okm yL_writes 3 = true := by decide +kernel
set_option maxHeartbeats 4000000 in
set_option maxRecDepth 100000 in
theorem c_L_writes (l : Launch) (G : va_G) (cls : Cls) (ad : Nat → Nat) (hi : inj 49 ad) (σ : Sg)   (p1 p2 : Int32) : MT l (YX G cls ad) yL_writes (.code yL_writes cL_writes 9 (some .boolean) :: gw) 7 172 [.ref (ad 25), .int p1, .int p2] fiS σ (f_L_writes σ  p1 p2) := by
  refine MT.of (own := RL) (by decide) (YX_D hi) rfl (Nat.le_of_ble_eq_true rfl) fun Γ _ hz0 hz1 hC => ?_
  show WX Γ (YX G cls ad) (qf Γ (YX G cls ad) fiS) 9 0 [(0, .ref (ad 25)), (1, .int p1), (2, .int p2)] [] σ (f_L_writes σ  p1 p2)
  unfold f_L_writes
  refine X_aload_n hC 0 rfl dL_writes_0 ?_
  refine X_iconst (v := 0) hC (by decide) dL_writes_1 ?_
  refine X_callP (C := RX4) (T := TX4) (N := 5) (ci := 4) (rest := []) hC (c_X4_count _ G cls ad hi σ (0 : Int32)) (gV tw_338 tw_339 tw_340 tw_1 tw_341) rfl (wX (k := 25) (by omega) cX_vs) rfl rfl okm_X4_count (by decide) dL_writes_2 rfl (Nat.le_of_ble_eq_true rfl) (fun r1 => ?_)
  refine X_if_eq hC 16 dL_writes_5 (by decide) (fun h2 => ?_) (fun h2 => ?_)
  · exact X_sub [0] rfl (L_L_writes_b16 G cls ad hi hC hz0 hz1 σ)
  · refine X_aload_n hC 0 rfl dL_writes_8 ?_
    refine X_iconst (v := 1) hC (by decide) dL_writes_9 ?_
    refine X_callP (C := RX4) (T := TX4) (N := 5) (ci := 4) (rest := []) hC (c_X4_count _ G cls ad hi σ (1 : Int32)) (gV tw_338 tw_339 tw_340 tw_1 tw_341) rfl (wX (k := 25) (by omega) cX_vs) rfl rfl okm_X4_count (by decide) dL_writes_10 rfl (Nat.le_of_ble_eq_true rfl) (fun r7 => ?_)
    refine X_if_ne hC 34 dL_writes_13 (by decide) (fun h8 => ?_) (fun h8 => ?_)
    · refine X_iload_n hC 1 rfl dL_writes_34 ?_
      refine X_aload_n hC 0 rfl dL_writes_35 ?_
      refine X_iconst (v := 1) hC (by decide) dL_writes_36 ?_
      refine X_callP (C := RX4) (T := TX4) (N := 5) (ci := 4) (rest := [.int p1]) hC (c_X4_count _ G cls ad hi σ (1 : Int32)) (gV tw_338 tw_339 tw_340 tw_1 tw_341) rfl (wX (k := 25) (by omega) cX_vs) rfl rfl okm_X4_count (by decide) dL_writes_37 rfl (Nat.le_of_ble_eq_true rfl) (fun r9 => ?_)
      refine X_statP (rest := []) hC (c_L_low _ G cls ad hi σ p1 r9) (gSt tw_358 tw_359 tw_0 tw_360) rfl okm_L_low (by decide) dL_writes_40 rfl (Nat.le_of_ble_eq_true rfl) (fun r10 => ?_)
      refine X_istore_n (ls' := [(3, .int r10), (0, .ref (ad 25)), (1, .int p1), (2, .int p2)]) hC dL_writes_43 (by decide) rfl ?_
      refine X_iload_n hC 2 rfl dL_writes_44 ?_
      refine X_iconst (v := 5) hC (by decide) dL_writes_45 ?_
      refine X_ishr hC dL_writes_46 ?_
      refine X_aload_n hC 1 rfl dL_writes_47 ?_
      refine X_iconst (v := 0) hC (by decide) dL_writes_48 ?_
      refine X_callP (C := RX4) (T := TX4) (N := 5) (ci := 4) (rest := [.int (p1 >>> ((5 : Int32) &&& 31))]) hC (c_X4_count _ G cls ad hi σ (0 : Int32)) (gV tw_338 tw_339 tw_340 tw_1 tw_341) rfl (wX (k := 25) (by omega) cX_vs) rfl rfl okm_X4_count (by decide) dL_writes_49 rfl (Nat.le_of_ble_eq_true rfl) (fun r11 => ?_)
      refine X_statP (rest := []) hC (c_L_low _ G cls ad hi σ (p1 >>> ((5 : Int32) &&& 31)) r11) (gSt tw_358 tw_359 tw_0 tw_360) rfl okm_L_low (by decide) dL_writes_52 rfl (Nat.le_of_ble_eq_true rfl) (fun r12 => ?_)
      refine X_istore (ls' := [(4, .int r12), (3, .int r10), (0, .ref (ad 25)), (1, .int p1), (2, .int p2)]) hC dL_writes_55 (by decide) rfl ?_
      refine X_iload_n hC 4 rfl dL_writes_57 ?_
      refine X_aload_n hC 2 rfl dL_writes_58 ?_
      refine X_iload hC 0 rfl dL_writes_59 ?_
      refine X_bipush (v := 8) hC (by decide) dL_writes_61 ?_
      refine X_callP (C := RX4) (T := TX4) (N := 5) (ci := 4) (rest := [.int p2]) hC (c_X4_instrument _ G cls ad hi σ r12 (8 : Int32)) (gV tw_367 tw_368 tw_369 tw_1 tw_370) rfl (wX (k := 25) (by omega) cX_vs) rfl rfl okm_X4_instrument (by decide) dL_writes_63 rfl (Nat.le_of_ble_eq_true rfl) (fun r13 => ?_)
      refine X_iconst (v := 1) hC (by decide) dL_writes_66 ?_
      refine X_iadd hC dL_writes_67 ?_
      refine X_statP (rest := []) hC (c_L_low _ G cls ad hi σ p2 (r13 + (1 : Int32))) (gSt tw_358 tw_359 tw_0 tw_360) rfl okm_L_low (by decide) dL_writes_68 rfl (Nat.le_of_ble_eq_true rfl) (fun r14 => ?_)
      refine X_istore (ls' := [(5, .int r14), (4, .int r12), (3, .int r10), (0, .ref (ad 25)), (1, .int p1), (2, .int p2)]) hC dL_writes_71 (by decide) rfl ?_
      refine X_aload_n hC 3 rfl dL_writes_73 ?_
      refine X_iload_n hC 2 rfl dL_writes_74 ?_
      refine X_iload hC 1 rfl dL_writes_75 ?_
      refine X_iload hC 0 rfl dL_writes_77 ?_
      refine X_callP (C := RX4) (T := TX4) (N := 5) (ci := 4) (rest := []) hC (c_X4_answer _ G cls ad hi σ r10 r12 r14) (gV tw_412 tw_413 tw_414 tw_1 tw_415) rfl (wX (k := 25) (by omega) cX_vs) rfl rfl okm_X4_answer (by decide) dL_writes_79 rfl (Nat.le_of_ble_eq_true rfl) (fun r15 => ?_)
      refine X_istore (ls' := [(6, .int r15), (5, .int r14), (4, .int r12), (3, .int r10), (0, .ref (ad 25)), (1, .int p1), (2, .int p2)]) hC dL_writes_82 (by decide) rfl ?_
      refine X_aload_n hC 4 rfl dL_writes_84 ?_
      refine X_iconst (v := 2) hC (by decide) dL_writes_85 ?_
      refine X_callP (C := RX4) (T := TX4) (N := 5) (ci := 4) (rest := []) hC (c_X4_count _ G cls ad hi σ (2 : Int32)) (gV tw_338 tw_339 tw_340 tw_1 tw_341) rfl (wX (k := 25) (by omega) cX_vs) rfl rfl okm_X4_count (by decide) dL_writes_86 rfl (Nat.le_of_ble_eq_true rfl) (fun r16 => ?_)
      refine X_istore (ls' := [(7, .int r16), (6, .int r15), (5, .int r14), (4, .int r12), (3, .int r10), (0, .ref (ad 25)), (1, .int p1), (2, .int p2)]) hC dL_writes_89 (by decide) rfl ?_
      refine X_aload_n hC 5 rfl dL_writes_91 ?_
      refine X_iload_n hC 4 rfl dL_writes_92 ?_
      refine X_iload hC 3 rfl dL_writes_93 ?_
      refine X_iload hC 2 rfl dL_writes_95 ?_
      refine X_callS (C := RX4) (T := TX4) (N := 5) (ci := 4) (rest := []) hC (c_X4_write _ G cls ad hi σ r10 r12 r14) (gV tw_490 tw_491 tw_492 tw_1 tw_493) rfl (wX (k := 25) (by omega) cX_vs) rfl rfl okm_X4_write (by decide) dL_writes_97 rfl (Nat.le_of_ble_eq_true rfl) (fun q34 => X_lts fun σ18 => X_lt fun r17 => ?_)
      refine X_istore (ls' := [(8, .int r17), (7, .int r16), (6, .int r15), (5, .int r14), (4, .int r12), (3, .int r10), (0, .ref (ad 25)), (1, .int p1), (2, .int p2)]) hC dL_writes_100 (by decide) rfl ?_
      refine X_aload_n hC 6 rfl dL_writes_102 ?_
      refine X_iload_n hC 5 rfl dL_writes_103 ?_
      refine X_iload hC 4 rfl dL_writes_104 ?_
      refine X_aload_n hC 6 rfl dL_writes_106 ?_
      refine X_iload hC 4 rfl dL_writes_107 ?_
      refine X_bipush (v := 8) hC (by decide) dL_writes_109 ?_
      refine X_callP (C := RX4) (T := TX4) (N := 5) (ci := 4) (rest := [.int r12, .int r10, .ref (ad 25)]) hC (c_X4_instrument _ G cls ad hi σ18 r12 (8 : Int32)) (gV tw_367 tw_368 tw_369 tw_1 tw_370) rfl (wX (k := 25) (by omega) cX_vs) rfl rfl okm_X4_instrument (by decide) dL_writes_111 rfl (Nat.le_of_ble_eq_true rfl) (fun r19 => ?_)
      refine X_iconst (v := 1) hC (by decide) dL_writes_114 ?_
      refine X_iadd hC dL_writes_115 ?_
      refine X_callS (C := RX4) (T := TX4) (N := 5) (ci := 4) (rest := []) hC (c_X4_write _ G cls ad hi σ18 r10 r12 (r19 + (1 : Int32))) (gV tw_490 tw_491 tw_492 tw_1 tw_493) rfl (wX (k := 25) (by omega) cX_vs) rfl rfl okm_X4_write (by decide) dL_writes_116 rfl (Nat.le_of_ble_eq_true rfl) (fun q33 => X_lts fun σ21 => X_lt fun r20 => ?_)
      refine X_ldc (v := -10000002) hC tw_388 dL_writes_119 ?_
      refine X_icmp_eq hC 126 dL_writes_121 (by decide) (fun h22 => ?_) (fun h22 => ?_)
      · refine X_iload hC 1 rfl dL_writes_126 ?_
        refine X_bipush (v := 60) hC (by decide) dL_writes_128 ?_
        refine X_icmp_ne hC 148 dL_writes_130 (by decide) (fun h23 => ?_) (fun h23 => ?_)
        · refine X_iload hC 0 rfl dL_writes_148 ?_
          refine X_aload_n hC 6 rfl dL_writes_150 ?_
          refine X_iload hC 4 rfl dL_writes_151 ?_
          refine X_iload hC 3 rfl dL_writes_153 ?_
          refine X_iload hC 2 rfl dL_writes_155 ?_
          refine X_statP (rest := [.int r17]) hC (c_L_mark _ G cls ad hi σ21 r12 r14 r15) (gSt tw_399 tw_400 tw_0 tw_401) rfl okm_L_mark (by decide) dL_writes_157 rfl (Nat.le_of_ble_eq_true rfl) (fun r24 => ?_)
          refine X_icmp_ne hC 203 dL_writes_160 (by decide) (fun h25 => ?_) (fun h25 => ?_)
          · refine X_iconst (v := 0) hC (by decide) dL_writes_203 ?_
            exact X_none
          · refine X_aload_n hC 6 rfl dL_writes_163 ?_
            refine X_iload hC 1 rfl dL_writes_164 ?_
            refine X_iconst (v := 3) hC (by decide) dL_writes_166 ?_
            refine X_callP (C := RX4) (T := TX4) (N := 5) (ci := 4) (rest := []) hC (c_X4_paper _ G cls ad hi σ21 r16 (3 : Int32)) (gV tw_380 tw_381 tw_382 tw_1 tw_383) rfl (wX (k := 25) (by omega) cX_vs) rfl rfl okm_X4_paper (by decide) dL_writes_167 rfl (Nat.le_of_ble_eq_true rfl) (fun r26 => ?_)
            refine X_iload hC 2 rfl dL_writes_170 ?_
            refine X_icmp_ne hC 203 dL_writes_172 (by decide) (fun h27 => ?_) (fun h27 => ?_)
            · refine X_iconst (v := 0) hC (by decide) dL_writes_203 ?_
              exact X_none
            · refine X_aload_n hC 6 rfl dL_writes_175 ?_
              refine X_iload hC 1 rfl dL_writes_176 ?_
              refine X_iconst (v := 2) hC (by decide) dL_writes_178 ?_
              refine X_callP (C := RX4) (T := TX4) (N := 5) (ci := 4) (rest := []) hC (c_X4_paper _ G cls ad hi σ21 r16 (2 : Int32)) (gV tw_380 tw_381 tw_382 tw_1 tw_383) rfl (wX (k := 25) (by omega) cX_vs) rfl rfl okm_X4_paper (by decide) dL_writes_179 rfl (Nat.le_of_ble_eq_true rfl) (fun r28 => ?_)
              refine X_iload hC 3 rfl dL_writes_182 ?_
              refine X_icmp_ne hC 203 dL_writes_184 (by decide) (fun h29 => ?_) (fun h29 => ?_)
              · refine X_iconst (v := 0) hC (by decide) dL_writes_203 ?_
                exact X_none
              · refine X_aload_n hC 6 rfl dL_writes_187 ?_
                refine X_iload hC 1 rfl dL_writes_188 ?_
                refine X_iconst (v := 4) hC (by decide) dL_writes_190 ?_
                refine X_callP (C := RX4) (T := TX4) (N := 5) (ci := 4) (rest := []) hC (c_X4_paper _ G cls ad hi σ21 r16 (4 : Int32)) (gV tw_380 tw_381 tw_382 tw_1 tw_383) rfl (wX (k := 25) (by omega) cX_vs) rfl rfl okm_X4_paper (by decide) dL_writes_191 rfl (Nat.le_of_ble_eq_true rfl) (fun r30 => ?_)
                refine X_iload hC 0 rfl dL_writes_194 ?_
                refine X_icmp_ne hC 203 dL_writes_196 (by decide) (fun h31 => ?_) (fun h31 => ?_)
                · refine X_iconst (v := 0) hC (by decide) dL_writes_203 ?_
                  exact X_none
                · refine X_iconst (v := 1) hC (by decide) dL_writes_199 ?_
                  refine X_goto hC 204 dL_writes_200 (by decide) ?_
                  exact X_zret hC hz0 hz1 rfl dL_writes_204 rfl
        · refine X_iload hC 0 rfl dL_writes_133 ?_
          refine X_ldc (v := -10000003) hC tw_443 dL_writes_135 ?_
          refine X_icmp_ne hC 144 dL_writes_137 (by decide) (fun h32 => ?_) (fun h32 => ?_)
          · refine X_iconst (v := 0) hC (by decide) dL_writes_144 ?_
            refine X_goto hC 204 dL_writes_145 (by decide) ?_
            exact X_none
          · refine X_iconst (v := 1) hC (by decide) dL_writes_140 ?_
            refine X_goto hC 204 dL_writes_141 (by decide) ?_
            exact X_zret hC hz0 hz1 rfl dL_writes_204 rfl
      · refine X_iconst (v := 0) hC (by decide) dL_writes_124 ?_
        exact X_none
    · exact X_sub [0] rfl (L_L_writes_b16 G cls ad hi hC hz0 hz1 σ)
theorem dL_appeals_0 : decode cL_appeals 0 = .ok (.aload_n 0, 1) := by decide +kernel
theorem dL_appeals_1 : decode cL_appeals 1 = .ok (.iconst 2, 1) := by decide +kernel
theorem dL_appeals_2 : decode cL_appeals 2 = .ok (.invokevirtual 13, 3) := by decide +kernel
theorem dL_appeals_5 : decode cL_appeals 5 = .ok (.istore 4, 2) := by decide +kernel
theorem dL_appeals_7 : decode cL_appeals 7 = .ok (.iload_n 1, 1) := by decide +kernel
theorem dL_appeals_8 : decode cL_appeals 8 = .ok (.bipush 13, 2) := by decide +kernel
theorem dL_appeals_10 : decode cL_appeals 10 = .ok (.if_icmp .ge 166, 3) := by decide +kernel
theorem dL_appeals_13 : decode cL_appeals 13 = .ok (.iload 4, 2) := by decide +kernel
theorem dL_appeals_15 : decode cL_appeals 15 = .ok (.ifCond .ne 20, 3) := by decide +kernel
theorem dL_appeals_18 : decode cL_appeals 18 = .ok (.aload_n 0, 1) := by decide +kernel
theorem dL_appeals_19 : decode cL_appeals 19 = .ok (.iconst 0, 1) := by decide +kernel
theorem dL_appeals_20 : decode cL_appeals 20 = .ok (.iconst 1, 1) := by decide +kernel
theorem dL_appeals_21 : decode cL_appeals 21 = .ok (.invokevirtual 87, 3) := by decide +kernel
theorem dL_appeals_24 : decode cL_appeals 24 = .ok (.ldc 46, 2) := by decide +kernel
theorem dL_appeals_26 : decode cL_appeals 26 = .ok (.if_icmp .ne 7, 3) := by decide +kernel
theorem dL_appeals_29 : decode cL_appeals 29 = .ok (.iconst 1, 1) := by decide +kernel
theorem dL_appeals_30 : decode cL_appeals 30 = .ok (.goto 4, 3) := by decide +kernel
theorem dL_appeals_33 : decode cL_appeals 33 = .ok (.iconst 0, 1) := by decide +kernel
theorem dL_appeals_34 : decode cL_appeals 34 = .ok (.ireturn, 1) := by decide +kernel
theorem dL_appeals_35 : decode cL_appeals 35 = .ok (.iload_n 2, 1) := by decide +kernel
theorem dL_appeals_36 : decode cL_appeals 36 = .ok (.iload 4, 2) := by decide +kernel
theorem dL_appeals_38 : decode cL_appeals 38 = .ok (.invokestatic 57, 3) := by decide +kernel
theorem dL_appeals_41 : decode cL_appeals 41 = .ok (.istore 5, 2) := by decide +kernel
theorem dL_appeals_43 : decode cL_appeals 43 = .ok (.aload_n 0, 1) := by decide +kernel
theorem dL_appeals_44 : decode cL_appeals 44 = .ok (.iload 5, 2) := by decide +kernel
theorem dL_appeals_46 : decode cL_appeals 46 = .ok (.iconst 5, 1) := by decide +kernel
theorem dL_appeals_47 : decode cL_appeals 47 = .ok (.invokevirtual 26, 3) := by decide +kernel
theorem dL_appeals_50 : decode cL_appeals 50 = .ok (.istore 6, 2) := by decide +kernel
theorem dL_appeals_52 : decode cL_appeals 52 = .ok (.aload_n 0, 1) := by decide +kernel
theorem dL_appeals_53 : decode cL_appeals 53 = .ok (.iconst 3, 1) := by decide +kernel
theorem dL_appeals_54 : decode cL_appeals 54 = .ok (.invokevirtual 13, 3) := by decide +kernel
theorem dL_appeals_57 : decode cL_appeals 57 = .ok (.istore 7, 2) := by decide +kernel
theorem dL_appeals_59 : decode cL_appeals 59 = .ok (.aload_n 0, 1) := by decide +kernel
theorem dL_appeals_60 : decode cL_appeals 60 = .ok (.iload 5, 2) := by decide +kernel
theorem dL_appeals_62 : decode cL_appeals 62 = .ok (.iconst 1, 1) := by decide +kernel
theorem dL_appeals_63 : decode cL_appeals 63 = .ok (.iload_n 3, 1) := by decide +kernel
theorem dL_appeals_64 : decode cL_appeals 64 = .ok (.iconst 3, 1) := by decide +kernel
theorem dL_appeals_65 : decode cL_appeals 65 = .ok (.invokestatic 57, 3) := by decide +kernel
theorem dL_appeals_68 : decode cL_appeals 68 = .ok (.iadd, 1) := by decide +kernel
theorem dL_appeals_69 : decode cL_appeals 69 = .ok (.invokevirtual 87, 3) := by decide +kernel
theorem dL_appeals_72 : decode cL_appeals 72 = .ok (.istore 8, 2) := by decide +kernel
theorem dL_appeals_74 : decode cL_appeals 74 = .ok (.iload 6, 2) := by decide +kernel
theorem dL_appeals_76 : decode cL_appeals 76 = .ok (.ifCond .le 18, 3) := by decide +kernel
theorem dL_appeals_79 : decode cL_appeals 79 = .ok (.iload 8, 2) := by decide +kernel
theorem dL_appeals_81 : decode cL_appeals 81 = .ok (.ldc 74, 2) := by decide +kernel
theorem dL_appeals_83 : decode cL_appeals 83 = .ok (.if_icmp .ne 7, 3) := by decide +kernel
theorem dL_appeals_86 : decode cL_appeals 86 = .ok (.iconst 1, 1) := by decide +kernel
theorem dL_appeals_87 : decode cL_appeals 87 = .ok (.goto 88, 3) := by decide +kernel
theorem dL_appeals_90 : decode cL_appeals 90 = .ok (.iconst 0, 1) := by decide +kernel
theorem dL_appeals_91 : decode cL_appeals 91 = .ok (.goto 84, 3) := by decide +kernel
theorem dL_appeals_94 : decode cL_appeals 94 = .ok (.iload 7, 2) := by decide +kernel
theorem dL_appeals_96 : decode cL_appeals 96 = .ok (.bipush 20, 2) := by decide +kernel
theorem dL_appeals_98 : decode cL_appeals 98 = .ok (.if_icmp .ne 18, 3) := by decide +kernel
theorem dL_appeals_101 : decode cL_appeals 101 = .ok (.iload 8, 2) := by decide +kernel
theorem dL_appeals_103 : decode cL_appeals 103 = .ok (.ldc 64, 2) := by decide +kernel
theorem dL_appeals_105 : decode cL_appeals 105 = .ok (.if_icmp .ne 7, 3) := by decide +kernel
theorem dL_appeals_108 : decode cL_appeals 108 = .ok (.iconst 1, 1) := by decide +kernel
theorem dL_appeals_109 : decode cL_appeals 109 = .ok (.goto 66, 3) := by decide +kernel
theorem dL_appeals_112 : decode cL_appeals 112 = .ok (.iconst 0, 1) := by decide +kernel
theorem dL_appeals_113 : decode cL_appeals 113 = .ok (.goto 62, 3) := by decide +kernel
theorem dL_appeals_116 : decode cL_appeals 116 = .ok (.aload_n 0, 1) := by decide +kernel
theorem dL_appeals_117 : decode cL_appeals 117 = .ok (.iload 5, 2) := by decide +kernel
theorem dL_appeals_119 : decode cL_appeals 119 = .ok (.iconst 5, 1) := by decide +kernel
theorem dL_appeals_120 : decode cL_appeals 120 = .ok (.invokevirtual 26, 3) := by decide +kernel
theorem dL_appeals_123 : decode cL_appeals 123 = .ok (.iconst 1, 1) := by decide +kernel
theorem dL_appeals_124 : decode cL_appeals 124 = .ok (.if_icmp .ne 50, 3) := by decide +kernel
theorem dL_appeals_127 : decode cL_appeals 127 = .ok (.aload_n 0, 1) := by decide +kernel
theorem dL_appeals_128 : decode cL_appeals 128 = .ok (.iload 5, 2) := by decide +kernel
theorem dL_appeals_130 : decode cL_appeals 130 = .ok (.bipush 7, 2) := by decide +kernel
theorem dL_appeals_132 : decode cL_appeals 132 = .ok (.invokevirtual 26, 3) := by decide +kernel
theorem dL_appeals_135 : decode cL_appeals 135 = .ok (.iload 8, 2) := by decide +kernel
theorem dL_appeals_137 : decode cL_appeals 137 = .ok (.if_icmp .ne 37, 3) := by decide +kernel
theorem dL_appeals_140 : decode cL_appeals 140 = .ok (.aload_n 0, 1) := by decide +kernel
theorem dL_appeals_141 : decode cL_appeals 141 = .ok (.iload 5, 2) := by decide +kernel
theorem dL_appeals_143 : decode cL_appeals 143 = .ok (.bipush 6, 2) := by decide +kernel
theorem dL_appeals_145 : decode cL_appeals 145 = .ok (.invokevirtual 26, 3) := by decide +kernel
theorem dL_appeals_148 : decode cL_appeals 148 = .ok (.iconst 1, 1) := by decide +kernel
theorem dL_appeals_149 : decode cL_appeals 149 = .ok (.iload_n 3, 1) := by decide +kernel
theorem dL_appeals_150 : decode cL_appeals 150 = .ok (.iconst 3, 1) := by decide +kernel
theorem dL_appeals_151 : decode cL_appeals 151 = .ok (.invokestatic 57, 3) := by decide +kernel
theorem dL_appeals_154 : decode cL_appeals 154 = .ok (.iadd, 1) := by decide +kernel
theorem dL_appeals_155 : decode cL_appeals 155 = .ok (.if_icmp .ne 19, 3) := by decide +kernel
theorem dL_appeals_158 : decode cL_appeals 158 = .ok (.aload_n 0, 1) := by decide +kernel
theorem dL_appeals_159 : decode cL_appeals 159 = .ok (.iload 5, 2) := by decide +kernel
theorem dL_appeals_161 : decode cL_appeals 161 = .ok (.iconst 4, 1) := by decide +kernel
theorem dL_appeals_162 : decode cL_appeals 162 = .ok (.invokevirtual 87, 3) := by decide +kernel
theorem dL_appeals_165 : decode cL_appeals 165 = .ok (.ldc 38, 2) := by decide +kernel
theorem dL_appeals_167 : decode cL_appeals 167 = .ok (.if_icmp .ne 7, 3) := by decide +kernel
theorem dL_appeals_170 : decode cL_appeals 170 = .ok (.iconst 1, 1) := by decide +kernel
theorem dL_appeals_171 : decode cL_appeals 171 = .ok (.goto 4, 3) := by decide +kernel
theorem dL_appeals_174 : decode cL_appeals 174 = .ok (.iconst 0, 1) := by decide +kernel
theorem dL_appeals_175 : decode cL_appeals 175 = .ok (.ireturn, 1) := by decide +kernel
theorem dL_appeals_176 : decode cL_appeals 176 = .ok (.aload_n 0, 1) := by decide +kernel
theorem dL_appeals_177 : decode cL_appeals 177 = .ok (.iconst 0, 1) := by decide +kernel
theorem dL_appeals_178 : decode cL_appeals 178 = .ok (.invokevirtual 39, 3) := by decide +kernel
theorem dL_appeals_181 : decode cL_appeals 181 = .ok (.istore 5, 2) := by decide +kernel
theorem dL_appeals_183 : decode cL_appeals 183 = .ok (.iload 5, 2) := by decide +kernel
theorem dL_appeals_185 : decode cL_appeals 185 = .ok (.ifCond .ge 18, 3) := by decide +kernel
theorem dL_appeals_188 : decode cL_appeals 188 = .ok (.aload_n 0, 1) := by decide +kernel
theorem dL_appeals_189 : decode cL_appeals 189 = .ok (.invokevirtual 90, 3) := by decide +kernel
theorem dL_appeals_192 : decode cL_appeals 192 = .ok (.ldc 37, 2) := by decide +kernel
theorem dL_appeals_194 : decode cL_appeals 194 = .ok (.if_icmp .ne 7, 3) := by decide +kernel
theorem dL_appeals_197 : decode cL_appeals 197 = .ok (.iconst 1, 1) := by decide +kernel
theorem dL_appeals_198 : decode cL_appeals 198 = .ok (.goto 4, 3) := by decide +kernel
theorem dL_appeals_201 : decode cL_appeals 201 = .ok (.iconst 0, 1) := by decide +kernel
theorem dL_appeals_202 : decode cL_appeals 202 = .ok (.ireturn, 1) := by decide +kernel
theorem dL_appeals_203 : decode cL_appeals 203 = .ok (.aload_n 0, 1) := by decide +kernel
theorem dL_appeals_204 : decode cL_appeals 204 = .ok (.iload 5, 2) := by decide +kernel
theorem dL_appeals_206 : decode cL_appeals 206 = .ok (.iconst 1, 1) := by decide +kernel
theorem dL_appeals_207 : decode cL_appeals 207 = .ok (.invokevirtual 26, 3) := by decide +kernel
theorem dL_appeals_210 : decode cL_appeals 210 = .ok (.istore 6, 2) := by decide +kernel
theorem dL_appeals_212 : decode cL_appeals 212 = .ok (.aload_n 0, 1) := by decide +kernel
theorem dL_appeals_213 : decode cL_appeals 213 = .ok (.iload 5, 2) := by decide +kernel
theorem dL_appeals_215 : decode cL_appeals 215 = .ok (.bipush 6, 2) := by decide +kernel
theorem dL_appeals_217 : decode cL_appeals 217 = .ok (.invokevirtual 26, 3) := by decide +kernel
theorem dL_appeals_220 : decode cL_appeals 220 = .ok (.istore 7, 2) := by decide +kernel
theorem dL_appeals_222 : decode cL_appeals 222 = .ok (.aload_n 0, 1) := by decide +kernel
theorem dL_appeals_223 : decode cL_appeals 223 = .ok (.iload 5, 2) := by decide +kernel
theorem dL_appeals_225 : decode cL_appeals 225 = .ok (.bipush 7, 2) := by decide +kernel
theorem dL_appeals_227 : decode cL_appeals 227 = .ok (.invokevirtual 26, 3) := by decide +kernel
theorem dL_appeals_230 : decode cL_appeals 230 = .ok (.ifCond .le 70, 3) := by decide +kernel
theorem dL_appeals_233 : decode cL_appeals 233 = .ok (.iload 7, 2) := by decide +kernel
theorem dL_appeals_235 : decode cL_appeals 235 = .ok (.iconst 1, 1) := by decide +kernel
theorem dL_appeals_236 : decode cL_appeals 236 = .ok (.if_icmp .ne 28, 3) := by decide +kernel
theorem dL_appeals_239 : decode cL_appeals 239 = .ok (.aload_n 0, 1) := by decide +kernel
theorem dL_appeals_240 : decode cL_appeals 240 = .ok (.iload 6, 2) := by decide +kernel
theorem dL_appeals_242 : decode cL_appeals 242 = .ok (.bipush 6, 2) := by decide +kernel
theorem dL_appeals_244 : decode cL_appeals 244 = .ok (.invokevirtual 19, 3) := by decide +kernel
theorem dL_appeals_247 : decode cL_appeals 247 = .ok (.ifCond .le 53, 3) := by decide +kernel
theorem dL_appeals_250 : decode cL_appeals 250 = .ok (.aload_n 0, 1) := by decide +kernel
theorem dL_appeals_251 : decode cL_appeals 251 = .ok (.iload 6, 2) := by decide +kernel
theorem dL_appeals_253 : decode cL_appeals 253 = .ok (.bipush 7, 2) := by decide +kernel
theorem dL_appeals_255 : decode cL_appeals 255 = .ok (.invokevirtual 19, 3) := by decide +kernel
theorem dL_appeals_258 : decode cL_appeals 258 = .ok (.ifCond .ne 42, 3) := by decide +kernel
theorem dL_appeals_261 : decode cL_appeals 261 = .ok (.goto 35, 3) := by decide +kernel
theorem dL_appeals_264 : decode cL_appeals 264 = .ok (.iload 7, 2) := by decide +kernel
theorem dL_appeals_266 : decode cL_appeals 266 = .ok (.iconst 2, 1) := by decide +kernel
theorem dL_appeals_267 : decode cL_appeals 267 = .ok (.if_icmp .ne 17, 3) := by decide +kernel
theorem dL_appeals_270 : decode cL_appeals 270 = .ok (.aload_n 0, 1) := by decide +kernel
theorem dL_appeals_271 : decode cL_appeals 271 = .ok (.iload 6, 2) := by decide +kernel
theorem dL_appeals_273 : decode cL_appeals 273 = .ok (.iconst 5, 1) := by decide +kernel
theorem dL_appeals_274 : decode cL_appeals 274 = .ok (.invokevirtual 19, 3) := by decide +kernel
theorem dL_appeals_277 : decode cL_appeals 277 = .ok (.iconst 4, 1) := by decide +kernel
theorem dL_appeals_278 : decode cL_appeals 278 = .ok (.if_icmp .le 22, 3) := by decide +kernel
theorem dL_appeals_281 : decode cL_appeals 281 = .ok (.goto 15, 3) := by decide +kernel
theorem dL_appeals_284 : decode cL_appeals 284 = .ok (.aload_n 0, 1) := by decide +kernel
theorem dL_appeals_285 : decode cL_appeals 285 = .ok (.iload 6, 2) := by decide +kernel
theorem dL_appeals_287 : decode cL_appeals 287 = .ok (.iconst 1, 1) := by decide +kernel
theorem dL_appeals_288 : decode cL_appeals 288 = .ok (.invokevirtual 19, 3) := by decide +kernel
theorem dL_appeals_291 : decode cL_appeals 291 = .ok (.bipush 11, 2) := by decide +kernel
theorem dL_appeals_293 : decode cL_appeals 293 = .ok (.if_icmp .ge 7, 3) := by decide +kernel
theorem dL_appeals_296 : decode cL_appeals 296 = .ok (.iconst 1, 1) := by decide +kernel
theorem dL_appeals_297 : decode cL_appeals 297 = .ok (.goto 4, 3) := by decide +kernel
theorem dL_appeals_300 : decode cL_appeals 300 = .ok (.iconst 0, 1) := by decide +kernel
theorem dL_appeals_301 : decode cL_appeals 301 = .ok (.istore 8, 2) := by decide +kernel
theorem dL_appeals_303 : decode cL_appeals 303 = .ok (.aload_n 0, 1) := by decide +kernel
theorem dL_appeals_304 : decode cL_appeals 304 = .ok (.invokevirtual 90, 3) := by decide +kernel
theorem dL_appeals_307 : decode cL_appeals 307 = .ok (.iconst 2, 1) := by decide +kernel
theorem dL_appeals_308 : decode cL_appeals 308 = .ok (.iload 5, 2) := by decide +kernel
theorem dL_appeals_310 : decode cL_appeals 310 = .ok (.imul, 1) := by decide +kernel
theorem dL_appeals_311 : decode cL_appeals 311 = .ok (.iload 8, 2) := by decide +kernel
theorem dL_appeals_313 : decode cL_appeals 313 = .ok (.ifCond .eq 7, 3) := by decide +kernel
theorem dL_appeals_316 : decode cL_appeals 316 = .ok (.iconst 1, 1) := by decide +kernel
theorem dL_appeals_317 : decode cL_appeals 317 = .ok (.goto 4, 3) := by decide +kernel
theorem dL_appeals_320 : decode cL_appeals 320 = .ok (.iconst 0, 1) := by decide +kernel
theorem dL_appeals_321 : decode cL_appeals 321 = .ok (.iadd, 1) := by decide +kernel
theorem dL_appeals_322 : decode cL_appeals 322 = .ok (.if_icmp .ne 27, 3) := by decide +kernel
theorem dL_appeals_325 : decode cL_appeals 325 = .ok (.aload_n 0, 1) := by decide +kernel
theorem dL_appeals_326 : decode cL_appeals 326 = .ok (.iload 5, 2) := by decide +kernel
theorem dL_appeals_328 : decode cL_appeals 328 = .ok (.iconst 5, 1) := by decide +kernel
theorem dL_appeals_329 : decode cL_appeals 329 = .ok (.invokevirtual 26, 3) := by decide +kernel
theorem dL_appeals_332 : decode cL_appeals 332 = .ok (.iload 8, 2) := by decide +kernel
theorem dL_appeals_334 : decode cL_appeals 334 = .ok (.ifCond .eq 7, 3) := by decide +kernel
theorem dL_appeals_337 : decode cL_appeals 337 = .ok (.iconst 2, 1) := by decide +kernel
theorem dL_appeals_338 : decode cL_appeals 338 = .ok (.goto 4, 3) := by decide +kernel
theorem dL_appeals_341 : decode cL_appeals 341 = .ok (.iconst 3, 1) := by decide +kernel
theorem dL_appeals_342 : decode cL_appeals 342 = .ok (.if_icmp .ne 7, 3) := by decide +kernel
theorem dL_appeals_345 : decode cL_appeals 345 = .ok (.iconst 1, 1) := by decide +kernel
theorem dL_appeals_346 : decode cL_appeals 346 = .ok (.goto 4, 3) := by decide +kernel
theorem dL_appeals_349 : decode cL_appeals 349 = .ok (.iconst 0, 1) := by decide +kernel
theorem dL_appeals_350 : decode cL_appeals 350 = .ok (.ireturn, 1) := by decide +kernel
def f_L_appeals_b342    (σ : Sg) (w0 : Int32) (w1 : Int32) : Option (Int32 × Sg) := if w1 = w0 then (some ((1 : Int32), σ)) else none
def f_L_appeals_b321    (σ : Sg) (v5 : Int32) (v8 : Int32) (w0 : Int32) (w1 : Int32) (w2 : Int32) : Option (Int32 × Sg) := if w2 = (w1 + w0) then ((f_X4_paper σ v5 (5 : Int32)).bind fun r13 => if v8 = 0 then (f_L_appeals_b342 σ (3 : Int32) r13) else (f_L_appeals_b342 σ (2 : Int32) r13)) else none
def f_L_appeals_b301    (σ : Sg) (v5 : Int32) (w0 : Int32) : Option (Int32 × Sg) := (f_X4_decide σ).bind fun q16 => lts q16.2 fun σ10 => lt q16.1 fun r9 => if w0 = 0 then (f_L_appeals_b321 σ10 v5 w0 (0 : Int32) ((2 : Int32) * v5) r9) else (f_L_appeals_b321 σ10 v5 w0 (1 : Int32) ((2 : Int32) * v5) r9)
def f_L_appeals_b300    (σ : Sg) (v5 : Int32) : Option (Int32 × Sg) := f_L_appeals_b301 σ v5 (0 : Int32)
def f_L_appeals_b296    (σ : Sg) (v5 : Int32) : Option (Int32 × Sg) := f_L_appeals_b301 σ v5 (1 : Int32)
def f_L_appeals (σ : Sg)  (p1 p2 p3 : Int32) : Option (Int32 × Sg) := (f_X4_count σ (2 : Int32)).bind fun r1 => if (13 : Int32) ≤ p1 then ((f_X4_waiting σ (0 : Int32)).bind fun r3 => if 0 ≤ r3 then ((f_X4_paper σ r3 (1 : Int32)).bind fun r5 => (f_X4_paper σ r3 (6 : Int32)).bind fun r6 => (f_X4_paper σ r3 (7 : Int32)).bind fun r7 => if r7 ≤ 0 then (f_L_appeals_b300 σ r3) else (if r6 = (1 : Int32) then ((f_X4_instrument σ r5 (6 : Int32)).bind fun r23 => if r23 ≤ 0 then (f_L_appeals_b300 σ r3) else ((f_X4_instrument σ r5 (7 : Int32)).bind fun r25 => if r25 = 0 then (f_L_appeals_b296 σ r3) else (f_L_appeals_b300 σ r3))) else (if r6 = (2 : Int32) then ((f_X4_instrument σ r5 (5 : Int32)).bind fun r21 => if r21 ≤ (4 : Int32) then (f_L_appeals_b300 σ r3) else (f_L_appeals_b296 σ r3)) else ((f_X4_instrument σ r5 (1 : Int32)).bind fun r19 => if (11 : Int32) ≤ r19 then (f_L_appeals_b300 σ r3) else (f_L_appeals_b296 σ r3))))) else ((f_X4_decide σ).bind fun q30 => lts q30.2 fun σ28 => lt q30.1 fun r27 => if r27 = (-10000005 : Int32) then (some ((1 : Int32), σ28)) else none)) else (if r1 = 0 then ((f_X4_appeal σ (0 : Int32) (1 : Int32)).bind fun q57 => lts q57.2 fun σ55 => lt q57.1 fun r54 => if r54 = (-10000001 : Int32) then (some ((1 : Int32), σ55)) else none) else ((f_L_low σ p2 r1).bind fun r32 => (f_X4_paper σ r32 (5 : Int32)).bind fun r33 => (f_X4_count σ (3 : Int32)).bind fun r34 => (f_L_low σ p3 (3 : Int32)).bind fun r35 => (f_X4_appeal σ r32 ((1 : Int32) + r35)).bind fun q53 => lts q53.2 fun σ37 => lt q53.1 fun r36 => if r33 ≤ 0 then (if r34 = (20 : Int32) then (if r36 = (-10000003 : Int32) then (some ((1 : Int32), σ37)) else none) else ((f_X4_paper σ37 r32 (5 : Int32)).bind fun r40 => if r40 = (1 : Int32) then ((f_X4_paper σ37 r32 (7 : Int32)).bind fun r42 => if r42 = r36 then ((f_X4_paper σ37 r32 (6 : Int32)).bind fun r44 => (f_L_low σ37 p3 (3 : Int32)).bind fun r45 => if r44 = ((1 : Int32) + r45) then ((f_X4_appeal σ37 r32 (4 : Int32)).bind fun q50 => lts q50.2 fun σ48 => lt q50.1 fun r47 => if r47 = (-10000002 : Int32) then (some ((1 : Int32), σ48)) else none) else none) else none) else none)) else (if r36 = (-10000004 : Int32) then (some ((1 : Int32), σ37)) else none)))
set_option maxHeartbeats 4000000 in
set_option maxRecDepth 100000 in
theorem L_L_appeals_b342 {Γ : Cx} (G : va_G) (cls : Cls) (ad : Nat → Nat) (hi : inj 49 ad) (hC : CX Γ (YX G cls ad) cL_appeals RL 9 (some .boolean) 7 176) (hz0 : Γ.2.2.2.2.2.1 = 0) (hz1 : Γ.2.2.2.2.2.2 = 0)     (σ : Sg) (w0 : Int32) (w1 : Int32) : WX Γ (YX G cls ad) (qf Γ (YX G cls ad) fiS) 9 342 [] [.int w0, .int w1] σ (f_L_appeals_b342   σ w0 w1) := by
  unfold f_L_appeals_b342
  refine X_icmp_ne hC 349 dL_appeals_342 (by decide) (fun h15 => ?_) (fun h15 => ?_)
  · refine X_iconst (v := 0) hC (by decide) dL_appeals_349 ?_
    exact X_none
  · refine X_iconst (v := 1) hC (by decide) dL_appeals_345 ?_
    refine X_goto hC 350 dL_appeals_346 (by decide) ?_
    exact X_zret hC hz0 hz1 rfl dL_appeals_350 rfl
set_option maxHeartbeats 4000000 in
set_option maxRecDepth 100000 in
theorem L_L_appeals_b321 {Γ : Cx} (G : va_G) (cls : Cls) (ad : Nat → Nat) (hi : inj 49 ad) (hC : CX Γ (YX G cls ad) cL_appeals RL 9 (some .boolean) 7 176) (hz0 : Γ.2.2.2.2.2.1 = 0) (hz1 : Γ.2.2.2.2.2.2 = 0)     (σ : Sg) (v5 : Int32) (v8 : Int32) (w0 : Int32) (w1 : Int32) (w2 : Int32) : WX Γ (YX G cls ad) (qf Γ (YX G cls ad) fiS) 9 321 [(0, .ref (ad 25)), (5, .int v5), (8, .int v8)] [.int w0, .int w1, .int w2] σ (f_L_appeals_b321   σ v5 v8 w0 w1 w2) := by
  unfold f_L_appeals_b321
  refine X_iadd hC dL_appeals_321 ?_
  refine X_icmp_ne hC 349 dL_appeals_322 (by decide) (fun h12 => ?_) (fun h12 => ?_)
  · refine X_iconst (v := 0) hC (by decide) dL_appeals_349 ?_
    exact X_none
  · refine X_aload_n hC 0 rfl dL_appeals_325 ?_
    refine X_iload hC 1 rfl dL_appeals_326 ?_
    refine X_iconst (v := 5) hC (by decide) dL_appeals_328 ?_
    refine X_callP (C := RX4) (T := TX4) (N := 5) (ci := 4) (rest := []) hC (c_X4_paper _ G cls ad hi σ v5 (5 : Int32)) (gV tw_380 tw_381 tw_382 tw_1 tw_383) rfl (wX (k := 25) (by omega) cX_vs) rfl rfl okm_X4_paper (by decide) dL_appeals_329 rfl (Nat.le_of_ble_eq_true rfl) (fun r13 => ?_)
    refine X_iload hC 2 rfl dL_appeals_332 ?_
    refine X_if_eq hC 341 dL_appeals_334 (by decide) (fun h14 => ?_) (fun h14 => ?_)
    · refine X_iconst (v := 3) hC (by decide) dL_appeals_341 ?_
      exact X_sub [] rfl (L_L_appeals_b342 G cls ad hi hC hz0 hz1 σ (3 : Int32) r13)
    · refine X_iconst (v := 2) hC (by decide) dL_appeals_337 ?_
      refine X_goto hC 342 dL_appeals_338 (by decide) ?_
      exact X_sub [] rfl (L_L_appeals_b342 G cls ad hi hC hz0 hz1 σ (2 : Int32) r13)
set_option maxHeartbeats 4000000 in
set_option maxRecDepth 100000 in
theorem L_L_appeals_b301 {Γ : Cx} (G : va_G) (cls : Cls) (ad : Nat → Nat) (hi : inj 49 ad) (hC : CX Γ (YX G cls ad) cL_appeals RL 9 (some .boolean) 7 176) (hz0 : Γ.2.2.2.2.2.1 = 0) (hz1 : Γ.2.2.2.2.2.2 = 0)     (σ : Sg) (v5 : Int32) (w0 : Int32) : WX Γ (YX G cls ad) (qf Γ (YX G cls ad) fiS) 9 301 [(0, .ref (ad 25)), (5, .int v5)] [.int w0] σ (f_L_appeals_b301   σ v5 w0) := by
  unfold f_L_appeals_b301
  refine X_istore (ls' := [(8, .int w0), (0, .ref (ad 25)), (5, .int v5)]) hC dL_appeals_301 (by decide) rfl ?_
  refine X_aload_n hC 1 rfl dL_appeals_303 ?_
  refine X_callS (C := RX4) (T := TX4) (N := 5) (ci := 4) (rest := []) hC (c_X4_decide _ G cls ad hi σ) (gV tw_116 tw_117 tw_118 tw_1 tw_119) rfl (wX (k := 25) (by omega) cX_vs) rfl rfl okm_X4_decide (by decide) dL_appeals_304 rfl (Nat.le_of_ble_eq_true rfl) (fun q16 => X_lts fun σ10 => X_lt fun r9 => ?_)
  refine X_iconst (v := 2) hC (by decide) dL_appeals_307 ?_
  refine X_iload hC 2 rfl dL_appeals_308 ?_
  refine X_imul hC dL_appeals_310 ?_
  refine X_iload hC 0 rfl dL_appeals_311 ?_
  refine X_if_eq hC 320 dL_appeals_313 (by decide) (fun h11 => ?_) (fun h11 => ?_)
  · refine X_iconst (v := 0) hC (by decide) dL_appeals_320 ?_
    exact X_sub [1, 2, 0] rfl (L_L_appeals_b321 G cls ad hi hC hz0 hz1 σ10 v5 w0 (0 : Int32) ((2 : Int32) * v5) r9)
  · refine X_iconst (v := 1) hC (by decide) dL_appeals_316 ?_
    refine X_goto hC 321 dL_appeals_317 (by decide) ?_
    exact X_sub [1, 2, 0] rfl (L_L_appeals_b321 G cls ad hi hC hz0 hz1 σ10 v5 w0 (1 : Int32) ((2 : Int32) * v5) r9)
set_option maxHeartbeats 4000000 in
set_option maxRecDepth 100000 in
theorem L_L_appeals_b300 {Γ : Cx} (G : va_G) (cls : Cls) (ad : Nat → Nat) (hi : inj 49 ad) (hC : CX Γ (YX G cls ad) cL_appeals RL 9 (some .boolean) 7 176) (hz0 : Γ.2.2.2.2.2.1 = 0) (hz1 : Γ.2.2.2.2.2.2 = 0)     (σ : Sg) (v5 : Int32) : WX Γ (YX G cls ad) (qf Γ (YX G cls ad) fiS) 9 300 [(0, .ref (ad 25)), (5, .int v5)] [] σ (f_L_appeals_b300   σ v5) := by
  unfold f_L_appeals_b300
  refine X_iconst (v := 0) hC (by decide) dL_appeals_300 ?_
  exact (L_L_appeals_b301 G cls ad hi hC hz0 hz1 σ v5 (0 : Int32))
set_option maxHeartbeats 4000000 in
set_option maxRecDepth 100000 in
theorem L_L_appeals_b296 {Γ : Cx} (G : va_G) (cls : Cls) (ad : Nat → Nat) (hi : inj 49 ad) (hC : CX Γ (YX G cls ad) cL_appeals RL 9 (some .boolean) 7 176) (hz0 : Γ.2.2.2.2.2.1 = 0) (hz1 : Γ.2.2.2.2.2.2 = 0)     (σ : Sg) (v5 : Int32) : WX Γ (YX G cls ad) (qf Γ (YX G cls ad) fiS) 9 296 [(0, .ref (ad 25)), (5, .int v5)] [] σ (f_L_appeals_b296   σ v5) := by
  unfold f_L_appeals_b296
  refine X_iconst (v := 1) hC (by decide) dL_appeals_296 ?_
  refine X_goto hC 301 dL_appeals_297 (by decide) ?_
  exact (L_L_appeals_b301 G cls ad hi hC hz0 hz1 σ v5 (1 : Int32))
theorem okm_L_appeals : okm yL_appeals 4 = true := by decide +kernel
set_option maxHeartbeats 4000000 in
set_option maxRecDepth 100000 in
theorem c_L_appeals (l : Launch) (G : va_G) (cls : Cls) (ad : Nat → Nat) (hi : inj 49 ad) (σ : Sg)   (p1 p2 p3 : Int32) : MT l (YX G cls ad) yL_appeals (.code yL_appeals cL_appeals 9 (some .boolean) :: gw) 7 176 [.ref (ad 25), .int p1, .int p2, .int p3] fiS σ (f_L_appeals σ  p1 p2 p3) := by
  refine MT.of (own := RL) (by decide) (YX_D hi) rfl (Nat.le_of_ble_eq_true rfl) fun Γ _ hz0 hz1 hC => ?_
  show WX Γ (YX G cls ad) (qf Γ (YX G cls ad) fiS) 9 0 [(0, .ref (ad 25)), (1, .int p1), (2, .int p2), (3, .int p3)] [] σ (f_L_appeals σ  p1 p2 p3)
  unfold f_L_appeals
  refine X_aload_n hC 0 rfl dL_appeals_0 ?_
  refine X_iconst (v := 2) hC (by decide) dL_appeals_1 ?_
  refine X_callP (C := RX4) (T := TX4) (N := 5) (ci := 4) (rest := []) hC (c_X4_count _ G cls ad hi σ (2 : Int32)) (gV tw_338 tw_339 tw_340 tw_1 tw_341) rfl (wX (k := 25) (by omega) cX_vs) rfl rfl okm_X4_count (by decide) dL_appeals_2 rfl (Nat.le_of_ble_eq_true rfl) (fun r1 => ?_)
  refine X_istore (ls' := [(4, .int r1), (0, .ref (ad 25)), (1, .int p1), (2, .int p2), (3, .int p3)]) hC dL_appeals_5 (by decide) rfl ?_
  refine X_iload_n hC 2 rfl dL_appeals_7 ?_
  refine X_bipush (v := 13) hC (by decide) dL_appeals_8 ?_
  refine X_icmp_ge hC 176 dL_appeals_10 (by decide) (fun h2 => ?_) (fun h2 => ?_)
  · refine X_aload_n hC 1 rfl dL_appeals_176 ?_
    refine X_iconst (v := 0) hC (by decide) dL_appeals_177 ?_
    refine X_callP (C := RX4) (T := TX4) (N := 5) (ci := 4) (rest := []) hC (c_X4_waiting _ G cls ad hi σ (0 : Int32)) (gV tw_392 tw_393 tw_394 tw_1 tw_395) rfl (wX (k := 25) (by omega) cX_vs) rfl rfl okm_X4_waiting (by decide) dL_appeals_178 rfl (Nat.le_of_ble_eq_true rfl) (fun r3 => ?_)
    refine X_istore (ls' := [(5, .int r3), (4, .int r1), (0, .ref (ad 25)), (1, .int p1), (2, .int p2), (3, .int p3)]) hC dL_appeals_181 (by decide) rfl ?_
    refine X_iload hC 0 rfl dL_appeals_183 ?_
    refine X_if_ge hC 203 dL_appeals_185 (by decide) (fun h4 => ?_) (fun h4 => ?_)
    · refine X_aload_n hC 2 rfl dL_appeals_203 ?_
      refine X_iload hC 0 rfl dL_appeals_204 ?_
      refine X_iconst (v := 1) hC (by decide) dL_appeals_206 ?_
      refine X_callP (C := RX4) (T := TX4) (N := 5) (ci := 4) (rest := []) hC (c_X4_paper _ G cls ad hi σ r3 (1 : Int32)) (gV tw_380 tw_381 tw_382 tw_1 tw_383) rfl (wX (k := 25) (by omega) cX_vs) rfl rfl okm_X4_paper (by decide) dL_appeals_207 rfl (Nat.le_of_ble_eq_true rfl) (fun r5 => ?_)
      refine X_istore (ls' := [(6, .int r5), (5, .int r3), (4, .int r1), (0, .ref (ad 25)), (1, .int p1), (2, .int p2), (3, .int p3)]) hC dL_appeals_210 (by decide) rfl ?_
      refine X_aload_n hC 3 rfl dL_appeals_212 ?_
      refine X_iload hC 1 rfl dL_appeals_213 ?_
      refine X_bipush (v := 6) hC (by decide) dL_appeals_215 ?_
      refine X_callP (C := RX4) (T := TX4) (N := 5) (ci := 4) (rest := []) hC (c_X4_paper _ G cls ad hi σ r3 (6 : Int32)) (gV tw_380 tw_381 tw_382 tw_1 tw_383) rfl (wX (k := 25) (by omega) cX_vs) rfl rfl okm_X4_paper (by decide) dL_appeals_217 rfl (Nat.le_of_ble_eq_true rfl) (fun r6 => ?_)
      refine X_istore (ls' := [(7, .int r6), (6, .int r5), (5, .int r3), (4, .int r1), (0, .ref (ad 25)), (1, .int p1), (2, .int p2), (3, .int p3)]) hC dL_appeals_220 (by decide) rfl ?_
      refine X_aload_n hC 4 rfl dL_appeals_222 ?_
      refine X_iload hC 2 rfl dL_appeals_223 ?_
      refine X_bipush (v := 7) hC (by decide) dL_appeals_225 ?_
      refine X_callP (C := RX4) (T := TX4) (N := 5) (ci := 4) (rest := []) hC (c_X4_paper _ G cls ad hi σ r3 (7 : Int32)) (gV tw_380 tw_381 tw_382 tw_1 tw_383) rfl (wX (k := 25) (by omega) cX_vs) rfl rfl okm_X4_paper (by decide) dL_appeals_227 rfl (Nat.le_of_ble_eq_true rfl) (fun r7 => ?_)
      refine X_if_le hC 300 dL_appeals_230 (by decide) (fun h8 => ?_) (fun h8 => ?_)
      · exact X_sub [4, 2] rfl (L_L_appeals_b300 G cls ad hi hC hz0 hz1 σ r3)
      · refine X_iload hC 0 rfl dL_appeals_233 ?_
        refine X_iconst (v := 1) hC (by decide) dL_appeals_235 ?_
        refine X_icmp_ne hC 264 dL_appeals_236 (by decide) (fun h17 => ?_) (fun h17 => ?_)
        · refine X_iload hC 0 rfl dL_appeals_264 ?_
          refine X_iconst (v := 2) hC (by decide) dL_appeals_266 ?_
          refine X_icmp_ne hC 284 dL_appeals_267 (by decide) (fun h18 => ?_) (fun h18 => ?_)
          · refine X_aload_n hC 4 rfl dL_appeals_284 ?_
            refine X_iload hC 1 rfl dL_appeals_285 ?_
            refine X_iconst (v := 1) hC (by decide) dL_appeals_287 ?_
            refine X_callP (C := RX4) (T := TX4) (N := 5) (ci := 4) (rest := []) hC (c_X4_instrument _ G cls ad hi σ r5 (1 : Int32)) (gV tw_367 tw_368 tw_369 tw_1 tw_370) rfl (wX (k := 25) (by omega) cX_vs) rfl rfl okm_X4_instrument (by decide) dL_appeals_288 rfl (Nat.le_of_ble_eq_true rfl) (fun r19 => ?_)
            refine X_bipush (v := 11) hC (by decide) dL_appeals_291 ?_
            refine X_icmp_ge hC 300 dL_appeals_293 (by decide) (fun h20 => ?_) (fun h20 => ?_)
            · exact X_sub [4, 2] rfl (L_L_appeals_b300 G cls ad hi hC hz0 hz1 σ r3)
            · exact X_sub [4, 2] rfl (L_L_appeals_b296 G cls ad hi hC hz0 hz1 σ r3)
          · refine X_aload_n hC 4 rfl dL_appeals_270 ?_
            refine X_iload hC 1 rfl dL_appeals_271 ?_
            refine X_iconst (v := 5) hC (by decide) dL_appeals_273 ?_
            refine X_callP (C := RX4) (T := TX4) (N := 5) (ci := 4) (rest := []) hC (c_X4_instrument _ G cls ad hi σ r5 (5 : Int32)) (gV tw_367 tw_368 tw_369 tw_1 tw_370) rfl (wX (k := 25) (by omega) cX_vs) rfl rfl okm_X4_instrument (by decide) dL_appeals_274 rfl (Nat.le_of_ble_eq_true rfl) (fun r21 => ?_)
            refine X_iconst (v := 4) hC (by decide) dL_appeals_277 ?_
            refine X_icmp_le hC 300 dL_appeals_278 (by decide) (fun h22 => ?_) (fun h22 => ?_)
            · exact X_sub [4, 2] rfl (L_L_appeals_b300 G cls ad hi hC hz0 hz1 σ r3)
            · refine X_goto hC 296 dL_appeals_281 (by decide) ?_
              exact X_sub [4, 2] rfl (L_L_appeals_b296 G cls ad hi hC hz0 hz1 σ r3)
        · refine X_aload_n hC 4 rfl dL_appeals_239 ?_
          refine X_iload hC 1 rfl dL_appeals_240 ?_
          refine X_bipush (v := 6) hC (by decide) dL_appeals_242 ?_
          refine X_callP (C := RX4) (T := TX4) (N := 5) (ci := 4) (rest := []) hC (c_X4_instrument _ G cls ad hi σ r5 (6 : Int32)) (gV tw_367 tw_368 tw_369 tw_1 tw_370) rfl (wX (k := 25) (by omega) cX_vs) rfl rfl okm_X4_instrument (by decide) dL_appeals_244 rfl (Nat.le_of_ble_eq_true rfl) (fun r23 => ?_)
          refine X_if_le hC 300 dL_appeals_247 (by decide) (fun h24 => ?_) (fun h24 => ?_)
          · exact X_sub [4, 2] rfl (L_L_appeals_b300 G cls ad hi hC hz0 hz1 σ r3)
          · refine X_aload_n hC 4 rfl dL_appeals_250 ?_
            refine X_iload hC 1 rfl dL_appeals_251 ?_
            refine X_bipush (v := 7) hC (by decide) dL_appeals_253 ?_
            refine X_callP (C := RX4) (T := TX4) (N := 5) (ci := 4) (rest := []) hC (c_X4_instrument _ G cls ad hi σ r5 (7 : Int32)) (gV tw_367 tw_368 tw_369 tw_1 tw_370) rfl (wX (k := 25) (by omega) cX_vs) rfl rfl okm_X4_instrument (by decide) dL_appeals_255 rfl (Nat.le_of_ble_eq_true rfl) (fun r25 => ?_)
            refine X_if_ne hC 300 dL_appeals_258 (by decide) (fun h26 => ?_) (fun h26 => ?_)
            · exact X_sub [4, 2] rfl (L_L_appeals_b300 G cls ad hi hC hz0 hz1 σ r3)
            · refine X_goto hC 296 dL_appeals_261 (by decide) ?_
              exact X_sub [4, 2] rfl (L_L_appeals_b296 G cls ad hi hC hz0 hz1 σ r3)
    · refine X_aload_n hC 2 rfl dL_appeals_188 ?_
      refine X_callS (C := RX4) (T := TX4) (N := 5) (ci := 4) (rest := []) hC (c_X4_decide _ G cls ad hi σ) (gV tw_116 tw_117 tw_118 tw_1 tw_119) rfl (wX (k := 25) (by omega) cX_vs) rfl rfl okm_X4_decide (by decide) dL_appeals_189 rfl (Nat.le_of_ble_eq_true rfl) (fun q30 => X_lts fun σ28 => X_lt fun r27 => ?_)
      refine X_ldc (v := -10000005) hC tw_387 dL_appeals_192 ?_
      refine X_icmp_ne hC 201 dL_appeals_194 (by decide) (fun h29 => ?_) (fun h29 => ?_)
      · refine X_iconst (v := 0) hC (by decide) dL_appeals_201 ?_
        exact X_none
      · refine X_iconst (v := 1) hC (by decide) dL_appeals_197 ?_
        refine X_goto hC 202 dL_appeals_198 (by decide) ?_
        exact X_zret hC hz0 hz1 rfl dL_appeals_202 rfl
  · refine X_iload hC 0 rfl dL_appeals_13 ?_
    refine X_if_ne hC 35 dL_appeals_15 (by decide) (fun h31 => ?_) (fun h31 => ?_)
    · refine X_iload_n hC 3 rfl dL_appeals_35 ?_
      refine X_iload hC 0 rfl dL_appeals_36 ?_
      refine X_statP (rest := []) hC (c_L_low _ G cls ad hi σ p2 r1) (gSt tw_358 tw_359 tw_0 tw_360) rfl okm_L_low (by decide) dL_appeals_38 rfl (Nat.le_of_ble_eq_true rfl) (fun r32 => ?_)
      refine X_istore (ls' := [(5, .int r32), (4, .int r1), (0, .ref (ad 25)), (1, .int p1), (2, .int p2), (3, .int p3)]) hC dL_appeals_41 (by decide) rfl ?_
      refine X_aload_n hC 2 rfl dL_appeals_43 ?_
      refine X_iload hC 0 rfl dL_appeals_44 ?_
      refine X_iconst (v := 5) hC (by decide) dL_appeals_46 ?_
      refine X_callP (C := RX4) (T := TX4) (N := 5) (ci := 4) (rest := []) hC (c_X4_paper _ G cls ad hi σ r32 (5 : Int32)) (gV tw_380 tw_381 tw_382 tw_1 tw_383) rfl (wX (k := 25) (by omega) cX_vs) rfl rfl okm_X4_paper (by decide) dL_appeals_47 rfl (Nat.le_of_ble_eq_true rfl) (fun r33 => ?_)
      refine X_istore (ls' := [(6, .int r33), (5, .int r32), (4, .int r1), (0, .ref (ad 25)), (1, .int p1), (2, .int p2), (3, .int p3)]) hC dL_appeals_50 (by decide) rfl ?_
      refine X_aload_n hC 3 rfl dL_appeals_52 ?_
      refine X_iconst (v := 3) hC (by decide) dL_appeals_53 ?_
      refine X_callP (C := RX4) (T := TX4) (N := 5) (ci := 4) (rest := []) hC (c_X4_count _ G cls ad hi σ (3 : Int32)) (gV tw_338 tw_339 tw_340 tw_1 tw_341) rfl (wX (k := 25) (by omega) cX_vs) rfl rfl okm_X4_count (by decide) dL_appeals_54 rfl (Nat.le_of_ble_eq_true rfl) (fun r34 => ?_)
      refine X_istore (ls' := [(7, .int r34), (6, .int r33), (5, .int r32), (4, .int r1), (0, .ref (ad 25)), (1, .int p1), (2, .int p2), (3, .int p3)]) hC dL_appeals_57 (by decide) rfl ?_
      refine X_aload_n hC 4 rfl dL_appeals_59 ?_
      refine X_iload hC 2 rfl dL_appeals_60 ?_
      refine X_iconst (v := 1) hC (by decide) dL_appeals_62 ?_
      refine X_iload_n hC 7 rfl dL_appeals_63 ?_
      refine X_iconst (v := 3) hC (by decide) dL_appeals_64 ?_
      refine X_statP (rest := [.int (1 : Int32), .int r32, .ref (ad 25)]) hC (c_L_low _ G cls ad hi σ p3 (3 : Int32)) (gSt tw_358 tw_359 tw_0 tw_360) rfl okm_L_low (by decide) dL_appeals_65 rfl (Nat.le_of_ble_eq_true rfl) (fun r35 => ?_)
      refine X_iadd hC dL_appeals_68 ?_
      refine X_callS (C := RX4) (T := TX4) (N := 5) (ci := 4) (rest := []) hC (c_X4_appeal _ G cls ad hi σ r32 ((1 : Int32) + r35)) (gV tw_497 tw_498 tw_499 tw_1 tw_500) rfl (wX (k := 25) (by omega) cX_vs) rfl rfl okm_X4_appeal (by decide) dL_appeals_69 rfl (Nat.le_of_ble_eq_true rfl) (fun q53 => X_lts fun σ37 => X_lt fun r36 => ?_)
      refine X_istore (ls' := [(8, .int r36), (7, .int r34), (6, .int r33), (5, .int r32), (4, .int r1), (0, .ref (ad 25)), (1, .int p1), (2, .int p2), (3, .int p3)]) hC dL_appeals_72 (by decide) rfl ?_
      refine X_iload hC 2 rfl dL_appeals_74 ?_
      refine X_if_le hC 94 dL_appeals_76 (by decide) (fun h38 => ?_) (fun h38 => ?_)
      · refine X_iload hC 1 rfl dL_appeals_94 ?_
        refine X_bipush (v := 20) hC (by decide) dL_appeals_96 ?_
        refine X_icmp_ne hC 116 dL_appeals_98 (by decide) (fun h39 => ?_) (fun h39 => ?_)
        · refine X_aload_n hC 5 rfl dL_appeals_116 ?_
          refine X_iload hC 3 rfl dL_appeals_117 ?_
          refine X_iconst (v := 5) hC (by decide) dL_appeals_119 ?_
          refine X_callP (C := RX4) (T := TX4) (N := 5) (ci := 4) (rest := []) hC (c_X4_paper _ G cls ad hi σ37 r32 (5 : Int32)) (gV tw_380 tw_381 tw_382 tw_1 tw_383) rfl (wX (k := 25) (by omega) cX_vs) rfl rfl okm_X4_paper (by decide) dL_appeals_120 rfl (Nat.le_of_ble_eq_true rfl) (fun r40 => ?_)
          refine X_iconst (v := 1) hC (by decide) dL_appeals_123 ?_
          refine X_icmp_ne hC 174 dL_appeals_124 (by decide) (fun h41 => ?_) (fun h41 => ?_)
          · refine X_iconst (v := 0) hC (by decide) dL_appeals_174 ?_
            exact X_none
          · refine X_aload_n hC 5 rfl dL_appeals_127 ?_
            refine X_iload hC 3 rfl dL_appeals_128 ?_
            refine X_bipush (v := 7) hC (by decide) dL_appeals_130 ?_
            refine X_callP (C := RX4) (T := TX4) (N := 5) (ci := 4) (rest := []) hC (c_X4_paper _ G cls ad hi σ37 r32 (7 : Int32)) (gV tw_380 tw_381 tw_382 tw_1 tw_383) rfl (wX (k := 25) (by omega) cX_vs) rfl rfl okm_X4_paper (by decide) dL_appeals_132 rfl (Nat.le_of_ble_eq_true rfl) (fun r42 => ?_)
            refine X_iload hC 0 rfl dL_appeals_135 ?_
            refine X_icmp_ne hC 174 dL_appeals_137 (by decide) (fun h43 => ?_) (fun h43 => ?_)
            · refine X_iconst (v := 0) hC (by decide) dL_appeals_174 ?_
              exact X_none
            · refine X_aload_n hC 5 rfl dL_appeals_140 ?_
              refine X_iload hC 3 rfl dL_appeals_141 ?_
              refine X_bipush (v := 6) hC (by decide) dL_appeals_143 ?_
              refine X_callP (C := RX4) (T := TX4) (N := 5) (ci := 4) (rest := []) hC (c_X4_paper _ G cls ad hi σ37 r32 (6 : Int32)) (gV tw_380 tw_381 tw_382 tw_1 tw_383) rfl (wX (k := 25) (by omega) cX_vs) rfl rfl okm_X4_paper (by decide) dL_appeals_145 rfl (Nat.le_of_ble_eq_true rfl) (fun r44 => ?_)
              refine X_iconst (v := 1) hC (by decide) dL_appeals_148 ?_
              refine X_iload_n hC 8 rfl dL_appeals_149 ?_
              refine X_iconst (v := 3) hC (by decide) dL_appeals_150 ?_
              refine X_statP (rest := [.int (1 : Int32), .int r44]) hC (c_L_low _ G cls ad hi σ37 p3 (3 : Int32)) (gSt tw_358 tw_359 tw_0 tw_360) rfl okm_L_low (by decide) dL_appeals_151 rfl (Nat.le_of_ble_eq_true rfl) (fun r45 => ?_)
              refine X_iadd hC dL_appeals_154 ?_
              refine X_icmp_ne hC 174 dL_appeals_155 (by decide) (fun h46 => ?_) (fun h46 => ?_)
              · refine X_iconst (v := 0) hC (by decide) dL_appeals_174 ?_
                exact X_none
              · refine X_aload_n hC 5 rfl dL_appeals_158 ?_
                refine X_iload hC 3 rfl dL_appeals_159 ?_
                refine X_iconst (v := 4) hC (by decide) dL_appeals_161 ?_
                refine X_callS (C := RX4) (T := TX4) (N := 5) (ci := 4) (rest := []) hC (c_X4_appeal _ G cls ad hi σ37 r32 (4 : Int32)) (gV tw_497 tw_498 tw_499 tw_1 tw_500) rfl (wX (k := 25) (by omega) cX_vs) rfl rfl okm_X4_appeal (by decide) dL_appeals_162 rfl (Nat.le_of_ble_eq_true rfl) (fun q50 => X_lts fun σ48 => X_lt fun r47 => ?_)
                refine X_ldc (v := -10000002) hC tw_388 dL_appeals_165 ?_
                refine X_icmp_ne hC 174 dL_appeals_167 (by decide) (fun h49 => ?_) (fun h49 => ?_)
                · refine X_iconst (v := 0) hC (by decide) dL_appeals_174 ?_
                  exact X_none
                · refine X_iconst (v := 1) hC (by decide) dL_appeals_170 ?_
                  refine X_goto hC 175 dL_appeals_171 (by decide) ?_
                  exact X_zret hC hz0 hz1 rfl dL_appeals_175 rfl
        · refine X_iload hC 0 rfl dL_appeals_101 ?_
          refine X_ldc (v := -10000003) hC tw_443 dL_appeals_103 ?_
          refine X_icmp_ne hC 112 dL_appeals_105 (by decide) (fun h51 => ?_) (fun h51 => ?_)
          · refine X_iconst (v := 0) hC (by decide) dL_appeals_112 ?_
            refine X_goto hC 175 dL_appeals_113 (by decide) ?_
            exact X_none
          · refine X_iconst (v := 1) hC (by decide) dL_appeals_108 ?_
            refine X_goto hC 175 dL_appeals_109 (by decide) ?_
            exact X_zret hC hz0 hz1 rfl dL_appeals_175 rfl
      · refine X_iload hC 0 rfl dL_appeals_79 ?_
        refine X_ldc (v := -10000004) hC tw_462 dL_appeals_81 ?_
        refine X_icmp_ne hC 90 dL_appeals_83 (by decide) (fun h52 => ?_) (fun h52 => ?_)
        · refine X_iconst (v := 0) hC (by decide) dL_appeals_90 ?_
          refine X_goto hC 175 dL_appeals_91 (by decide) ?_
          exact X_none
        · refine X_iconst (v := 1) hC (by decide) dL_appeals_86 ?_
          refine X_goto hC 175 dL_appeals_87 (by decide) ?_
          exact X_zret hC hz0 hz1 rfl dL_appeals_175 rfl
    · refine X_aload_n hC 1 rfl dL_appeals_18 ?_
      refine X_iconst (v := 0) hC (by decide) dL_appeals_19 ?_
      refine X_iconst (v := 1) hC (by decide) dL_appeals_20 ?_
      refine X_callS (C := RX4) (T := TX4) (N := 5) (ci := 4) (rest := []) hC (c_X4_appeal _ G cls ad hi σ (0 : Int32) (1 : Int32)) (gV tw_497 tw_498 tw_499 tw_1 tw_500) rfl (wX (k := 25) (by omega) cX_vs) rfl rfl okm_X4_appeal (by decide) dL_appeals_21 rfl (Nat.le_of_ble_eq_true rfl) (fun q57 => X_lts fun σ55 => X_lt fun r54 => ?_)
      refine X_ldc (v := -10000001) hC tw_405 dL_appeals_24 ?_
      refine X_icmp_ne hC 33 dL_appeals_26 (by decide) (fun h56 => ?_) (fun h56 => ?_)
      · refine X_iconst (v := 0) hC (by decide) dL_appeals_33 ?_
        exact X_none
      · refine X_iconst (v := 1) hC (by decide) dL_appeals_29 ?_
        refine X_goto hC 34 dL_appeals_30 (by decide) ?_
        exact X_zret hC hz0 hz1 rfl dL_appeals_34 rfl
theorem dL_cell_0 : decode cL_cell 0 = .ok (.iload_n 1, 1) := by decide +kernel
theorem dL_cell_1 : decode cL_cell 1 = .ok (.aload_n 0, 1) := by decide +kernel
theorem dL_cell_2 : decode cL_cell 2 = .ok (.arraylength, 1) := by decide +kernel
theorem dL_cell_3 : decode cL_cell 3 = .ok (.if_icmp .ge 9, 3) := by decide +kernel
theorem dL_cell_6 : decode cL_cell 6 = .ok (.aload_n 0, 1) := by decide +kernel
theorem dL_cell_7 : decode cL_cell 7 = .ok (.iload_n 1, 1) := by decide +kernel
theorem dL_cell_8 : decode cL_cell 8 = .ok (.iaload, 1) := by decide +kernel
theorem dL_cell_9 : decode cL_cell 9 = .ok (.goto 11, 3) := by decide +kernel
theorem dL_cell_12 : decode cL_cell 12 = .ok (.ldc 7, 2) := by decide +kernel
theorem dL_cell_14 : decode cL_cell 14 = .ok (.iload_n 1, 1) := by decide +kernel
theorem dL_cell_15 : decode cL_cell 15 = .ok (.imul, 1) := by decide +kernel
theorem dL_cell_16 : decode cL_cell 16 = .ok (.sipush 1171, 3) := by decide +kernel
theorem dL_cell_19 : decode cL_cell 19 = .ok (.iadd, 1) := by decide +kernel
theorem dL_cell_20 : decode cL_cell 20 = .ok (.ireturn, 1) := by decide +kernel
def f_L_cell (xs : Nat → Int32) (L : Nat) (p1 : Int32) : Option Int32 := if (Int32.ofNat L) ≤ p1 then (some (((2450003 : Int32) * p1) + (1171 : Int32))) else (gd (inb p1 L) (some (xs (ix p1))))
theorem okm_L_cell : okm yL_cell 2 = true := by decide +kernel
set_option maxHeartbeats 4000000 in
set_option maxRecDepth 100000 in
theorem c_L_cell (l : Launch) (G : va_G) (cls : Cls) (b L : Nat) (xs : Nat → Int32) (σ : Sg) (p1 : Int32) : MTs l G cls yL_cell (.code yL_cell cL_cell 2 (some .int) :: gw) 0 0 b L xs [.ref b, .int p1] σ (f_L_cell xs L p1) := by
  refine MTs.of (own := RL) (by decide) rfl (Nat.le_of_ble_eq_true rfl) fun Γ hz0 hz1 hX hbl hC => ?_
  show WX Γ (YS G cls) (qf Γ (YS G cls) (fiP σ)) 2 0 [(0, .ref b), (1, .int p1)] [] σ (f_L_cell xs L p1)
  unfold f_L_cell
  refine X_iload_n hC 1 rfl dL_cell_0 ?_
  refine X_aload_n hC 0 rfl dL_cell_1 ?_
  refine X_slen hC hX hbl (fun h => h) dL_cell_2 ?_
  refine X_icmp_ge hC 12 dL_cell_3 (by decide) (fun h1 => ?_) (fun h1 => ?_)
  · refine X_ldc (v := 2450003) hC tw_357 dL_cell_12 ?_
    refine X_iload_n hC 1 rfl dL_cell_14 ?_
    refine X_imul hC dL_cell_15 ?_
    refine X_sipush (v := 1171) hC (by decide) dL_cell_16 ?_
    refine X_iadd hC dL_cell_19 ?_
    exact X_iret hC hz0 hz1 dL_cell_20 rfl
  · refine X_aload_n hC 0 rfl dL_cell_6 ?_
    refine X_iload_n hC 1 rfl dL_cell_7 ?_
    refine X_sld hC hX hbl (fun h => h) dL_cell_8 ?_
    refine X_goto hC 20 dL_cell_9 (by decide) ?_
    exact X_iret hC hz0 hz1 dL_cell_20 rfl
