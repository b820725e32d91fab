theorem dX4_addInstrument_0 : decode cX4_addInstrument 0 = .ok (.iload_n 1, 1) := by decide +kernel
theorem dX4_addInstrument_1 : decode cX4_addInstrument 1 = .ok (.iconst 2, 1) := by decide +kernel
theorem dX4_addInstrument_2 : decode cX4_addInstrument 2 = .ok (.bipush 50, 2) := by decide +kernel
theorem dX4_addInstrument_4 : decode cX4_addInstrument 4 = .ok (.invokestatic 37, 3) := by decide +kernel
theorem dX4_addInstrument_7 : decode cX4_addInstrument 7 = .ok (.ifCond .ne 24, 3) := by decide +kernel
theorem dX4_addInstrument_10 : decode cX4_addInstrument 10 = .ok (.iload_n 2, 1) := by decide +kernel
theorem dX4_addInstrument_11 : decode cX4_addInstrument 11 = .ok (.iconst 1, 1) := by decide +kernel
theorem dX4_addInstrument_12 : decode cX4_addInstrument 12 = .ok (.bipush 50, 2) := by decide +kernel
theorem dX4_addInstrument_14 : decode cX4_addInstrument 14 = .ok (.invokestatic 37, 3) := by decide +kernel
theorem dX4_addInstrument_17 : decode cX4_addInstrument 17 = .ok (.ifCond .ne 14, 3) := by decide +kernel
theorem dX4_addInstrument_20 : decode cX4_addInstrument 20 = .ok (.iload_n 3, 1) := by decide +kernel
theorem dX4_addInstrument_21 : decode cX4_addInstrument 21 = .ok (.iconst 2, 1) := by decide +kernel
theorem dX4_addInstrument_22 : decode cX4_addInstrument 22 = .ok (.sipush 200, 3) := by decide +kernel
theorem dX4_addInstrument_25 : decode cX4_addInstrument 25 = .ok (.invokestatic 37, 3) := by decide +kernel
theorem dX4_addInstrument_28 : decode cX4_addInstrument 28 = .ok (.ifCond .eq 6, 3) := by decide +kernel
theorem dX4_addInstrument_31 : decode cX4_addInstrument 31 = .ok (.ldc 41, 2) := by decide +kernel
theorem dX4_addInstrument_33 : decode cX4_addInstrument 33 = .ok (.ireturn, 1) := by decide +kernel
theorem dX4_addInstrument_34 : decode cX4_addInstrument 34 = .ok (.aload_n 0, 1) := by decide +kernel
theorem dX4_addInstrument_35 : decode cX4_addInstrument 35 = .ok (.getfield 12, 3) := by decide +kernel
theorem dX4_addInstrument_38 : decode cX4_addInstrument 38 = .ok (.getfield 42, 3) := by decide +kernel
theorem dX4_addInstrument_41 : decode cX4_addInstrument 41 = .ok (.invokevirtual 46, 3) := by decide +kernel
theorem dX4_addInstrument_44 : decode cX4_addInstrument 44 = .ok (.ifCond .eq 6, 3) := by decide +kernel
theorem dX4_addInstrument_47 : decode cX4_addInstrument 47 = .ok (.ldc 52, 2) := by decide +kernel
theorem dX4_addInstrument_49 : decode cX4_addInstrument 49 = .ok (.ireturn, 1) := by decide +kernel
theorem dX4_addInstrument_50 : decode cX4_addInstrument 50 = .ok (.aload_n 0, 1) := by decide +kernel
theorem dX4_addInstrument_51 : decode cX4_addInstrument 51 = .ok (.getfield 22, 3) := by decide +kernel
theorem dX4_addInstrument_54 : decode cX4_addInstrument 54 = .ok (.aload_n 0, 1) := by decide +kernel
theorem dX4_addInstrument_55 : decode cX4_addInstrument 55 = .ok (.getfield 12, 3) := by decide +kernel
theorem dX4_addInstrument_58 : decode cX4_addInstrument 58 = .ok (.invokevirtual 53, 3) := by decide +kernel
theorem dX4_addInstrument_61 : decode cX4_addInstrument 61 = .ok (.aload_n 0, 1) := by decide +kernel
theorem dX4_addInstrument_62 : decode cX4_addInstrument 62 = .ok (.getfield 12, 3) := by decide +kernel
theorem dX4_addInstrument_65 : decode cX4_addInstrument 65 = .ok (.iload_n 1, 1) := by decide +kernel
theorem dX4_addInstrument_66 : decode cX4_addInstrument 66 = .ok (.iload_n 2, 1) := by decide +kernel
theorem dX4_addInstrument_67 : decode cX4_addInstrument 67 = .ok (.iload_n 3, 1) := by decide +kernel
theorem dX4_addInstrument_68 : decode cX4_addInstrument 68 = .ok (.iload 4, 2) := by decide +kernel
theorem dX4_addInstrument_70 : decode cX4_addInstrument 70 = .ok (.invokevirtual 57, 3) := by decide +kernel
theorem dX4_addInstrument_73 : decode cX4_addInstrument 73 = .ok (.ireturn, 1) := by decide +kernel
def f_X4_addInstrument (σ : Sg)  (p1 p2 p3 p4 : Int32) : Option (Int32 × Sg) := (f_X4_outside σ p1 (2 : Int32) (50 : Int32)).bind fun r1 => if r1 = 0 then ((f_X4_outside σ p2 (1 : Int32) (50 : Int32)).bind fun r3 => if r3 = 0 then ((f_X4_outside σ p3 (2 : Int32) (200 : Int32)).bind fun r5 => if r5 = 0 then ((f_X3_isFull σ 0).bind fun r7 => if r7 = 0 then ((f_X0_push σ).bind fun σ9 => (f_X2_newInstrument σ9 p1 p2 p3 p4).bind fun q12 => lts q12.2 fun σ11 => lt q12.1 fun r10 => some (r10, σ11)) else (some ((-10000003 : Int32), σ))) else (some ((-10000002 : Int32), σ))) else (some ((-10000002 : Int32), σ))) else (some ((-10000002 : Int32), σ))
theorem okm_X4_addInstrument : okm yX4_addInstrument 4 = true := by decide +kernel
set_option maxHeartbeats 4000000 in
set_option maxRecDepth 100000 in
theorem c_X4_addInstrument (l : Launch) (G : va_G) (cls : Cls) (ad : Nat → Nat) (hi : inj 49 ad) (σ : Sg)   (p1 p2 p3 p4 : Int32) : MT l (YX G cls ad) yX4_addInstrument (.code yX4_addInstrument cX4_addInstrument 5 (some .int) :: gw) 4 92 [.ref (ad 25), .int p1, .int p2, .int p3, .int p4] fiS σ (f_X4_addInstrument σ  p1 p2 p3 p4) := by
  refine MT.of (own := RX4) (by decide) (YX_D hi) rfl (Nat.le_of_ble_eq_true rfl) fun Γ _ hz0 hz1 hC => ?_
  show WX Γ (YX G cls ad) (qf Γ (YX G cls ad) fiS) 5 0 [(0, .ref (ad 25)), (1, .int p1), (2, .int p2), (3, .int p3), (4, .int p4)] [] σ (f_X4_addInstrument σ  p1 p2 p3 p4)
  unfold f_X4_addInstrument
  refine X_iload_n hC 1 rfl dX4_addInstrument_0 ?_
  refine X_iconst (v := 2) hC (by decide) dX4_addInstrument_1 ?_
  refine X_bipush (v := 50) hC (by decide) dX4_addInstrument_2 ?_
  refine X_statP (rest := []) hC (c_X4_outside _ G cls ad hi σ p1 (2 : Int32) (50 : Int32)) (gSt tw_321 tw_246 tw_1 tw_247) rfl okm_X4_outside (by decide) dX4_addInstrument_4 rfl (Nat.le_of_ble_eq_true rfl) (fun r1 => ?_)
  refine X_if_ne hC 31 dX4_addInstrument_7 (by decide) (fun h2 => ?_) (fun h2 => ?_)
  · refine X_ldc (v := -10000002) hC tw_322 dX4_addInstrument_31 ?_
    exact X_iret hC hz0 hz1 dX4_addInstrument_33 rfl
  · refine X_iload_n hC 2 rfl dX4_addInstrument_10 ?_
    refine X_iconst (v := 1) hC (by decide) dX4_addInstrument_11 ?_
    refine X_bipush (v := 50) hC (by decide) dX4_addInstrument_12 ?_
    refine X_statP (rest := []) hC (c_X4_outside _ G cls ad hi σ p2 (1 : Int32) (50 : Int32)) (gSt tw_321 tw_246 tw_1 tw_247) rfl okm_X4_outside (by decide) dX4_addInstrument_14 rfl (Nat.le_of_ble_eq_true rfl) (fun r3 => ?_)
    refine X_if_ne hC 31 dX4_addInstrument_17 (by decide) (fun h4 => ?_) (fun h4 => ?_)
    · refine X_ldc (v := -10000002) hC tw_322 dX4_addInstrument_31 ?_
      exact X_iret hC hz0 hz1 dX4_addInstrument_33 rfl
    · refine X_iload_n hC 3 rfl dX4_addInstrument_20 ?_
      refine X_iconst (v := 2) hC (by decide) dX4_addInstrument_21 ?_
      refine X_sipush (v := 200) hC (by decide) dX4_addInstrument_22 ?_
      refine X_statP (rest := []) hC (c_X4_outside _ G cls ad hi σ p3 (2 : Int32) (200 : Int32)) (gSt tw_321 tw_246 tw_1 tw_247) rfl okm_X4_outside (by decide) dX4_addInstrument_25 rfl (Nat.le_of_ble_eq_true rfl) (fun r5 => ?_)
      refine X_if_eq hC 34 dX4_addInstrument_28 (by decide) (fun h6 => ?_) (fun h6 => ?_)
      · refine X_aload_n hC 0 rfl dX4_addInstrument_34 ?_
        refine X_getf (C := RX4) (T := TX4) (N := 5) (ci := 4) hC 0 (wX (k := 25) (by omega) cX_vs) rfl hinX4 (by decide) tw_100 rfl rfl dX4_addInstrument_35 ?_
        refine X_getf (C := RX2) (T := TX2) (N := 3) (ci := 2) hC 0 (wX (k := 19) (by omega) cX_now) rfl hinX2 (by decide) tw_47 rfl rfl dX4_addInstrument_38 ?_
        refine X_callP (C := RX3) (T := TX3) (N := 4) (ci := 3) (rest := []) hC (c_X3_isFull _ G cls ad hi σ 0 (by omega)) (gV tw_437 tw_211 tw_212 tw_3 tw_213) rfl (wX (k := 0) (by omega) (cX_tab (by omega))) rfl rfl okm_X3_isFull (by decide) dX4_addInstrument_41 rfl (Nat.le_of_ble_eq_true rfl) (fun r7 => ?_)
        refine X_if_eq hC 50 dX4_addInstrument_44 (by decide) (fun h8 => ?_) (fun h8 => ?_)
        · refine X_aload_n hC 0 rfl dX4_addInstrument_50 ?_
          refine X_getf (C := RX4) (T := TX4) (N := 5) (ci := 4) hC 2 (wX (k := 25) (by omega) cX_vs) rfl hinX4 (by decide) tw_102 rfl rfl dX4_addInstrument_51 ?_
          refine X_aload_n hC 0 rfl dX4_addInstrument_54 ?_
          refine X_getf (C := RX4) (T := TX4) (N := 5) (ci := 4) hC 0 (wX (k := 25) (by omega) cX_vs) rfl hinX4 (by decide) tw_100 rfl rfl dX4_addInstrument_55 ?_
          refine X_callV (C := RX0) (T := TX0) (N := 3) (ci := 0) (rest := []) hC (c_X0_push _ G cls ad hi σ) (gV tw_150 tw_151 tw_152 tw_5 tw_153) rfl (wX (k := 26) (by omega) cX_hi) rfl rfl okm_X0_push (by decide) dX4_addInstrument_58 rfl (Nat.le_of_ble_eq_true rfl) (fun σ9 => ?_)
          refine X_aload_n hC 0 rfl dX4_addInstrument_61 ?_
          refine X_getf (C := RX4) (T := TX4) (N := 5) (ci := 4) hC 0 (wX (k := 25) (by omega) cX_vs) rfl hinX4 (by decide) tw_100 rfl rfl dX4_addInstrument_62 ?_
          refine X_iload_n hC 1 rfl dX4_addInstrument_65 ?_
          refine X_iload_n hC 2 rfl dX4_addInstrument_66 ?_
          refine X_iload_n hC 3 rfl dX4_addInstrument_67 ?_
          refine X_iload hC 4 rfl dX4_addInstrument_68 ?_
          refine X_callS (C := RX2) (T := TX2) (N := 3) (ci := 2) (rest := []) hC (c_X2_newInstrument _ G cls ad hi σ9 p1 p2 p3 p4) (gV tw_439 tw_440 tw_441 tw_2 tw_442) rfl (wX (k := 19) (by omega) cX_now) rfl rfl okm_X2_newInstrument (by decide) dX4_addInstrument_70 rfl (Nat.le_of_ble_eq_true rfl) (fun q12 => X_lts fun σ11 => X_lt fun r10 => ?_)
          exact X_iret hC hz0 hz1 dX4_addInstrument_73 rfl
        · refine X_ldc (v := -10000003) hC tw_438 dX4_addInstrument_47 ?_
          exact X_iret hC hz0 hz1 dX4_addInstrument_49 rfl
      · refine X_ldc (v := -10000002) hC tw_322 dX4_addInstrument_31 ?_
        exact X_iret hC hz0 hz1 dX4_addInstrument_33 rfl
theorem dX4_adjust_0 : decode cX4_adjust 0 = .ok (.aload_n 0, 1) := by decide +kernel
theorem dX4_adjust_1 : decode cX4_adjust 1 = .ok (.getfield 12, 3) := by decide +kernel
theorem dX4_adjust_4 : decode cX4_adjust 4 = .ok (.getfield 42, 3) := by decide +kernel
theorem dX4_adjust_7 : decode cX4_adjust 7 = .ok (.astore 4, 2) := by decide +kernel
theorem dX4_adjust_9 : decode cX4_adjust 9 = .ok (.aload 4, 2) := by decide +kernel
theorem dX4_adjust_11 : decode cX4_adjust 11 = .ok (.iload_n 1, 1) := by decide +kernel
theorem dX4_adjust_12 : decode cX4_adjust 12 = .ok (.invokevirtual 61, 3) := by decide +kernel
theorem dX4_adjust_15 : decode cX4_adjust 15 = .ok (.ifCond .eq 6, 3) := by decide +kernel
theorem dX4_adjust_18 : decode cX4_adjust 18 = .ok (.ldc 65, 2) := by decide +kernel
theorem dX4_adjust_20 : decode cX4_adjust 20 = .ok (.ireturn, 1) := by decide +kernel
theorem dX4_adjust_21 : decode cX4_adjust 21 = .ok (.aload_n 0, 1) := by decide +kernel
theorem dX4_adjust_22 : decode cX4_adjust 22 = .ok (.getfield 12, 3) := by decide +kernel
theorem dX4_adjust_25 : decode cX4_adjust 25 = .ok (.iload_n 1, 1) := by decide +kernel
theorem dX4_adjust_26 : decode cX4_adjust 26 = .ok (.invokevirtual 66, 3) := by decide +kernel
theorem dX4_adjust_29 : decode cX4_adjust 29 = .ok (.istore 5, 2) := by decide +kernel
theorem dX4_adjust_31 : decode cX4_adjust 31 = .ok (.iload_n 2, 1) := by decide +kernel
theorem dX4_adjust_32 : decode cX4_adjust 32 = .ok (.iload 5, 2) := by decide +kernel
theorem dX4_adjust_34 : decode cX4_adjust 34 = .ok (.ineg, 1) := by decide +kernel
theorem dX4_adjust_35 : decode cX4_adjust 35 = .ok (.iload 5, 2) := by decide +kernel
theorem dX4_adjust_37 : decode cX4_adjust 37 = .ok (.invokestatic 37, 3) := by decide +kernel
theorem dX4_adjust_40 : decode cX4_adjust 40 = .ok (.ifCond .ne 13, 3) := by decide +kernel
theorem dX4_adjust_43 : decode cX4_adjust 43 = .ok (.iload_n 3, 1) := by decide +kernel
theorem dX4_adjust_44 : decode cX4_adjust 44 = .ok (.iconst 0, 1) := by decide +kernel
theorem dX4_adjust_45 : decode cX4_adjust 45 = .ok (.bipush 20, 2) := by decide +kernel
theorem dX4_adjust_47 : decode cX4_adjust 47 = .ok (.invokestatic 37, 3) := by decide +kernel
theorem dX4_adjust_50 : decode cX4_adjust 50 = .ok (.ifCond .eq 6, 3) := by decide +kernel
theorem dX4_adjust_53 : decode cX4_adjust 53 = .ok (.ldc 41, 2) := by decide +kernel
theorem dX4_adjust_55 : decode cX4_adjust 55 = .ok (.ireturn, 1) := by decide +kernel
theorem dX4_adjust_56 : decode cX4_adjust 56 = .ok (.aload 4, 2) := by decide +kernel
theorem dX4_adjust_58 : decode cX4_adjust 58 = .ok (.iload_n 1, 1) := by decide +kernel
theorem dX4_adjust_59 : decode cX4_adjust 59 = .ok (.iconst 4, 1) := by decide +kernel
theorem dX4_adjust_60 : decode cX4_adjust 60 = .ok (.invokevirtual 70, 3) := by decide +kernel
theorem dX4_adjust_63 : decode cX4_adjust 63 = .ok (.istore 6, 2) := by decide +kernel
theorem dX4_adjust_65 : decode cX4_adjust 65 = .ok (.iload 6, 2) := by decide +kernel
theorem dX4_adjust_67 : decode cX4_adjust 67 = .ok (.iload_n 2, 1) := by decide +kernel
theorem dX4_adjust_68 : decode cX4_adjust 68 = .ok (.if_icmp .ne 17, 3) := by decide +kernel
theorem dX4_adjust_71 : decode cX4_adjust 71 = .ok (.aload 4, 2) := by decide +kernel
theorem dX4_adjust_73 : decode cX4_adjust 73 = .ok (.iload_n 1, 1) := by decide +kernel
theorem dX4_adjust_74 : decode cX4_adjust 74 = .ok (.iconst 5, 1) := by decide +kernel
theorem dX4_adjust_75 : decode cX4_adjust 75 = .ok (.invokevirtual 70, 3) := by decide +kernel
theorem dX4_adjust_78 : decode cX4_adjust 78 = .ok (.iload_n 3, 1) := by decide +kernel
theorem dX4_adjust_79 : decode cX4_adjust 79 = .ok (.if_icmp .ne 6, 3) := by decide +kernel
theorem dX4_adjust_82 : decode cX4_adjust 82 = .ok (.ldc 74, 2) := by decide +kernel
theorem dX4_adjust_84 : decode cX4_adjust 84 = .ok (.ireturn, 1) := by decide +kernel
theorem dX4_adjust_85 : decode cX4_adjust 85 = .ok (.aload_n 0, 1) := by decide +kernel
theorem dX4_adjust_86 : decode cX4_adjust 86 = .ok (.getfield 22, 3) := by decide +kernel
theorem dX4_adjust_89 : decode cX4_adjust 89 = .ok (.aload_n 0, 1) := by decide +kernel
theorem dX4_adjust_90 : decode cX4_adjust 90 = .ok (.getfield 12, 3) := by decide +kernel
theorem dX4_adjust_93 : decode cX4_adjust 93 = .ok (.invokevirtual 53, 3) := by decide +kernel
theorem dX4_adjust_96 : decode cX4_adjust 96 = .ok (.aload 4, 2) := by decide +kernel
theorem dX4_adjust_98 : decode cX4_adjust 98 = .ok (.iload_n 1, 1) := by decide +kernel
theorem dX4_adjust_99 : decode cX4_adjust 99 = .ok (.iconst 4, 1) := by decide +kernel
theorem dX4_adjust_100 : decode cX4_adjust 100 = .ok (.iload_n 2, 1) := by decide +kernel
theorem dX4_adjust_101 : decode cX4_adjust 101 = .ok (.invokevirtual 75, 3) := by decide +kernel
theorem dX4_adjust_104 : decode cX4_adjust 104 = .ok (.aload 4, 2) := by decide +kernel
theorem dX4_adjust_106 : decode cX4_adjust 106 = .ok (.iload_n 1, 1) := by decide +kernel
theorem dX4_adjust_107 : decode cX4_adjust 107 = .ok (.iconst 5, 1) := by decide +kernel
theorem dX4_adjust_108 : decode cX4_adjust 108 = .ok (.iload_n 3, 1) := by decide +kernel
theorem dX4_adjust_109 : decode cX4_adjust 109 = .ok (.invokevirtual 75, 3) := by decide +kernel
theorem dX4_adjust_112 : decode cX4_adjust 112 = .ok (.iload 6, 2) := by decide +kernel
theorem dX4_adjust_114 : decode cX4_adjust 114 = .ok (.ireturn, 1) := by decide +kernel
def f_X4_adjust_b85    (σ : Sg) (v1 v2 v3 v6 : Int32) : Option (Int32 × Sg) := (f_X0_push σ).bind fun σ10 => (f_X3_put σ10 0 v1 (4 : Int32) v2).bind fun σ11 => (f_X3_put σ11 0 v1 (5 : Int32) v3).bind fun σ12 => some (v6, σ12)
def f_X4_adjust (σ : Sg)  (p1 p2 p3 : Int32) : Option (Int32 × Sg) := (f_X3_lacks σ 0 p1).bind fun r1 => if r1 = 0 then ((f_X2_mainDivision σ p1).bind fun r3 => (f_X4_outside σ p2 (-r3) r3).bind fun r4 => if r4 = 0 then ((f_X4_outside σ p3 (0 : Int32) (20 : Int32)).bind fun r6 => if r6 = 0 then ((f_X3_cell σ 0 p1 (4 : Int32)).bind fun r8 => if r8 = p2 then ((f_X3_cell σ 0 p1 (5 : Int32)).bind fun r13 => if r13 = p3 then (some ((-10000005 : Int32), σ)) else (f_X4_adjust_b85 σ p1 p2 p3 r8)) else (f_X4_adjust_b85 σ p1 p2 p3 r8)) else (some ((-10000002 : Int32), σ))) else (some ((-10000002 : Int32), σ))) else (some ((-10000001 : Int32), σ))
set_option maxHeartbeats 4000000 in
set_option maxRecDepth 100000 in
theorem L_X4_adjust_b85 {Γ : Cx} (G : va_G) (cls : Cls) (ad : Nat → Nat) (hi : inj 49 ad) (hC : CX Γ (YX G cls ad) cX4_adjust RX4 7 (some .int) 4 90) (hz0 : Γ.2.2.2.2.2.1 = 0) (hz1 : Γ.2.2.2.2.2.2 = 0)     (σ : Sg) (v1 v2 v3 v6 : Int32) : WX Γ (YX G cls ad) (qf Γ (YX G cls ad) fiS) 7 85 [(0, .ref (ad 25)), (1, .int v1), (2, .int v2), (3, .int v3), (4, .ref (ad 0)), (6, .int v6)] [] σ (f_X4_adjust_b85   σ v1 v2 v3 v6) := by
  unfold f_X4_adjust_b85
  refine X_aload_n hC 0 rfl dX4_adjust_85 ?_
  refine X_getf (C := RX4) (T := TX4) (N := 5) (ci := 4) hC 2 (wX (k := 25) (by omega) cX_vs) rfl hinX4 (by decide) tw_102 rfl rfl dX4_adjust_86 ?_
  refine X_aload_n hC 0 rfl dX4_adjust_89 ?_
  refine X_getf (C := RX4) (T := TX4) (N := 5) (ci := 4) hC 0 (wX (k := 25) (by omega) cX_vs) rfl hinX4 (by decide) tw_100 rfl rfl dX4_adjust_90 ?_
  refine X_callV (C := RX0) (T := TX0) (N := 3) (ci := 0) (rest := []) hC (c_X0_push _ G cls ad hi σ) (gV tw_150 tw_151 tw_152 tw_5 tw_153) rfl (wX (k := 26) (by omega) cX_hi) rfl rfl okm_X0_push (by decide) dX4_adjust_93 rfl (Nat.le_of_ble_eq_true rfl) (fun σ10 => ?_)
  refine X_aload hC 4 rfl dX4_adjust_96 ?_
  refine X_iload_n hC 1 rfl dX4_adjust_98 ?_
  refine X_iconst (v := 4) hC (by decide) dX4_adjust_99 ?_
  refine X_iload_n hC 2 rfl dX4_adjust_100 ?_
  refine X_callV (C := RX3) (T := TX3) (N := 4) (ci := 3) (rest := []) hC (c_X3_put _ G cls ad hi σ10 0 (by omega) v1 (4 : Int32) v2) (gV tw_448 tw_181 tw_182 tw_3 tw_183) rfl (wX (k := 0) (by omega) (cX_tab (by omega))) rfl rfl okm_X3_put (by decide) dX4_adjust_101 rfl (Nat.le_of_ble_eq_true rfl) (fun σ11 => ?_)
  refine X_aload hC 4 rfl dX4_adjust_104 ?_
  refine X_iload_n hC 1 rfl dX4_adjust_106 ?_
  refine X_iconst (v := 5) hC (by decide) dX4_adjust_107 ?_
  refine X_iload_n hC 3 rfl dX4_adjust_108 ?_
  refine X_callV (C := RX3) (T := TX3) (N := 4) (ci := 3) (rest := []) hC (c_X3_put _ G cls ad hi σ11 0 (by omega) v1 (5 : Int32) v3) (gV tw_448 tw_181 tw_182 tw_3 tw_183) rfl (wX (k := 0) (by omega) (cX_tab (by omega))) rfl rfl okm_X3_put (by decide) dX4_adjust_109 rfl (Nat.le_of_ble_eq_true rfl) (fun σ12 => ?_)
  refine X_iload hC 5 rfl dX4_adjust_112 ?_
  exact X_iret hC hz0 hz1 dX4_adjust_114 rfl
theorem okm_X4_adjust : okm yX4_adjust 3 = true := by decide +kernel
set_option maxHeartbeats 4000000 in
set_option maxRecDepth 100000 in
theorem c_X4_adjust (l : Launch) (G : va_G) (cls : Cls) (ad : Nat → Nat) (hi : inj 49 ad) (σ : Sg)   (p1 p2 p3 : Int32) : MT l (YX G cls ad) yX4_adjust (.code yX4_adjust cX4_adjust 7 (some .int) :: gw) 4 90 [.ref (ad 25), .int p1, .int p2, .int p3] fiS σ (f_X4_adjust σ  p1 p2 p3) := by
  refine MT.of (own := RX4) (by decide) (YX_D hi) rfl (Nat.le_of_ble_eq_true rfl) fun Γ _ hz0 hz1 hC => ?_
  show WX Γ (YX G cls ad) (qf Γ (YX G cls ad) fiS) 7 0 [(0, .ref (ad 25)), (1, .int p1), (2, .int p2), (3, .int p3)] [] σ (f_X4_adjust σ  p1 p2 p3)
  unfold f_X4_adjust
  refine X_aload_n hC 0 rfl dX4_adjust_0 ?_
  refine X_getf (C := RX4) (T := TX4) (N := 5) (ci := 4) hC 0 (wX (k := 25) (by omega) cX_vs) rfl hinX4 (by decide) tw_100 rfl rfl dX4_adjust_1 ?_
  refine X_getf (C := RX2) (T := TX2) (N := 3) (ci := 2) hC 0 (wX (k := 19) (by omega) cX_now) rfl hinX2 (by decide) tw_47 rfl rfl dX4_adjust_4 ?_
  refine X_astore (ls' := [(4, .ref (ad 0)), (0, .ref (ad 25)), (1, .int p1), (2, .int p2), (3, .int p3)]) hC dX4_adjust_7 (by decide) rfl ?_
  refine X_aload hC 0 rfl dX4_adjust_9 ?_
  refine X_iload_n hC 2 rfl dX4_adjust_11 ?_
  refine X_callP (C := RX3) (T := TX3) (N := 4) (ci := 3) (rest := []) hC (c_X3_lacks _ G cls ad hi σ 0 (by omega) p1) (gV tw_318 tw_137 tw_138 tw_3 tw_139) rfl (wX (k := 0) (by omega) (cX_tab (by omega))) rfl rfl okm_X3_lacks (by decide) dX4_adjust_12 rfl (Nat.le_of_ble_eq_true rfl) (fun r1 => ?_)
  refine X_if_eq hC 21 dX4_adjust_15 (by decide) (fun h2 => ?_) (fun h2 => ?_)
  · refine X_aload_n hC 1 rfl dX4_adjust_21 ?_
    refine X_getf (C := RX4) (T := TX4) (N := 5) (ci := 4) hC 0 (wX (k := 25) (by omega) cX_vs) rfl hinX4 (by decide) tw_100 rfl rfl dX4_adjust_22 ?_
    refine X_iload_n hC 2 rfl dX4_adjust_25 ?_
    refine X_callP (C := RX2) (T := TX2) (N := 3) (ci := 2) (rest := []) hC (c_X2_mainDivision _ G cls ad hi σ p1) (gV tw_323 tw_269 tw_270 tw_2 tw_271) rfl (wX (k := 19) (by omega) cX_now) rfl rfl okm_X2_mainDivision (by decide) dX4_adjust_26 rfl (Nat.le_of_ble_eq_true rfl) (fun r3 => ?_)
    refine X_istore (ls' := [(5, .int r3), (4, .ref (ad 0)), (0, .ref (ad 25)), (1, .int p1), (2, .int p2), (3, .int p3)]) hC dX4_adjust_29 (by decide) rfl ?_
    refine X_iload_n hC 4 rfl dX4_adjust_31 ?_
    refine X_iload hC 0 rfl dX4_adjust_32 ?_
    refine X_ineg hC dX4_adjust_34 ?_
    refine X_iload hC 0 rfl dX4_adjust_35 ?_
    refine X_statP (rest := []) hC (c_X4_outside _ G cls ad hi σ p2 (-r3) r3) (gSt tw_321 tw_246 tw_1 tw_247) rfl okm_X4_outside (by decide) dX4_adjust_37 rfl (Nat.le_of_ble_eq_true rfl) (fun r4 => ?_)
    refine X_if_ne hC 53 dX4_adjust_40 (by decide) (fun h5 => ?_) (fun h5 => ?_)
    · refine X_ldc (v := -10000002) hC tw_322 dX4_adjust_53 ?_
      exact X_iret hC hz0 hz1 dX4_adjust_55 rfl
    · refine X_iload_n hC 5 rfl dX4_adjust_43 ?_
      refine X_iconst (v := 0) hC (by decide) dX4_adjust_44 ?_
      refine X_bipush (v := 20) hC (by decide) dX4_adjust_45 ?_
      refine X_statP (rest := []) hC (c_X4_outside _ G cls ad hi σ p3 (0 : Int32) (20 : Int32)) (gSt tw_321 tw_246 tw_1 tw_247) rfl okm_X4_outside (by decide) dX4_adjust_47 rfl (Nat.le_of_ble_eq_true rfl) (fun r6 => ?_)
      refine X_if_eq hC 56 dX4_adjust_50 (by decide) (fun h7 => ?_) (fun h7 => ?_)
      · refine X_aload hC 1 rfl dX4_adjust_56 ?_
        refine X_iload_n hC 3 rfl dX4_adjust_58 ?_
        refine X_iconst (v := 4) hC (by decide) dX4_adjust_59 ?_
        refine X_callP (C := RX3) (T := TX3) (N := 4) (ci := 3) (rest := []) hC (c_X3_cell _ G cls ad hi σ 0 (by omega) p1 (4 : Int32)) (gV tw_255 tw_133 tw_134 tw_3 tw_135) rfl (wX (k := 0) (by omega) (cX_tab (by omega))) rfl rfl okm_X3_cell (by decide) dX4_adjust_60 rfl (Nat.le_of_ble_eq_true rfl) (fun r8 => ?_)
        refine X_istore (ls' := [(6, .int r8), (5, .int r3), (4, .ref (ad 0)), (0, .ref (ad 25)), (1, .int p1), (2, .int p2), (3, .int p3)]) hC dX4_adjust_63 (by decide) rfl ?_
        refine X_iload hC 0 rfl dX4_adjust_65 ?_
        refine X_iload_n hC 5 rfl dX4_adjust_67 ?_
        refine X_icmp_ne hC 85 dX4_adjust_68 (by decide) (fun h9 => ?_) (fun h9 => ?_)
        · exact X_sub [3, 4, 5, 6, 2, 0] rfl (L_X4_adjust_b85 G cls ad hi hC hz0 hz1 σ p1 p2 p3 r8)
        · refine X_aload hC 2 rfl dX4_adjust_71 ?_
          refine X_iload_n hC 4 rfl dX4_adjust_73 ?_
          refine X_iconst (v := 5) hC (by decide) dX4_adjust_74 ?_
          refine X_callP (C := RX3) (T := TX3) (N := 4) (ci := 3) (rest := []) hC (c_X3_cell _ G cls ad hi σ 0 (by omega) p1 (5 : Int32)) (gV tw_255 tw_133 tw_134 tw_3 tw_135) rfl (wX (k := 0) (by omega) (cX_tab (by omega))) rfl rfl okm_X3_cell (by decide) dX4_adjust_75 rfl (Nat.le_of_ble_eq_true rfl) (fun r13 => ?_)
          refine X_iload_n hC 6 rfl dX4_adjust_78 ?_
          refine X_icmp_ne hC 85 dX4_adjust_79 (by decide) (fun h14 => ?_) (fun h14 => ?_)
          · exact X_sub [3, 4, 5, 6, 2, 0] rfl (L_X4_adjust_b85 G cls ad hi hC hz0 hz1 σ p1 p2 p3 r8)
          · refine X_ldc (v := -10000005) hC tw_149 dX4_adjust_82 ?_
            exact X_iret hC hz0 hz1 dX4_adjust_84 rfl
      · refine X_ldc (v := -10000002) hC tw_322 dX4_adjust_53 ?_
        exact X_iret hC hz0 hz1 dX4_adjust_55 rfl
  · refine X_ldc (v := -10000001) hC tw_319 dX4_adjust_18 ?_
    exact X_iret hC hz0 hz1 dX4_adjust_20 rfl
theorem dX4_setTrap_0 : decode cX4_setTrap 0 = .ok (.aload_n 0, 1) := by decide +kernel
theorem dX4_setTrap_1 : decode cX4_setTrap 1 = .ok (.getfield 12, 3) := by decide +kernel
theorem dX4_setTrap_4 : decode cX4_setTrap 4 = .ok (.getfield 42, 3) := by decide +kernel
theorem dX4_setTrap_7 : decode cX4_setTrap 7 = .ok (.astore_n 3, 1) := by decide +kernel
theorem dX4_setTrap_8 : decode cX4_setTrap 8 = .ok (.aload_n 3, 1) := by decide +kernel
theorem dX4_setTrap_9 : decode cX4_setTrap 9 = .ok (.iload_n 1, 1) := by decide +kernel
theorem dX4_setTrap_10 : decode cX4_setTrap 10 = .ok (.invokevirtual 61, 3) := by decide +kernel
theorem dX4_setTrap_13 : decode cX4_setTrap 13 = .ok (.ifCond .eq 6, 3) := by decide +kernel
theorem dX4_setTrap_16 : decode cX4_setTrap 16 = .ok (.ldc 65, 2) := by decide +kernel
theorem dX4_setTrap_18 : decode cX4_setTrap 18 = .ok (.ireturn, 1) := by decide +kernel
theorem dX4_setTrap_19 : decode cX4_setTrap 19 = .ok (.iload_n 2, 1) := by decide +kernel
theorem dX4_setTrap_20 : decode cX4_setTrap 20 = .ok (.iconst 0, 1) := by decide +kernel
theorem dX4_setTrap_21 : decode cX4_setTrap 21 = .ok (.iconst 3, 1) := by decide +kernel
theorem dX4_setTrap_22 : decode cX4_setTrap 22 = .ok (.invokestatic 37, 3) := by decide +kernel
theorem dX4_setTrap_25 : decode cX4_setTrap 25 = .ok (.ifCond .eq 6, 3) := by decide +kernel
theorem dX4_setTrap_28 : decode cX4_setTrap 28 = .ok (.ldc 41, 2) := by decide +kernel
theorem dX4_setTrap_30 : decode cX4_setTrap 30 = .ok (.ireturn, 1) := by decide +kernel
theorem dX4_setTrap_31 : decode cX4_setTrap 31 = .ok (.aload_n 3, 1) := by decide +kernel
theorem dX4_setTrap_32 : decode cX4_setTrap 32 = .ok (.iload_n 1, 1) := by decide +kernel
theorem dX4_setTrap_33 : decode cX4_setTrap 33 = .ok (.bipush 6, 2) := by decide +kernel
theorem dX4_setTrap_35 : decode cX4_setTrap 35 = .ok (.invokevirtual 70, 3) := by decide +kernel
theorem dX4_setTrap_38 : decode cX4_setTrap 38 = .ok (.istore 4, 2) := by decide +kernel
theorem dX4_setTrap_40 : decode cX4_setTrap 40 = .ok (.iload 4, 2) := by decide +kernel
theorem dX4_setTrap_42 : decode cX4_setTrap 42 = .ok (.iload_n 2, 1) := by decide +kernel
theorem dX4_setTrap_43 : decode cX4_setTrap 43 = .ok (.if_icmp .ne 6, 3) := by decide +kernel
theorem dX4_setTrap_46 : decode cX4_setTrap 46 = .ok (.ldc 74, 2) := by decide +kernel
theorem dX4_setTrap_48 : decode cX4_setTrap 48 = .ok (.ireturn, 1) := by decide +kernel
theorem dX4_setTrap_49 : decode cX4_setTrap 49 = .ok (.aload_n 0, 1) := by decide +kernel
theorem dX4_setTrap_50 : decode cX4_setTrap 50 = .ok (.getfield 22, 3) := by decide +kernel
theorem dX4_setTrap_53 : decode cX4_setTrap 53 = .ok (.aload_n 0, 1) := by decide +kernel
theorem dX4_setTrap_54 : decode cX4_setTrap 54 = .ok (.getfield 12, 3) := by decide +kernel
theorem dX4_setTrap_57 : decode cX4_setTrap 57 = .ok (.invokevirtual 53, 3) := by decide +kernel
theorem dX4_setTrap_60 : decode cX4_setTrap 60 = .ok (.aload_n 3, 1) := by decide +kernel
theorem dX4_setTrap_61 : decode cX4_setTrap 61 = .ok (.iload_n 1, 1) := by decide +kernel
theorem dX4_setTrap_62 : decode cX4_setTrap 62 = .ok (.bipush 6, 2) := by decide +kernel
theorem dX4_setTrap_64 : decode cX4_setTrap 64 = .ok (.iload_n 2, 1) := by decide +kernel
theorem dX4_setTrap_65 : decode cX4_setTrap 65 = .ok (.invokevirtual 75, 3) := by decide +kernel
theorem dX4_setTrap_68 : decode cX4_setTrap 68 = .ok (.aload_n 3, 1) := by decide +kernel
theorem dX4_setTrap_69 : decode cX4_setTrap 69 = .ok (.iload_n 1, 1) := by decide +kernel
theorem dX4_setTrap_70 : decode cX4_setTrap 70 = .ok (.bipush 7, 2) := by decide +kernel
theorem dX4_setTrap_72 : decode cX4_setTrap 72 = .ok (.iconst 0, 1) := by decide +kernel
theorem dX4_setTrap_73 : decode cX4_setTrap 73 = .ok (.invokevirtual 75, 3) := by decide +kernel
theorem dX4_setTrap_76 : decode cX4_setTrap 76 = .ok (.iload 4, 2) := by decide +kernel
theorem dX4_setTrap_78 : decode cX4_setTrap 78 = .ok (.ireturn, 1) := by decide +kernel
def f_X4_setTrap (σ : Sg)  (p1 p2 : Int32) : Option (Int32 × Sg) := (f_X3_lacks σ 0 p1).bind fun r1 => if r1 = 0 then ((f_X4_outside σ p2 (0 : Int32) (3 : Int32)).bind fun r3 => if r3 = 0 then ((f_X3_cell σ 0 p1 (6 : Int32)).bind fun r5 => if r5 = p2 then (some ((-10000005 : Int32), σ)) else ((f_X0_push σ).bind fun σ7 => (f_X3_put σ7 0 p1 (6 : Int32) p2).bind fun σ8 => (f_X3_put σ8 0 p1 (7 : Int32) (0 : Int32)).bind fun σ9 => some (r5, σ9))) else (some ((-10000002 : Int32), σ))) else (some ((-10000001 : Int32), σ))
theorem okm_X4_setTrap : okm yX4_setTrap 2 = true := by decide +kernel
set_option maxHeartbeats 4000000 in
set_option maxRecDepth 100000 in
theorem c_X4_setTrap (l : Launch) (G : va_G) (cls : Cls) (ad : Nat → Nat) (hi : inj 49 ad) (σ : Sg)   (p1 p2 : Int32) : MT l (YX G cls ad) yX4_setTrap (.code yX4_setTrap cX4_setTrap 5 (some .int) :: gw) 4 90 [.ref (ad 25), .int p1, .int p2] fiS σ (f_X4_setTrap σ  p1 p2) := by
  refine MT.of (own := RX4) (by decide) (YX_D hi) rfl (Nat.le_of_ble_eq_true rfl) fun Γ _ hz0 hz1 hC => ?_
  show WX Γ (YX G cls ad) (qf Γ (YX G cls ad) fiS) 5 0 [(0, .ref (ad 25)), (1, .int p1), (2, .int p2)] [] σ (f_X4_setTrap σ  p1 p2)
  unfold f_X4_setTrap
  refine X_aload_n hC 0 rfl dX4_setTrap_0 ?_
  refine X_getf (C := RX4) (T := TX4) (N := 5) (ci := 4) hC 0 (wX (k := 25) (by omega) cX_vs) rfl hinX4 (by decide) tw_100 rfl rfl dX4_setTrap_1 ?_
  refine X_getf (C := RX2) (T := TX2) (N := 3) (ci := 2) hC 0 (wX (k := 19) (by omega) cX_now) rfl hinX2 (by decide) tw_47 rfl rfl dX4_setTrap_4 ?_
  refine X_astore_n (ls' := [(3, .ref (ad 0)), (0, .ref (ad 25)), (1, .int p1), (2, .int p2)]) hC dX4_setTrap_7 (by decide) rfl ?_
  refine X_aload_n hC 0 rfl dX4_setTrap_8 ?_
  refine X_iload_n hC 2 rfl dX4_setTrap_9 ?_
  refine X_callP (C := RX3) (T := TX3) (N := 4) (ci := 3) (rest := []) hC (c_X3_lacks _ G cls ad hi σ 0 (by omega) p1) (gV tw_318 tw_137 tw_138 tw_3 tw_139) rfl (wX (k := 0) (by omega) (cX_tab (by omega))) rfl rfl okm_X3_lacks (by decide) dX4_setTrap_10 rfl (Nat.le_of_ble_eq_true rfl) (fun r1 => ?_)
  refine X_if_eq hC 19 dX4_setTrap_13 (by decide) (fun h2 => ?_) (fun h2 => ?_)
  · refine X_iload_n hC 3 rfl dX4_setTrap_19 ?_
    refine X_iconst (v := 0) hC (by decide) dX4_setTrap_20 ?_
    refine X_iconst (v := 3) hC (by decide) dX4_setTrap_21 ?_
    refine X_statP (rest := []) hC (c_X4_outside _ G cls ad hi σ p2 (0 : Int32) (3 : Int32)) (gSt tw_321 tw_246 tw_1 tw_247) rfl okm_X4_outside (by decide) dX4_setTrap_22 rfl (Nat.le_of_ble_eq_true rfl) (fun r3 => ?_)
    refine X_if_eq hC 31 dX4_setTrap_25 (by decide) (fun h4 => ?_) (fun h4 => ?_)
    · refine X_aload_n hC 0 rfl dX4_setTrap_31 ?_
      refine X_iload_n hC 2 rfl dX4_setTrap_32 ?_
      refine X_bipush (v := 6) hC (by decide) dX4_setTrap_33 ?_
      refine X_callP (C := RX3) (T := TX3) (N := 4) (ci := 3) (rest := []) hC (c_X3_cell _ G cls ad hi σ 0 (by omega) p1 (6 : Int32)) (gV tw_255 tw_133 tw_134 tw_3 tw_135) rfl (wX (k := 0) (by omega) (cX_tab (by omega))) rfl rfl okm_X3_cell (by decide) dX4_setTrap_35 rfl (Nat.le_of_ble_eq_true rfl) (fun r5 => ?_)
      refine X_istore (ls' := [(4, .int r5), (3, .ref (ad 0)), (0, .ref (ad 25)), (1, .int p1), (2, .int p2)]) hC dX4_setTrap_38 (by decide) rfl ?_
      refine X_iload hC 0 rfl dX4_setTrap_40 ?_
      refine X_iload_n hC 4 rfl dX4_setTrap_42 ?_
      refine X_icmp_ne hC 49 dX4_setTrap_43 (by decide) (fun h6 => ?_) (fun h6 => ?_)
      · refine X_aload_n hC 2 rfl dX4_setTrap_49 ?_
        refine X_getf (C := RX4) (T := TX4) (N := 5) (ci := 4) hC 2 (wX (k := 25) (by omega) cX_vs) rfl hinX4 (by decide) tw_102 rfl rfl dX4_setTrap_50 ?_
        refine X_aload_n hC 2 rfl dX4_setTrap_53 ?_
        refine X_getf (C := RX4) (T := TX4) (N := 5) (ci := 4) hC 0 (wX (k := 25) (by omega) cX_vs) rfl hinX4 (by decide) tw_100 rfl rfl dX4_setTrap_54 ?_
        refine X_callV (C := RX0) (T := TX0) (N := 3) (ci := 0) (rest := []) hC (c_X0_push _ G cls ad hi σ) (gV tw_150 tw_151 tw_152 tw_5 tw_153) rfl (wX (k := 26) (by omega) cX_hi) rfl rfl okm_X0_push (by decide) dX4_setTrap_57 rfl (Nat.le_of_ble_eq_true rfl) (fun σ7 => ?_)
        refine X_aload_n hC 1 rfl dX4_setTrap_60 ?_
        refine X_iload_n hC 3 rfl dX4_setTrap_61 ?_
        refine X_bipush (v := 6) hC (by decide) dX4_setTrap_62 ?_
        refine X_iload_n hC 4 rfl dX4_setTrap_64 ?_
        refine X_callV (C := RX3) (T := TX3) (N := 4) (ci := 3) (rest := []) hC (c_X3_put _ G cls ad hi σ7 0 (by omega) p1 (6 : Int32) p2) (gV tw_448 tw_181 tw_182 tw_3 tw_183) rfl (wX (k := 0) (by omega) (cX_tab (by omega))) rfl rfl okm_X3_put (by decide) dX4_setTrap_65 rfl (Nat.le_of_ble_eq_true rfl) (fun σ8 => ?_)
        refine X_aload_n hC 1 rfl dX4_setTrap_68 ?_
        refine X_iload_n hC 3 rfl dX4_setTrap_69 ?_
        refine X_bipush (v := 7) hC (by decide) dX4_setTrap_70 ?_
        refine X_iconst (v := 0) hC (by decide) dX4_setTrap_72 ?_
        refine X_callV (C := RX3) (T := TX3) (N := 4) (ci := 3) (rest := []) hC (c_X3_put _ G cls ad hi σ8 0 (by omega) p1 (7 : Int32) (0 : Int32)) (gV tw_448 tw_181 tw_182 tw_3 tw_183) rfl (wX (k := 0) (by omega) (cX_tab (by omega))) rfl rfl okm_X3_put (by decide) dX4_setTrap_73 rfl (Nat.le_of_ble_eq_true rfl) (fun σ9 => ?_)
        refine X_iload hC 0 rfl dX4_setTrap_76 ?_
        exact X_iret hC hz0 hz1 dX4_setTrap_78 rfl
      · refine X_ldc (v := -10000005) hC tw_149 dX4_setTrap_46 ?_
        exact X_iret hC hz0 hz1 dX4_setTrap_48 rfl
    · refine X_ldc (v := -10000002) hC tw_322 dX4_setTrap_28 ?_
      exact X_iret hC hz0 hz1 dX4_setTrap_30 rfl
  · refine X_ldc (v := -10000001) hC tw_319 dX4_setTrap_16 ?_
    exact X_iret hC hz0 hz1 dX4_setTrap_18 rfl
theorem dX4_announce_0 : decode cX4_announce 0 = .ok (.aload_n 0, 1) := by decide +kernel
theorem dX4_announce_1 : decode cX4_announce 1 = .ok (.getfield 12, 3) := by decide +kernel
theorem dX4_announce_4 : decode cX4_announce 4 = .ok (.getfield 42, 3) := by decide +kernel
theorem dX4_announce_7 : decode cX4_announce 7 = .ok (.astore_n 2, 1) := by decide +kernel
theorem dX4_announce_8 : decode cX4_announce 8 = .ok (.aload_n 2, 1) := by decide +kernel
theorem dX4_announce_9 : decode cX4_announce 9 = .ok (.iload_n 1, 1) := by decide +kernel
theorem dX4_announce_10 : decode cX4_announce 10 = .ok (.invokevirtual 61, 3) := by decide +kernel
theorem dX4_announce_13 : decode cX4_announce 13 = .ok (.ifCond .eq 6, 3) := by decide +kernel
theorem dX4_announce_16 : decode cX4_announce 16 = .ok (.ldc 65, 2) := by decide +kernel
theorem dX4_announce_18 : decode cX4_announce 18 = .ok (.ireturn, 1) := by decide +kernel
theorem dX4_announce_19 : decode cX4_announce 19 = .ok (.aload_n 2, 1) := by decide +kernel
theorem dX4_announce_20 : decode cX4_announce 20 = .ok (.iload_n 1, 1) := by decide +kernel
theorem dX4_announce_21 : decode cX4_announce 21 = .ok (.bipush 6, 2) := by decide +kernel
theorem dX4_announce_23 : decode cX4_announce 23 = .ok (.invokevirtual 70, 3) := by decide +kernel
theorem dX4_announce_26 : decode cX4_announce 26 = .ok (.istore_n 3, 1) := by decide +kernel
theorem dX4_announce_27 : decode cX4_announce 27 = .ok (.iload_n 3, 1) := by decide +kernel
theorem dX4_announce_28 : decode cX4_announce 28 = .ok (.ifCond .ne 6, 3) := by decide +kernel
theorem dX4_announce_31 : decode cX4_announce 31 = .ok (.ldc 79, 2) := by decide +kernel
theorem dX4_announce_33 : decode cX4_announce 33 = .ok (.ireturn, 1) := by decide +kernel
theorem dX4_announce_34 : decode cX4_announce 34 = .ok (.aload_n 2, 1) := by decide +kernel
theorem dX4_announce_35 : decode cX4_announce 35 = .ok (.iload_n 1, 1) := by decide +kernel
theorem dX4_announce_36 : decode cX4_announce 36 = .ok (.bipush 7, 2) := by decide +kernel
theorem dX4_announce_38 : decode cX4_announce 38 = .ok (.invokevirtual 70, 3) := by decide +kernel
theorem dX4_announce_41 : decode cX4_announce 41 = .ok (.ifCond .eq 6, 3) := by decide +kernel
theorem dX4_announce_44 : decode cX4_announce 44 = .ok (.ldc 74, 2) := by decide +kernel
theorem dX4_announce_46 : decode cX4_announce 46 = .ok (.ireturn, 1) := by decide +kernel
theorem dX4_announce_47 : decode cX4_announce 47 = .ok (.aload_n 0, 1) := by decide +kernel
theorem dX4_announce_48 : decode cX4_announce 48 = .ok (.getfield 22, 3) := by decide +kernel
theorem dX4_announce_51 : decode cX4_announce 51 = .ok (.aload_n 0, 1) := by decide +kernel
theorem dX4_announce_52 : decode cX4_announce 52 = .ok (.getfield 12, 3) := by decide +kernel
theorem dX4_announce_55 : decode cX4_announce 55 = .ok (.invokevirtual 53, 3) := by decide +kernel
theorem dX4_announce_58 : decode cX4_announce 58 = .ok (.aload_n 2, 1) := by decide +kernel
theorem dX4_announce_59 : decode cX4_announce 59 = .ok (.iload_n 1, 1) := by decide +kernel
theorem dX4_announce_60 : decode cX4_announce 60 = .ok (.bipush 7, 2) := by decide +kernel
theorem dX4_announce_62 : decode cX4_announce 62 = .ok (.iconst 1, 1) := by decide +kernel
theorem dX4_announce_63 : decode cX4_announce 63 = .ok (.invokevirtual 75, 3) := by decide +kernel
theorem dX4_announce_66 : decode cX4_announce 66 = .ok (.aload_n 0, 1) := by decide +kernel
theorem dX4_announce_67 : decode cX4_announce 67 = .ok (.getfield 12, 3) := by decide +kernel
theorem dX4_announce_70 : decode cX4_announce 70 = .ok (.iload_n 3, 1) := by decide +kernel
theorem dX4_announce_71 : decode cX4_announce 71 = .ok (.invokevirtual 80, 3) := by decide +kernel
theorem dX4_announce_74 : decode cX4_announce 74 = .ok (.ireturn, 1) := by decide +kernel
def f_X4_announce (σ : Sg)  (p1 : Int32) : Option (Int32 × Sg) := (f_X3_lacks σ 0 p1).bind fun r1 => if r1 = 0 then ((f_X3_cell σ 0 p1 (6 : Int32)).bind fun r3 => if r3 = 0 then (some ((-10000004 : Int32), σ)) else ((f_X3_cell σ 0 p1 (7 : Int32)).bind fun r5 => if r5 = 0 then ((f_X0_push σ).bind fun σ7 => (f_X3_put σ7 0 p1 (7 : Int32) (1 : Int32)).bind fun σ8 => (f_X2_tellAll σ8 r3).bind fun q11 => lts q11.2 fun σ10 => lt q11.1 fun r9 => some (r9, σ10)) else (some ((-10000005 : Int32), σ)))) else (some ((-10000001 : Int32), σ))
theorem okm_X4_announce : okm yX4_announce 1 = true := by decide +kernel
set_option maxHeartbeats 4000000 in
set_option maxRecDepth 100000 in
theorem c_X4_announce (l : Launch) (G : va_G) (cls : Cls) (ad : Nat → Nat) (hi : inj 49 ad) (σ : Sg)   (p1 : Int32) : MT l (YX G cls ad) yX4_announce (.code yX4_announce cX4_announce 4 (some .int) :: gw) 4 90 [.ref (ad 25), .int p1] fiS σ (f_X4_announce σ  p1) := by
  refine MT.of (own := RX4) (by decide) (YX_D hi) rfl (Nat.le_of_ble_eq_true rfl) fun Γ _ hz0 hz1 hC => ?_
  show WX Γ (YX G cls ad) (qf Γ (YX G cls ad) fiS) 4 0 [(0, .ref (ad 25)), (1, .int p1)] [] σ (f_X4_announce σ  p1)
  unfold f_X4_announce
  refine X_aload_n hC 0 rfl dX4_announce_0 ?_
  refine X_getf (C := RX4) (T := TX4) (N := 5) (ci := 4) hC 0 (wX (k := 25) (by omega) cX_vs) rfl hinX4 (by decide) tw_100 rfl rfl dX4_announce_1 ?_
  refine X_getf (C := RX2) (T := TX2) (N := 3) (ci := 2) hC 0 (wX (k := 19) (by omega) cX_now) rfl hinX2 (by decide) tw_47 rfl rfl dX4_announce_4 ?_
  refine X_astore_n (ls' := [(2, .ref (ad 0)), (0, .ref (ad 25)), (1, .int p1)]) hC dX4_announce_7 (by decide) rfl ?_
  refine X_aload_n hC 0 rfl dX4_announce_8 ?_
  refine X_iload_n hC 2 rfl dX4_announce_9 ?_
  refine X_callP (C := RX3) (T := TX3) (N := 4) (ci := 3) (rest := []) hC (c_X3_lacks _ G cls ad hi σ 0 (by omega) p1) (gV tw_318 tw_137 tw_138 tw_3 tw_139) rfl (wX (k := 0) (by omega) (cX_tab (by omega))) rfl rfl okm_X3_lacks (by decide) dX4_announce_10 rfl (Nat.le_of_ble_eq_true rfl) (fun r1 => ?_)
  refine X_if_eq hC 19 dX4_announce_13 (by decide) (fun h2 => ?_) (fun h2 => ?_)
  · refine X_aload_n hC 0 rfl dX4_announce_19 ?_
    refine X_iload_n hC 2 rfl dX4_announce_20 ?_
    refine X_bipush (v := 6) hC (by decide) dX4_announce_21 ?_
    refine X_callP (C := RX3) (T := TX3) (N := 4) (ci := 3) (rest := []) hC (c_X3_cell _ G cls ad hi σ 0 (by omega) p1 (6 : Int32)) (gV tw_255 tw_133 tw_134 tw_3 tw_135) rfl (wX (k := 0) (by omega) (cX_tab (by omega))) rfl rfl okm_X3_cell (by decide) dX4_announce_23 rfl (Nat.le_of_ble_eq_true rfl) (fun r3 => ?_)
    refine X_istore_n (ls' := [(3, .int r3), (2, .ref (ad 0)), (0, .ref (ad 25)), (1, .int p1)]) hC dX4_announce_26 (by decide) rfl ?_
    refine X_iload_n hC 0 rfl dX4_announce_27 ?_
    refine X_if_ne hC 34 dX4_announce_28 (by decide) (fun h4 => ?_) (fun h4 => ?_)
    · refine X_aload_n hC 1 rfl dX4_announce_34 ?_
      refine X_iload_n hC 3 rfl dX4_announce_35 ?_
      refine X_bipush (v := 7) hC (by decide) dX4_announce_36 ?_
      refine X_callP (C := RX3) (T := TX3) (N := 4) (ci := 3) (rest := []) hC (c_X3_cell _ G cls ad hi σ 0 (by omega) p1 (7 : Int32)) (gV tw_255 tw_133 tw_134 tw_3 tw_135) rfl (wX (k := 0) (by omega) (cX_tab (by omega))) rfl rfl okm_X3_cell (by decide) dX4_announce_38 rfl (Nat.le_of_ble_eq_true rfl) (fun r5 => ?_)
      refine X_if_eq hC 47 dX4_announce_41 (by decide) (fun h6 => ?_) (fun h6 => ?_)
      · refine X_aload_n hC 2 rfl dX4_announce_47 ?_
        refine X_getf (C := RX4) (T := TX4) (N := 5) (ci := 4) hC 2 (wX (k := 25) (by omega) cX_vs) rfl hinX4 (by decide) tw_102 rfl rfl dX4_announce_48 ?_
        refine X_aload_n hC 2 rfl dX4_announce_51 ?_
        refine X_getf (C := RX4) (T := TX4) (N := 5) (ci := 4) hC 0 (wX (k := 25) (by omega) cX_vs) rfl hinX4 (by decide) tw_100 rfl rfl dX4_announce_52 ?_
        refine X_callV (C := RX0) (T := TX0) (N := 3) (ci := 0) (rest := []) hC (c_X0_push _ G cls ad hi σ) (gV tw_150 tw_151 tw_152 tw_5 tw_153) rfl (wX (k := 26) (by omega) cX_hi) rfl rfl okm_X0_push (by decide) dX4_announce_55 rfl (Nat.le_of_ble_eq_true rfl) (fun σ7 => ?_)
        refine X_aload_n hC 1 rfl dX4_announce_58 ?_
        refine X_iload_n hC 3 rfl dX4_announce_59 ?_
        refine X_bipush (v := 7) hC (by decide) dX4_announce_60 ?_
        refine X_iconst (v := 1) hC (by decide) dX4_announce_62 ?_
        refine X_callV (C := RX3) (T := TX3) (N := 4) (ci := 3) (rest := []) hC (c_X3_put _ G cls ad hi σ7 0 (by omega) p1 (7 : Int32) (1 : Int32)) (gV tw_448 tw_181 tw_182 tw_3 tw_183) rfl (wX (k := 0) (by omega) (cX_tab (by omega))) rfl rfl okm_X3_put (by decide) dX4_announce_63 rfl (Nat.le_of_ble_eq_true rfl) (fun σ8 => ?_)
        refine X_aload_n hC 2 rfl dX4_announce_66 ?_
        refine X_getf (C := RX4) (T := TX4) (N := 5) (ci := 4) hC 0 (wX (k := 25) (by omega) cX_vs) rfl hinX4 (by decide) tw_100 rfl rfl dX4_announce_67 ?_
        refine X_iload_n hC 0 rfl dX4_announce_70 ?_
        refine X_callS (C := RX2) (T := TX2) (N := 3) (ci := 2) (rest := []) hC (c_X2_tellAll _ G cls ad hi σ8 r3) (gV tw_458 tw_459 tw_460 tw_2 tw_461) rfl (wX (k := 19) (by omega) cX_now) rfl rfl okm_X2_tellAll (by decide) dX4_announce_71 rfl (Nat.le_of_ble_eq_true rfl) (fun q11 => X_lts fun σ10 => X_lt fun r9 => ?_)
        exact X_iret hC hz0 hz1 dX4_announce_74 rfl
      · refine X_ldc (v := -10000005) hC tw_149 dX4_announce_44 ?_
        exact X_iret hC hz0 hz1 dX4_announce_46 rfl
    · refine X_ldc (v := -10000004) hC tw_457 dX4_announce_31 ?_
      exact X_iret hC hz0 hz1 dX4_announce_33 rfl
  · refine X_ldc (v := -10000001) hC tw_319 dX4_announce_16 ?_
    exact X_iret hC hz0 hz1 dX4_announce_18 rfl
theorem dX4_addPupil_0 : decode cX4_addPupil 0 = .ok (.iload_n 1, 1) := by decide +kernel
theorem dX4_addPupil_1 : decode cX4_addPupil 1 = .ok (.bipush (-50), 2) := by decide +kernel
theorem dX4_addPupil_3 : decode cX4_addPupil 3 = .ok (.bipush 50, 2) := by decide +kernel
theorem dX4_addPupil_5 : decode cX4_addPupil 5 = .ok (.invokestatic 37, 3) := by decide +kernel
theorem dX4_addPupil_8 : decode cX4_addPupil 8 = .ok (.ifCond .ne 13, 3) := by decide +kernel
theorem dX4_addPupil_11 : decode cX4_addPupil 11 = .ok (.iload_n 2, 1) := by decide +kernel
theorem dX4_addPupil_12 : decode cX4_addPupil 12 = .ok (.iconst 0, 1) := by decide +kernel
theorem dX4_addPupil_13 : decode cX4_addPupil 13 = .ok (.bipush 15, 2) := by decide +kernel
theorem dX4_addPupil_15 : decode cX4_addPupil 15 = .ok (.invokestatic 37, 3) := by decide +kernel
theorem dX4_addPupil_18 : decode cX4_addPupil 18 = .ok (.ifCond .eq 6, 3) := by decide +kernel
theorem dX4_addPupil_21 : decode cX4_addPupil 21 = .ok (.ldc 41, 2) := by decide +kernel
theorem dX4_addPupil_23 : decode cX4_addPupil 23 = .ok (.ireturn, 1) := by decide +kernel
theorem dX4_addPupil_24 : decode cX4_addPupil 24 = .ok (.aload_n 0, 1) := by decide +kernel
theorem dX4_addPupil_25 : decode cX4_addPupil 25 = .ok (.getfield 12, 3) := by decide +kernel
theorem dX4_addPupil_28 : decode cX4_addPupil 28 = .ok (.getfield 83, 3) := by decide +kernel
theorem dX4_addPupil_31 : decode cX4_addPupil 31 = .ok (.invokevirtual 46, 3) := by decide +kernel
theorem dX4_addPupil_34 : decode cX4_addPupil 34 = .ok (.ifCond .eq 6, 3) := by decide +kernel
theorem dX4_addPupil_37 : decode cX4_addPupil 37 = .ok (.ldc 52, 2) := by decide +kernel
theorem dX4_addPupil_39 : decode cX4_addPupil 39 = .ok (.ireturn, 1) := by decide +kernel
theorem dX4_addPupil_40 : decode cX4_addPupil 40 = .ok (.aload_n 0, 1) := by decide +kernel
theorem dX4_addPupil_41 : decode cX4_addPupil 41 = .ok (.getfield 22, 3) := by decide +kernel
theorem dX4_addPupil_44 : decode cX4_addPupil 44 = .ok (.aload_n 0, 1) := by decide +kernel
theorem dX4_addPupil_45 : decode cX4_addPupil 45 = .ok (.getfield 12, 3) := by decide +kernel
theorem dX4_addPupil_48 : decode cX4_addPupil 48 = .ok (.invokevirtual 53, 3) := by decide +kernel
theorem dX4_addPupil_51 : decode cX4_addPupil 51 = .ok (.aload_n 0, 1) := by decide +kernel
theorem dX4_addPupil_52 : decode cX4_addPupil 52 = .ok (.getfield 12, 3) := by decide +kernel
theorem dX4_addPupil_55 : decode cX4_addPupil 55 = .ok (.getfield 83, 3) := by decide +kernel
theorem dX4_addPupil_58 : decode cX4_addPupil 58 = .ok (.invokevirtual 86, 3) := by decide +kernel
theorem dX4_addPupil_61 : decode cX4_addPupil 61 = .ok (.istore_n 3, 1) := by decide +kernel
theorem dX4_addPupil_62 : decode cX4_addPupil 62 = .ok (.aload_n 0, 1) := by decide +kernel
theorem dX4_addPupil_63 : decode cX4_addPupil 63 = .ok (.getfield 12, 3) := by decide +kernel
theorem dX4_addPupil_66 : decode cX4_addPupil 66 = .ok (.getfield 83, 3) := by decide +kernel
theorem dX4_addPupil_69 : decode cX4_addPupil 69 = .ok (.iload_n 3, 1) := by decide +kernel
theorem dX4_addPupil_70 : decode cX4_addPupil 70 = .ok (.iconst 0, 1) := by decide +kernel
theorem dX4_addPupil_71 : decode cX4_addPupil 71 = .ok (.iload_n 1, 1) := by decide +kernel
theorem dX4_addPupil_72 : decode cX4_addPupil 72 = .ok (.invokevirtual 75, 3) := by decide +kernel
theorem dX4_addPupil_75 : decode cX4_addPupil 75 = .ok (.aload_n 0, 1) := by decide +kernel
theorem dX4_addPupil_76 : decode cX4_addPupil 76 = .ok (.getfield 12, 3) := by decide +kernel
theorem dX4_addPupil_79 : decode cX4_addPupil 79 = .ok (.getfield 83, 3) := by decide +kernel
theorem dX4_addPupil_82 : decode cX4_addPupil 82 = .ok (.iload_n 3, 1) := by decide +kernel
theorem dX4_addPupil_83 : decode cX4_addPupil 83 = .ok (.iconst 1, 1) := by decide +kernel
theorem dX4_addPupil_84 : decode cX4_addPupil 84 = .ok (.iload_n 2, 1) := by decide +kernel
theorem dX4_addPupil_85 : decode cX4_addPupil 85 = .ok (.invokevirtual 75, 3) := by decide +kernel
theorem dX4_addPupil_88 : decode cX4_addPupil 88 = .ok (.iload_n 3, 1) := by decide +kernel
theorem dX4_addPupil_89 : decode cX4_addPupil 89 = .ok (.ireturn, 1) := by decide +kernel
def f_X4_addPupil (σ : Sg)  (p1 p2 : Int32) : Option (Int32 × Sg) := (f_X4_outside σ p1 (-50 : Int32) (50 : Int32)).bind fun r1 => if r1 = 0 then ((f_X4_outside σ p2 (0 : Int32) (15 : Int32)).bind fun r3 => if r3 = 0 then ((f_X3_isFull σ 1).bind fun r5 => if r5 = 0 then ((f_X0_push σ).bind fun σ7 => (f_X3_newRow σ7 1).bind fun q12 => lts q12.2 fun σ9 => lt q12.1 fun r8 => (f_X3_put σ9 1 r8 (0 : Int32) p1).bind fun σ10 => (f_X3_put σ10 1 r8 (1 : Int32) p2).bind fun σ11 => some (r8, σ11)) else (some ((-10000003 : Int32), σ))) else (some ((-10000002 : Int32), σ))) else (some ((-10000002 : Int32), σ))
theorem okm_X4_addPupil : okm yX4_addPupil 2 = true := by decide +kernel
set_option maxHeartbeats 4000000 in
set_option maxRecDepth 100000 in
theorem c_X4_addPupil (l : Launch) (G : va_G) (cls : Cls) (ad : Nat → Nat) (hi : inj 49 ad) (σ : Sg)   (p1 p2 : Int32) : MT l (YX G cls ad) yX4_addPupil (.code yX4_addPupil cX4_addPupil 4 (some .int) :: gw) 4 90 [.ref (ad 25), .int p1, .int p2] fiS σ (f_X4_addPupil σ  p1 p2) := by
  refine MT.of (own := RX4) (by decide) (YX_D hi) rfl (Nat.le_of_ble_eq_true rfl) fun Γ _ hz0 hz1 hC => ?_
  show WX Γ (YX G cls ad) (qf Γ (YX G cls ad) fiS) 4 0 [(0, .ref (ad 25)), (1, .int p1), (2, .int p2)] [] σ (f_X4_addPupil σ  p1 p2)
  unfold f_X4_addPupil
  refine X_iload_n hC 1 rfl dX4_addPupil_0 ?_
  refine X_bipush (v := -50) hC (by decide) dX4_addPupil_1 ?_
  refine X_bipush (v := 50) hC (by decide) dX4_addPupil_3 ?_
  refine X_statP (rest := []) hC (c_X4_outside _ G cls ad hi σ p1 (-50 : Int32) (50 : Int32)) (gSt tw_321 tw_246 tw_1 tw_247) rfl okm_X4_outside (by decide) dX4_addPupil_5 rfl (Nat.le_of_ble_eq_true rfl) (fun r1 => ?_)
  refine X_if_ne hC 21 dX4_addPupil_8 (by decide) (fun h2 => ?_) (fun h2 => ?_)
  · refine X_ldc (v := -10000002) hC tw_322 dX4_addPupil_21 ?_
    exact X_iret hC hz0 hz1 dX4_addPupil_23 rfl
  · refine X_iload_n hC 2 rfl dX4_addPupil_11 ?_
    refine X_iconst (v := 0) hC (by decide) dX4_addPupil_12 ?_
    refine X_bipush (v := 15) hC (by decide) dX4_addPupil_13 ?_
    refine X_statP (rest := []) hC (c_X4_outside _ G cls ad hi σ p2 (0 : Int32) (15 : Int32)) (gSt tw_321 tw_246 tw_1 tw_247) rfl okm_X4_outside (by decide) dX4_addPupil_15 rfl (Nat.le_of_ble_eq_true rfl) (fun r3 => ?_)
    refine X_if_eq hC 24 dX4_addPupil_18 (by decide) (fun h4 => ?_) (fun h4 => ?_)
    · refine X_aload_n hC 0 rfl dX4_addPupil_24 ?_
      refine X_getf (C := RX4) (T := TX4) (N := 5) (ci := 4) hC 0 (wX (k := 25) (by omega) cX_vs) rfl hinX4 (by decide) tw_100 rfl rfl dX4_addPupil_25 ?_
      refine X_getf (C := RX2) (T := TX2) (N := 3) (ci := 2) hC 1 (wX (k := 19) (by omega) cX_now) rfl hinX2 (by decide) tw_49 rfl rfl dX4_addPupil_28 ?_
      refine X_callP (C := RX3) (T := TX3) (N := 4) (ci := 3) (rest := []) hC (c_X3_isFull _ G cls ad hi σ 1 (by omega)) (gV tw_437 tw_211 tw_212 tw_3 tw_213) rfl (wX (k := 1) (by omega) (cX_tab (by omega))) rfl rfl okm_X3_isFull (by decide) dX4_addPupil_31 rfl (Nat.le_of_ble_eq_true rfl) (fun r5 => ?_)
      refine X_if_eq hC 40 dX4_addPupil_34 (by decide) (fun h6 => ?_) (fun h6 => ?_)
      · refine X_aload_n hC 0 rfl dX4_addPupil_40 ?_
        refine X_getf (C := RX4) (T := TX4) (N := 5) (ci := 4) hC 2 (wX (k := 25) (by omega) cX_vs) rfl hinX4 (by decide) tw_102 rfl rfl dX4_addPupil_41 ?_
        refine X_aload_n hC 0 rfl dX4_addPupil_44 ?_
        refine X_getf (C := RX4) (T := TX4) (N := 5) (ci := 4) hC 0 (wX (k := 25) (by omega) cX_vs) rfl hinX4 (by decide) tw_100 rfl rfl dX4_addPupil_45 ?_
        refine X_callV (C := RX0) (T := TX0) (N := 3) (ci := 0) (rest := []) hC (c_X0_push _ G cls ad hi σ) (gV tw_150 tw_151 tw_152 tw_5 tw_153) rfl (wX (k := 26) (by omega) cX_hi) rfl rfl okm_X0_push (by decide) dX4_addPupil_48 rfl (Nat.le_of_ble_eq_true rfl) (fun σ7 => ?_)
        refine X_aload_n hC 0 rfl dX4_addPupil_51 ?_
        refine X_getf (C := RX4) (T := TX4) (N := 5) (ci := 4) hC 0 (wX (k := 25) (by omega) cX_vs) rfl hinX4 (by decide) tw_100 rfl rfl dX4_addPupil_52 ?_
        refine X_getf (C := RX2) (T := TX2) (N := 3) (ci := 2) hC 1 (wX (k := 19) (by omega) cX_now) rfl hinX2 (by decide) tw_49 rfl rfl dX4_addPupil_55 ?_
        refine X_callS (C := RX3) (T := TX3) (N := 4) (ci := 3) (rest := []) hC (c_X3_newRow _ G cls ad hi σ7 1 (by omega)) (gV tw_470 tw_207 tw_208 tw_3 tw_209) rfl (wX (k := 1) (by omega) (cX_tab (by omega))) rfl rfl okm_X3_newRow (by decide) dX4_addPupil_58 rfl (Nat.le_of_ble_eq_true rfl) (fun q12 => X_lts fun σ9 => X_lt fun r8 => ?_)
        refine X_istore_n (ls' := [(3, .int r8), (0, .ref (ad 25)), (1, .int p1), (2, .int p2)]) hC dX4_addPupil_61 (by decide) rfl ?_
        refine X_aload_n hC 1 rfl dX4_addPupil_62 ?_
        refine X_getf (C := RX4) (T := TX4) (N := 5) (ci := 4) hC 0 (wX (k := 25) (by omega) cX_vs) rfl hinX4 (by decide) tw_100 rfl rfl dX4_addPupil_63 ?_
        refine X_getf (C := RX2) (T := TX2) (N := 3) (ci := 2) hC 1 (wX (k := 19) (by omega) cX_now) rfl hinX2 (by decide) tw_49 rfl rfl dX4_addPupil_66 ?_
        refine X_iload_n hC 0 rfl dX4_addPupil_69 ?_
        refine X_iconst (v := 0) hC (by decide) dX4_addPupil_70 ?_
        refine X_iload_n hC 2 rfl dX4_addPupil_71 ?_
        refine X_callV (C := RX3) (T := TX3) (N := 4) (ci := 3) (rest := []) hC (c_X3_put _ G cls ad hi σ9 1 (by omega) r8 (0 : Int32) p1) (gV tw_448 tw_181 tw_182 tw_3 tw_183) rfl (wX (k := 1) (by omega) (cX_tab (by omega))) rfl rfl okm_X3_put (by decide) dX4_addPupil_72 rfl (Nat.le_of_ble_eq_true rfl) (fun σ10 => ?_)
        refine X_aload_n hC 1 rfl dX4_addPupil_75 ?_
        refine X_getf (C := RX4) (T := TX4) (N := 5) (ci := 4) hC 0 (wX (k := 25) (by omega) cX_vs) rfl hinX4 (by decide) tw_100 rfl rfl dX4_addPupil_76 ?_
        refine X_getf (C := RX2) (T := TX2) (N := 3) (ci := 2) hC 1 (wX (k := 19) (by omega) cX_now) rfl hinX2 (by decide) tw_49 rfl rfl dX4_addPupil_79 ?_
        refine X_iload_n hC 0 rfl dX4_addPupil_82 ?_
        refine X_iconst (v := 1) hC (by decide) dX4_addPupil_83 ?_
        refine X_iload_n hC 3 rfl dX4_addPupil_84 ?_
        refine X_callV (C := RX3) (T := TX3) (N := 4) (ci := 3) (rest := []) hC (c_X3_put _ G cls ad hi σ10 1 (by omega) r8 (1 : Int32) p2) (gV tw_448 tw_181 tw_182 tw_3 tw_183) rfl (wX (k := 1) (by omega) (cX_tab (by omega))) rfl rfl okm_X3_put (by decide) dX4_addPupil_85 rfl (Nat.le_of_ble_eq_true rfl) (fun σ11 => ?_)
        refine X_iload_n hC 0 rfl dX4_addPupil_88 ?_
        exact X_iret hC hz0 hz1 dX4_addPupil_89 rfl
      · refine X_ldc (v := -10000003) hC tw_438 dX4_addPupil_37 ?_
        exact X_iret hC hz0 hz1 dX4_addPupil_39 rfl
    · refine X_ldc (v := -10000002) hC tw_322 dX4_addPupil_21 ?_
      exact X_iret hC hz0 hz1 dX4_addPupil_23 rfl
theorem dX4_teach_0 : decode cX4_teach 0 = .ok (.aload_n 0, 1) := by decide +kernel
theorem dX4_teach_1 : decode cX4_teach 1 = .ok (.getfield 12, 3) := by decide +kernel
theorem dX4_teach_4 : decode cX4_teach 4 = .ok (.getfield 83, 3) := by decide +kernel
theorem dX4_teach_7 : decode cX4_teach 7 = .ok (.iload_n 1, 1) := by decide +kernel
theorem dX4_teach_8 : decode cX4_teach 8 = .ok (.invokevirtual 61, 3) := by decide +kernel
theorem dX4_teach_11 : decode cX4_teach 11 = .ok (.ifCond .eq 6, 3) := by decide +kernel
theorem dX4_teach_14 : decode cX4_teach 14 = .ok (.ldc 65, 2) := by decide +kernel
theorem dX4_teach_16 : decode cX4_teach 16 = .ok (.ireturn, 1) := by decide +kernel
theorem dX4_teach_17 : decode cX4_teach 17 = .ok (.iload_n 2, 1) := by decide +kernel
theorem dX4_teach_18 : decode cX4_teach 18 = .ok (.iconst 1, 1) := by decide +kernel
theorem dX4_teach_19 : decode cX4_teach 19 = .ok (.iconst 3, 1) := by decide +kernel
theorem dX4_teach_20 : decode cX4_teach 20 = .ok (.invokestatic 37, 3) := by decide +kernel
theorem dX4_teach_23 : decode cX4_teach 23 = .ok (.ifCond .eq 6, 3) := by decide +kernel
theorem dX4_teach_26 : decode cX4_teach 26 = .ok (.ldc 41, 2) := by decide +kernel
theorem dX4_teach_28 : decode cX4_teach 28 = .ok (.ireturn, 1) := by decide +kernel
theorem dX4_teach_29 : decode cX4_teach 29 = .ok (.aload_n 0, 1) := by decide +kernel
theorem dX4_teach_30 : decode cX4_teach 30 = .ok (.getfield 12, 3) := by decide +kernel
theorem dX4_teach_33 : decode cX4_teach 33 = .ok (.getfield 83, 3) := by decide +kernel
theorem dX4_teach_36 : decode cX4_teach 36 = .ok (.iload_n 1, 1) := by decide +kernel
theorem dX4_teach_37 : decode cX4_teach 37 = .ok (.iconst 2, 1) := by decide +kernel
theorem dX4_teach_38 : decode cX4_teach 38 = .ok (.invokevirtual 70, 3) := by decide +kernel
theorem dX4_teach_41 : decode cX4_teach 41 = .ok (.istore_n 3, 1) := by decide +kernel
theorem dX4_teach_42 : decode cX4_teach 42 = .ok (.iload_n 3, 1) := by decide +kernel
theorem dX4_teach_43 : decode cX4_teach 43 = .ok (.iload_n 2, 1) := by decide +kernel
theorem dX4_teach_44 : decode cX4_teach 44 = .ok (.invokestatic 90, 3) := by decide +kernel
theorem dX4_teach_47 : decode cX4_teach 47 = .ok (.invokestatic 93, 3) := by decide +kernel
theorem dX4_teach_50 : decode cX4_teach 50 = .ok (.ifCond .eq 6, 3) := by decide +kernel
theorem dX4_teach_53 : decode cX4_teach 53 = .ok (.ldc 74, 2) := by decide +kernel
theorem dX4_teach_55 : decode cX4_teach 55 = .ok (.ireturn, 1) := by decide +kernel
theorem dX4_teach_56 : decode cX4_teach 56 = .ok (.aload_n 0, 1) := by decide +kernel
theorem dX4_teach_57 : decode cX4_teach 57 = .ok (.getfield 22, 3) := by decide +kernel
theorem dX4_teach_60 : decode cX4_teach 60 = .ok (.aload_n 0, 1) := by decide +kernel
theorem dX4_teach_61 : decode cX4_teach 61 = .ok (.getfield 12, 3) := by decide +kernel
theorem dX4_teach_64 : decode cX4_teach 64 = .ok (.invokevirtual 53, 3) := by decide +kernel
theorem dX4_teach_67 : decode cX4_teach 67 = .ok (.aload_n 0, 1) := by decide +kernel
theorem dX4_teach_68 : decode cX4_teach 68 = .ok (.getfield 12, 3) := by decide +kernel
theorem dX4_teach_71 : decode cX4_teach 71 = .ok (.getfield 83, 3) := by decide +kernel
theorem dX4_teach_74 : decode cX4_teach 74 = .ok (.iload_n 1, 1) := by decide +kernel
theorem dX4_teach_75 : decode cX4_teach 75 = .ok (.iconst 2, 1) := by decide +kernel
theorem dX4_teach_76 : decode cX4_teach 76 = .ok (.iload_n 3, 1) := by decide +kernel
theorem dX4_teach_77 : decode cX4_teach 77 = .ok (.iload_n 2, 1) := by decide +kernel
theorem dX4_teach_78 : decode cX4_teach 78 = .ok (.invokestatic 90, 3) := by decide +kernel
theorem dX4_teach_81 : decode cX4_teach 81 = .ok (.ior, 1) := by decide +kernel
theorem dX4_teach_82 : decode cX4_teach 82 = .ok (.invokevirtual 75, 3) := by decide +kernel
theorem dX4_teach_85 : decode cX4_teach 85 = .ok (.aload_n 0, 1) := by decide +kernel
theorem dX4_teach_86 : decode cX4_teach 86 = .ok (.getfield 12, 3) := by decide +kernel
theorem dX4_teach_89 : decode cX4_teach 89 = .ok (.getfield 83, 3) := by decide +kernel
theorem dX4_teach_92 : decode cX4_teach 92 = .ok (.iload_n 1, 1) := by decide +kernel
theorem dX4_teach_93 : decode cX4_teach 93 = .ok (.iconst 2, 1) := by decide +kernel
theorem dX4_teach_94 : decode cX4_teach 94 = .ok (.invokevirtual 70, 3) := by decide +kernel
theorem dX4_teach_97 : decode cX4_teach 97 = .ok (.ireturn, 1) := by decide +kernel
def f_X4_teach (σ : Sg)  (p1 p2 : Int32) : Option (Int32 × Sg) := (f_X3_lacks σ 1 p1).bind fun r1 => if r1 = 0 then ((f_X4_outside σ p2 (1 : Int32) (3 : Int32)).bind fun r3 => if r3 = 0 then ((f_X3_cell σ 1 p1 (2 : Int32)).bind fun r5 => (f_X4_trapBit σ p2).bind fun r6 => (f_X4_has σ r5 r6).bind fun r7 => if r7 = 0 then ((f_X0_push σ).bind fun σ9 => (f_X4_trapBit σ9 p2).bind fun r10 => (f_X3_put σ9 1 p1 (2 : Int32) (r5 ||| r10)).bind fun σ11 => (f_X3_cell σ11 1 p1 (2 : Int32)).bind fun r12 => some (r12, σ11)) else (some ((-10000005 : Int32), σ))) else (some ((-10000002 : Int32), σ))) else (some ((-10000001 : Int32), σ))
theorem okm_X4_teach : okm yX4_teach 2 = true := by decide +kernel
set_option maxHeartbeats 4000000 in
set_option maxRecDepth 100000 in
theorem c_X4_teach (l : Launch) (G : va_G) (cls : Cls) (ad : Nat → Nat) (hi : inj 49 ad) (σ : Sg)   (p1 p2 : Int32) : MT l (YX G cls ad) yX4_teach (.code yX4_teach cX4_teach 4 (some .int) :: gw) 4 90 [.ref (ad 25), .int p1, .int p2] fiS σ (f_X4_teach σ  p1 p2) := by
  refine MT.of (own := RX4) (by decide) (YX_D hi) rfl (Nat.le_of_ble_eq_true rfl) fun Γ _ hz0 hz1 hC => ?_
  show WX Γ (YX G cls ad) (qf Γ (YX G cls ad) fiS) 4 0 [(0, .ref (ad 25)), (1, .int p1), (2, .int p2)] [] σ (f_X4_teach σ  p1 p2)
  unfold f_X4_teach
  refine X_aload_n hC 0 rfl dX4_teach_0 ?_
  refine X_getf (C := RX4) (T := TX4) (N := 5) (ci := 4) hC 0 (wX (k := 25) (by omega) cX_vs) rfl hinX4 (by decide) tw_100 rfl rfl dX4_teach_1 ?_
  refine X_getf (C := RX2) (T := TX2) (N := 3) (ci := 2) hC 1 (wX (k := 19) (by omega) cX_now) rfl hinX2 (by decide) tw_49 rfl rfl dX4_teach_4 ?_
  refine X_iload_n hC 1 rfl dX4_teach_7 ?_
  refine X_callP (C := RX3) (T := TX3) (N := 4) (ci := 3) (rest := []) hC (c_X3_lacks _ G cls ad hi σ 1 (by omega) p1) (gV tw_318 tw_137 tw_138 tw_3 tw_139) rfl (wX (k := 1) (by omega) (cX_tab (by omega))) rfl rfl okm_X3_lacks (by decide) dX4_teach_8 rfl (Nat.le_of_ble_eq_true rfl) (fun r1 => ?_)
  refine X_if_eq hC 17 dX4_teach_11 (by decide) (fun h2 => ?_) (fun h2 => ?_)
  · refine X_iload_n hC 2 rfl dX4_teach_17 ?_
    refine X_iconst (v := 1) hC (by decide) dX4_teach_18 ?_
    refine X_iconst (v := 3) hC (by decide) dX4_teach_19 ?_
    refine X_statP (rest := []) hC (c_X4_outside _ G cls ad hi σ p2 (1 : Int32) (3 : Int32)) (gSt tw_321 tw_246 tw_1 tw_247) rfl okm_X4_outside (by decide) dX4_teach_20 rfl (Nat.le_of_ble_eq_true rfl) (fun r3 => ?_)
    refine X_if_eq hC 29 dX4_teach_23 (by decide) (fun h4 => ?_) (fun h4 => ?_)
    · refine X_aload_n hC 0 rfl dX4_teach_29 ?_
      refine X_getf (C := RX4) (T := TX4) (N := 5) (ci := 4) hC 0 (wX (k := 25) (by omega) cX_vs) rfl hinX4 (by decide) tw_100 rfl rfl dX4_teach_30 ?_
      refine X_getf (C := RX2) (T := TX2) (N := 3) (ci := 2) hC 1 (wX (k := 19) (by omega) cX_now) rfl hinX2 (by decide) tw_49 rfl rfl dX4_teach_33 ?_
      refine X_iload_n hC 1 rfl dX4_teach_36 ?_
      refine X_iconst (v := 2) hC (by decide) dX4_teach_37 ?_
      refine X_callP (C := RX3) (T := TX3) (N := 4) (ci := 3) (rest := []) hC (c_X3_cell _ G cls ad hi σ 1 (by omega) p1 (2 : Int32)) (gV tw_255 tw_133 tw_134 tw_3 tw_135) rfl (wX (k := 1) (by omega) (cX_tab (by omega))) rfl rfl okm_X3_cell (by decide) dX4_teach_38 rfl (Nat.le_of_ble_eq_true rfl) (fun r5 => ?_)
      refine X_istore_n (ls' := [(3, .int r5), (0, .ref (ad 25)), (1, .int p1), (2, .int p2)]) hC dX4_teach_41 (by decide) rfl ?_
      refine X_iload_n hC 0 rfl dX4_teach_42 ?_
      refine X_iload_n hC 3 rfl dX4_teach_43 ?_
      refine X_statP (rest := [.int r5]) hC (c_X4_trapBit _ G cls ad hi σ p2) (gSt tw_475 tw_286 tw_1 tw_287) rfl okm_X4_trapBit (by decide) dX4_teach_44 rfl (Nat.le_of_ble_eq_true rfl) (fun r6 => ?_)
      refine X_statP (rest := []) hC (c_X4_has _ G cls ad hi σ r5 r6) (gSt tw_476 tw_283 tw_1 tw_284) rfl okm_X4_has (by decide) dX4_teach_47 rfl (Nat.le_of_ble_eq_true rfl) (fun r7 => ?_)
      refine X_if_eq hC 56 dX4_teach_50 (by decide) (fun h8 => ?_) (fun h8 => ?_)
      · refine X_aload_n hC 1 rfl dX4_teach_56 ?_
        refine X_getf (C := RX4) (T := TX4) (N := 5) (ci := 4) hC 2 (wX (k := 25) (by omega) cX_vs) rfl hinX4 (by decide) tw_102 rfl rfl dX4_teach_57 ?_
        refine X_aload_n hC 1 rfl dX4_teach_60 ?_
        refine X_getf (C := RX4) (T := TX4) (N := 5) (ci := 4) hC 0 (wX (k := 25) (by omega) cX_vs) rfl hinX4 (by decide) tw_100 rfl rfl dX4_teach_61 ?_
        refine X_callV (C := RX0) (T := TX0) (N := 3) (ci := 0) (rest := []) hC (c_X0_push _ G cls ad hi σ) (gV tw_150 tw_151 tw_152 tw_5 tw_153) rfl (wX (k := 26) (by omega) cX_hi) rfl rfl okm_X0_push (by decide) dX4_teach_64 rfl (Nat.le_of_ble_eq_true rfl) (fun σ9 => ?_)
        refine X_aload_n hC 1 rfl dX4_teach_67 ?_
        refine X_getf (C := RX4) (T := TX4) (N := 5) (ci := 4) hC 0 (wX (k := 25) (by omega) cX_vs) rfl hinX4 (by decide) tw_100 rfl rfl dX4_teach_68 ?_
        refine X_getf (C := RX2) (T := TX2) (N := 3) (ci := 2) hC 1 (wX (k := 19) (by omega) cX_now) rfl hinX2 (by decide) tw_49 rfl rfl dX4_teach_71 ?_
        refine X_iload_n hC 2 rfl dX4_teach_74 ?_
        refine X_iconst (v := 2) hC (by decide) dX4_teach_75 ?_
        refine X_iload_n hC 0 rfl dX4_teach_76 ?_
        refine X_iload_n hC 3 rfl dX4_teach_77 ?_
        refine X_statP (rest := [.int r5, .int (2 : Int32), .int p1, .ref (ad 1)]) hC (c_X4_trapBit _ G cls ad hi σ9 p2) (gSt tw_475 tw_286 tw_1 tw_287) rfl okm_X4_trapBit (by decide) dX4_teach_78 rfl (Nat.le_of_ble_eq_true rfl) (fun r10 => ?_)
        refine X_ior hC dX4_teach_81 ?_
        refine X_callV (C := RX3) (T := TX3) (N := 4) (ci := 3) (rest := []) hC (c_X3_put _ G cls ad hi σ9 1 (by omega) p1 (2 : Int32) (r5 ||| r10)) (gV tw_448 tw_181 tw_182 tw_3 tw_183) rfl (wX (k := 1) (by omega) (cX_tab (by omega))) rfl rfl okm_X3_put (by decide) dX4_teach_82 rfl (Nat.le_of_ble_eq_true rfl) (fun σ11 => ?_)
        refine X_aload_n hC 1 rfl dX4_teach_85 ?_
        refine X_getf (C := RX4) (T := TX4) (N := 5) (ci := 4) hC 0 (wX (k := 25) (by omega) cX_vs) rfl hinX4 (by decide) tw_100 rfl rfl dX4_teach_86 ?_
        refine X_getf (C := RX2) (T := TX2) (N := 3) (ci := 2) hC 1 (wX (k := 19) (by omega) cX_now) rfl hinX2 (by decide) tw_49 rfl rfl dX4_teach_89 ?_
        refine X_iload_n hC 2 rfl dX4_teach_92 ?_
        refine X_iconst (v := 2) hC (by decide) dX4_teach_93 ?_
        refine X_callP (C := RX3) (T := TX3) (N := 4) (ci := 3) (rest := []) hC (c_X3_cell _ G cls ad hi σ11 1 (by omega) p1 (2 : Int32)) (gV tw_255 tw_133 tw_134 tw_3 tw_135) rfl (wX (k := 1) (by omega) (cX_tab (by omega))) rfl rfl okm_X3_cell (by decide) dX4_teach_94 rfl (Nat.le_of_ble_eq_true rfl) (fun r12 => ?_)
        exact X_iret hC hz0 hz1 dX4_teach_97 rfl
      · refine X_ldc (v := -10000005) hC tw_149 dX4_teach_53 ?_
        exact X_iret hC hz0 hz1 dX4_teach_55 rfl
    · refine X_ldc (v := -10000002) hC tw_322 dX4_teach_26 ?_
      exact X_iret hC hz0 hz1 dX4_teach_28 rfl
  · refine X_ldc (v := -10000001) hC tw_319 dX4_teach_14 ?_
    exact X_iret hC hz0 hz1 dX4_teach_16 rfl
theorem dX4_train_0 : decode cX4_train 0 = .ok (.aload_n 0, 1) := by decide +kernel
theorem dX4_train_1 : decode cX4_train 1 = .ok (.getfield 12, 3) := by decide +kernel
theorem dX4_train_4 : decode cX4_train 4 = .ok (.getfield 83, 3) := by decide +kernel
theorem dX4_train_7 : decode cX4_train 7 = .ok (.iload_n 1, 1) := by decide +kernel
theorem dX4_train_8 : decode cX4_train 8 = .ok (.invokevirtual 61, 3) := by decide +kernel
theorem dX4_train_11 : decode cX4_train 11 = .ok (.ifCond .eq 6, 3) := by decide +kernel
theorem dX4_train_14 : decode cX4_train 14 = .ok (.ldc 65, 2) := by decide +kernel
theorem dX4_train_16 : decode cX4_train 16 = .ok (.ireturn, 1) := by decide +kernel
theorem dX4_train_17 : decode cX4_train 17 = .ok (.iload_n 2, 1) := by decide +kernel
theorem dX4_train_18 : decode cX4_train 18 = .ok (.bipush (-50), 2) := by decide +kernel
theorem dX4_train_20 : decode cX4_train 20 = .ok (.bipush 50, 2) := by decide +kernel
theorem dX4_train_22 : decode cX4_train 22 = .ok (.invokestatic 37, 3) := by decide +kernel
theorem dX4_train_25 : decode cX4_train 25 = .ok (.ifCond .ne 13, 3) := by decide +kernel
theorem dX4_train_28 : decode cX4_train 28 = .ok (.iload_n 3, 1) := by decide +kernel
theorem dX4_train_29 : decode cX4_train 29 = .ok (.iconst 0, 1) := by decide +kernel
theorem dX4_train_30 : decode cX4_train 30 = .ok (.bipush 15, 2) := by decide +kernel
theorem dX4_train_32 : decode cX4_train 32 = .ok (.invokestatic 37, 3) := by decide +kernel
theorem dX4_train_35 : decode cX4_train 35 = .ok (.ifCond .eq 6, 3) := by decide +kernel
theorem dX4_train_38 : decode cX4_train 38 = .ok (.ldc 41, 2) := by decide +kernel
theorem dX4_train_40 : decode cX4_train 40 = .ok (.ireturn, 1) := by decide +kernel
theorem dX4_train_41 : decode cX4_train 41 = .ok (.aload_n 0, 1) := by decide +kernel
theorem dX4_train_42 : decode cX4_train 42 = .ok (.getfield 12, 3) := by decide +kernel
theorem dX4_train_45 : decode cX4_train 45 = .ok (.getfield 83, 3) := by decide +kernel
theorem dX4_train_48 : decode cX4_train 48 = .ok (.iload_n 1, 1) := by decide +kernel
theorem dX4_train_49 : decode cX4_train 49 = .ok (.iconst 1, 1) := by decide +kernel
theorem dX4_train_50 : decode cX4_train 50 = .ok (.invokevirtual 70, 3) := by decide +kernel
theorem dX4_train_53 : decode cX4_train 53 = .ok (.iload_n 3, 1) := by decide +kernel
theorem dX4_train_54 : decode cX4_train 54 = .ok (.ixor, 1) := by decide +kernel
theorem dX4_train_55 : decode cX4_train 55 = .ok (.istore 4, 2) := by decide +kernel
theorem dX4_train_57 : decode cX4_train 57 = .ok (.iload 4, 2) := by decide +kernel
theorem dX4_train_59 : decode cX4_train 59 = .ok (.ifCond .ne 22, 3) := by decide +kernel
theorem dX4_train_62 : decode cX4_train 62 = .ok (.aload_n 0, 1) := by decide +kernel
theorem dX4_train_63 : decode cX4_train 63 = .ok (.getfield 12, 3) := by decide +kernel
theorem dX4_train_66 : decode cX4_train 66 = .ok (.getfield 83, 3) := by decide +kernel
theorem dX4_train_69 : decode cX4_train 69 = .ok (.iload_n 1, 1) := by decide +kernel
theorem dX4_train_70 : decode cX4_train 70 = .ok (.iconst 0, 1) := by decide +kernel
theorem dX4_train_71 : decode cX4_train 71 = .ok (.invokevirtual 70, 3) := by decide +kernel
theorem dX4_train_74 : decode cX4_train 74 = .ok (.iload_n 2, 1) := by decide +kernel
theorem dX4_train_75 : decode cX4_train 75 = .ok (.if_icmp .ne 6, 3) := by decide +kernel
theorem dX4_train_78 : decode cX4_train 78 = .ok (.ldc 74, 2) := by decide +kernel
theorem dX4_train_80 : decode cX4_train 80 = .ok (.ireturn, 1) := by decide +kernel
theorem dX4_train_81 : decode cX4_train 81 = .ok (.aload_n 0, 1) := by decide +kernel
theorem dX4_train_82 : decode cX4_train 82 = .ok (.getfield 22, 3) := by decide +kernel
theorem dX4_train_85 : decode cX4_train 85 = .ok (.aload_n 0, 1) := by decide +kernel
theorem dX4_train_86 : decode cX4_train 86 = .ok (.getfield 12, 3) := by decide +kernel
theorem dX4_train_89 : decode cX4_train 89 = .ok (.invokevirtual 53, 3) := by decide +kernel
theorem dX4_train_92 : decode cX4_train 92 = .ok (.aload_n 0, 1) := by decide +kernel
theorem dX4_train_93 : decode cX4_train 93 = .ok (.getfield 12, 3) := by decide +kernel
theorem dX4_train_96 : decode cX4_train 96 = .ok (.getfield 83, 3) := by decide +kernel
theorem dX4_train_99 : decode cX4_train 99 = .ok (.iload_n 1, 1) := by decide +kernel
theorem dX4_train_100 : decode cX4_train 100 = .ok (.iconst 0, 1) := by decide +kernel
theorem dX4_train_101 : decode cX4_train 101 = .ok (.iload_n 2, 1) := by decide +kernel
theorem dX4_train_102 : decode cX4_train 102 = .ok (.invokevirtual 75, 3) := by decide +kernel
theorem dX4_train_105 : decode cX4_train 105 = .ok (.aload_n 0, 1) := by decide +kernel
theorem dX4_train_106 : decode cX4_train 106 = .ok (.getfield 12, 3) := by decide +kernel
theorem dX4_train_109 : decode cX4_train 109 = .ok (.getfield 83, 3) := by decide +kernel
theorem dX4_train_112 : decode cX4_train 112 = .ok (.iload_n 1, 1) := by decide +kernel
theorem dX4_train_113 : decode cX4_train 113 = .ok (.iconst 1, 1) := by decide +kernel
theorem dX4_train_114 : decode cX4_train 114 = .ok (.iload_n 3, 1) := by decide +kernel
theorem dX4_train_115 : decode cX4_train 115 = .ok (.invokevirtual 75, 3) := by decide +kernel
theorem dX4_train_118 : decode cX4_train 118 = .ok (.iload 4, 2) := by decide +kernel
theorem dX4_train_120 : decode cX4_train 120 = .ok (.invokestatic 97, 3) := by decide +kernel
theorem dX4_train_123 : decode cX4_train 123 = .ok (.ireturn, 1) := by decide +kernel
def f_X4_train_b81    (σ : Sg) (v1 v2 v3 v4 : Int32) : Option (Int32 × Sg) := (f_X0_push σ).bind fun σ10 => (f_X3_put σ10 1 v1 (0 : Int32) v2).bind fun σ11 => (f_X3_put σ11 1 v1 (1 : Int32) v3).bind fun σ12 => (f_J6_bitCount_0f7a4 σ12 v4).bind fun r13 => some (r13, σ12)
def f_X4_train (σ : Sg)  (p1 p2 p3 : Int32) : Option (Int32 × Sg) := (f_X3_lacks σ 1 p1).bind fun r1 => if r1 = 0 then ((f_X4_outside σ p2 (-50 : Int32) (50 : Int32)).bind fun r3 => if r3 = 0 then ((f_X4_outside σ p3 (0 : Int32) (15 : Int32)).bind fun r5 => if r5 = 0 then ((f_X3_cell σ 1 p1 (1 : Int32)).bind fun r7 => lt (r7 ^^^ p3) fun x8 => if x8 = 0 then ((f_X3_cell σ 1 p1 (0 : Int32)).bind fun r14 => if r14 = p2 then (some ((-10000005 : Int32), σ)) else (f_X4_train_b81 σ p1 p2 p3 x8)) else (f_X4_train_b81 σ p1 p2 p3 x8)) else (some ((-10000002 : Int32), σ))) else (some ((-10000002 : Int32), σ))) else (some ((-10000001 : Int32), σ))
set_option maxHeartbeats 4000000 in
set_option maxRecDepth 100000 in
theorem L_X4_train_b81 {Γ : Cx} (G : va_G) (cls : Cls) (ad : Nat → Nat) (hi : inj 49 ad) (hC : CX Γ (YX G cls ad) cX4_train RX4 5 (some .int) 4 90) (hz0 : Γ.2.2.2.2.2.1 = 0) (hz1 : Γ.2.2.2.2.2.2 = 0)     (σ : Sg) (v1 v2 v3 v4 : Int32) : WX Γ (YX G cls ad) (qf Γ (YX G cls ad) fiS) 5 81 [(0, .ref (ad 25)), (1, .int v1), (2, .int v2), (3, .int v3), (4, .int v4)] [] σ (f_X4_train_b81   σ v1 v2 v3 v4) := by
  unfold f_X4_train_b81
  refine X_aload_n hC 0 rfl dX4_train_81 ?_
  refine X_getf (C := RX4) (T := TX4) (N := 5) (ci := 4) hC 2 (wX (k := 25) (by omega) cX_vs) rfl hinX4 (by decide) tw_102 rfl rfl dX4_train_82 ?_
  refine X_aload_n hC 0 rfl dX4_train_85 ?_
  refine X_getf (C := RX4) (T := TX4) (N := 5) (ci := 4) hC 0 (wX (k := 25) (by omega) cX_vs) rfl hinX4 (by decide) tw_100 rfl rfl dX4_train_86 ?_
  refine X_callV (C := RX0) (T := TX0) (N := 3) (ci := 0) (rest := []) hC (c_X0_push _ G cls ad hi σ) (gV tw_150 tw_151 tw_152 tw_5 tw_153) rfl (wX (k := 26) (by omega) cX_hi) rfl rfl okm_X0_push (by decide) dX4_train_89 rfl (Nat.le_of_ble_eq_true rfl) (fun σ10 => ?_)
  refine X_aload_n hC 0 rfl dX4_train_92 ?_
  refine X_getf (C := RX4) (T := TX4) (N := 5) (ci := 4) hC 0 (wX (k := 25) (by omega) cX_vs) rfl hinX4 (by decide) tw_100 rfl rfl dX4_train_93 ?_
  refine X_getf (C := RX2) (T := TX2) (N := 3) (ci := 2) hC 1 (wX (k := 19) (by omega) cX_now) rfl hinX2 (by decide) tw_49 rfl rfl dX4_train_96 ?_
  refine X_iload_n hC 1 rfl dX4_train_99 ?_
  refine X_iconst (v := 0) hC (by decide) dX4_train_100 ?_
  refine X_iload_n hC 2 rfl dX4_train_101 ?_
  refine X_callV (C := RX3) (T := TX3) (N := 4) (ci := 3) (rest := []) hC (c_X3_put _ G cls ad hi σ10 1 (by omega) v1 (0 : Int32) v2) (gV tw_448 tw_181 tw_182 tw_3 tw_183) rfl (wX (k := 1) (by omega) (cX_tab (by omega))) rfl rfl okm_X3_put (by decide) dX4_train_102 rfl (Nat.le_of_ble_eq_true rfl) (fun σ11 => ?_)
  refine X_aload_n hC 0 rfl dX4_train_105 ?_
  refine X_getf (C := RX4) (T := TX4) (N := 5) (ci := 4) hC 0 (wX (k := 25) (by omega) cX_vs) rfl hinX4 (by decide) tw_100 rfl rfl dX4_train_106 ?_
  refine X_getf (C := RX2) (T := TX2) (N := 3) (ci := 2) hC 1 (wX (k := 19) (by omega) cX_now) rfl hinX2 (by decide) tw_49 rfl rfl dX4_train_109 ?_
  refine X_iload_n hC 1 rfl dX4_train_112 ?_
  refine X_iconst (v := 1) hC (by decide) dX4_train_113 ?_
  refine X_iload_n hC 3 rfl dX4_train_114 ?_
  refine X_callV (C := RX3) (T := TX3) (N := 4) (ci := 3) (rest := []) hC (c_X3_put _ G cls ad hi σ11 1 (by omega) v1 (1 : Int32) v3) (gV tw_448 tw_181 tw_182 tw_3 tw_183) rfl (wX (k := 1) (by omega) (cX_tab (by omega))) rfl rfl okm_X3_put (by decide) dX4_train_115 rfl (Nat.le_of_ble_eq_true rfl) (fun σ12 => ?_)
  refine X_iload hC 4 rfl dX4_train_118 ?_
  refine X_statP (rest := []) hC (c_J6_bitCount_0f7a4 _ G cls ad hi σ12 v4) (gSt tw_481 tw_482 tw_8 tw_483) rfl okm_J6_bitCount_0f7a4 (by decide) dX4_train_120 rfl (Nat.le_of_ble_eq_true rfl) (fun r13 => ?_)
  exact X_iret hC hz0 hz1 dX4_train_123 rfl
theorem okm_X4_train : okm yX4_train 3 = true := by decide +kernel
set_option maxHeartbeats 4000000 in
set_option maxRecDepth 100000 in
theorem c_X4_train (l : Launch) (G : va_G) (cls : Cls) (ad : Nat → Nat) (hi : inj 49 ad) (σ : Sg)   (p1 p2 p3 : Int32) : MT l (YX G cls ad) yX4_train (.code yX4_train cX4_train 5 (some .int) :: gw) 4 90 [.ref (ad 25), .int p1, .int p2, .int p3] fiS σ (f_X4_train σ  p1 p2 p3) := by
  refine MT.of (own := RX4) (by decide) (YX_D hi) rfl (Nat.le_of_ble_eq_true rfl) fun Γ _ hz0 hz1 hC => ?_
  show WX Γ (YX G cls ad) (qf Γ (YX G cls ad) fiS) 5 0 [(0, .ref (ad 25)), (1, .int p1), (2, .int p2), (3, .int p3)] [] σ (f_X4_train σ  p1 p2 p3)
  unfold f_X4_train
  refine X_aload_n hC 0 rfl dX4_train_0 ?_
  refine X_getf (C := RX4) (T := TX4) (N := 5) (ci := 4) hC 0 (wX (k := 25) (by omega) cX_vs) rfl hinX4 (by decide) tw_100 rfl rfl dX4_train_1 ?_
  refine X_getf (C := RX2) (T := TX2) (N := 3) (ci := 2) hC 1 (wX (k := 19) (by omega) cX_now) rfl hinX2 (by decide) tw_49 rfl rfl dX4_train_4 ?_
  refine X_iload_n hC 1 rfl dX4_train_7 ?_
  refine X_callP (C := RX3) (T := TX3) (N := 4) (ci := 3) (rest := []) hC (c_X3_lacks _ G cls ad hi σ 1 (by omega) p1) (gV tw_318 tw_137 tw_138 tw_3 tw_139) rfl (wX (k := 1) (by omega) (cX_tab (by omega))) rfl rfl okm_X3_lacks (by decide) dX4_train_8 rfl (Nat.le_of_ble_eq_true rfl) (fun r1 => ?_)
  refine X_if_eq hC 17 dX4_train_11 (by decide) (fun h2 => ?_) (fun h2 => ?_)
  · refine X_iload_n hC 2 rfl dX4_train_17 ?_
    refine X_bipush (v := -50) hC (by decide) dX4_train_18 ?_
    refine X_bipush (v := 50) hC (by decide) dX4_train_20 ?_
    refine X_statP (rest := []) hC (c_X4_outside _ G cls ad hi σ p2 (-50 : Int32) (50 : Int32)) (gSt tw_321 tw_246 tw_1 tw_247) rfl okm_X4_outside (by decide) dX4_train_22 rfl (Nat.le_of_ble_eq_true rfl) (fun r3 => ?_)
    refine X_if_ne hC 38 dX4_train_25 (by decide) (fun h4 => ?_) (fun h4 => ?_)
    · refine X_ldc (v := -10000002) hC tw_322 dX4_train_38 ?_
      exact X_iret hC hz0 hz1 dX4_train_40 rfl
    · refine X_iload_n hC 3 rfl dX4_train_28 ?_
      refine X_iconst (v := 0) hC (by decide) dX4_train_29 ?_
      refine X_bipush (v := 15) hC (by decide) dX4_train_30 ?_
      refine X_statP (rest := []) hC (c_X4_outside _ G cls ad hi σ p3 (0 : Int32) (15 : Int32)) (gSt tw_321 tw_246 tw_1 tw_247) rfl okm_X4_outside (by decide) dX4_train_32 rfl (Nat.le_of_ble_eq_true rfl) (fun r5 => ?_)
      refine X_if_eq hC 41 dX4_train_35 (by decide) (fun h6 => ?_) (fun h6 => ?_)
      · refine X_aload_n hC 0 rfl dX4_train_41 ?_
        refine X_getf (C := RX4) (T := TX4) (N := 5) (ci := 4) hC 0 (wX (k := 25) (by omega) cX_vs) rfl hinX4 (by decide) tw_100 rfl rfl dX4_train_42 ?_
        refine X_getf (C := RX2) (T := TX2) (N := 3) (ci := 2) hC 1 (wX (k := 19) (by omega) cX_now) rfl hinX2 (by decide) tw_49 rfl rfl dX4_train_45 ?_
        refine X_iload_n hC 1 rfl dX4_train_48 ?_
        refine X_iconst (v := 1) hC (by decide) dX4_train_49 ?_
        refine X_callP (C := RX3) (T := TX3) (N := 4) (ci := 3) (rest := []) hC (c_X3_cell _ G cls ad hi σ 1 (by omega) p1 (1 : Int32)) (gV tw_255 tw_133 tw_134 tw_3 tw_135) rfl (wX (k := 1) (by omega) (cX_tab (by omega))) rfl rfl okm_X3_cell (by decide) dX4_train_50 rfl (Nat.le_of_ble_eq_true rfl) (fun r7 => ?_)
        refine X_iload_n hC 3 rfl dX4_train_53 ?_
        refine X_ixor hC dX4_train_54 ?_
        refine X_lt (fun x8 => ?_)
        refine X_istore (ls' := [(4, .int x8), (0, .ref (ad 25)), (1, .int p1), (2, .int p2), (3, .int p3)]) hC dX4_train_55 (by decide) rfl ?_
        refine X_iload hC 0 rfl dX4_train_57 ?_
        refine X_if_ne hC 81 dX4_train_59 (by decide) (fun h9 => ?_) (fun h9 => ?_)
        · exact X_sub [1, 2, 3, 4, 0] rfl (L_X4_train_b81 G cls ad hi hC hz0 hz1 σ p1 p2 p3 x8)
        · refine X_aload_n hC 1 rfl dX4_train_62 ?_
          refine X_getf (C := RX4) (T := TX4) (N := 5) (ci := 4) hC 0 (wX (k := 25) (by omega) cX_vs) rfl hinX4 (by decide) tw_100 rfl rfl dX4_train_63 ?_
          refine X_getf (C := RX2) (T := TX2) (N := 3) (ci := 2) hC 1 (wX (k := 19) (by omega) cX_now) rfl hinX2 (by decide) tw_49 rfl rfl dX4_train_66 ?_
          refine X_iload_n hC 2 rfl dX4_train_69 ?_
          refine X_iconst (v := 0) hC (by decide) dX4_train_70 ?_
          refine X_callP (C := RX3) (T := TX3) (N := 4) (ci := 3) (rest := []) hC (c_X3_cell _ G cls ad hi σ 1 (by omega) p1 (0 : Int32)) (gV tw_255 tw_133 tw_134 tw_3 tw_135) rfl (wX (k := 1) (by omega) (cX_tab (by omega))) rfl rfl okm_X3_cell (by decide) dX4_train_71 rfl (Nat.le_of_ble_eq_true rfl) (fun r14 => ?_)
          refine X_iload_n hC 3 rfl dX4_train_74 ?_
          refine X_icmp_ne hC 81 dX4_train_75 (by decide) (fun h15 => ?_) (fun h15 => ?_)
          · exact X_sub [1, 2, 3, 4, 0] rfl (L_X4_train_b81 G cls ad hi hC hz0 hz1 σ p1 p2 p3 x8)
          · refine X_ldc (v := -10000005) hC tw_149 dX4_train_78 ?_
            exact X_iret hC hz0 hz1 dX4_train_80 rfl
      · refine X_ldc (v := -10000002) hC tw_322 dX4_train_38 ?_
        exact X_iret hC hz0 hz1 dX4_train_40 rfl
  · refine X_ldc (v := -10000001) hC tw_319 dX4_train_14 ?_
    exact X_iret hC hz0 hz1 dX4_train_16 rfl
theorem dX4_write_0 : decode cX4_write 0 = .ok (.aload_n 0, 1) := by decide +kernel
theorem dX4_write_1 : decode cX4_write 1 = .ok (.getfield 12, 3) := by decide +kernel
theorem dX4_write_4 : decode cX4_write 4 = .ok (.getfield 83, 3) := by decide +kernel
theorem dX4_write_7 : decode cX4_write 7 = .ok (.iload_n 1, 1) := by decide +kernel
theorem dX4_write_8 : decode cX4_write 8 = .ok (.invokevirtual 61, 3) := by decide +kernel
theorem dX4_write_11 : decode cX4_write 11 = .ok (.ifCond .ne 17, 3) := by decide +kernel
theorem dX4_write_14 : decode cX4_write 14 = .ok (.aload_n 0, 1) := by decide +kernel
theorem dX4_write_15 : decode cX4_write 15 = .ok (.getfield 12, 3) := by decide +kernel
theorem dX4_write_18 : decode cX4_write 18 = .ok (.getfield 42, 3) := by decide +kernel
theorem dX4_write_21 : decode cX4_write 21 = .ok (.iload_n 2, 1) := by decide +kernel
theorem dX4_write_22 : decode cX4_write 22 = .ok (.invokevirtual 61, 3) := by decide +kernel
theorem dX4_write_25 : decode cX4_write 25 = .ok (.ifCond .eq 6, 3) := by decide +kernel
theorem dX4_write_28 : decode cX4_write 28 = .ok (.ldc 65, 2) := by decide +kernel
theorem dX4_write_30 : decode cX4_write 30 = .ok (.ireturn, 1) := by decide +kernel
theorem dX4_write_31 : decode cX4_write 31 = .ok (.aload_n 0, 1) := by decide +kernel
theorem dX4_write_32 : decode cX4_write 32 = .ok (.getfield 12, 3) := by decide +kernel
theorem dX4_write_35 : decode cX4_write 35 = .ok (.iload_n 2, 1) := by decide +kernel
theorem dX4_write_36 : decode cX4_write 36 = .ok (.iload_n 3, 1) := by decide +kernel
theorem dX4_write_37 : decode cX4_write 37 = .ok (.invokevirtual 102, 3) := by decide +kernel
theorem dX4_write_40 : decode cX4_write 40 = .ok (.ifCond .eq 6, 3) := by decide +kernel
theorem dX4_write_43 : decode cX4_write 43 = .ok (.ldc 41, 2) := by decide +kernel
theorem dX4_write_45 : decode cX4_write 45 = .ok (.ireturn, 1) := by decide +kernel
theorem dX4_write_46 : decode cX4_write 46 = .ok (.aload_n 0, 1) := by decide +kernel
theorem dX4_write_47 : decode cX4_write 47 = .ok (.getfield 12, 3) := by decide +kernel
theorem dX4_write_50 : decode cX4_write 50 = .ok (.getfield 105, 3) := by decide +kernel
theorem dX4_write_53 : decode cX4_write 53 = .ok (.invokevirtual 46, 3) := by decide +kernel
theorem dX4_write_56 : decode cX4_write 56 = .ok (.ifCond .eq 6, 3) := by decide +kernel
theorem dX4_write_59 : decode cX4_write 59 = .ok (.ldc 52, 2) := by decide +kernel
theorem dX4_write_61 : decode cX4_write 61 = .ok (.ireturn, 1) := by decide +kernel
theorem dX4_write_62 : decode cX4_write 62 = .ok (.aload_n 0, 1) := by decide +kernel
theorem dX4_write_63 : decode cX4_write 63 = .ok (.getfield 22, 3) := by decide +kernel
theorem dX4_write_66 : decode cX4_write 66 = .ok (.aload_n 0, 1) := by decide +kernel
theorem dX4_write_67 : decode cX4_write 67 = .ok (.getfield 12, 3) := by decide +kernel
theorem dX4_write_70 : decode cX4_write 70 = .ok (.invokevirtual 53, 3) := by decide +kernel
theorem dX4_write_73 : decode cX4_write 73 = .ok (.aload_n 0, 1) := by decide +kernel
theorem dX4_write_74 : decode cX4_write 74 = .ok (.getfield 12, 3) := by decide +kernel
theorem dX4_write_77 : decode cX4_write 77 = .ok (.iload_n 1, 1) := by decide +kernel
theorem dX4_write_78 : decode cX4_write 78 = .ok (.iload_n 2, 1) := by decide +kernel
theorem dX4_write_79 : decode cX4_write 79 = .ok (.iload_n 3, 1) := by decide +kernel
theorem dX4_write_80 : decode cX4_write 80 = .ok (.invokevirtual 108, 3) := by decide +kernel
theorem dX4_write_83 : decode cX4_write 83 = .ok (.ireturn, 1) := by decide +kernel
def f_X4_write (σ : Sg)  (p1 p2 p3 : Int32) : Option (Int32 × Sg) := (f_X3_lacks σ 1 p1).bind fun r1 => if r1 = 0 then ((f_X3_lacks σ 0 p2).bind fun r3 => if r3 = 0 then ((f_X2_isNoSetting σ p2 p3).bind fun r5 => if r5 = 0 then ((f_X3_isFull σ 2).bind fun r7 => if r7 = 0 then ((f_X0_push σ).bind fun σ9 => (f_X2_newPaper σ9 p1 p2 p3).bind fun q12 => lts q12.2 fun σ11 => lt q12.1 fun r10 => some (r10, σ11)) else (some ((-10000003 : Int32), σ))) else (some ((-10000002 : Int32), σ))) else (some ((-10000001 : Int32), σ))) else (some ((-10000001 : Int32), σ))
theorem okm_X4_write : okm yX4_write 3 = true := by decide +kernel
set_option maxHeartbeats 4000000 in
set_option maxRecDepth 100000 in
theorem c_X4_write (l : Launch) (G : va_G) (cls : Cls) (ad : Nat → Nat) (hi : inj 49 ad) (σ : Sg)   (p1 p2 p3 : Int32) : MT l (YX G cls ad) yX4_write (.code yX4_write cX4_write 4 (some .int) :: gw) 6 149 [.ref (ad 25), .int p1, .int p2, .int p3] fiS σ (f_X4_write σ  p1 p2 p3) := by
  refine MT.of (own := RX4) (by decide) (YX_D hi) rfl (Nat.le_of_ble_eq_true rfl) fun Γ _ hz0 hz1 hC => ?_
  show WX Γ (YX G cls ad) (qf Γ (YX G cls ad) fiS) 4 0 [(0, .ref (ad 25)), (1, .int p1), (2, .int p2), (3, .int p3)] [] σ (f_X4_write σ  p1 p2 p3)
  unfold f_X4_write
  refine X_aload_n hC 0 rfl dX4_write_0 ?_
  refine X_getf (C := RX4) (T := TX4) (N := 5) (ci := 4) hC 0 (wX (k := 25) (by omega) cX_vs) rfl hinX4 (by decide) tw_100 rfl rfl dX4_write_1 ?_
  refine X_getf (C := RX2) (T := TX2) (N := 3) (ci := 2) hC 1 (wX (k := 19) (by omega) cX_now) rfl hinX2 (by decide) tw_49 rfl rfl dX4_write_4 ?_
  refine X_iload_n hC 1 rfl dX4_write_7 ?_
  refine X_callP (C := RX3) (T := TX3) (N := 4) (ci := 3) (rest := []) hC (c_X3_lacks _ G cls ad hi σ 1 (by omega) p1) (gV tw_318 tw_137 tw_138 tw_3 tw_139) rfl (wX (k := 1) (by omega) (cX_tab (by omega))) rfl rfl okm_X3_lacks (by decide) dX4_write_8 rfl (Nat.le_of_ble_eq_true rfl) (fun r1 => ?_)
  refine X_if_ne hC 28 dX4_write_11 (by decide) (fun h2 => ?_) (fun h2 => ?_)
  · refine X_ldc (v := -10000001) hC tw_319 dX4_write_28 ?_
    exact X_iret hC hz0 hz1 dX4_write_30 rfl
  · refine X_aload_n hC 0 rfl dX4_write_14 ?_
    refine X_getf (C := RX4) (T := TX4) (N := 5) (ci := 4) hC 0 (wX (k := 25) (by omega) cX_vs) rfl hinX4 (by decide) tw_100 rfl rfl dX4_write_15 ?_
    refine X_getf (C := RX2) (T := TX2) (N := 3) (ci := 2) hC 0 (wX (k := 19) (by omega) cX_now) rfl hinX2 (by decide) tw_47 rfl rfl dX4_write_18 ?_
    refine X_iload_n hC 2 rfl dX4_write_21 ?_
    refine X_callP (C := RX3) (T := TX3) (N := 4) (ci := 3) (rest := []) hC (c_X3_lacks _ G cls ad hi σ 0 (by omega) p2) (gV tw_318 tw_137 tw_138 tw_3 tw_139) rfl (wX (k := 0) (by omega) (cX_tab (by omega))) rfl rfl okm_X3_lacks (by decide) dX4_write_22 rfl (Nat.le_of_ble_eq_true rfl) (fun r3 => ?_)
    refine X_if_eq hC 31 dX4_write_25 (by decide) (fun h4 => ?_) (fun h4 => ?_)
    · refine X_aload_n hC 0 rfl dX4_write_31 ?_
      refine X_getf (C := RX4) (T := TX4) (N := 5) (ci := 4) hC 0 (wX (k := 25) (by omega) cX_vs) rfl hinX4 (by decide) tw_100 rfl rfl dX4_write_32 ?_
      refine X_iload_n hC 2 rfl dX4_write_35 ?_
      refine X_iload_n hC 3 rfl dX4_write_36 ?_
      refine X_callP (C := RX2) (T := TX2) (N := 3) (ci := 2) (rest := []) hC (c_X2_isNoSetting _ G cls ad hi σ p2 p3) (gV tw_416 tw_242 tw_243 tw_2 tw_244) rfl (wX (k := 19) (by omega) cX_now) rfl rfl okm_X2_isNoSetting (by decide) dX4_write_37 rfl (Nat.le_of_ble_eq_true rfl) (fun r5 => ?_)
      refine X_if_eq hC 46 dX4_write_40 (by decide) (fun h6 => ?_) (fun h6 => ?_)
      · refine X_aload_n hC 0 rfl dX4_write_46 ?_
        refine X_getf (C := RX4) (T := TX4) (N := 5) (ci := 4) hC 0 (wX (k := 25) (by omega) cX_vs) rfl hinX4 (by decide) tw_100 rfl rfl dX4_write_47 ?_
        refine X_getf (C := RX2) (T := TX2) (N := 3) (ci := 2) hC 2 (wX (k := 19) (by omega) cX_now) rfl hinX2 (by decide) tw_51 rfl rfl dX4_write_50 ?_
        refine X_callP (C := RX3) (T := TX3) (N := 4) (ci := 3) (rest := []) hC (c_X3_isFull _ G cls ad hi σ 2 (by omega)) (gV tw_437 tw_211 tw_212 tw_3 tw_213) rfl (wX (k := 2) (by omega) (cX_tab (by omega))) rfl rfl okm_X3_isFull (by decide) dX4_write_53 rfl (Nat.le_of_ble_eq_true rfl) (fun r7 => ?_)
        refine X_if_eq hC 62 dX4_write_56 (by decide) (fun h8 => ?_) (fun h8 => ?_)
        · refine X_aload_n hC 0 rfl dX4_write_62 ?_
          refine X_getf (C := RX4) (T := TX4) (N := 5) (ci := 4) hC 2 (wX (k := 25) (by omega) cX_vs) rfl hinX4 (by decide) tw_102 rfl rfl dX4_write_63 ?_
          refine X_aload_n hC 0 rfl dX4_write_66 ?_
          refine X_getf (C := RX4) (T := TX4) (N := 5) (ci := 4) hC 0 (wX (k := 25) (by omega) cX_vs) rfl hinX4 (by decide) tw_100 rfl rfl dX4_write_67 ?_
          refine X_callV (C := RX0) (T := TX0) (N := 3) (ci := 0) (rest := []) hC (c_X0_push _ G cls ad hi σ) (gV tw_150 tw_151 tw_152 tw_5 tw_153) rfl (wX (k := 26) (by omega) cX_hi) rfl rfl okm_X0_push (by decide) dX4_write_70 rfl (Nat.le_of_ble_eq_true rfl) (fun σ9 => ?_)
          refine X_aload_n hC 0 rfl dX4_write_73 ?_
          refine X_getf (C := RX4) (T := TX4) (N := 5) (ci := 4) hC 0 (wX (k := 25) (by omega) cX_vs) rfl hinX4 (by decide) tw_100 rfl rfl dX4_write_74 ?_
          refine X_iload_n hC 1 rfl dX4_write_77 ?_
          refine X_iload_n hC 2 rfl dX4_write_78 ?_
          refine X_iload_n hC 3 rfl dX4_write_79 ?_
          refine X_callS (C := RX2) (T := TX2) (N := 3) (ci := 2) (rest := []) hC (c_X2_newPaper _ G cls ad hi σ9 p1 p2 p3) (gV tw_256 tw_257 tw_258 tw_2 tw_259) rfl (wX (k := 19) (by omega) cX_now) rfl rfl okm_X2_newPaper (by decide) dX4_write_80 rfl (Nat.le_of_ble_eq_true rfl) (fun q12 => X_lts fun σ11 => X_lt fun r10 => ?_)
          exact X_iret hC hz0 hz1 dX4_write_83 rfl
        · refine X_ldc (v := -10000003) hC tw_438 dX4_write_59 ?_
          exact X_iret hC hz0 hz1 dX4_write_61 rfl
      · refine X_ldc (v := -10000002) hC tw_322 dX4_write_43 ?_
        exact X_iret hC hz0 hz1 dX4_write_45 rfl
    · refine X_ldc (v := -10000001) hC tw_319 dX4_write_28 ?_
      exact X_iret hC hz0 hz1 dX4_write_30 rfl
theorem dX4_appeal_0 : decode cX4_appeal 0 = .ok (.aload_n 0, 1) := by decide +kernel
theorem dX4_appeal_1 : decode cX4_appeal 1 = .ok (.getfield 12, 3) := by decide +kernel
theorem dX4_appeal_4 : decode cX4_appeal 4 = .ok (.getfield 105, 3) := by decide +kernel
theorem dX4_appeal_7 : decode cX4_appeal 7 = .ok (.astore_n 3, 1) := by decide +kernel
theorem dX4_appeal_8 : decode cX4_appeal 8 = .ok (.aload_n 3, 1) := by decide +kernel
theorem dX4_appeal_9 : decode cX4_appeal 9 = .ok (.iload_n 1, 1) := by decide +kernel
theorem dX4_appeal_10 : decode cX4_appeal 10 = .ok (.invokevirtual 61, 3) := by decide +kernel
theorem dX4_appeal_13 : decode cX4_appeal 13 = .ok (.ifCond .eq 6, 3) := by decide +kernel
theorem dX4_appeal_16 : decode cX4_appeal 16 = .ok (.ldc 65, 2) := by decide +kernel
theorem dX4_appeal_18 : decode cX4_appeal 18 = .ok (.ireturn, 1) := by decide +kernel
theorem dX4_appeal_19 : decode cX4_appeal 19 = .ok (.iload_n 2, 1) := by decide +kernel
theorem dX4_appeal_20 : decode cX4_appeal 20 = .ok (.iconst 1, 1) := by decide +kernel
theorem dX4_appeal_21 : decode cX4_appeal 21 = .ok (.iconst 3, 1) := by decide +kernel
theorem dX4_appeal_22 : decode cX4_appeal 22 = .ok (.invokestatic 37, 3) := by decide +kernel
theorem dX4_appeal_25 : decode cX4_appeal 25 = .ok (.ifCond .eq 6, 3) := by decide +kernel
theorem dX4_appeal_28 : decode cX4_appeal 28 = .ok (.ldc 41, 2) := by decide +kernel
theorem dX4_appeal_30 : decode cX4_appeal 30 = .ok (.ireturn, 1) := by decide +kernel
theorem dX4_appeal_31 : decode cX4_appeal 31 = .ok (.aload_n 3, 1) := by decide +kernel
theorem dX4_appeal_32 : decode cX4_appeal 32 = .ok (.iload_n 1, 1) := by decide +kernel
theorem dX4_appeal_33 : decode cX4_appeal 33 = .ok (.iconst 5, 1) := by decide +kernel
theorem dX4_appeal_34 : decode cX4_appeal 34 = .ok (.invokevirtual 70, 3) := by decide +kernel
theorem dX4_appeal_37 : decode cX4_appeal 37 = .ok (.ifCond .eq 6, 3) := by decide +kernel
theorem dX4_appeal_40 : decode cX4_appeal 40 = .ok (.ldc 79, 2) := by decide +kernel
theorem dX4_appeal_42 : decode cX4_appeal 42 = .ok (.ireturn, 1) := by decide +kernel
theorem dX4_appeal_43 : decode cX4_appeal 43 = .ok (.aload_n 3, 1) := by decide +kernel
theorem dX4_appeal_44 : decode cX4_appeal 44 = .ok (.iconst 5, 1) := by decide +kernel
theorem dX4_appeal_45 : decode cX4_appeal 45 = .ok (.iconst 1, 1) := by decide +kernel
theorem dX4_appeal_46 : decode cX4_appeal 46 = .ok (.invokevirtual 112, 3) := by decide +kernel
theorem dX4_appeal_49 : decode cX4_appeal 49 = .ok (.bipush 20, 2) := by decide +kernel
theorem dX4_appeal_51 : decode cX4_appeal 51 = .ok (.if_icmp .lt 6, 3) := by decide +kernel
theorem dX4_appeal_54 : decode cX4_appeal 54 = .ok (.ldc 52, 2) := by decide +kernel
theorem dX4_appeal_56 : decode cX4_appeal 56 = .ok (.ireturn, 1) := by decide +kernel
theorem dX4_appeal_57 : decode cX4_appeal 57 = .ok (.aload_n 0, 1) := by decide +kernel
theorem dX4_appeal_58 : decode cX4_appeal 58 = .ok (.getfield 22, 3) := by decide +kernel
theorem dX4_appeal_61 : decode cX4_appeal 61 = .ok (.aload_n 0, 1) := by decide +kernel
theorem dX4_appeal_62 : decode cX4_appeal 62 = .ok (.getfield 12, 3) := by decide +kernel
theorem dX4_appeal_65 : decode cX4_appeal 65 = .ok (.invokevirtual 53, 3) := by decide +kernel
theorem dX4_appeal_68 : decode cX4_appeal 68 = .ok (.aload_n 0, 1) := by decide +kernel
theorem dX4_appeal_69 : decode cX4_appeal 69 = .ok (.getfield 12, 3) := by decide +kernel
theorem dX4_appeal_72 : decode cX4_appeal 72 = .ok (.iload_n 1, 1) := by decide +kernel
theorem dX4_appeal_73 : decode cX4_appeal 73 = .ok (.iload_n 2, 1) := by decide +kernel
theorem dX4_appeal_74 : decode cX4_appeal 74 = .ok (.invokevirtual 115, 3) := by decide +kernel
theorem dX4_appeal_77 : decode cX4_appeal 77 = .ok (.istore 4, 2) := by decide +kernel
theorem dX4_appeal_79 : decode cX4_appeal 79 = .ok (.aload_n 3, 1) := by decide +kernel
theorem dX4_appeal_80 : decode cX4_appeal 80 = .ok (.iload_n 1, 1) := by decide +kernel
theorem dX4_appeal_81 : decode cX4_appeal 81 = .ok (.iconst 5, 1) := by decide +kernel
theorem dX4_appeal_82 : decode cX4_appeal 82 = .ok (.iconst 1, 1) := by decide +kernel
theorem dX4_appeal_83 : decode cX4_appeal 83 = .ok (.invokevirtual 75, 3) := by decide +kernel
theorem dX4_appeal_86 : decode cX4_appeal 86 = .ok (.aload_n 3, 1) := by decide +kernel
theorem dX4_appeal_87 : decode cX4_appeal 87 = .ok (.iload_n 1, 1) := by decide +kernel
theorem dX4_appeal_88 : decode cX4_appeal 88 = .ok (.bipush 6, 2) := by decide +kernel
theorem dX4_appeal_90 : decode cX4_appeal 90 = .ok (.iload_n 2, 1) := by decide +kernel
theorem dX4_appeal_91 : decode cX4_appeal 91 = .ok (.invokevirtual 75, 3) := by decide +kernel
theorem dX4_appeal_94 : decode cX4_appeal 94 = .ok (.aload_n 3, 1) := by decide +kernel
theorem dX4_appeal_95 : decode cX4_appeal 95 = .ok (.iload_n 1, 1) := by decide +kernel
theorem dX4_appeal_96 : decode cX4_appeal 96 = .ok (.bipush 7, 2) := by decide +kernel
theorem dX4_appeal_98 : decode cX4_appeal 98 = .ok (.iload 4, 2) := by decide +kernel
theorem dX4_appeal_100 : decode cX4_appeal 100 = .ok (.invokevirtual 75, 3) := by decide +kernel
theorem dX4_appeal_103 : decode cX4_appeal 103 = .ok (.iload 4, 2) := by decide +kernel
theorem dX4_appeal_105 : decode cX4_appeal 105 = .ok (.ireturn, 1) := by decide +kernel
def f_X4_appeal (σ : Sg)  (p1 p2 : Int32) : Option (Int32 × Sg) := (f_X3_lacks σ 2 p1).bind fun r1 => if r1 = 0 then ((f_X4_outside σ p2 (1 : Int32) (3 : Int32)).bind fun r3 => if r3 = 0 then ((f_X3_cell σ 2 p1 (5 : Int32)).bind fun r5 => if r5 = 0 then ((f_X3_rowsWith σ 2 (5 : Int32) (1 : Int32)).bind fun r7 => if r7 < (20 : Int32) then ((f_X0_push σ).bind fun σ9 => (f_X2_hopeOf σ9 p1 p2).bind fun r10 => (f_X3_put σ9 2 p1 (5 : Int32) (1 : Int32)).bind fun σ11 => (f_X3_put σ11 2 p1 (6 : Int32) p2).bind fun σ12 => (f_X3_put σ12 2 p1 (7 : Int32) r10).bind fun σ13 => some (r10, σ13)) else (some ((-10000003 : Int32), σ))) else (some ((-10000004 : Int32), σ))) else (some ((-10000002 : Int32), σ))) else (some ((-10000001 : Int32), σ))
theorem okm_X4_appeal : okm yX4_appeal 2 = true := by decide +kernel
set_option maxHeartbeats 4000000 in
set_option maxRecDepth 100000 in
theorem c_X4_appeal (l : Launch) (G : va_G) (cls : Cls) (ad : Nat → Nat) (hi : inj 49 ad) (σ : Sg)   (p1 p2 : Int32) : MT l (YX G cls ad) yX4_appeal (.code yX4_appeal cX4_appeal 5 (some .int) :: gw) 6 152 [.ref (ad 25), .int p1, .int p2] fiS σ (f_X4_appeal σ  p1 p2) := by
  refine MT.of (own := RX4) (by decide) (YX_D hi) rfl (Nat.le_of_ble_eq_true rfl) fun Γ _ hz0 hz1 hC => ?_
  show WX Γ (YX G cls ad) (qf Γ (YX G cls ad) fiS) 5 0 [(0, .ref (ad 25)), (1, .int p1), (2, .int p2)] [] σ (f_X4_appeal σ  p1 p2)
  unfold f_X4_appeal
  refine X_aload_n hC 0 rfl dX4_appeal_0 ?_
  refine X_getf (C := RX4) (T := TX4) (N := 5) (ci := 4) hC 0 (wX (k := 25) (by omega) cX_vs) rfl hinX4 (by decide) tw_100 rfl rfl dX4_appeal_1 ?_
  refine X_getf (C := RX2) (T := TX2) (N := 3) (ci := 2) hC 2 (wX (k := 19) (by omega) cX_now) rfl hinX2 (by decide) tw_51 rfl rfl dX4_appeal_4 ?_
  refine X_astore_n (ls' := [(3, .ref (ad 2)), (0, .ref (ad 25)), (1, .int p1), (2, .int p2)]) hC dX4_appeal_7 (by decide) rfl ?_
  refine X_aload_n hC 0 rfl dX4_appeal_8 ?_
  refine X_iload_n hC 2 rfl dX4_appeal_9 ?_
  refine X_callP (C := RX3) (T := TX3) (N := 4) (ci := 3) (rest := []) hC (c_X3_lacks _ G cls ad hi σ 2 (by omega) p1) (gV tw_318 tw_137 tw_138 tw_3 tw_139) rfl (wX (k := 2) (by omega) (cX_tab (by omega))) rfl rfl okm_X3_lacks (by decide) dX4_appeal_10 rfl (Nat.le_of_ble_eq_true rfl) (fun r1 => ?_)
  refine X_if_eq hC 19 dX4_appeal_13 (by decide) (fun h2 => ?_) (fun h2 => ?_)
  · refine X_iload_n hC 3 rfl dX4_appeal_19 ?_
    refine X_iconst (v := 1) hC (by decide) dX4_appeal_20 ?_
    refine X_iconst (v := 3) hC (by decide) dX4_appeal_21 ?_
    refine X_statP (rest := []) hC (c_X4_outside _ G cls ad hi σ p2 (1 : Int32) (3 : Int32)) (gSt tw_321 tw_246 tw_1 tw_247) rfl okm_X4_outside (by decide) dX4_appeal_22 rfl (Nat.le_of_ble_eq_true rfl) (fun r3 => ?_)
    refine X_if_eq hC 31 dX4_appeal_25 (by decide) (fun h4 => ?_) (fun h4 => ?_)
    · refine X_aload_n hC 0 rfl dX4_appeal_31 ?_
      refine X_iload_n hC 2 rfl dX4_appeal_32 ?_
      refine X_iconst (v := 5) hC (by decide) dX4_appeal_33 ?_
      refine X_callP (C := RX3) (T := TX3) (N := 4) (ci := 3) (rest := []) hC (c_X3_cell _ G cls ad hi σ 2 (by omega) p1 (5 : Int32)) (gV tw_255 tw_133 tw_134 tw_3 tw_135) rfl (wX (k := 2) (by omega) (cX_tab (by omega))) rfl rfl okm_X3_cell (by decide) dX4_appeal_34 rfl (Nat.le_of_ble_eq_true rfl) (fun r5 => ?_)
      refine X_if_eq hC 43 dX4_appeal_37 (by decide) (fun h6 => ?_) (fun h6 => ?_)
      · refine X_aload_n hC 0 rfl dX4_appeal_43 ?_
        refine X_iconst (v := 5) hC (by decide) dX4_appeal_44 ?_
        refine X_iconst (v := 1) hC (by decide) dX4_appeal_45 ?_
        refine X_callP (C := RX3) (T := TX3) (N := 4) (ci := 3) (rest := []) hC (c_X3_rowsWith _ G cls ad hi σ 2 (by omega) (5 : Int32) (1 : Int32)) (gV tw_342 tw_343 tw_344 tw_3 tw_345) rfl (wX (k := 2) (by omega) (cX_tab (by omega))) rfl rfl okm_X3_rowsWith (by decide) dX4_appeal_46 rfl (Nat.le_of_ble_eq_true rfl) (fun r7 => ?_)
        refine X_bipush (v := 20) hC (by decide) dX4_appeal_49 ?_
        refine X_icmp_lt hC 57 dX4_appeal_51 (by decide) (fun h8 => ?_) (fun h8 => ?_)
        · refine X_aload_n hC 1 rfl dX4_appeal_57 ?_
          refine X_getf (C := RX4) (T := TX4) (N := 5) (ci := 4) hC 2 (wX (k := 25) (by omega) cX_vs) rfl hinX4 (by decide) tw_102 rfl rfl dX4_appeal_58 ?_
          refine X_aload_n hC 1 rfl dX4_appeal_61 ?_
          refine X_getf (C := RX4) (T := TX4) (N := 5) (ci := 4) hC 0 (wX (k := 25) (by omega) cX_vs) rfl hinX4 (by decide) tw_100 rfl rfl dX4_appeal_62 ?_
          refine X_callV (C := RX0) (T := TX0) (N := 3) (ci := 0) (rest := []) hC (c_X0_push _ G cls ad hi σ) (gV tw_150 tw_151 tw_152 tw_5 tw_153) rfl (wX (k := 26) (by omega) cX_hi) rfl rfl okm_X0_push (by decide) dX4_appeal_65 rfl (Nat.le_of_ble_eq_true rfl) (fun σ9 => ?_)
          refine X_aload_n hC 1 rfl dX4_appeal_68 ?_
          refine X_getf (C := RX4) (T := TX4) (N := 5) (ci := 4) hC 0 (wX (k := 25) (by omega) cX_vs) rfl hinX4 (by decide) tw_100 rfl rfl dX4_appeal_69 ?_
          refine X_iload_n hC 2 rfl dX4_appeal_72 ?_
          refine X_iload_n hC 3 rfl dX4_appeal_73 ?_
          refine X_callP (C := RX2) (T := TX2) (N := 3) (ci := 2) (rest := []) hC (c_X2_hopeOf _ G cls ad hi σ9 p1 p2) (gV tw_501 tw_502 tw_503 tw_2 tw_504) rfl (wX (k := 19) (by omega) cX_now) rfl rfl okm_X2_hopeOf (by decide) dX4_appeal_74 rfl (Nat.le_of_ble_eq_true rfl) (fun r10 => ?_)
          refine X_istore (ls' := [(4, .int r10), (3, .ref (ad 2)), (0, .ref (ad 25)), (1, .int p1), (2, .int p2)]) hC dX4_appeal_77 (by decide) rfl ?_
          refine X_aload_n hC 1 rfl dX4_appeal_79 ?_
          refine X_iload_n hC 3 rfl dX4_appeal_80 ?_
          refine X_iconst (v := 5) hC (by decide) dX4_appeal_81 ?_
          refine X_iconst (v := 1) hC (by decide) dX4_appeal_82 ?_
          refine X_callV (C := RX3) (T := TX3) (N := 4) (ci := 3) (rest := []) hC (c_X3_put _ G cls ad hi σ9 2 (by omega) p1 (5 : Int32) (1 : Int32)) (gV tw_448 tw_181 tw_182 tw_3 tw_183) rfl (wX (k := 2) (by omega) (cX_tab (by omega))) rfl rfl okm_X3_put (by decide) dX4_appeal_83 rfl (Nat.le_of_ble_eq_true rfl) (fun σ11 => ?_)
          refine X_aload_n hC 1 rfl dX4_appeal_86 ?_
          refine X_iload_n hC 3 rfl dX4_appeal_87 ?_
          refine X_bipush (v := 6) hC (by decide) dX4_appeal_88 ?_
          refine X_iload_n hC 4 rfl dX4_appeal_90 ?_
          refine X_callV (C := RX3) (T := TX3) (N := 4) (ci := 3) (rest := []) hC (c_X3_put _ G cls ad hi σ11 2 (by omega) p1 (6 : Int32) p2) (gV tw_448 tw_181 tw_182 tw_3 tw_183) rfl (wX (k := 2) (by omega) (cX_tab (by omega))) rfl rfl okm_X3_put (by decide) dX4_appeal_91 rfl (Nat.le_of_ble_eq_true rfl) (fun σ12 => ?_)
          refine X_aload_n hC 1 rfl dX4_appeal_94 ?_
          refine X_iload_n hC 3 rfl dX4_appeal_95 ?_
          refine X_bipush (v := 7) hC (by decide) dX4_appeal_96 ?_
          refine X_iload hC 0 rfl dX4_appeal_98 ?_
          refine X_callV (C := RX3) (T := TX3) (N := 4) (ci := 3) (rest := []) hC (c_X3_put _ G cls ad hi σ12 2 (by omega) p1 (7 : Int32) r10) (gV tw_448 tw_181 tw_182 tw_3 tw_183) rfl (wX (k := 2) (by omega) (cX_tab (by omega))) rfl rfl okm_X3_put (by decide) dX4_appeal_100 rfl (Nat.le_of_ble_eq_true rfl) (fun σ13 => ?_)
          refine X_iload hC 0 rfl dX4_appeal_103 ?_
          exact X_iret hC hz0 hz1 dX4_appeal_105 rfl
        · refine X_ldc (v := -10000003) hC tw_438 dX4_appeal_54 ?_
          exact X_iret hC hz0 hz1 dX4_appeal_56 rfl
      · refine X_ldc (v := -10000004) hC tw_457 dX4_appeal_40 ?_
        exact X_iret hC hz0 hz1 dX4_appeal_42 rfl
    · refine X_ldc (v := -10000002) hC tw_322 dX4_appeal_28 ?_
      exact X_iret hC hz0 hz1 dX4_appeal_30 rfl
  · refine X_ldc (v := -10000001) hC tw_319 dX4_appeal_16 ?_
    exact X_iret hC hz0 hz1 dX4_appeal_18 rfl
theorem dX4_decide_0 : decode cX4_decide 0 = .ok (.aload_n 0, 1) := by decide +kernel
theorem dX4_decide_1 : decode cX4_decide 1 = .ok (.getfield 12, 3) := by decide +kernel
theorem dX4_decide_4 : decode cX4_decide 4 = .ok (.iconst 0, 1) := by decide +kernel
theorem dX4_decide_5 : decode cX4_decide 5 = .ok (.invokevirtual 118, 3) := by decide +kernel
theorem dX4_decide_8 : decode cX4_decide 8 = .ok (.istore_n 1, 1) := by decide +kernel
theorem dX4_decide_9 : decode cX4_decide 9 = .ok (.iload_n 1, 1) := by decide +kernel
theorem dX4_decide_10 : decode cX4_decide 10 = .ok (.ldc 74, 2) := by decide +kernel
theorem dX4_decide_12 : decode cX4_decide 12 = .ok (.if_icmp .ne 6, 3) := by decide +kernel
theorem dX4_decide_15 : decode cX4_decide 15 = .ok (.ldc 74, 2) := by decide +kernel
theorem dX4_decide_17 : decode cX4_decide 17 = .ok (.ireturn, 1) := by decide +kernel
theorem dX4_decide_18 : decode cX4_decide 18 = .ok (.aload_n 0, 1) := by decide +kernel
theorem dX4_decide_19 : decode cX4_decide 19 = .ok (.getfield 22, 3) := by decide +kernel
theorem dX4_decide_22 : decode cX4_decide 22 = .ok (.aload_n 0, 1) := by decide +kernel
theorem dX4_decide_23 : decode cX4_decide 23 = .ok (.getfield 12, 3) := by decide +kernel
theorem dX4_decide_26 : decode cX4_decide 26 = .ok (.invokevirtual 53, 3) := by decide +kernel
theorem dX4_decide_29 : decode cX4_decide 29 = .ok (.aload_n 0, 1) := by decide +kernel
theorem dX4_decide_30 : decode cX4_decide 30 = .ok (.getfield 12, 3) := by decide +kernel
theorem dX4_decide_33 : decode cX4_decide 33 = .ok (.iload_n 1, 1) := by decide +kernel
theorem dX4_decide_34 : decode cX4_decide 34 = .ok (.invokevirtual 121, 3) := by decide +kernel
theorem dX4_decide_37 : decode cX4_decide 37 = .ok (.istore_n 2, 1) := by decide +kernel
theorem dX4_decide_38 : decode cX4_decide 38 = .ok (.aload_n 0, 1) := by decide +kernel
theorem dX4_decide_39 : decode cX4_decide 39 = .ok (.getfield 12, 3) := by decide +kernel
theorem dX4_decide_42 : decode cX4_decide 42 = .ok (.iload_n 1, 1) := by decide +kernel
theorem dX4_decide_43 : decode cX4_decide 43 = .ok (.iload_n 2, 1) := by decide +kernel
theorem dX4_decide_44 : decode cX4_decide 44 = .ok (.invokevirtual 124, 3) := by decide +kernel
theorem dX4_decide_47 : decode cX4_decide 47 = .ok (.iconst 2, 1) := by decide +kernel
theorem dX4_decide_48 : decode cX4_decide 48 = .ok (.iload_n 1, 1) := by decide +kernel
theorem dX4_decide_49 : decode cX4_decide 49 = .ok (.imul, 1) := by decide +kernel
theorem dX4_decide_50 : decode cX4_decide 50 = .ok (.iload_n 2, 1) := by decide +kernel
theorem dX4_decide_51 : decode cX4_decide 51 = .ok (.ifCond .eq 7, 3) := by decide +kernel
theorem dX4_decide_54 : decode cX4_decide 54 = .ok (.iconst 1, 1) := by decide +kernel
theorem dX4_decide_55 : decode cX4_decide 55 = .ok (.goto 4, 3) := by decide +kernel
theorem dX4_decide_58 : decode cX4_decide 58 = .ok (.iconst 0, 1) := by decide +kernel
theorem dX4_decide_59 : decode cX4_decide 59 = .ok (.iadd, 1) := by decide +kernel
theorem dX4_decide_60 : decode cX4_decide 60 = .ok (.ireturn, 1) := by decide +kernel
def f_X4_decide (σ : Sg)   : Option (Int32 × Sg) := (f_X2_waitingAt σ (0 : Int32)).bind fun r1 => if r1 = (-10000005 : Int32) then (some ((-10000005 : Int32), σ)) else ((f_X0_push σ).bind fun σ3 => (f_X2_isJustified σ3 r1).bind fun r4 => (f_X2_settle σ3 r1 r4).bind fun σ5 => if r4 = 0 then (some ((((2 : Int32) * r1) + (0 : Int32)), σ5)) else (some ((((2 : Int32) * r1) + (1 : Int32)), σ5)))
theorem okm_X4_decide : okm yX4_decide 0 = true := by decide +kernel
set_option maxHeartbeats 4000000 in
set_option maxRecDepth 100000 in
theorem c_X4_decide (l : Launch) (G : va_G) (cls : Cls) (ad : Nat → Nat) (hi : inj 49 ad) (σ : Sg)    : MT l (YX G cls ad) yX4_decide (.code yX4_decide cX4_decide 3 (some .int) :: gw) 5 115 [.ref (ad 25)] fiS σ (f_X4_decide σ  ) := by
  refine MT.of (own := RX4) (by decide) (YX_D hi) rfl (Nat.le_of_ble_eq_true rfl) fun Γ _ hz0 hz1 hC => ?_
  show WX Γ (YX G cls ad) (qf Γ (YX G cls ad) fiS) 3 0 [(0, .ref (ad 25))] [] σ (f_X4_decide σ  )
  unfold f_X4_decide
  refine X_aload_n hC 0 rfl dX4_decide_0 ?_
  refine X_getf (C := RX4) (T := TX4) (N := 5) (ci := 4) hC 0 (wX (k := 25) (by omega) cX_vs) rfl hinX4 (by decide) tw_100 rfl rfl dX4_decide_1 ?_
  refine X_iconst (v := 0) hC (by decide) dX4_decide_4 ?_
  refine X_callP (C := RX2) (T := TX2) (N := 3) (ci := 2) (rest := []) hC (c_X2_waitingAt _ G cls ad hi σ (0 : Int32)) (gV tw_120 tw_121 tw_122 tw_2 tw_123) rfl (wX (k := 19) (by omega) cX_now) rfl rfl okm_X2_waitingAt (by decide) dX4_decide_5 rfl (Nat.le_of_ble_eq_true rfl) (fun r1 => ?_)
  refine X_istore_n (ls' := [(1, .int r1), (0, .ref (ad 25))]) hC dX4_decide_8 (by decide) rfl ?_
  refine X_iload_n hC 0 rfl dX4_decide_9 ?_
  refine X_ldc (v := -10000005) hC tw_149 dX4_decide_10 ?_
  refine X_icmp_ne hC 18 dX4_decide_12 (by decide) (fun h2 => ?_) (fun h2 => ?_)
  · refine X_aload_n hC 1 rfl dX4_decide_18 ?_
    refine X_getf (C := RX4) (T := TX4) (N := 5) (ci := 4) hC 2 (wX (k := 25) (by omega) cX_vs) rfl hinX4 (by decide) tw_102 rfl rfl dX4_decide_19 ?_
    refine X_aload_n hC 1 rfl dX4_decide_22 ?_
    refine X_getf (C := RX4) (T := TX4) (N := 5) (ci := 4) hC 0 (wX (k := 25) (by omega) cX_vs) rfl hinX4 (by decide) tw_100 rfl rfl dX4_decide_23 ?_
    refine X_callV (C := RX0) (T := TX0) (N := 3) (ci := 0) (rest := []) hC (c_X0_push _ G cls ad hi σ) (gV tw_150 tw_151 tw_152 tw_5 tw_153) rfl (wX (k := 26) (by omega) cX_hi) rfl rfl okm_X0_push (by decide) dX4_decide_26 rfl (Nat.le_of_ble_eq_true rfl) (fun σ3 => ?_)
    refine X_aload_n hC 1 rfl dX4_decide_29 ?_
    refine X_getf (C := RX4) (T := TX4) (N := 5) (ci := 4) hC 0 (wX (k := 25) (by omega) cX_vs) rfl hinX4 (by decide) tw_100 rfl rfl dX4_decide_30 ?_
    refine X_iload_n hC 0 rfl dX4_decide_33 ?_
    refine X_callP (C := RX2) (T := TX2) (N := 3) (ci := 2) (rest := []) hC (c_X2_isJustified _ G cls ad hi σ3 r1) (gV tw_172 tw_173 tw_174 tw_2 tw_175) rfl (wX (k := 19) (by omega) cX_now) rfl rfl okm_X2_isJustified (by decide) dX4_decide_34 rfl (Nat.le_of_ble_eq_true rfl) (fun r4 => ?_)
    refine X_istore_n (ls' := [(2, .int r4), (1, .int r1), (0, .ref (ad 25))]) hC dX4_decide_37 (by decide) rfl ?_
    refine X_aload_n hC 2 rfl dX4_decide_38 ?_
    refine X_getf (C := RX4) (T := TX4) (N := 5) (ci := 4) hC 0 (wX (k := 25) (by omega) cX_vs) rfl hinX4 (by decide) tw_100 rfl rfl dX4_decide_39 ?_
    refine X_iload_n hC 1 rfl dX4_decide_42 ?_
    refine X_iload_n hC 0 rfl dX4_decide_43 ?_
    refine X_callV (C := RX2) (T := TX2) (N := 3) (ci := 2) (rest := []) hC (c_X2_settle _ G cls ad hi σ3 r1 r4) (gV tw_176 tw_177 tw_178 tw_2 tw_179) rfl (wX (k := 19) (by omega) cX_now) rfl rfl okm_X2_settle (by decide) dX4_decide_44 rfl (Nat.le_of_ble_eq_true rfl) (fun σ5 => ?_)
    refine X_iconst (v := 2) hC (by decide) dX4_decide_47 ?_
    refine X_iload_n hC 1 rfl dX4_decide_48 ?_
    refine X_imul hC dX4_decide_49 ?_
    refine X_iload_n hC 0 rfl dX4_decide_50 ?_
    refine X_if_eq hC 58 dX4_decide_51 (by decide) (fun h6 => ?_) (fun h6 => ?_)
    · refine X_iconst (v := 0) hC (by decide) dX4_decide_58 ?_
      refine X_iadd hC dX4_decide_59 ?_
      exact X_iret hC hz0 hz1 dX4_decide_60 rfl
    · refine X_iconst (v := 1) hC (by decide) dX4_decide_54 ?_
      refine X_goto hC 59 dX4_decide_55 (by decide) ?_
      refine X_iadd hC dX4_decide_59 ?_
      exact X_iret hC hz0 hz1 dX4_decide_60 rfl
  · refine X_ldc (v := -10000005) hC tw_149 dX4_decide_15 ?_
    exact X_iret hC hz0 hz1 dX4_decide_17 rfl
theorem dX4_readPapers_0 : decode cX4_readPapers 0 = .ok (.aload_n 0, 1) := by decide +kernel
theorem dX4_readPapers_1 : decode cX4_readPapers 1 = .ok (.getfield 29, 3) := by decide +kernel
theorem dX4_readPapers_4 : decode cX4_readPapers 4 = .ok (.invokevirtual 139, 3) := by decide +kernel
theorem dX4_readPapers_7 : decode cX4_readPapers 7 = .ok (.istore_n 1, 1) := by decide +kernel
theorem dX4_readPapers_8 : decode cX4_readPapers 8 = .ok (.iload_n 1, 1) := by decide +kernel
theorem dX4_readPapers_9 : decode cX4_readPapers 9 = .ok (.iconst (-1), 1) := by decide +kernel
theorem dX4_readPapers_10 : decode cX4_readPapers 10 = .ok (.if_icmp .eq 8, 3) := by decide +kernel
theorem dX4_readPapers_13 : decode cX4_readPapers 13 = .ok (.bipush (-100), 2) := by decide +kernel
theorem dX4_readPapers_15 : decode cX4_readPapers 15 = .ok (.iload_n 1, 1) := by decide +kernel
theorem dX4_readPapers_16 : decode cX4_readPapers 16 = .ok (.isub, 1) := by decide +kernel
theorem dX4_readPapers_17 : decode cX4_readPapers 17 = .ok (.ireturn, 1) := by decide +kernel
theorem dX4_readPapers_18 : decode cX4_readPapers 18 = .ok (.aload_n 0, 1) := by decide +kernel
theorem dX4_readPapers_19 : decode cX4_readPapers 19 = .ok (.getfield 29, 3) := by decide +kernel
theorem dX4_readPapers_22 : decode cX4_readPapers 22 = .ok (.invokevirtual 142, 3) := by decide +kernel
theorem dX4_readPapers_25 : decode cX4_readPapers 25 = .ok (.astore_n 2, 1) := by decide +kernel
theorem dX4_readPapers_26 : decode cX4_readPapers 26 = .ok (.aload_n 0, 1) := by decide +kernel
theorem dX4_readPapers_27 : decode cX4_readPapers 27 = .ok (.getfield 12, 3) := by decide +kernel
theorem dX4_readPapers_30 : decode cX4_readPapers 30 = .ok (.aload_n 2, 1) := by decide +kernel
theorem dX4_readPapers_31 : decode cX4_readPapers 31 = .ok (.invokevirtual 146, 3) := by decide +kernel
theorem dX4_readPapers_34 : decode cX4_readPapers 34 = .ok (.istore_n 3, 1) := by decide +kernel
theorem dX4_readPapers_35 : decode cX4_readPapers 35 = .ok (.iload_n 3, 1) := by decide +kernel
theorem dX4_readPapers_36 : decode cX4_readPapers 36 = .ok (.ifCond .eq 5, 3) := by decide +kernel
theorem dX4_readPapers_39 : decode cX4_readPapers 39 = .ok (.iload_n 3, 1) := by decide +kernel
theorem dX4_readPapers_40 : decode cX4_readPapers 40 = .ok (.ireturn, 1) := by decide +kernel
theorem dX4_readPapers_41 : decode cX4_readPapers 41 = .ok (.aload_n 0, 1) := by decide +kernel
theorem dX4_readPapers_42 : decode cX4_readPapers 42 = .ok (.getfield 22, 3) := by decide +kernel
theorem dX4_readPapers_45 : decode cX4_readPapers 45 = .ok (.aload_n 0, 1) := by decide +kernel
theorem dX4_readPapers_46 : decode cX4_readPapers 46 = .ok (.getfield 12, 3) := by decide +kernel
theorem dX4_readPapers_49 : decode cX4_readPapers 49 = .ok (.invokevirtual 53, 3) := by decide +kernel
theorem dX4_readPapers_52 : decode cX4_readPapers 52 = .ok (.iconst 0, 1) := by decide +kernel
theorem dX4_readPapers_53 : decode cX4_readPapers 53 = .ok (.istore 4, 2) := by decide +kernel
theorem dX4_readPapers_55 : decode cX4_readPapers 55 = .ok (.iconst 0, 1) := by decide +kernel
theorem dX4_readPapers_56 : decode cX4_readPapers 56 = .ok (.istore 5, 2) := by decide +kernel
theorem dX4_readPapers_58 : decode cX4_readPapers 58 = .ok (.iload 5, 2) := by decide +kernel
theorem dX4_readPapers_60 : decode cX4_readPapers 60 = .ok (.aload_n 2, 1) := by decide +kernel
theorem dX4_readPapers_61 : decode cX4_readPapers 61 = .ok (.invokevirtual 150, 3) := by decide +kernel
theorem dX4_readPapers_64 : decode cX4_readPapers 64 = .ok (.if_icmp .ge 42, 3) := by decide +kernel
theorem dX4_readPapers_67 : decode cX4_readPapers 67 = .ok (.iload 4, 2) := by decide +kernel
theorem dX4_readPapers_69 : decode cX4_readPapers 69 = .ok (.aload_n 0, 1) := by decide +kernel
theorem dX4_readPapers_70 : decode cX4_readPapers 70 = .ok (.getfield 12, 3) := by decide +kernel
theorem dX4_readPapers_73 : decode cX4_readPapers 73 = .ok (.aload_n 2, 1) := by decide +kernel
theorem dX4_readPapers_74 : decode cX4_readPapers 74 = .ok (.iload 5, 2) := by decide +kernel
theorem dX4_readPapers_76 : decode cX4_readPapers 76 = .ok (.iconst 0, 1) := by decide +kernel
theorem dX4_readPapers_77 : decode cX4_readPapers 77 = .ok (.invokevirtual 70, 3) := by decide +kernel
theorem dX4_readPapers_80 : decode cX4_readPapers 80 = .ok (.aload_n 2, 1) := by decide +kernel
theorem dX4_readPapers_81 : decode cX4_readPapers 81 = .ok (.iload 5, 2) := by decide +kernel
theorem dX4_readPapers_83 : decode cX4_readPapers 83 = .ok (.iconst 1, 1) := by decide +kernel
theorem dX4_readPapers_84 : decode cX4_readPapers 84 = .ok (.invokevirtual 70, 3) := by decide +kernel
theorem dX4_readPapers_87 : decode cX4_readPapers 87 = .ok (.aload_n 2, 1) := by decide +kernel
theorem dX4_readPapers_88 : decode cX4_readPapers 88 = .ok (.iload 5, 2) := by decide +kernel
theorem dX4_readPapers_90 : decode cX4_readPapers 90 = .ok (.iconst 2, 1) := by decide +kernel
theorem dX4_readPapers_91 : decode cX4_readPapers 91 = .ok (.invokevirtual 70, 3) := by decide +kernel
theorem dX4_readPapers_94 : decode cX4_readPapers 94 = .ok (.invokevirtual 108, 3) := by decide +kernel
theorem dX4_readPapers_97 : decode cX4_readPapers 97 = .ok (.iadd, 1) := by decide +kernel
theorem dX4_readPapers_98 : decode cX4_readPapers 98 = .ok (.istore 4, 2) := by decide +kernel
theorem dX4_readPapers_100 : decode cX4_readPapers 100 = .ok (.iinc 5 1, 3) := by decide +kernel
theorem dX4_readPapers_103 : decode cX4_readPapers 103 = .ok (.goto (-45), 3) := by decide +kernel
theorem dX4_readPapers_106 : decode cX4_readPapers 106 = .ok (.iload 4, 2) := by decide +kernel
theorem dX4_readPapers_108 : decode cX4_readPapers 108 = .ok (.ireturn, 1) := by decide +kernel
def f_X4_readPapers_b58    : Nat → Sg → Int32 → Int32 → Option (Int32 × Sg)
  | 0, _, _, _ => none
  | n + 1, σ, v4, v5 => (f_X3_size σ 18).bind fun r9 => if r9 ≤ v5 then (some (v4, σ)) else ((f_X3_cell σ 18 v5 (0 : Int32)).bind fun r11 => (f_X3_cell σ 18 v5 (1 : Int32)).bind fun r12 => (f_X3_cell σ 18 v5 (2 : Int32)).bind fun r13 => (f_X2_newPaper σ r11 r12 r13).bind fun q18 => lts q18.2 fun σ15 => lt q18.1 fun r14 => lt (v4 + r14) fun x16 => lt (v5 + (1 : Int32)) fun x17 => (f_X4_readPapers_b58   n) σ15 x16 x17)
def f_X4_readPapers (σ : Sg)   : Option (Int32 × Sg) := (f_X1_readDrafts σ).bind fun q19 => lts q19.2 fun σ2 => lt q19.1 fun r1 => if r1 = (-1 : Int32) then ((f_X1_drafts σ2).bind fun c4 => gd (decide (c4 = 18)) ((f_X2_errorOf σ2).bind fun r6 => if r6 = 0 then ((f_X0_push σ2).bind fun σ8 => f_X4_readPapers_b58 fuel σ8 (0 : Int32) (0 : Int32)) else (some (r6, σ2)))) else (some (((-100 : Int32) - r1), σ2))
set_option maxHeartbeats 4000000 in
set_option maxRecDepth 100000 in
theorem L_X4_readPapers_b58 {Γ : Cx} (G : va_G) (cls : Cls) (ad : Nat → Nat) (hi : inj 49 ad) (hC : CX Γ (YX G cls ad) cX4_readPapers RX4 6 (some .int) 6 149) (hz0 : Γ.2.2.2.2.2.1 = 0) (hz1 : Γ.2.2.2.2.2.2 = 0)     : ∀ (n : Nat) (σ : Sg) (v4 v5 : Int32), WX Γ (YX G cls ad) (qf Γ (YX G cls ad) fiS) 6 58 [(0, .ref (ad 25)), (2, .ref (ad 18)), (4, .int v4), (5, .int v5)] [] σ (f_X4_readPapers_b58   n σ v4 v5) := by
  intro n
  induction n with
  | zero => intro σ v4 v5; exact X_none
  | succ n ih =>
    intro σ v4 v5
    rw [f_X4_readPapers_b58.eq_2]
    refine X_iload hC 3 rfl dX4_readPapers_58 ?_
    refine X_aload_n hC 1 rfl dX4_readPapers_60 ?_
    refine X_callP (C := RX3) (T := TX3) (N := 4) (ci := 3) (rest := [.int v5]) hC (c_X3_size _ G cls ad hi σ 18 (by omega)) (gV tw_254 tw_125 tw_126 tw_3 tw_127) rfl (wX (k := 18) (by omega) (cX_tab (by omega))) rfl rfl okm_X3_size (by decide) dX4_readPapers_61 rfl (Nat.le_of_ble_eq_true rfl) (fun r9 => ?_)
    refine X_icmp_ge hC 106 dX4_readPapers_64 (by decide) (fun h10 => ?_) (fun h10 => ?_)
    · refine X_iload hC 2 rfl dX4_readPapers_106 ?_
      exact X_iret hC hz0 hz1 dX4_readPapers_108 rfl
    · refine X_iload hC 2 rfl dX4_readPapers_67 ?_
      refine X_aload_n hC 0 rfl dX4_readPapers_69 ?_
      refine X_getf (C := RX4) (T := TX4) (N := 5) (ci := 4) hC 0 (wX (k := 25) (by omega) cX_vs) rfl hinX4 (by decide) tw_100 rfl rfl dX4_readPapers_70 ?_
      refine X_aload_n hC 1 rfl dX4_readPapers_73 ?_
      refine X_iload hC 3 rfl dX4_readPapers_74 ?_
      refine X_iconst (v := 0) hC (by decide) dX4_readPapers_76 ?_
      refine X_callP (C := RX3) (T := TX3) (N := 4) (ci := 3) (rest := [.ref (ad 19), .int v4]) hC (c_X3_cell _ G cls ad hi σ 18 (by omega) v5 (0 : Int32)) (gV tw_255 tw_133 tw_134 tw_3 tw_135) rfl (wX (k := 18) (by omega) (cX_tab (by omega))) rfl rfl okm_X3_cell (by decide) dX4_readPapers_77 rfl (Nat.le_of_ble_eq_true rfl) (fun r11 => ?_)
      refine X_aload_n hC 1 rfl dX4_readPapers_80 ?_
      refine X_iload hC 3 rfl dX4_readPapers_81 ?_
      refine X_iconst (v := 1) hC (by decide) dX4_readPapers_83 ?_
      refine X_callP (C := RX3) (T := TX3) (N := 4) (ci := 3) (rest := [.int r11, .ref (ad 19), .int v4]) hC (c_X3_cell _ G cls ad hi σ 18 (by omega) v5 (1 : Int32)) (gV tw_255 tw_133 tw_134 tw_3 tw_135) rfl (wX (k := 18) (by omega) (cX_tab (by omega))) rfl rfl okm_X3_cell (by decide) dX4_readPapers_84 rfl (Nat.le_of_ble_eq_true rfl) (fun r12 => ?_)
      refine X_aload_n hC 1 rfl dX4_readPapers_87 ?_
      refine X_iload hC 3 rfl dX4_readPapers_88 ?_
      refine X_iconst (v := 2) hC (by decide) dX4_readPapers_90 ?_
      refine X_callP (C := RX3) (T := TX3) (N := 4) (ci := 3) (rest := [.int r12, .int r11, .ref (ad 19), .int v4]) hC (c_X3_cell _ G cls ad hi σ 18 (by omega) v5 (2 : Int32)) (gV tw_255 tw_133 tw_134 tw_3 tw_135) rfl (wX (k := 18) (by omega) (cX_tab (by omega))) rfl rfl okm_X3_cell (by decide) dX4_readPapers_91 rfl (Nat.le_of_ble_eq_true rfl) (fun r13 => ?_)
      refine X_callS (C := RX2) (T := TX2) (N := 3) (ci := 2) (rest := [.int v4]) hC (c_X2_newPaper _ G cls ad hi σ r11 r12 r13) (gV tw_256 tw_257 tw_258 tw_2 tw_259) rfl (wX (k := 19) (by omega) cX_now) rfl rfl okm_X2_newPaper (by decide) dX4_readPapers_94 rfl (Nat.le_of_ble_eq_true rfl) (fun q18 => X_lts fun σ15 => X_lt fun r14 => ?_)
      refine X_iadd hC dX4_readPapers_97 ?_
      refine X_lt (fun x16 => ?_)
      refine X_istore (ls' := [(4, .int x16), (0, .ref (ad 25)), (2, .ref (ad 18)), (5, .int v5)]) hC dX4_readPapers_98 (by decide) rfl ?_
      refine X_iinc (ls' := fun x17 => [(5, .int x17), (4, .int x16), (0, .ref (ad 25)), (2, .ref (ad 18))]) hC 3 dX4_readPapers_100 rfl (by decide) (by decide) (fun _ => rfl) (fun x17 => ?_)
      refine X_goto hC 58 dX4_readPapers_103 (by decide) ?_
      exact X_sub [2, 3, 1, 0] rfl (ih σ15 x16 x17)
theorem okm_X4_readPapers : okm yX4_readPapers 0 = true := by decide +kernel
set_option maxHeartbeats 4000000 in
set_option maxRecDepth 100000 in
theorem c_X4_readPapers (l : Launch) (G : va_G) (cls : Cls) (ad : Nat → Nat) (hi : inj 49 ad) (σ : Sg)    : MT l (YX G cls ad) yX4_readPapers (.code yX4_readPapers cX4_readPapers 6 (some .int) :: gw) 6 149 [.ref (ad 25)] fiS σ (f_X4_readPapers σ  ) := by
  refine MT.of (own := RX4) (by decide) (YX_D hi) rfl (Nat.le_of_ble_eq_true rfl) fun Γ _ hz0 hz1 hC => ?_
  show WX Γ (YX G cls ad) (qf Γ (YX G cls ad) fiS) 6 0 [(0, .ref (ad 25))] [] σ (f_X4_readPapers σ  )
  unfold f_X4_readPapers
  refine X_aload_n hC 0 rfl dX4_readPapers_0 ?_
  refine X_getf (C := RX4) (T := TX4) (N := 5) (ci := 4) hC 3 (wX (k := 25) (by omega) cX_vs) rfl hinX4 (by decide) tw_103 rfl rfl dX4_readPapers_1 ?_
  refine X_callS (C := RX1) (T := TX1) (N := 4) (ci := 1) (rest := []) hC (c_X1_readDrafts _ G cls ad hi σ) (gV tw_194 tw_195 tw_196 tw_6 tw_197) rfl (wX (k := 27) (by omega) cX_pt) rfl rfl okm_X1_readDrafts (by decide) dX4_readPapers_4 rfl (Nat.le_of_ble_eq_true rfl) (fun q19 => X_lts fun σ2 => X_lt fun r1 => ?_)
  refine X_istore_n (ls' := [(1, .int r1), (0, .ref (ad 25))]) hC dX4_readPapers_7 (by decide) rfl ?_
  refine X_iload_n hC 0 rfl dX4_readPapers_8 ?_
  refine X_iconst (v := -1) hC (by decide) dX4_readPapers_9 ?_
  refine X_icmp_eq hC 18 dX4_readPapers_10 (by decide) (fun h3 => ?_) (fun h3 => ?_)
  · refine X_aload_n hC 1 rfl dX4_readPapers_18 ?_
    refine X_getf (C := RX4) (T := TX4) (N := 5) (ci := 4) hC 3 (wX (k := 25) (by omega) cX_vs) rfl hinX4 (by decide) tw_103 rfl rfl dX4_readPapers_19 ?_
    refine X_callR (C := RX1) (T := TX1) (N := 4) (ci := 1) (rest := []) hC (c_X1_drafts _ G cls ad hi σ2) (gV tw_231 tw_232 tw_233 tw_6 tw_234) rfl (wX (k := 27) (by omega) cX_pt) rfl rfl okm_X1_drafts (by decide) dX4_readPapers_22 rfl (Nat.le_of_ble_eq_true rfl) (fun c4 => X_gd fun h5 => ?_)
    have h5 := of_decide_eq_true h5
    subst h5
    refine X_astore_n (ls' := [(2, .ref (ad 18)), (1, .int r1), (0, .ref (ad 25))]) hC dX4_readPapers_25 (by decide) rfl ?_
    refine X_aload_n hC 2 rfl dX4_readPapers_26 ?_
    refine X_getf (C := RX4) (T := TX4) (N := 5) (ci := 4) hC 0 (wX (k := 25) (by omega) cX_vs) rfl hinX4 (by decide) tw_100 rfl rfl dX4_readPapers_27 ?_
    refine X_aload_n hC 0 rfl dX4_readPapers_30 ?_
    refine X_callP (C := RX2) (T := TX2) (N := 3) (ci := 2) (rest := []) hC (c_X2_errorOf _ G cls ad hi σ2) (gV tw_235 tw_236 tw_237 tw_2 tw_238) rfl (wX (k := 19) (by omega) cX_now) rfl rfl okm_X2_errorOf (by decide) dX4_readPapers_31 rfl (Nat.le_of_ble_eq_true rfl) (fun r6 => ?_)
    refine X_istore_n (ls' := [(3, .int r6), (2, .ref (ad 18)), (1, .int r1), (0, .ref (ad 25))]) hC dX4_readPapers_34 (by decide) rfl ?_
    refine X_iload_n hC 0 rfl dX4_readPapers_35 ?_
    refine X_if_eq hC 41 dX4_readPapers_36 (by decide) (fun h7 => ?_) (fun h7 => ?_)
    · refine X_aload_n hC 3 rfl dX4_readPapers_41 ?_
      refine X_getf (C := RX4) (T := TX4) (N := 5) (ci := 4) hC 2 (wX (k := 25) (by omega) cX_vs) rfl hinX4 (by decide) tw_102 rfl rfl dX4_readPapers_42 ?_
      refine X_aload_n hC 3 rfl dX4_readPapers_45 ?_
      refine X_getf (C := RX4) (T := TX4) (N := 5) (ci := 4) hC 0 (wX (k := 25) (by omega) cX_vs) rfl hinX4 (by decide) tw_100 rfl rfl dX4_readPapers_46 ?_
      refine X_callV (C := RX0) (T := TX0) (N := 3) (ci := 0) (rest := []) hC (c_X0_push _ G cls ad hi σ2) (gV tw_150 tw_151 tw_152 tw_5 tw_153) rfl (wX (k := 26) (by omega) cX_hi) rfl rfl okm_X0_push (by decide) dX4_readPapers_49 rfl (Nat.le_of_ble_eq_true rfl) (fun σ8 => ?_)
      refine X_iconst (v := 0) hC (by decide) dX4_readPapers_52 ?_
      refine X_istore (ls' := [(4, .int (0 : Int32)), (3, .int r6), (2, .ref (ad 18)), (1, .int r1), (0, .ref (ad 25))]) hC dX4_readPapers_53 (by decide) rfl ?_
      refine X_iconst (v := 0) hC (by decide) dX4_readPapers_55 ?_
      refine X_istore (ls' := [(5, .int (0 : Int32)), (4, .int (0 : Int32)), (3, .int r6), (2, .ref (ad 18)), (1, .int r1), (0, .ref (ad 25))]) hC dX4_readPapers_56 (by decide) rfl ?_
      exact X_sub [5, 3, 1, 0] rfl (L_X4_readPapers_b58 G cls ad hi hC hz0 hz1 fuel σ8 (0 : Int32) (0 : Int32))
    · refine X_iload_n hC 0 rfl dX4_readPapers_39 ?_
      exact X_iret hC hz0 hz1 dX4_readPapers_40 rfl
  · refine X_bipush (v := -100) hC (by decide) dX4_readPapers_13 ?_
    refine X_iload_n hC 0 rfl dX4_readPapers_15 ?_
    refine X_isub hC dX4_readPapers_16 ?_
    exact X_iret hC hz0 hz1 dX4_readPapers_17 rfl
theorem dX4_undo_0 : decode cX4_undo 0 = .ok (.aload_n 0, 1) := by decide +kernel
theorem dX4_undo_1 : decode cX4_undo 1 = .ok (.getfield 22, 3) := by decide +kernel
theorem dX4_undo_4 : decode cX4_undo 4 = .ok (.invokevirtual 153, 3) := by decide +kernel
theorem dX4_undo_7 : decode cX4_undo 7 = .ok (.ifCond .ne 6, 3) := by decide +kernel
theorem dX4_undo_10 : decode cX4_undo 10 = .ok (.ldc 74, 2) := by decide +kernel
theorem dX4_undo_12 : decode cX4_undo 12 = .ok (.ireturn, 1) := by decide +kernel
theorem dX4_undo_13 : decode cX4_undo 13 = .ok (.aload_n 0, 1) := by decide +kernel
theorem dX4_undo_14 : decode cX4_undo 14 = .ok (.getfield 22, 3) := by decide +kernel
theorem dX4_undo_17 : decode cX4_undo 17 = .ok (.aload_n 0, 1) := by decide +kernel
theorem dX4_undo_18 : decode cX4_undo 18 = .ok (.getfield 12, 3) := by decide +kernel
theorem dX4_undo_21 : decode cX4_undo 21 = .ok (.invokevirtual 154, 3) := by decide +kernel
theorem dX4_undo_24 : decode cX4_undo 24 = .ok (.aload_n 0, 1) := by decide +kernel
theorem dX4_undo_25 : decode cX4_undo 25 = .ok (.getfield 22, 3) := by decide +kernel
theorem dX4_undo_28 : decode cX4_undo 28 = .ok (.invokevirtual 153, 3) := by decide +kernel
theorem dX4_undo_31 : decode cX4_undo 31 = .ok (.ireturn, 1) := by decide +kernel
def f_X4_undo (σ : Sg)   : Option (Int32 × Sg) := (f_X0_size σ).bind fun r1 => if r1 = 0 then (some ((-10000005 : Int32), σ)) else ((f_X0_pop σ).bind fun σ3 => (f_X0_size σ3).bind fun r4 => some (r4, σ3))
theorem okm_X4_undo : okm yX4_undo 0 = true := by decide +kernel
set_option maxHeartbeats 4000000 in
set_option maxRecDepth 100000 in
theorem c_X4_undo (l : Launch) (G : va_G) (cls : Cls) (ad : Nat → Nat) (hi : inj 49 ad) (σ : Sg)    : MT l (YX G cls ad) yX4_undo (.code yX4_undo cX4_undo 1 (some .int) :: gw) 4 89 [.ref (ad 25)] fiS σ (f_X4_undo σ  ) := by
  refine MT.of (own := RX4) (by decide) (YX_D hi) rfl (Nat.le_of_ble_eq_true rfl) fun Γ _ hz0 hz1 hC => ?_
  show WX Γ (YX G cls ad) (qf Γ (YX G cls ad) fiS) 1 0 [(0, .ref (ad 25))] [] σ (f_X4_undo σ  )
  unfold f_X4_undo
  refine X_aload_n hC 0 rfl dX4_undo_0 ?_
  refine X_getf (C := RX4) (T := TX4) (N := 5) (ci := 4) hC 2 (wX (k := 25) (by omega) cX_vs) rfl hinX4 (by decide) tw_102 rfl rfl dX4_undo_1 ?_
  refine X_callP (C := RX0) (T := TX0) (N := 3) (ci := 0) (rest := []) hC (c_X0_size _ G cls ad hi σ) (gV tw_301 tw_302 tw_303 tw_5 tw_304) rfl (wX (k := 26) (by omega) cX_hi) rfl rfl okm_X0_size (by decide) dX4_undo_4 rfl (Nat.le_of_ble_eq_true rfl) (fun r1 => ?_)
  refine X_if_ne hC 13 dX4_undo_7 (by decide) (fun h2 => ?_) (fun h2 => ?_)
  · refine X_aload_n hC 0 rfl dX4_undo_13 ?_
    refine X_getf (C := RX4) (T := TX4) (N := 5) (ci := 4) hC 2 (wX (k := 25) (by omega) cX_vs) rfl hinX4 (by decide) tw_102 rfl rfl dX4_undo_14 ?_
    refine X_aload_n hC 0 rfl dX4_undo_17 ?_
    refine X_getf (C := RX4) (T := TX4) (N := 5) (ci := 4) hC 0 (wX (k := 25) (by omega) cX_vs) rfl hinX4 (by decide) tw_100 rfl rfl dX4_undo_18 ?_
    refine X_callV (C := RX0) (T := TX0) (N := 3) (ci := 0) (rest := []) hC (c_X0_pop _ G cls ad hi σ) (gV tw_305 tw_306 tw_307 tw_5 tw_308) rfl (wX (k := 26) (by omega) cX_hi) rfl rfl okm_X0_pop (by decide) dX4_undo_21 rfl (Nat.le_of_ble_eq_true rfl) (fun σ3 => ?_)
    refine X_aload_n hC 0 rfl dX4_undo_24 ?_
    refine X_getf (C := RX4) (T := TX4) (N := 5) (ci := 4) hC 2 (wX (k := 25) (by omega) cX_vs) rfl hinX4 (by decide) tw_102 rfl rfl dX4_undo_25 ?_
    refine X_callP (C := RX0) (T := TX0) (N := 3) (ci := 0) (rest := []) hC (c_X0_size _ G cls ad hi σ3) (gV tw_301 tw_302 tw_303 tw_5 tw_304) rfl (wX (k := 26) (by omega) cX_hi) rfl rfl okm_X0_size (by decide) dX4_undo_28 rfl (Nat.le_of_ble_eq_true rfl) (fun r4 => ?_)
    exact X_iret hC hz0 hz1 dX4_undo_31 rfl
  · refine X_ldc (v := -10000005) hC tw_149 dX4_undo_10 ?_
    exact X_iret hC hz0 hz1 dX4_undo_12 rfl
theorem dX4_restore_0 : decode cX4_restore 0 = .ok (.aload_n 0, 1) := by decide +kernel
theorem dX4_restore_1 : decode cX4_restore 1 = .ok (.getfield 33, 3) := by decide +kernel
theorem dX4_restore_4 : decode cX4_restore 4 = .ok (.ifCond .ne 6, 3) := by decide +kernel
theorem dX4_restore_7 : decode cX4_restore 7 = .ok (.ldc 74, 2) := by decide +kernel
theorem dX4_restore_9 : decode cX4_restore 9 = .ok (.ireturn, 1) := by decide +kernel
theorem dX4_restore_10 : decode cX4_restore 10 = .ok (.aload_n 0, 1) := by decide +kernel
theorem dX4_restore_11 : decode cX4_restore 11 = .ok (.getfield 22, 3) := by decide +kernel
theorem dX4_restore_14 : decode cX4_restore 14 = .ok (.aload_n 0, 1) := by decide +kernel
theorem dX4_restore_15 : decode cX4_restore 15 = .ok (.getfield 12, 3) := by decide +kernel
theorem dX4_restore_18 : decode cX4_restore 18 = .ok (.invokevirtual 53, 3) := by decide +kernel
theorem dX4_restore_21 : decode cX4_restore 21 = .ok (.aload_n 0, 1) := by decide +kernel
theorem dX4_restore_22 : decode cX4_restore 22 = .ok (.getfield 12, 3) := by decide +kernel
theorem dX4_restore_25 : decode cX4_restore 25 = .ok (.aload_n 0, 1) := by decide +kernel
theorem dX4_restore_26 : decode cX4_restore 26 = .ok (.getfield 16, 3) := by decide +kernel
theorem dX4_restore_29 : decode cX4_restore 29 = .ok (.invokevirtual 157, 3) := by decide +kernel
theorem dX4_restore_32 : decode cX4_restore 32 = .ok (.aload_n 0, 1) := by decide +kernel
theorem dX4_restore_33 : decode cX4_restore 33 = .ok (.getfield 12, 3) := by decide +kernel
theorem dX4_restore_36 : decode cX4_restore 36 = .ok (.getfield 105, 3) := by decide +kernel
theorem dX4_restore_39 : decode cX4_restore 39 = .ok (.invokevirtual 150, 3) := by decide +kernel
theorem dX4_restore_42 : decode cX4_restore 42 = .ok (.ireturn, 1) := by decide +kernel
def f_X4_restore (σ : Sg)   : Option (Int32 × Sg) := if (σ.1 21) = 0 then (some ((-10000005 : Int32), σ)) else ((f_X0_push σ).bind fun σ2 => (f_X2_copyFrom σ2 19 20).bind fun σ3 => (f_X3_size σ3 2).bind fun r4 => some (r4, σ3))
theorem okm_X4_restore : okm yX4_restore 0 = true := by decide +kernel
set_option maxHeartbeats 4000000 in
set_option maxRecDepth 100000 in
theorem c_X4_restore (l : Launch) (G : va_G) (cls : Cls) (ad : Nat → Nat) (hi : inj 49 ad) (σ : Sg)    : MT l (YX G cls ad) yX4_restore (.code yX4_restore cX4_restore 1 (some .int) :: gw) 4 90 [.ref (ad 25)] fiS σ (f_X4_restore σ  ) := by
  refine MT.of (own := RX4) (by decide) (YX_D hi) rfl (Nat.le_of_ble_eq_true rfl) fun Γ _ hz0 hz1 hC => ?_
  show WX Γ (YX G cls ad) (qf Γ (YX G cls ad) fiS) 1 0 [(0, .ref (ad 25))] [] σ (f_X4_restore σ  )
  unfold f_X4_restore
  refine X_aload_n hC 0 rfl dX4_restore_0 ?_
  refine X_getf (C := RX4) (T := TX4) (N := 5) (ci := 4) hC 4 (wX (k := 25) (by omega) cX_vs) rfl hinX4 (by decide) tw_104 rfl rfl dX4_restore_1 ?_
  refine X_if_ne hC 10 dX4_restore_4 (by decide) (fun h1 => ?_) (fun h1 => ?_)
  · refine X_aload_n hC 0 rfl dX4_restore_10 ?_
    refine X_getf (C := RX4) (T := TX4) (N := 5) (ci := 4) hC 2 (wX (k := 25) (by omega) cX_vs) rfl hinX4 (by decide) tw_102 rfl rfl dX4_restore_11 ?_
    refine X_aload_n hC 0 rfl dX4_restore_14 ?_
    refine X_getf (C := RX4) (T := TX4) (N := 5) (ci := 4) hC 0 (wX (k := 25) (by omega) cX_vs) rfl hinX4 (by decide) tw_100 rfl rfl dX4_restore_15 ?_
    refine X_callV (C := RX0) (T := TX0) (N := 3) (ci := 0) (rest := []) hC (c_X0_push _ G cls ad hi σ) (gV tw_150 tw_151 tw_152 tw_5 tw_153) rfl (wX (k := 26) (by omega) cX_hi) rfl rfl okm_X0_push (by decide) dX4_restore_18 rfl (Nat.le_of_ble_eq_true rfl) (fun σ2 => ?_)
    refine X_aload_n hC 0 rfl dX4_restore_21 ?_
    refine X_getf (C := RX4) (T := TX4) (N := 5) (ci := 4) hC 0 (wX (k := 25) (by omega) cX_vs) rfl hinX4 (by decide) tw_100 rfl rfl dX4_restore_22 ?_
    refine X_aload_n hC 0 rfl dX4_restore_25 ?_
    refine X_getf (C := RX4) (T := TX4) (N := 5) (ci := 4) hC 1 (wX (k := 25) (by omega) cX_vs) rfl hinX4 (by decide) tw_101 rfl rfl dX4_restore_26 ?_
    refine X_callV (C := RX2) (T := TX2) (N := 3) (ci := 2) (rest := []) hC (c_X2_copyFrom _ G cls ad hi σ2 19 20 (by omega) (by omega)) (gV tw_313 tw_159 tw_160 tw_2 tw_161) rfl (wX (k := 19) (by omega) cX_now) rfl rfl okm_X2_copyFrom (by decide) dX4_restore_29 rfl (Nat.le_of_ble_eq_true rfl) (fun σ3 => ?_)
    refine X_aload_n hC 0 rfl dX4_restore_32 ?_
    refine X_getf (C := RX4) (T := TX4) (N := 5) (ci := 4) hC 0 (wX (k := 25) (by omega) cX_vs) rfl hinX4 (by decide) tw_100 rfl rfl dX4_restore_33 ?_
    refine X_getf (C := RX2) (T := TX2) (N := 3) (ci := 2) hC 2 (wX (k := 19) (by omega) cX_now) rfl hinX2 (by decide) tw_51 rfl rfl dX4_restore_36 ?_
    refine X_callP (C := RX3) (T := TX3) (N := 4) (ci := 3) (rest := []) hC (c_X3_size _ G cls ad hi σ3 2 (by omega)) (gV tw_254 tw_125 tw_126 tw_3 tw_127) rfl (wX (k := 2) (by omega) (cX_tab (by omega))) rfl rfl okm_X3_size (by decide) dX4_restore_39 rfl (Nat.le_of_ble_eq_true rfl) (fun r4 => ?_)
    exact X_iret hC hz0 hz1 dX4_restore_42 rfl
  · refine X_ldc (v := -10000005) hC tw_149 dX4_restore_7 ?_
    exact X_iret hC hz0 hz1 dX4_restore_9 rfl
theorem dX4_instrument_0 : decode cX4_instrument 0 = .ok (.aload_n 0, 1) := by decide +kernel
theorem dX4_instrument_1 : decode cX4_instrument 1 = .ok (.getfield 12, 3) := by decide +kernel
theorem dX4_instrument_4 : decode cX4_instrument 4 = .ok (.getfield 42, 3) := by decide +kernel
theorem dX4_instrument_7 : decode cX4_instrument 7 = .ok (.iload_n 1, 1) := by decide +kernel
theorem dX4_instrument_8 : decode cX4_instrument 8 = .ok (.invokevirtual 61, 3) := by decide +kernel
theorem dX4_instrument_11 : decode cX4_instrument 11 = .ok (.ifCond .eq 6, 3) := by decide +kernel
theorem dX4_instrument_14 : decode cX4_instrument 14 = .ok (.ldc 65, 2) := by decide +kernel
theorem dX4_instrument_16 : decode cX4_instrument 16 = .ok (.ireturn, 1) := by decide +kernel
theorem dX4_instrument_17 : decode cX4_instrument 17 = .ok (.iload_n 2, 1) := by decide +kernel
theorem dX4_instrument_18 : decode cX4_instrument 18 = .ok (.iconst 0, 1) := by decide +kernel
theorem dX4_instrument_19 : decode cX4_instrument 19 = .ok (.bipush 10, 2) := by decide +kernel
theorem dX4_instrument_21 : decode cX4_instrument 21 = .ok (.invokestatic 37, 3) := by decide +kernel
theorem dX4_instrument_24 : decode cX4_instrument 24 = .ok (.ifCond .eq 6, 3) := by decide +kernel
theorem dX4_instrument_27 : decode cX4_instrument 27 = .ok (.ldc 41, 2) := by decide +kernel
theorem dX4_instrument_29 : decode cX4_instrument 29 = .ok (.ireturn, 1) := by decide +kernel
theorem dX4_instrument_30 : decode cX4_instrument 30 = .ok (.aload_n 0, 1) := by decide +kernel
theorem dX4_instrument_31 : decode cX4_instrument 31 = .ok (.getfield 12, 3) := by decide +kernel
theorem dX4_instrument_34 : decode cX4_instrument 34 = .ok (.getfield 42, 3) := by decide +kernel
theorem dX4_instrument_37 : decode cX4_instrument 37 = .ok (.iload_n 1, 1) := by decide +kernel
theorem dX4_instrument_38 : decode cX4_instrument 38 = .ok (.iload_n 2, 1) := by decide +kernel
theorem dX4_instrument_39 : decode cX4_instrument 39 = .ok (.invokevirtual 70, 3) := by decide +kernel
theorem dX4_instrument_42 : decode cX4_instrument 42 = .ok (.ireturn, 1) := by decide +kernel
def f_X4_instrument (σ : Sg)  (p1 p2 : Int32) : Option (Int32) := (f_X3_lacks σ 0 p1).bind fun r1 => if r1 = 0 then ((f_X4_outside σ p2 (0 : Int32) (10 : Int32)).bind fun r3 => if r3 = 0 then ((f_X3_cell σ 0 p1 p2).bind fun r5 => some r5) else (some (-10000002 : Int32))) else (some (-10000001 : Int32))
theorem okm_X4_instrument : okm yX4_instrument 2 = true := by decide +kernel
set_option maxHeartbeats 4000000 in
set_option maxRecDepth 100000 in
theorem c_X4_instrument (l : Launch) (G : va_G) (cls : Cls) (ad : Nat → Nat) (hi : inj 49 ad) (σ : Sg)   (p1 p2 : Int32) : MT l (YX G cls ad) yX4_instrument (.code yX4_instrument cX4_instrument 3 (some .int) :: gw) 2 44 [.ref (ad 25), .int p1, .int p2] (fiP σ) σ (f_X4_instrument σ  p1 p2) := by
  refine MT.of (own := RX4) (by decide) (YX_D hi) rfl (Nat.le_of_ble_eq_true rfl) fun Γ _ hz0 hz1 hC => ?_
  show WX Γ (YX G cls ad) (qf Γ (YX G cls ad) (fiP σ)) 3 0 [(0, .ref (ad 25)), (1, .int p1), (2, .int p2)] [] σ (f_X4_instrument σ  p1 p2)
  unfold f_X4_instrument
  refine X_aload_n hC 0 rfl dX4_instrument_0 ?_
  refine X_getf (C := RX4) (T := TX4) (N := 5) (ci := 4) hC 0 (wX (k := 25) (by omega) cX_vs) rfl hinX4 (by decide) tw_100 rfl rfl dX4_instrument_1 ?_
  refine X_getf (C := RX2) (T := TX2) (N := 3) (ci := 2) hC 0 (wX (k := 19) (by omega) cX_now) rfl hinX2 (by decide) tw_47 rfl rfl dX4_instrument_4 ?_
  refine X_iload_n hC 1 rfl dX4_instrument_7 ?_
  refine X_callP (C := RX3) (T := TX3) (N := 4) (ci := 3) (rest := []) hC (c_X3_lacks _ G cls ad hi σ 0 (by omega) p1) (gV tw_318 tw_137 tw_138 tw_3 tw_139) rfl (wX (k := 0) (by omega) (cX_tab (by omega))) rfl rfl okm_X3_lacks (by decide) dX4_instrument_8 rfl (Nat.le_of_ble_eq_true rfl) (fun r1 => ?_)
  refine X_if_eq hC 17 dX4_instrument_11 (by decide) (fun h2 => ?_) (fun h2 => ?_)
  · refine X_iload_n hC 2 rfl dX4_instrument_17 ?_
    refine X_iconst (v := 0) hC (by decide) dX4_instrument_18 ?_
    refine X_bipush (v := 10) hC (by decide) dX4_instrument_19 ?_
    refine X_statP (rest := []) hC (c_X4_outside _ G cls ad hi σ p2 (0 : Int32) (10 : Int32)) (gSt tw_321 tw_246 tw_1 tw_247) rfl okm_X4_outside (by decide) dX4_instrument_21 rfl (Nat.le_of_ble_eq_true rfl) (fun r3 => ?_)
    refine X_if_eq hC 30 dX4_instrument_24 (by decide) (fun h4 => ?_) (fun h4 => ?_)
    · refine X_aload_n hC 0 rfl dX4_instrument_30 ?_
      refine X_getf (C := RX4) (T := TX4) (N := 5) (ci := 4) hC 0 (wX (k := 25) (by omega) cX_vs) rfl hinX4 (by decide) tw_100 rfl rfl dX4_instrument_31 ?_
      refine X_getf (C := RX2) (T := TX2) (N := 3) (ci := 2) hC 0 (wX (k := 19) (by omega) cX_now) rfl hinX2 (by decide) tw_47 rfl rfl dX4_instrument_34 ?_
      refine X_iload_n hC 1 rfl dX4_instrument_37 ?_
      refine X_iload_n hC 2 rfl dX4_instrument_38 ?_
      refine X_callP (C := RX3) (T := TX3) (N := 4) (ci := 3) (rest := []) hC (c_X3_cell _ G cls ad hi σ 0 (by omega) p1 p2) (gV tw_255 tw_133 tw_134 tw_3 tw_135) rfl (wX (k := 0) (by omega) (cX_tab (by omega))) rfl rfl okm_X3_cell (by decide) dX4_instrument_39 rfl (Nat.le_of_ble_eq_true rfl) (fun r5 => ?_)
      exact X_iret hC hz0 hz1 dX4_instrument_42 rfl
    · refine X_ldc (v := -10000002) hC tw_322 dX4_instrument_27 ?_
      exact X_iret hC hz0 hz1 dX4_instrument_29 rfl
  · refine X_ldc (v := -10000001) hC tw_319 dX4_instrument_14 ?_
    exact X_iret hC hz0 hz1 dX4_instrument_16 rfl
theorem dX4_pupil_0 : decode cX4_pupil 0 = .ok (.aload_n 0, 1) := by decide +kernel
theorem dX4_pupil_1 : decode cX4_pupil 1 = .ok (.getfield 12, 3) := by decide +kernel
theorem dX4_pupil_4 : decode cX4_pupil 4 = .ok (.getfield 83, 3) := by decide +kernel
theorem dX4_pupil_7 : decode cX4_pupil 7 = .ok (.iload_n 1, 1) := by decide +kernel
theorem dX4_pupil_8 : decode cX4_pupil 8 = .ok (.invokevirtual 61, 3) := by decide +kernel
theorem dX4_pupil_11 : decode cX4_pupil 11 = .ok (.ifCond .eq 6, 3) := by decide +kernel
theorem dX4_pupil_14 : decode cX4_pupil 14 = .ok (.ldc 65, 2) := by decide +kernel
theorem dX4_pupil_16 : decode cX4_pupil 16 = .ok (.ireturn, 1) := by decide +kernel
theorem dX4_pupil_17 : decode cX4_pupil 17 = .ok (.iload_n 2, 1) := by decide +kernel
theorem dX4_pupil_18 : decode cX4_pupil 18 = .ok (.iconst 0, 1) := by decide +kernel
theorem dX4_pupil_19 : decode cX4_pupil 19 = .ok (.bipush 8, 2) := by decide +kernel
theorem dX4_pupil_21 : decode cX4_pupil 21 = .ok (.invokestatic 37, 3) := by decide +kernel
theorem dX4_pupil_24 : decode cX4_pupil 24 = .ok (.ifCond .eq 6, 3) := by decide +kernel
theorem dX4_pupil_27 : decode cX4_pupil 27 = .ok (.ldc 41, 2) := by decide +kernel
theorem dX4_pupil_29 : decode cX4_pupil 29 = .ok (.ireturn, 1) := by decide +kernel
theorem dX4_pupil_30 : decode cX4_pupil 30 = .ok (.iload_n 2, 1) := by decide +kernel
theorem dX4_pupil_31 : decode cX4_pupil 31 = .ok (.iconst 5, 1) := by decide +kernel
theorem dX4_pupil_32 : decode cX4_pupil 32 = .ok (.if_icmp .ne 12, 3) := by decide +kernel
theorem dX4_pupil_35 : decode cX4_pupil 35 = .ok (.aload_n 0, 1) := by decide +kernel
theorem dX4_pupil_36 : decode cX4_pupil 36 = .ok (.getfield 12, 3) := by decide +kernel
theorem dX4_pupil_39 : decode cX4_pupil 39 = .ok (.iload_n 1, 1) := by decide +kernel
theorem dX4_pupil_40 : decode cX4_pupil 40 = .ok (.invokevirtual 160, 3) := by decide +kernel
theorem dX4_pupil_43 : decode cX4_pupil 43 = .ok (.ireturn, 1) := by decide +kernel
theorem dX4_pupil_44 : decode cX4_pupil 44 = .ok (.iload_n 2, 1) := by decide +kernel
theorem dX4_pupil_45 : decode cX4_pupil 45 = .ok (.bipush 8, 2) := by decide +kernel
theorem dX4_pupil_47 : decode cX4_pupil 47 = .ok (.if_icmp .ne 12, 3) := by decide +kernel
theorem dX4_pupil_50 : decode cX4_pupil 50 = .ok (.aload_n 0, 1) := by decide +kernel
theorem dX4_pupil_51 : decode cX4_pupil 51 = .ok (.getfield 12, 3) := by decide +kernel
theorem dX4_pupil_54 : decode cX4_pupil 54 = .ok (.iload_n 1, 1) := by decide +kernel
theorem dX4_pupil_55 : decode cX4_pupil 55 = .ok (.invokevirtual 163, 3) := by decide +kernel
theorem dX4_pupil_58 : decode cX4_pupil 58 = .ok (.ireturn, 1) := by decide +kernel
theorem dX4_pupil_59 : decode cX4_pupil 59 = .ok (.aload_n 0, 1) := by decide +kernel
theorem dX4_pupil_60 : decode cX4_pupil 60 = .ok (.getfield 12, 3) := by decide +kernel
theorem dX4_pupil_63 : decode cX4_pupil 63 = .ok (.getfield 83, 3) := by decide +kernel
theorem dX4_pupil_66 : decode cX4_pupil 66 = .ok (.iload_n 1, 1) := by decide +kernel
theorem dX4_pupil_67 : decode cX4_pupil 67 = .ok (.iload_n 2, 1) := by decide +kernel
theorem dX4_pupil_68 : decode cX4_pupil 68 = .ok (.invokevirtual 70, 3) := by decide +kernel
theorem dX4_pupil_71 : decode cX4_pupil 71 = .ok (.ireturn, 1) := by decide +kernel
def f_X4_pupil (σ : Sg)  (p1 p2 : Int32) : Option (Int32) := (f_X3_lacks σ 1 p1).bind fun r1 => if r1 = 0 then ((f_X4_outside σ p2 (0 : Int32) (8 : Int32)).bind fun r3 => if r3 = 0 then (if p2 = (5 : Int32) then ((f_X2_rankOf σ p1).bind fun r9 => some r9) else (if p2 = (8 : Int32) then ((f_X2_lowestMark σ p1).bind fun r8 => some r8) else ((f_X3_cell σ 1 p1 p2).bind fun r7 => some r7))) else (some (-10000002 : Int32))) else (some (-10000001 : Int32))
theorem okm_X4_pupil : okm yX4_pupil 2 = true := by decide +kernel
set_option maxHeartbeats 4000000 in
set_option maxRecDepth 100000 in
theorem c_X4_pupil (l : Launch) (G : va_G) (cls : Cls) (ad : Nat → Nat) (hi : inj 49 ad) (σ : Sg)   (p1 p2 : Int32) : MT l (YX G cls ad) yX4_pupil (.code yX4_pupil cX4_pupil 3 (some .int) :: gw) 4 93 [.ref (ad 25), .int p1, .int p2] (fiP σ) σ (f_X4_pupil σ  p1 p2) := by
  refine MT.of (own := RX4) (by decide) (YX_D hi) rfl (Nat.le_of_ble_eq_true rfl) fun Γ _ hz0 hz1 hC => ?_
  show WX Γ (YX G cls ad) (qf Γ (YX G cls ad) (fiP σ)) 3 0 [(0, .ref (ad 25)), (1, .int p1), (2, .int p2)] [] σ (f_X4_pupil σ  p1 p2)
  unfold f_X4_pupil
  refine X_aload_n hC 0 rfl dX4_pupil_0 ?_
  refine X_getf (C := RX4) (T := TX4) (N := 5) (ci := 4) hC 0 (wX (k := 25) (by omega) cX_vs) rfl hinX4 (by decide) tw_100 rfl rfl dX4_pupil_1 ?_
  refine X_getf (C := RX2) (T := TX2) (N := 3) (ci := 2) hC 1 (wX (k := 19) (by omega) cX_now) rfl hinX2 (by decide) tw_49 rfl rfl dX4_pupil_4 ?_
  refine X_iload_n hC 1 rfl dX4_pupil_7 ?_
  refine X_callP (C := RX3) (T := TX3) (N := 4) (ci := 3) (rest := []) hC (c_X3_lacks _ G cls ad hi σ 1 (by omega) p1) (gV tw_318 tw_137 tw_138 tw_3 tw_139) rfl (wX (k := 1) (by omega) (cX_tab (by omega))) rfl rfl okm_X3_lacks (by decide) dX4_pupil_8 rfl (Nat.le_of_ble_eq_true rfl) (fun r1 => ?_)
  refine X_if_eq hC 17 dX4_pupil_11 (by decide) (fun h2 => ?_) (fun h2 => ?_)
  · refine X_iload_n hC 2 rfl dX4_pupil_17 ?_
    refine X_iconst (v := 0) hC (by decide) dX4_pupil_18 ?_
    refine X_bipush (v := 8) hC (by decide) dX4_pupil_19 ?_
    refine X_statP (rest := []) hC (c_X4_outside _ G cls ad hi σ p2 (0 : Int32) (8 : Int32)) (gSt tw_321 tw_246 tw_1 tw_247) rfl okm_X4_outside (by decide) dX4_pupil_21 rfl (Nat.le_of_ble_eq_true rfl) (fun r3 => ?_)
    refine X_if_eq hC 30 dX4_pupil_24 (by decide) (fun h4 => ?_) (fun h4 => ?_)
    · refine X_iload_n hC 2 rfl dX4_pupil_30 ?_
      refine X_iconst (v := 5) hC (by decide) dX4_pupil_31 ?_
      refine X_icmp_ne hC 44 dX4_pupil_32 (by decide) (fun h5 => ?_) (fun h5 => ?_)
      · refine X_iload_n hC 2 rfl dX4_pupil_44 ?_
        refine X_bipush (v := 8) hC (by decide) dX4_pupil_45 ?_
        refine X_icmp_ne hC 59 dX4_pupil_47 (by decide) (fun h6 => ?_) (fun h6 => ?_)
        · refine X_aload_n hC 0 rfl dX4_pupil_59 ?_
          refine X_getf (C := RX4) (T := TX4) (N := 5) (ci := 4) hC 0 (wX (k := 25) (by omega) cX_vs) rfl hinX4 (by decide) tw_100 rfl rfl dX4_pupil_60 ?_
          refine X_getf (C := RX2) (T := TX2) (N := 3) (ci := 2) hC 1 (wX (k := 19) (by omega) cX_now) rfl hinX2 (by decide) tw_49 rfl rfl dX4_pupil_63 ?_
          refine X_iload_n hC 1 rfl dX4_pupil_66 ?_
          refine X_iload_n hC 2 rfl dX4_pupil_67 ?_
          refine X_callP (C := RX3) (T := TX3) (N := 4) (ci := 3) (rest := []) hC (c_X3_cell _ G cls ad hi σ 1 (by omega) p1 p2) (gV tw_255 tw_133 tw_134 tw_3 tw_135) rfl (wX (k := 1) (by omega) (cX_tab (by omega))) rfl rfl okm_X3_cell (by decide) dX4_pupil_68 rfl (Nat.le_of_ble_eq_true rfl) (fun r7 => ?_)
          exact X_iret hC hz0 hz1 dX4_pupil_71 rfl
        · refine X_aload_n hC 0 rfl dX4_pupil_50 ?_
          refine X_getf (C := RX4) (T := TX4) (N := 5) (ci := 4) hC 0 (wX (k := 25) (by omega) cX_vs) rfl hinX4 (by decide) tw_100 rfl rfl dX4_pupil_51 ?_
          refine X_iload_n hC 1 rfl dX4_pupil_54 ?_
          refine X_callP (C := RX2) (T := TX2) (N := 3) (ci := 2) (rest := []) hC (c_X2_lowestMark _ G cls ad hi σ p1) (gV tw_375 tw_376 tw_377 tw_2 tw_378) rfl (wX (k := 19) (by omega) cX_now) rfl rfl okm_X2_lowestMark (by decide) dX4_pupil_55 rfl (Nat.le_of_ble_eq_true rfl) (fun r8 => ?_)
          exact X_iret hC hz0 hz1 dX4_pupil_58 rfl
      · refine X_aload_n hC 0 rfl dX4_pupil_35 ?_
        refine X_getf (C := RX4) (T := TX4) (N := 5) (ci := 4) hC 0 (wX (k := 25) (by omega) cX_vs) rfl hinX4 (by decide) tw_100 rfl rfl dX4_pupil_36 ?_
        refine X_iload_n hC 1 rfl dX4_pupil_39 ?_
        refine X_callP (C := RX2) (T := TX2) (N := 3) (ci := 2) (rest := []) hC (c_X2_rankOf _ G cls ad hi σ p1) (gV tw_330 tw_331 tw_332 tw_2 tw_333) rfl (wX (k := 19) (by omega) cX_now) rfl rfl okm_X2_rankOf (by decide) dX4_pupil_40 rfl (Nat.le_of_ble_eq_true rfl) (fun r9 => ?_)
        exact X_iret hC hz0 hz1 dX4_pupil_43 rfl
    · refine X_ldc (v := -10000002) hC tw_322 dX4_pupil_27 ?_
      exact X_iret hC hz0 hz1 dX4_pupil_29 rfl
  · refine X_ldc (v := -10000001) hC tw_319 dX4_pupil_14 ?_
    exact X_iret hC hz0 hz1 dX4_pupil_16 rfl
theorem dX4_paper_0 : decode cX4_paper 0 = .ok (.aload_n 0, 1) := by decide +kernel
theorem dX4_paper_1 : decode cX4_paper 1 = .ok (.getfield 12, 3) := by decide +kernel
theorem dX4_paper_4 : decode cX4_paper 4 = .ok (.getfield 105, 3) := by decide +kernel
theorem dX4_paper_7 : decode cX4_paper 7 = .ok (.iload_n 1, 1) := by decide +kernel
theorem dX4_paper_8 : decode cX4_paper 8 = .ok (.invokevirtual 61, 3) := by decide +kernel
theorem dX4_paper_11 : decode cX4_paper 11 = .ok (.ifCond .eq 6, 3) := by decide +kernel
theorem dX4_paper_14 : decode cX4_paper 14 = .ok (.ldc 65, 2) := by decide +kernel
theorem dX4_paper_16 : decode cX4_paper 16 = .ok (.ireturn, 1) := by decide +kernel
theorem dX4_paper_17 : decode cX4_paper 17 = .ok (.iload_n 2, 1) := by decide +kernel
theorem dX4_paper_18 : decode cX4_paper 18 = .ok (.iconst 0, 1) := by decide +kernel
theorem dX4_paper_19 : decode cX4_paper 19 = .ok (.bipush 7, 2) := by decide +kernel
theorem dX4_paper_21 : decode cX4_paper 21 = .ok (.invokestatic 37, 3) := by decide +kernel
theorem dX4_paper_24 : decode cX4_paper 24 = .ok (.ifCond .eq 6, 3) := by decide +kernel
theorem dX4_paper_27 : decode cX4_paper 27 = .ok (.ldc 41, 2) := by decide +kernel
theorem dX4_paper_29 : decode cX4_paper 29 = .ok (.ireturn, 1) := by decide +kernel
theorem dX4_paper_30 : decode cX4_paper 30 = .ok (.aload_n 0, 1) := by decide +kernel
theorem dX4_paper_31 : decode cX4_paper 31 = .ok (.getfield 12, 3) := by decide +kernel
theorem dX4_paper_34 : decode cX4_paper 34 = .ok (.getfield 105, 3) := by decide +kernel
theorem dX4_paper_37 : decode cX4_paper 37 = .ok (.iload_n 1, 1) := by decide +kernel
theorem dX4_paper_38 : decode cX4_paper 38 = .ok (.iload_n 2, 1) := by decide +kernel
theorem dX4_paper_39 : decode cX4_paper 39 = .ok (.invokevirtual 70, 3) := by decide +kernel
theorem dX4_paper_42 : decode cX4_paper 42 = .ok (.ireturn, 1) := by decide +kernel
def f_X4_paper (σ : Sg)  (p1 p2 : Int32) : Option (Int32) := (f_X3_lacks σ 2 p1).bind fun r1 => if r1 = 0 then ((f_X4_outside σ p2 (0 : Int32) (7 : Int32)).bind fun r3 => if r3 = 0 then ((f_X3_cell σ 2 p1 p2).bind fun r5 => some r5) else (some (-10000002 : Int32))) else (some (-10000001 : Int32))
theorem okm_X4_paper : okm yX4_paper 2 = true := by decide +kernel
set_option maxHeartbeats 4000000 in
set_option maxRecDepth 100000 in
theorem c_X4_paper (l : Launch) (G : va_G) (cls : Cls) (ad : Nat → Nat) (hi : inj 49 ad) (σ : Sg)   (p1 p2 : Int32) : MT l (YX G cls ad) yX4_paper (.code yX4_paper cX4_paper 3 (some .int) :: gw) 2 44 [.ref (ad 25), .int p1, .int p2] (fiP σ) σ (f_X4_paper σ  p1 p2) := by
  refine MT.of (own := RX4) (by decide) (YX_D hi) rfl (Nat.le_of_ble_eq_true rfl) fun Γ _ hz0 hz1 hC => ?_
  show WX Γ (YX G cls ad) (qf Γ (YX G cls ad) (fiP σ)) 3 0 [(0, .ref (ad 25)), (1, .int p1), (2, .int p2)] [] σ (f_X4_paper σ  p1 p2)
  unfold f_X4_paper
  refine X_aload_n hC 0 rfl dX4_paper_0 ?_
  refine X_getf (C := RX4) (T := TX4) (N := 5) (ci := 4) hC 0 (wX (k := 25) (by omega) cX_vs) rfl hinX4 (by decide) tw_100 rfl rfl dX4_paper_1 ?_
  refine X_getf (C := RX2) (T := TX2) (N := 3) (ci := 2) hC 2 (wX (k := 19) (by omega) cX_now) rfl hinX2 (by decide) tw_51 rfl rfl dX4_paper_4 ?_
  refine X_iload_n hC 1 rfl dX4_paper_7 ?_
  refine X_callP (C := RX3) (T := TX3) (N := 4) (ci := 3) (rest := []) hC (c_X3_lacks _ G cls ad hi σ 2 (by omega) p1) (gV tw_318 tw_137 tw_138 tw_3 tw_139) rfl (wX (k := 2) (by omega) (cX_tab (by omega))) rfl rfl okm_X3_lacks (by decide) dX4_paper_8 rfl (Nat.le_of_ble_eq_true rfl) (fun r1 => ?_)
  refine X_if_eq hC 17 dX4_paper_11 (by decide) (fun h2 => ?_) (fun h2 => ?_)
  · refine X_iload_n hC 2 rfl dX4_paper_17 ?_
    refine X_iconst (v := 0) hC (by decide) dX4_paper_18 ?_
    refine X_bipush (v := 7) hC (by decide) dX4_paper_19 ?_
    refine X_statP (rest := []) hC (c_X4_outside _ G cls ad hi σ p2 (0 : Int32) (7 : Int32)) (gSt tw_321 tw_246 tw_1 tw_247) rfl okm_X4_outside (by decide) dX4_paper_21 rfl (Nat.le_of_ble_eq_true rfl) (fun r3 => ?_)
    refine X_if_eq hC 30 dX4_paper_24 (by decide) (fun h4 => ?_) (fun h4 => ?_)
    · refine X_aload_n hC 0 rfl dX4_paper_30 ?_
      refine X_getf (C := RX4) (T := TX4) (N := 5) (ci := 4) hC 0 (wX (k := 25) (by omega) cX_vs) rfl hinX4 (by decide) tw_100 rfl rfl dX4_paper_31 ?_
      refine X_getf (C := RX2) (T := TX2) (N := 3) (ci := 2) hC 2 (wX (k := 19) (by omega) cX_now) rfl hinX2 (by decide) tw_51 rfl rfl dX4_paper_34 ?_
      refine X_iload_n hC 1 rfl dX4_paper_37 ?_
      refine X_iload_n hC 2 rfl dX4_paper_38 ?_
      refine X_callP (C := RX3) (T := TX3) (N := 4) (ci := 3) (rest := []) hC (c_X3_cell _ G cls ad hi σ 2 (by omega) p1 p2) (gV tw_255 tw_133 tw_134 tw_3 tw_135) rfl (wX (k := 2) (by omega) (cX_tab (by omega))) rfl rfl okm_X3_cell (by decide) dX4_paper_39 rfl (Nat.le_of_ble_eq_true rfl) (fun r5 => ?_)
      exact X_iret hC hz0 hz1 dX4_paper_42 rfl
    · refine X_ldc (v := -10000002) hC tw_322 dX4_paper_27 ?_
      exact X_iret hC hz0 hz1 dX4_paper_29 rfl
  · refine X_ldc (v := -10000001) hC tw_319 dX4_paper_14 ?_
    exact X_iret hC hz0 hz1 dX4_paper_16 rfl
theorem dX4_coincidence_0 : decode cX4_coincidence 0 = .ok (.aload_n 0, 1) := by decide +kernel
theorem dX4_coincidence_1 : decode cX4_coincidence 1 = .ok (.getfield 12, 3) := by decide +kernel
theorem dX4_coincidence_4 : decode cX4_coincidence 4 = .ok (.getfield 42, 3) := by decide +kernel
theorem dX4_coincidence_7 : decode cX4_coincidence 7 = .ok (.iload_n 1, 1) := by decide +kernel
theorem dX4_coincidence_8 : decode cX4_coincidence 8 = .ok (.invokevirtual 61, 3) := by decide +kernel
theorem dX4_coincidence_11 : decode cX4_coincidence 11 = .ok (.ifCond .eq 6, 3) := by decide +kernel
theorem dX4_coincidence_14 : decode cX4_coincidence 14 = .ok (.ldc 65, 2) := by decide +kernel
theorem dX4_coincidence_16 : decode cX4_coincidence 16 = .ok (.ireturn, 1) := by decide +kernel
theorem dX4_coincidence_17 : decode cX4_coincidence 17 = .ok (.iload_n 2, 1) := by decide +kernel
theorem dX4_coincidence_18 : decode cX4_coincidence 18 = .ok (.sipush (-1000), 3) := by decide +kernel
theorem dX4_coincidence_21 : decode cX4_coincidence 21 = .ok (.ldc 166, 2) := by decide +kernel
theorem dX4_coincidence_23 : decode cX4_coincidence 23 = .ok (.invokestatic 37, 3) := by decide +kernel
theorem dX4_coincidence_26 : decode cX4_coincidence 26 = .ok (.ifCond .ne 13, 3) := by decide +kernel
theorem dX4_coincidence_29 : decode cX4_coincidence 29 = .ok (.iload_n 3, 1) := by decide +kernel
theorem dX4_coincidence_30 : decode cX4_coincidence 30 = .ok (.iconst 0, 1) := by decide +kernel
theorem dX4_coincidence_31 : decode cX4_coincidence 31 = .ok (.bipush 6, 2) := by decide +kernel
theorem dX4_coincidence_33 : decode cX4_coincidence 33 = .ok (.invokestatic 37, 3) := by decide +kernel
theorem dX4_coincidence_36 : decode cX4_coincidence 36 = .ok (.ifCond .eq 6, 3) := by decide +kernel
theorem dX4_coincidence_39 : decode cX4_coincidence 39 = .ok (.ldc 41, 2) := by decide +kernel
theorem dX4_coincidence_41 : decode cX4_coincidence 41 = .ok (.ireturn, 1) := by decide +kernel
theorem dX4_coincidence_42 : decode cX4_coincidence 42 = .ok (.aload_n 0, 1) := by decide +kernel
theorem dX4_coincidence_43 : decode cX4_coincidence 43 = .ok (.getfield 12, 3) := by decide +kernel
theorem dX4_coincidence_46 : decode cX4_coincidence 46 = .ok (.getfield 42, 3) := by decide +kernel
theorem dX4_coincidence_49 : decode cX4_coincidence 49 = .ok (.iload_n 1, 1) := by decide +kernel
theorem dX4_coincidence_50 : decode cX4_coincidence 50 = .ok (.iconst 0, 1) := by decide +kernel
theorem dX4_coincidence_51 : decode cX4_coincidence 51 = .ok (.invokevirtual 70, 3) := by decide +kernel
theorem dX4_coincidence_54 : decode cX4_coincidence 54 = .ok (.istore 4, 2) := by decide +kernel
theorem dX4_coincidence_56 : decode cX4_coincidence 56 = .ok (.aload_n 0, 1) := by decide +kernel
theorem dX4_coincidence_57 : decode cX4_coincidence 57 = .ok (.getfield 12, 3) := by decide +kernel
theorem dX4_coincidence_60 : decode cX4_coincidence 60 = .ok (.getfield 42, 3) := by decide +kernel
theorem dX4_coincidence_63 : decode cX4_coincidence 63 = .ok (.iload_n 1, 1) := by decide +kernel
theorem dX4_coincidence_64 : decode cX4_coincidence 64 = .ok (.iconst 1, 1) := by decide +kernel
theorem dX4_coincidence_65 : decode cX4_coincidence 65 = .ok (.invokevirtual 70, 3) := by decide +kernel
theorem dX4_coincidence_68 : decode cX4_coincidence 68 = .ok (.istore 5, 2) := by decide +kernel
theorem dX4_coincidence_70 : decode cX4_coincidence 70 = .ok (.aload_n 0, 1) := by decide +kernel
theorem dX4_coincidence_71 : decode cX4_coincidence 71 = .ok (.getfield 12, 3) := by decide +kernel
theorem dX4_coincidence_74 : decode cX4_coincidence 74 = .ok (.iload_n 1, 1) := by decide +kernel
theorem dX4_coincidence_75 : decode cX4_coincidence 75 = .ok (.invokevirtual 66, 3) := by decide +kernel
theorem dX4_coincidence_78 : decode cX4_coincidence 78 = .ok (.istore 6, 2) := by decide +kernel
theorem dX4_coincidence_80 : decode cX4_coincidence 80 = .ok (.iload_n 2, 1) := by decide +kernel
theorem dX4_coincidence_81 : decode cX4_coincidence 81 = .ok (.iload 6, 2) := by decide +kernel
theorem dX4_coincidence_83 : decode cX4_coincidence 83 = .ok (.invokestatic 167, 3) := by decide +kernel
theorem dX4_coincidence_86 : decode cX4_coincidence 86 = .ok (.istore 7, 2) := by decide +kernel
theorem dX4_coincidence_88 : decode cX4_coincidence 88 = .ok (.iload_n 2, 1) := by decide +kernel
theorem dX4_coincidence_89 : decode cX4_coincidence 89 = .ok (.iload 7, 2) := by decide +kernel
theorem dX4_coincidence_91 : decode cX4_coincidence 91 = .ok (.iload 6, 2) := by decide +kernel
theorem dX4_coincidence_93 : decode cX4_coincidence 93 = .ok (.imul, 1) := by decide +kernel
theorem dX4_coincidence_94 : decode cX4_coincidence 94 = .ok (.isub, 1) := by decide +kernel
theorem dX4_coincidence_95 : decode cX4_coincidence 95 = .ok (.istore 8, 2) := by decide +kernel
theorem dX4_coincidence_97 : decode cX4_coincidence 97 = .ok (.iload 8, 2) := by decide +kernel
theorem dX4_coincidence_99 : decode cX4_coincidence 99 = .ok (.iload 5, 2) := by decide +kernel
theorem dX4_coincidence_101 : decode cX4_coincidence 101 = .ok (.invokestatic 170, 3) := by decide +kernel
theorem dX4_coincidence_104 : decode cX4_coincidence 104 = .ok (.istore 9, 2) := by decide +kernel
theorem dX4_coincidence_106 : decode cX4_coincidence 106 = .ok (.iload_n 3, 1) := by decide +kernel
theorem dX4_coincidence_107 : decode cX4_coincidence 107 = .ok (.tableswitch 105 0 5 #[37, 40, 43, 69, 81, 84], 37) := by decide +kernel
theorem dX4_coincidence_144 : decode cX4_coincidence 144 = .ok (.iload 7, 2) := by decide +kernel
theorem dX4_coincidence_146 : decode cX4_coincidence 146 = .ok (.ireturn, 1) := by decide +kernel
theorem dX4_coincidence_147 : decode cX4_coincidence 147 = .ok (.iload 8, 2) := by decide +kernel
theorem dX4_coincidence_149 : decode cX4_coincidence 149 = .ok (.ireturn, 1) := by decide +kernel
theorem dX4_coincidence_150 : decode cX4_coincidence 150 = .ok (.aload_n 0, 1) := by decide +kernel
theorem dX4_coincidence_151 : decode cX4_coincidence 151 = .ok (.getfield 12, 3) := by decide +kernel
theorem dX4_coincidence_154 : decode cX4_coincidence 154 = .ok (.getfield 42, 3) := by decide +kernel
theorem dX4_coincidence_157 : decode cX4_coincidence 157 = .ok (.iload_n 1, 1) := by decide +kernel
theorem dX4_coincidence_158 : decode cX4_coincidence 158 = .ok (.iconst 3, 1) := by decide +kernel
theorem dX4_coincidence_159 : decode cX4_coincidence 159 = .ok (.invokevirtual 70, 3) := by decide +kernel
theorem dX4_coincidence_162 : decode cX4_coincidence 162 = .ok (.ifCond .ne 8, 3) := by decide +kernel
theorem dX4_coincidence_165 : decode cX4_coincidence 165 = .ok (.iload 9, 2) := by decide +kernel
theorem dX4_coincidence_167 : decode cX4_coincidence 167 = .ok (.goto 8, 3) := by decide +kernel
theorem dX4_coincidence_170 : decode cX4_coincidence 170 = .ok (.iload 4, 2) := by decide +kernel
theorem dX4_coincidence_172 : decode cX4_coincidence 172 = .ok (.iload 9, 2) := by decide +kernel
theorem dX4_coincidence_174 : decode cX4_coincidence 174 = .ok (.isub, 1) := by decide +kernel
theorem dX4_coincidence_175 : decode cX4_coincidence 175 = .ok (.ireturn, 1) := by decide +kernel
theorem dX4_coincidence_176 : decode cX4_coincidence 176 = .ok (.iload 8, 2) := by decide +kernel
theorem dX4_coincidence_178 : decode cX4_coincidence 178 = .ok (.iload 9, 2) := by decide +kernel
theorem dX4_coincidence_180 : decode cX4_coincidence 180 = .ok (.iload 5, 2) := by decide +kernel
theorem dX4_coincidence_182 : decode cX4_coincidence 182 = .ok (.imul, 1) := by decide +kernel
theorem dX4_coincidence_183 : decode cX4_coincidence 183 = .ok (.isub, 1) := by decide +kernel
theorem dX4_coincidence_184 : decode cX4_coincidence 184 = .ok (.invokestatic 173, 3) := by decide +kernel
theorem dX4_coincidence_187 : decode cX4_coincidence 187 = .ok (.ireturn, 1) := by decide +kernel
theorem dX4_coincidence_188 : decode cX4_coincidence 188 = .ok (.iload 9, 2) := by decide +kernel
theorem dX4_coincidence_190 : decode cX4_coincidence 190 = .ok (.ireturn, 1) := by decide +kernel
theorem dX4_coincidence_191 : decode cX4_coincidence 191 = .ok (.iconst 2, 1) := by decide +kernel
theorem dX4_coincidence_192 : decode cX4_coincidence 192 = .ok (.iload 8, 2) := by decide +kernel
theorem dX4_coincidence_194 : decode cX4_coincidence 194 = .ok (.iload 9, 2) := by decide +kernel
theorem dX4_coincidence_196 : decode cX4_coincidence 196 = .ok (.iload 5, 2) := by decide +kernel
theorem dX4_coincidence_198 : decode cX4_coincidence 198 = .ok (.imul, 1) := by decide +kernel
theorem dX4_coincidence_199 : decode cX4_coincidence 199 = .ok (.isub, 1) := by decide +kernel
theorem dX4_coincidence_200 : decode cX4_coincidence 200 = .ok (.imul, 1) := by decide +kernel
theorem dX4_coincidence_201 : decode cX4_coincidence 201 = .ok (.iload 5, 2) := by decide +kernel
theorem dX4_coincidence_203 : decode cX4_coincidence 203 = .ok (.if_icmp .ne 7, 3) := by decide +kernel
theorem dX4_coincidence_206 : decode cX4_coincidence 206 = .ok (.iconst 2, 1) := by decide +kernel
theorem dX4_coincidence_207 : decode cX4_coincidence 207 = .ok (.goto 4, 3) := by decide +kernel
theorem dX4_coincidence_210 : decode cX4_coincidence 210 = .ok (.iconst 1, 1) := by decide +kernel
theorem dX4_coincidence_211 : decode cX4_coincidence 211 = .ok (.ireturn, 1) := by decide +kernel
theorem dX4_coincidence_212 : decode cX4_coincidence 212 = .ok (.iload 7, 2) := by decide +kernel
theorem dX4_coincidence_214 : decode cX4_coincidence 214 = .ok (.iload 6, 2) := by decide +kernel
theorem dX4_coincidence_216 : decode cX4_coincidence 216 = .ok (.imul, 1) := by decide +kernel
theorem dX4_coincidence_217 : decode cX4_coincidence 217 = .ok (.iload 9, 2) := by decide +kernel
theorem dX4_coincidence_219 : decode cX4_coincidence 219 = .ok (.iload 5, 2) := by decide +kernel
theorem dX4_coincidence_221 : decode cX4_coincidence 221 = .ok (.imul, 1) := by decide +kernel
theorem dX4_coincidence_222 : decode cX4_coincidence 222 = .ok (.iadd, 1) := by decide +kernel
theorem dX4_coincidence_223 : decode cX4_coincidence 223 = .ok (.ireturn, 1) := by decide +kernel
def f_X4_coincidence (σ : Sg)  (p1 p2 p3 : Int32) : Option (Int32) := (f_X3_lacks σ 0 p1).bind fun r1 => if r1 = 0 then ((f_X4_outside σ p2 (-1000 : Int32) (1000000 : Int32)).bind fun r3 => if r3 = 0 then ((f_X4_outside σ p3 (0 : Int32) (6 : Int32)).bind fun r5 => if r5 = 0 then ((f_X3_cell σ 0 p1 (0 : Int32)).bind fun r7 => (f_X3_cell σ 0 p1 (1 : Int32)).bind fun r8 => (f_X2_mainDivision σ p1).bind fun r9 => (f_X4_quotient σ p2 r9).bind fun r10 => lt (p2 - (r10 * r9)) fun x11 => (f_X4_nearestFraction σ x11 r8).bind fun r12 => if p3 = 0 then (some r10) else if p3 = 1 then (some x11) else if p3 = 2 then ((f_X3_cell σ 0 p1 (3 : Int32)).bind fun r16 => if r16 = 0 then (some r12) else (some (r7 - r12))) else if p3 = 3 then (lt (if 0 ≤ (x11 - (r12 * r8)) then (x11 - (r12 * r8)) else 0 - (x11 - (r12 * r8))) fun x19 => some x19) else if p3 = 4 then (some r12) else if p3 = 5 then (if ((2 : Int32) * (x11 - (r12 * r8))) = r8 then (some (2 : Int32)) else (some (1 : Int32))) else (some ((r10 * r9) + (r12 * r8)))) else (some (-10000002 : Int32))) else (some (-10000002 : Int32))) else (some (-10000001 : Int32))
theorem okm_X4_coincidence : okm yX4_coincidence 3 = true := by decide +kernel
set_option maxHeartbeats 4000000 in
set_option maxRecDepth 100000 in
theorem c_X4_coincidence (l : Launch) (G : va_G) (cls : Cls) (ad : Nat → Nat) (hi : inj 49 ad) (σ : Sg)   (p1 p2 p3 : Int32) : MT l (YX G cls ad) yX4_coincidence (.code yX4_coincidence cX4_coincidence 10 (some .int) :: gw) 3 65 [.ref (ad 25), .int p1, .int p2, .int p3] (fiP σ) σ (f_X4_coincidence σ  p1 p2 p3) := by
  refine MT.of (own := RX4) (by decide) (YX_D hi) rfl (Nat.le_of_ble_eq_true rfl) fun Γ _ hz0 hz1 hC => ?_
  show WX Γ (YX G cls ad) (qf Γ (YX G cls ad) (fiP σ)) 10 0 [(0, .ref (ad 25)), (1, .int p1), (2, .int p2), (3, .int p3)] [] σ (f_X4_coincidence σ  p1 p2 p3)
  unfold f_X4_coincidence
  refine X_aload_n hC 0 rfl dX4_coincidence_0 ?_
  refine X_getf (C := RX4) (T := TX4) (N := 5) (ci := 4) hC 0 (wX (k := 25) (by omega) cX_vs) rfl hinX4 (by decide) tw_100 rfl rfl dX4_coincidence_1 ?_
  refine X_getf (C := RX2) (T := TX2) (N := 3) (ci := 2) hC 0 (wX (k := 19) (by omega) cX_now) rfl hinX2 (by decide) tw_47 rfl rfl dX4_coincidence_4 ?_
  refine X_iload_n hC 1 rfl dX4_coincidence_7 ?_
  refine X_callP (C := RX3) (T := TX3) (N := 4) (ci := 3) (rest := []) hC (c_X3_lacks _ G cls ad hi σ 0 (by omega) p1) (gV tw_318 tw_137 tw_138 tw_3 tw_139) rfl (wX (k := 0) (by omega) (cX_tab (by omega))) rfl rfl okm_X3_lacks (by decide) dX4_coincidence_8 rfl (Nat.le_of_ble_eq_true rfl) (fun r1 => ?_)
  refine X_if_eq hC 17 dX4_coincidence_11 (by decide) (fun h2 => ?_) (fun h2 => ?_)
  · refine X_iload_n hC 2 rfl dX4_coincidence_17 ?_
    refine X_sipush (v := -1000) hC (by decide) dX4_coincidence_18 ?_
    refine X_ldc (v := 1000000) hC tw_320 dX4_coincidence_21 ?_
    refine X_statP (rest := []) hC (c_X4_outside _ G cls ad hi σ p2 (-1000 : Int32) (1000000 : Int32)) (gSt tw_321 tw_246 tw_1 tw_247) rfl okm_X4_outside (by decide) dX4_coincidence_23 rfl (Nat.le_of_ble_eq_true rfl) (fun r3 => ?_)
    refine X_if_ne hC 39 dX4_coincidence_26 (by decide) (fun h4 => ?_) (fun h4 => ?_)
    · refine X_ldc (v := -10000002) hC tw_322 dX4_coincidence_39 ?_
      exact X_iret hC hz0 hz1 dX4_coincidence_41 rfl
    · refine X_iload_n hC 3 rfl dX4_coincidence_29 ?_
      refine X_iconst (v := 0) hC (by decide) dX4_coincidence_30 ?_
      refine X_bipush (v := 6) hC (by decide) dX4_coincidence_31 ?_
      refine X_statP (rest := []) hC (c_X4_outside _ G cls ad hi σ p3 (0 : Int32) (6 : Int32)) (gSt tw_321 tw_246 tw_1 tw_247) rfl okm_X4_outside (by decide) dX4_coincidence_33 rfl (Nat.le_of_ble_eq_true rfl) (fun r5 => ?_)
      refine X_if_eq hC 42 dX4_coincidence_36 (by decide) (fun h6 => ?_) (fun h6 => ?_)
      · refine X_aload_n hC 0 rfl dX4_coincidence_42 ?_
        refine X_getf (C := RX4) (T := TX4) (N := 5) (ci := 4) hC 0 (wX (k := 25) (by omega) cX_vs) rfl hinX4 (by decide) tw_100 rfl rfl dX4_coincidence_43 ?_
        refine X_getf (C := RX2) (T := TX2) (N := 3) (ci := 2) hC 0 (wX (k := 19) (by omega) cX_now) rfl hinX2 (by decide) tw_47 rfl rfl dX4_coincidence_46 ?_
        refine X_iload_n hC 1 rfl dX4_coincidence_49 ?_
        refine X_iconst (v := 0) hC (by decide) dX4_coincidence_50 ?_
        refine X_callP (C := RX3) (T := TX3) (N := 4) (ci := 3) (rest := []) hC (c_X3_cell _ G cls ad hi σ 0 (by omega) p1 (0 : Int32)) (gV tw_255 tw_133 tw_134 tw_3 tw_135) rfl (wX (k := 0) (by omega) (cX_tab (by omega))) rfl rfl okm_X3_cell (by decide) dX4_coincidence_51 rfl (Nat.le_of_ble_eq_true rfl) (fun r7 => ?_)
        refine X_istore (ls' := [(4, .int r7), (0, .ref (ad 25)), (1, .int p1), (2, .int p2), (3, .int p3)]) hC dX4_coincidence_54 (by decide) rfl ?_
        refine X_aload_n hC 1 rfl dX4_coincidence_56 ?_
        refine X_getf (C := RX4) (T := TX4) (N := 5) (ci := 4) hC 0 (wX (k := 25) (by omega) cX_vs) rfl hinX4 (by decide) tw_100 rfl rfl dX4_coincidence_57 ?_
        refine X_getf (C := RX2) (T := TX2) (N := 3) (ci := 2) hC 0 (wX (k := 19) (by omega) cX_now) rfl hinX2 (by decide) tw_47 rfl rfl dX4_coincidence_60 ?_
        refine X_iload_n hC 2 rfl dX4_coincidence_63 ?_
        refine X_iconst (v := 1) hC (by decide) dX4_coincidence_64 ?_
        refine X_callP (C := RX3) (T := TX3) (N := 4) (ci := 3) (rest := []) hC (c_X3_cell _ G cls ad hi σ 0 (by omega) p1 (1 : Int32)) (gV tw_255 tw_133 tw_134 tw_3 tw_135) rfl (wX (k := 0) (by omega) (cX_tab (by omega))) rfl rfl okm_X3_cell (by decide) dX4_coincidence_65 rfl (Nat.le_of_ble_eq_true rfl) (fun r8 => ?_)
        refine X_istore (ls' := [(5, .int r8), (4, .int r7), (0, .ref (ad 25)), (1, .int p1), (2, .int p2), (3, .int p3)]) hC dX4_coincidence_68 (by decide) rfl ?_
        refine X_aload_n hC 2 rfl dX4_coincidence_70 ?_
        refine X_getf (C := RX4) (T := TX4) (N := 5) (ci := 4) hC 0 (wX (k := 25) (by omega) cX_vs) rfl hinX4 (by decide) tw_100 rfl rfl dX4_coincidence_71 ?_
        refine X_iload_n hC 3 rfl dX4_coincidence_74 ?_
        refine X_callP (C := RX2) (T := TX2) (N := 3) (ci := 2) (rest := []) hC (c_X2_mainDivision _ G cls ad hi σ p1) (gV tw_323 tw_269 tw_270 tw_2 tw_271) rfl (wX (k := 19) (by omega) cX_now) rfl rfl okm_X2_mainDivision (by decide) dX4_coincidence_75 rfl (Nat.le_of_ble_eq_true rfl) (fun r9 => ?_)
        refine X_istore (ls' := [(6, .int r9), (5, .int r8), (4, .int r7), (0, .ref (ad 25)), (1, .int p1), (2, .int p2), (3, .int p3)]) hC dX4_coincidence_78 (by decide) rfl ?_
        refine X_iload_n hC 5 rfl dX4_coincidence_80 ?_
        refine X_iload hC 0 rfl dX4_coincidence_81 ?_
        refine X_statP (rest := []) hC (c_X4_quotient _ G cls ad hi σ p2 r9) (gSt tw_281 tw_273 tw_1 tw_274) rfl okm_X4_quotient (by decide) dX4_coincidence_83 rfl (Nat.le_of_ble_eq_true rfl) (fun r10 => ?_)
        refine X_istore (ls' := [(7, .int r10), (6, .int r9), (5, .int r8), (4, .int r7), (0, .ref (ad 25)), (1, .int p1), (2, .int p2), (3, .int p3)]) hC dX4_coincidence_86 (by decide) rfl ?_
        refine X_iload_n hC 6 rfl dX4_coincidence_88 ?_
        refine X_iload hC 0 rfl dX4_coincidence_89 ?_
        refine X_iload hC 1 rfl dX4_coincidence_91 ?_
        refine X_imul hC dX4_coincidence_93 ?_
        refine X_isub hC dX4_coincidence_94 ?_
        refine X_lt (fun x11 => ?_)
        refine X_istore (ls' := [(8, .int x11), (7, .int r10), (6, .int r9), (5, .int r8), (4, .int r7), (0, .ref (ad 25)), (1, .int p1), (2, .int p2), (3, .int p3)]) hC dX4_coincidence_95 (by decide) rfl ?_
        refine X_iload hC 0 rfl dX4_coincidence_97 ?_
        refine X_iload hC 3 rfl dX4_coincidence_99 ?_
        refine X_statP (rest := []) hC (c_X4_nearestFraction _ G cls ad hi σ x11 r8) (gSt tw_324 tw_279 tw_1 tw_280) rfl okm_X4_nearestFraction (by decide) dX4_coincidence_101 rfl (Nat.le_of_ble_eq_true rfl) (fun r12 => ?_)
        refine X_istore (ls' := [(9, .int r12), (8, .int x11), (7, .int r10), (6, .int r9), (5, .int r8), (4, .int r7), (0, .ref (ad 25)), (1, .int p1), (2, .int p2), (3, .int p3)]) hC dX4_coincidence_104 (by decide) rfl ?_
        refine X_iload_n hC 9 rfl dX4_coincidence_106 ?_
        refine X_ite (fun h13 => ?_) (fun h13 => ?_)
        · refine X_tableIn (v := 0) hC 144 dX4_coincidence_107 (by rw [h13]; decide) (by decide) (by decide) rfl (by decide) ?_
          refine X_iload hC 2 rfl dX4_coincidence_144 ?_
          exact X_iret hC hz0 hz1 dX4_coincidence_146 rfl
        refine X_ite (fun h14 => ?_) (fun h14 => ?_)
        · refine X_tableIn (v := 1) hC 147 dX4_coincidence_107 (by rw [h14]; decide) (by decide) (by decide) rfl (by decide) ?_
          refine X_iload hC 1 rfl dX4_coincidence_147 ?_
          exact X_iret hC hz0 hz1 dX4_coincidence_149 rfl
        refine X_ite (fun h15 => ?_) (fun h15 => ?_)
        · refine X_tableIn (v := 2) hC 150 dX4_coincidence_107 (by rw [h15]; decide) (by decide) (by decide) rfl (by decide) ?_
          refine X_aload_n hC 6 rfl dX4_coincidence_150 ?_
          refine X_getf (C := RX4) (T := TX4) (N := 5) (ci := 4) hC 0 (wX (k := 25) (by omega) cX_vs) rfl hinX4 (by decide) tw_100 rfl rfl dX4_coincidence_151 ?_
          refine X_getf (C := RX2) (T := TX2) (N := 3) (ci := 2) hC 0 (wX (k := 19) (by omega) cX_now) rfl hinX2 (by decide) tw_47 rfl rfl dX4_coincidence_154 ?_
          refine X_iload_n hC 7 rfl dX4_coincidence_157 ?_
          refine X_iconst (v := 3) hC (by decide) dX4_coincidence_158 ?_
          refine X_callP (C := RX3) (T := TX3) (N := 4) (ci := 3) (rest := []) hC (c_X3_cell _ G cls ad hi σ 0 (by omega) p1 (3 : Int32)) (gV tw_255 tw_133 tw_134 tw_3 tw_135) rfl (wX (k := 0) (by omega) (cX_tab (by omega))) rfl rfl okm_X3_cell (by decide) dX4_coincidence_159 rfl (Nat.le_of_ble_eq_true rfl) (fun r16 => ?_)
          refine X_if_ne hC 170 dX4_coincidence_162 (by decide) (fun h17 => ?_) (fun h17 => ?_)
          · refine X_iload hC 5 rfl dX4_coincidence_170 ?_
            refine X_iload hC 0 rfl dX4_coincidence_172 ?_
            refine X_isub hC dX4_coincidence_174 ?_
            exact X_iret hC hz0 hz1 dX4_coincidence_175 rfl
          · refine X_iload hC 0 rfl dX4_coincidence_165 ?_
            refine X_goto hC 175 dX4_coincidence_167 (by decide) ?_
            exact X_iret hC hz0 hz1 dX4_coincidence_175 rfl
        refine X_ite (fun h18 => ?_) (fun h18 => ?_)
        · refine X_tableIn (v := 3) hC 176 dX4_coincidence_107 (by rw [h18]; decide) (by decide) (by decide) rfl (by decide) ?_
          refine X_iload hC 1 rfl dX4_coincidence_176 ?_
          refine X_iload hC 0 rfl dX4_coincidence_178 ?_
          refine X_iload hC 4 rfl dX4_coincidence_180 ?_
          refine X_imul hC dX4_coincidence_182 ?_
          refine X_isub hC dX4_coincidence_183 ?_
          refine X_mabs hC tw_325 tw_293 tw_4 tw_294 (by decide) (Nat.le_of_ble_eq_true rfl) dX4_coincidence_184 (X_lt fun x19 => ?_)
          exact X_iret hC hz0 hz1 dX4_coincidence_187 rfl
        refine X_ite (fun h20 => ?_) (fun h20 => ?_)
        · refine X_tableIn (v := 4) hC 188 dX4_coincidence_107 (by rw [h20]; decide) (by decide) (by decide) rfl (by decide) ?_
          refine X_iload hC 0 rfl dX4_coincidence_188 ?_
          exact X_iret hC hz0 hz1 dX4_coincidence_190 rfl
        refine X_ite (fun h21 => ?_) (fun h21 => ?_)
        · refine X_tableIn (v := 5) hC 191 dX4_coincidence_107 (by rw [h21]; decide) (by decide) (by decide) rfl (by decide) ?_
          refine X_iconst (v := 2) hC (by decide) dX4_coincidence_191 ?_
          refine X_iload hC 1 rfl dX4_coincidence_192 ?_
          refine X_iload hC 0 rfl dX4_coincidence_194 ?_
          refine X_iload hC 4 rfl dX4_coincidence_196 ?_
          refine X_imul hC dX4_coincidence_198 ?_
          refine X_isub hC dX4_coincidence_199 ?_
          refine X_imul hC dX4_coincidence_200 ?_
          refine X_iload hC 4 rfl dX4_coincidence_201 ?_
          refine X_icmp_ne hC 210 dX4_coincidence_203 (by decide) (fun h22 => ?_) (fun h22 => ?_)
          · refine X_iconst (v := 1) hC (by decide) dX4_coincidence_210 ?_
            exact X_iret hC hz0 hz1 dX4_coincidence_211 rfl
          · refine X_iconst (v := 2) hC (by decide) dX4_coincidence_206 ?_
            refine X_goto hC 211 dX4_coincidence_207 (by decide) ?_
            exact X_iret hC hz0 hz1 dX4_coincidence_211 rfl
        refine X_tableOut hC 212 dX4_coincidence_107 (by have q0 := lv_neT h13 (a := 0) (by decide); have q1 := lv_neT h14 (a := 1) (by decide); have q2 := lv_neT h15 (a := 2) (by decide); have q3 := lv_neT h18 (a := 3) (by decide); have q4 := lv_neT h20 (a := 4) (by decide); have q5 := lv_neT h21 (a := 5) (by decide); omega) (by decide) ?_
        refine X_iload hC 2 rfl dX4_coincidence_212 ?_
        refine X_iload hC 3 rfl dX4_coincidence_214 ?_
        refine X_imul hC dX4_coincidence_216 ?_
        refine X_iload hC 0 rfl dX4_coincidence_217 ?_
        refine X_iload hC 4 rfl dX4_coincidence_219 ?_
        refine X_imul hC dX4_coincidence_221 ?_
        refine X_iadd hC dX4_coincidence_222 ?_
        exact X_iret hC hz0 hz1 dX4_coincidence_223 rfl
      · refine X_ldc (v := -10000002) hC tw_322 dX4_coincidence_39 ?_
        exact X_iret hC hz0 hz1 dX4_coincidence_41 rfl
  · refine X_ldc (v := -10000001) hC tw_319 dX4_coincidence_14 ?_
    exact X_iret hC hz0 hz1 dX4_coincidence_16 rfl
theorem dX4_answer_0 : decode cX4_answer 0 = .ok (.aload_n 0, 1) := by decide +kernel
theorem dX4_answer_1 : decode cX4_answer 1 = .ok (.getfield 12, 3) := by decide +kernel
theorem dX4_answer_4 : decode cX4_answer 4 = .ok (.getfield 83, 3) := by decide +kernel
theorem dX4_answer_7 : decode cX4_answer 7 = .ok (.iload_n 1, 1) := by decide +kernel
theorem dX4_answer_8 : decode cX4_answer 8 = .ok (.invokevirtual 61, 3) := by decide +kernel
theorem dX4_answer_11 : decode cX4_answer 11 = .ok (.ifCond .ne 17, 3) := by decide +kernel
theorem dX4_answer_14 : decode cX4_answer 14 = .ok (.aload_n 0, 1) := by decide +kernel
theorem dX4_answer_15 : decode cX4_answer 15 = .ok (.getfield 12, 3) := by decide +kernel
theorem dX4_answer_18 : decode cX4_answer 18 = .ok (.getfield 42, 3) := by decide +kernel
theorem dX4_answer_21 : decode cX4_answer 21 = .ok (.iload_n 2, 1) := by decide +kernel
theorem dX4_answer_22 : decode cX4_answer 22 = .ok (.invokevirtual 61, 3) := by decide +kernel
theorem dX4_answer_25 : decode cX4_answer 25 = .ok (.ifCond .eq 6, 3) := by decide +kernel
theorem dX4_answer_28 : decode cX4_answer 28 = .ok (.ldc 65, 2) := by decide +kernel
theorem dX4_answer_30 : decode cX4_answer 30 = .ok (.ireturn, 1) := by decide +kernel
theorem dX4_answer_31 : decode cX4_answer 31 = .ok (.aload_n 0, 1) := by decide +kernel
theorem dX4_answer_32 : decode cX4_answer 32 = .ok (.getfield 12, 3) := by decide +kernel
theorem dX4_answer_35 : decode cX4_answer 35 = .ok (.iload_n 2, 1) := by decide +kernel
theorem dX4_answer_36 : decode cX4_answer 36 = .ok (.iload_n 3, 1) := by decide +kernel
theorem dX4_answer_37 : decode cX4_answer 37 = .ok (.invokevirtual 102, 3) := by decide +kernel
theorem dX4_answer_40 : decode cX4_answer 40 = .ok (.ifCond .eq 6, 3) := by decide +kernel
theorem dX4_answer_43 : decode cX4_answer 43 = .ok (.ldc 41, 2) := by decide +kernel
theorem dX4_answer_45 : decode cX4_answer 45 = .ok (.ireturn, 1) := by decide +kernel
theorem dX4_answer_46 : decode cX4_answer 46 = .ok (.aload_n 0, 1) := by decide +kernel
theorem dX4_answer_47 : decode cX4_answer 47 = .ok (.getfield 12, 3) := by decide +kernel
theorem dX4_answer_50 : decode cX4_answer 50 = .ok (.iload_n 1, 1) := by decide +kernel
theorem dX4_answer_51 : decode cX4_answer 51 = .ok (.iload_n 2, 1) := by decide +kernel
theorem dX4_answer_52 : decode cX4_answer 52 = .ok (.iload_n 3, 1) := by decide +kernel
theorem dX4_answer_53 : decode cX4_answer 53 = .ok (.invokevirtual 178, 3) := by decide +kernel
theorem dX4_answer_56 : decode cX4_answer 56 = .ok (.ireturn, 1) := by decide +kernel
def f_X4_answer (σ : Sg)  (p1 p2 p3 : Int32) : Option (Int32) := (f_X3_lacks σ 1 p1).bind fun r1 => if r1 = 0 then ((f_X3_lacks σ 0 p2).bind fun r3 => if r3 = 0 then ((f_X2_isNoSetting σ p2 p3).bind fun r5 => if r5 = 0 then ((f_X2_answerNow σ p1 p2 p3).bind fun r7 => some r7) else (some (-10000002 : Int32))) else (some (-10000001 : Int32))) else (some (-10000001 : Int32))
theorem okm_X4_answer : okm yX4_answer 3 = true := by decide +kernel
set_option maxHeartbeats 4000000 in
set_option maxRecDepth 100000 in
theorem c_X4_answer (l : Launch) (G : va_G) (cls : Cls) (ad : Nat → Nat) (hi : inj 49 ad) (σ : Sg)   (p1 p2 p3 : Int32) : MT l (YX G cls ad) yX4_answer (.code yX4_answer cX4_answer 4 (some .int) :: gw) 5 123 [.ref (ad 25), .int p1, .int p2, .int p3] (fiP σ) σ (f_X4_answer σ  p1 p2 p3) := by
  refine MT.of (own := RX4) (by decide) (YX_D hi) rfl (Nat.le_of_ble_eq_true rfl) fun Γ _ hz0 hz1 hC => ?_
  show WX Γ (YX G cls ad) (qf Γ (YX G cls ad) (fiP σ)) 4 0 [(0, .ref (ad 25)), (1, .int p1), (2, .int p2), (3, .int p3)] [] σ (f_X4_answer σ  p1 p2 p3)
  unfold f_X4_answer
  refine X_aload_n hC 0 rfl dX4_answer_0 ?_
  refine X_getf (C := RX4) (T := TX4) (N := 5) (ci := 4) hC 0 (wX (k := 25) (by omega) cX_vs) rfl hinX4 (by decide) tw_100 rfl rfl dX4_answer_1 ?_
  refine X_getf (C := RX2) (T := TX2) (N := 3) (ci := 2) hC 1 (wX (k := 19) (by omega) cX_now) rfl hinX2 (by decide) tw_49 rfl rfl dX4_answer_4 ?_
  refine X_iload_n hC 1 rfl dX4_answer_7 ?_
  refine X_callP (C := RX3) (T := TX3) (N := 4) (ci := 3) (rest := []) hC (c_X3_lacks _ G cls ad hi σ 1 (by omega) p1) (gV tw_318 tw_137 tw_138 tw_3 tw_139) rfl (wX (k := 1) (by omega) (cX_tab (by omega))) rfl rfl okm_X3_lacks (by decide) dX4_answer_8 rfl (Nat.le_of_ble_eq_true rfl) (fun r1 => ?_)
  refine X_if_ne hC 28 dX4_answer_11 (by decide) (fun h2 => ?_) (fun h2 => ?_)
  · refine X_ldc (v := -10000001) hC tw_319 dX4_answer_28 ?_
    exact X_iret hC hz0 hz1 dX4_answer_30 rfl
  · refine X_aload_n hC 0 rfl dX4_answer_14 ?_
    refine X_getf (C := RX4) (T := TX4) (N := 5) (ci := 4) hC 0 (wX (k := 25) (by omega) cX_vs) rfl hinX4 (by decide) tw_100 rfl rfl dX4_answer_15 ?_
    refine X_getf (C := RX2) (T := TX2) (N := 3) (ci := 2) hC 0 (wX (k := 19) (by omega) cX_now) rfl hinX2 (by decide) tw_47 rfl rfl dX4_answer_18 ?_
    refine X_iload_n hC 2 rfl dX4_answer_21 ?_
    refine X_callP (C := RX3) (T := TX3) (N := 4) (ci := 3) (rest := []) hC (c_X3_lacks _ G cls ad hi σ 0 (by omega) p2) (gV tw_318 tw_137 tw_138 tw_3 tw_139) rfl (wX (k := 0) (by omega) (cX_tab (by omega))) rfl rfl okm_X3_lacks (by decide) dX4_answer_22 rfl (Nat.le_of_ble_eq_true rfl) (fun r3 => ?_)
    refine X_if_eq hC 31 dX4_answer_25 (by decide) (fun h4 => ?_) (fun h4 => ?_)
    · refine X_aload_n hC 0 rfl dX4_answer_31 ?_
      refine X_getf (C := RX4) (T := TX4) (N := 5) (ci := 4) hC 0 (wX (k := 25) (by omega) cX_vs) rfl hinX4 (by decide) tw_100 rfl rfl dX4_answer_32 ?_
      refine X_iload_n hC 2 rfl dX4_answer_35 ?_
      refine X_iload_n hC 3 rfl dX4_answer_36 ?_
      refine X_callP (C := RX2) (T := TX2) (N := 3) (ci := 2) (rest := []) hC (c_X2_isNoSetting _ G cls ad hi σ p2 p3) (gV tw_416 tw_242 tw_243 tw_2 tw_244) rfl (wX (k := 19) (by omega) cX_now) rfl rfl okm_X2_isNoSetting (by decide) dX4_answer_37 rfl (Nat.le_of_ble_eq_true rfl) (fun r5 => ?_)
      refine X_if_eq hC 46 dX4_answer_40 (by decide) (fun h6 => ?_) (fun h6 => ?_)
      · refine X_aload_n hC 0 rfl dX4_answer_46 ?_
        refine X_getf (C := RX4) (T := TX4) (N := 5) (ci := 4) hC 0 (wX (k := 25) (by omega) cX_vs) rfl hinX4 (by decide) tw_100 rfl rfl dX4_answer_47 ?_
        refine X_iload_n hC 1 rfl dX4_answer_50 ?_
        refine X_iload_n hC 2 rfl dX4_answer_51 ?_
        refine X_iload_n hC 3 rfl dX4_answer_52 ?_
        refine X_callP (C := RX2) (T := TX2) (N := 3) (ci := 2) (rest := []) hC (c_X2_answerNow _ G cls ad hi σ p1 p2 p3) (gV tw_417 tw_261 tw_262 tw_2 tw_263) rfl (wX (k := 19) (by omega) cX_now) rfl rfl okm_X2_answerNow (by decide) dX4_answer_53 rfl (Nat.le_of_ble_eq_true rfl) (fun r7 => ?_)
        exact X_iret hC hz0 hz1 dX4_answer_56 rfl
      · refine X_ldc (v := -10000002) hC tw_322 dX4_answer_43 ?_
        exact X_iret hC hz0 hz1 dX4_answer_45 rfl
    · refine X_ldc (v := -10000001) hC tw_319 dX4_answer_28 ?_
      exact X_iret hC hz0 hz1 dX4_answer_30 rfl
theorem dX4_would_0 : decode cX4_would 0 = .ok (.aload_n 0, 1) := by decide +kernel
theorem dX4_would_1 : decode cX4_would 1 = .ok (.getfield 12, 3) := by decide +kernel
theorem dX4_would_4 : decode cX4_would 4 = .ok (.getfield 83, 3) := by decide +kernel
theorem dX4_would_7 : decode cX4_would 7 = .ok (.iload_n 1, 1) := by decide +kernel
theorem dX4_would_8 : decode cX4_would 8 = .ok (.invokevirtual 61, 3) := by decide +kernel
theorem dX4_would_11 : decode cX4_would 11 = .ok (.ifCond .eq 6, 3) := by decide +kernel
theorem dX4_would_14 : decode cX4_would 14 = .ok (.ldc 65, 2) := by decide +kernel
theorem dX4_would_16 : decode cX4_would 16 = .ok (.ireturn, 1) := by decide +kernel
theorem dX4_would_17 : decode cX4_would 17 = .ok (.iload_n 2, 1) := by decide +kernel
theorem dX4_would_18 : decode cX4_would 18 = .ok (.iconst 0, 1) := by decide +kernel
theorem dX4_would_19 : decode cX4_would 19 = .ok (.iconst 4, 1) := by decide +kernel
theorem dX4_would_20 : decode cX4_would 20 = .ok (.invokestatic 37, 3) := by decide +kernel
theorem dX4_would_23 : decode cX4_would 23 = .ok (.ifCond .eq 6, 3) := by decide +kernel
theorem dX4_would_26 : decode cX4_would 26 = .ok (.ldc 41, 2) := by decide +kernel
theorem dX4_would_28 : decode cX4_would 28 = .ok (.ireturn, 1) := by decide +kernel
theorem dX4_would_29 : decode cX4_would 29 = .ok (.iload_n 2, 1) := by decide +kernel
theorem dX4_would_30 : decode cX4_would 30 = .ok (.iconst 4, 1) := by decide +kernel
theorem dX4_would_31 : decode cX4_would 31 = .ok (.if_icmp .ne 7, 3) := by decide +kernel
theorem dX4_would_34 : decode cX4_would 34 = .ok (.iconst 1, 1) := by decide +kernel
theorem dX4_would_35 : decode cX4_would 35 = .ok (.goto 4, 3) := by decide +kernel
theorem dX4_would_38 : decode cX4_would 38 = .ok (.iconst 0, 1) := by decide +kernel
theorem dX4_would_39 : decode cX4_would 39 = .ok (.istore_n 3, 1) := by decide +kernel
theorem dX4_would_40 : decode cX4_would 40 = .ok (.iload_n 3, 1) := by decide +kernel
theorem dX4_would_41 : decode cX4_would 41 = .ok (.ifCond .ne 8, 3) := by decide +kernel
theorem dX4_would_44 : decode cX4_would 44 = .ok (.iload_n 2, 1) := by decide +kernel
theorem dX4_would_45 : decode cX4_would 45 = .ok (.iconst 1, 1) := by decide +kernel
theorem dX4_would_46 : decode cX4_would 46 = .ok (.if_icmp .ne 7, 3) := by decide +kernel
theorem dX4_would_49 : decode cX4_would 49 = .ok (.iconst 0, 1) := by decide +kernel
theorem dX4_would_50 : decode cX4_would 50 = .ok (.goto 15, 3) := by decide +kernel
theorem dX4_would_53 : decode cX4_would 53 = .ok (.aload_n 0, 1) := by decide +kernel
theorem dX4_would_54 : decode cX4_would 54 = .ok (.getfield 12, 3) := by decide +kernel
theorem dX4_would_57 : decode cX4_would 57 = .ok (.getfield 83, 3) := by decide +kernel
theorem dX4_would_60 : decode cX4_would 60 = .ok (.iload_n 1, 1) := by decide +kernel
theorem dX4_would_61 : decode cX4_would 61 = .ok (.iconst 0, 1) := by decide +kernel
theorem dX4_would_62 : decode cX4_would 62 = .ok (.invokevirtual 70, 3) := by decide +kernel
theorem dX4_would_65 : decode cX4_would 65 = .ok (.istore 4, 2) := by decide +kernel
theorem dX4_would_67 : decode cX4_would 67 = .ok (.iload_n 3, 1) := by decide +kernel
theorem dX4_would_68 : decode cX4_would 68 = .ok (.ifCond .ne 8, 3) := by decide +kernel
theorem dX4_would_71 : decode cX4_would 71 = .ok (.iload_n 2, 1) := by decide +kernel
theorem dX4_would_72 : decode cX4_would 72 = .ok (.iconst 2, 1) := by decide +kernel
theorem dX4_would_73 : decode cX4_would 73 = .ok (.if_icmp .ne 7, 3) := by decide +kernel
theorem dX4_would_76 : decode cX4_would 76 = .ok (.iconst 0, 1) := by decide +kernel
theorem dX4_would_77 : decode cX4_would 77 = .ok (.goto 15, 3) := by decide +kernel
theorem dX4_would_80 : decode cX4_would 80 = .ok (.aload_n 0, 1) := by decide +kernel
theorem dX4_would_81 : decode cX4_would 81 = .ok (.getfield 12, 3) := by decide +kernel
theorem dX4_would_84 : decode cX4_would 84 = .ok (.getfield 83, 3) := by decide +kernel
theorem dX4_would_87 : decode cX4_would 87 = .ok (.iload_n 1, 1) := by decide +kernel
theorem dX4_would_88 : decode cX4_would 88 = .ok (.iconst 1, 1) := by decide +kernel
theorem dX4_would_89 : decode cX4_would 89 = .ok (.invokevirtual 70, 3) := by decide +kernel
theorem dX4_would_92 : decode cX4_would 92 = .ok (.istore 5, 2) := by decide +kernel
theorem dX4_would_94 : decode cX4_would 94 = .ok (.iload_n 3, 1) := by decide +kernel
theorem dX4_would_95 : decode cX4_would 95 = .ok (.ifCond .ne 8, 3) := by decide +kernel
theorem dX4_would_98 : decode cX4_would 98 = .ok (.iload_n 2, 1) := by decide +kernel
theorem dX4_would_99 : decode cX4_would 99 = .ok (.iconst 3, 1) := by decide +kernel
theorem dX4_would_100 : decode cX4_would 100 = .ok (.if_icmp .ne 8, 3) := by decide +kernel
theorem dX4_would_103 : decode cX4_would 103 = .ok (.bipush 7, 2) := by decide +kernel
theorem dX4_would_105 : decode cX4_would 105 = .ok (.goto 15, 3) := by decide +kernel
theorem dX4_would_108 : decode cX4_would 108 = .ok (.aload_n 0, 1) := by decide +kernel
theorem dX4_would_109 : decode cX4_would 109 = .ok (.getfield 12, 3) := by decide +kernel
theorem dX4_would_112 : decode cX4_would 112 = .ok (.getfield 83, 3) := by decide +kernel
theorem dX4_would_115 : decode cX4_would 115 = .ok (.iload_n 1, 1) := by decide +kernel
theorem dX4_would_116 : decode cX4_would 116 = .ok (.iconst 2, 1) := by decide +kernel
theorem dX4_would_117 : decode cX4_would 117 = .ok (.invokevirtual 70, 3) := by decide +kernel
theorem dX4_would_120 : decode cX4_would 120 = .ok (.istore 6, 2) := by decide +kernel
theorem dX4_would_122 : decode cX4_would 122 = .ok (.aload_n 0, 1) := by decide +kernel
theorem dX4_would_123 : decode cX4_would 123 = .ok (.getfield 12, 3) := by decide +kernel
theorem dX4_would_126 : decode cX4_would 126 = .ok (.iload_n 1, 1) := by decide +kernel
theorem dX4_would_127 : decode cX4_would 127 = .ok (.iload 4, 2) := by decide +kernel
theorem dX4_would_129 : decode cX4_would 129 = .ok (.iload 5, 2) := by decide +kernel
theorem dX4_would_131 : decode cX4_would 131 = .ok (.iload 6, 2) := by decide +kernel
theorem dX4_would_133 : decode cX4_would 133 = .ok (.invokevirtual 181, 3) := by decide +kernel
theorem dX4_would_136 : decode cX4_would 136 = .ok (.ireturn, 1) := by decide +kernel
def f_X4_would_b120 (σ : Sg)    (v1 v4 v5 w0 : Int32) : Option (Int32) := (f_X2_sumIfWritten σ v1 v4 v5 w0).bind fun r9 => some r9
def f_X4_would_b103 (σ : Sg)    (v1 v4 v5 : Int32) : Option (Int32) := f_X4_would_b120 σ v1 v4 v5 (7 : Int32)
def f_X4_would_b92 (σ : Sg)    (v1 v2 v3 v4 w0 : Int32) : Option (Int32) := if v3 = 0 then (if v2 = (3 : Int32) then (f_X4_would_b103 σ v1 v4 w0) else ((f_X3_cell σ 1 v1 (2 : Int32)).bind fun r11 => f_X4_would_b120 σ v1 v4 w0 r11)) else (f_X4_would_b103 σ v1 v4 w0)
def f_X4_would_b76 (σ : Sg)    (v1 v2 v3 v4 : Int32) : Option (Int32) := f_X4_would_b92 σ v1 v2 v3 v4 (0 : Int32)
def f_X4_would_b65 (σ : Sg)    (v1 v2 v3 w0 : Int32) : Option (Int32) := if v3 = 0 then (if v2 = (2 : Int32) then (f_X4_would_b76 σ v1 v2 v3 w0) else ((f_X3_cell σ 1 v1 (1 : Int32)).bind fun r13 => f_X4_would_b92 σ v1 v2 v3 w0 r13)) else (f_X4_would_b76 σ v1 v2 v3 w0)
def f_X4_would_b49 (σ : Sg)    (v1 v2 v3 : Int32) : Option (Int32) := f_X4_would_b65 σ v1 v2 v3 (0 : Int32)
def f_X4_would_b39 (σ : Sg)    (v1 v2 w0 : Int32) : Option (Int32) := if w0 = 0 then (if v2 = (1 : Int32) then (f_X4_would_b49 σ v1 v2 w0) else ((f_X3_cell σ 1 v1 (0 : Int32)).bind fun r15 => f_X4_would_b65 σ v1 v2 w0 r15)) else (f_X4_would_b49 σ v1 v2 w0)
def f_X4_would (σ : Sg)  (p1 p2 : Int32) : Option (Int32) := (f_X3_lacks σ 1 p1).bind fun r1 => if r1 = 0 then ((f_X4_outside σ p2 (0 : Int32) (4 : Int32)).bind fun r3 => if r3 = 0 then (if p2 = (4 : Int32) then (f_X4_would_b39 σ p1 p2 (1 : Int32)) else (f_X4_would_b39 σ p1 p2 (0 : Int32))) else (some (-10000002 : Int32))) else (some (-10000001 : Int32))
set_option maxHeartbeats 4000000 in
set_option maxRecDepth 100000 in
theorem L_X4_would_b120 {Γ : Cx} (G : va_G) (cls : Cls) (ad : Nat → Nat) (hi : inj 49 ad) (hC : CX Γ (YX G cls ad) cX4_would RX4 7 (some .int) 6 152) (hz0 : Γ.2.2.2.2.2.1 = 0) (hz1 : Γ.2.2.2.2.2.2 = 0) (σ : Sg)     (v1 v4 v5 w0 : Int32) : WX Γ (YX G cls ad) (qf Γ (YX G cls ad) (fiP σ)) 7 120 [(0, .ref (ad 25)), (1, .int v1), (4, .int v4), (5, .int v5)] [.int w0] σ (f_X4_would_b120 σ   v1 v4 v5 w0) := by
  unfold f_X4_would_b120
  refine X_istore (ls' := [(6, .int w0), (0, .ref (ad 25)), (1, .int v1), (4, .int v4), (5, .int v5)]) hC dX4_would_120 (by decide) rfl ?_
  refine X_aload_n hC 1 rfl dX4_would_122 ?_
  refine X_getf (C := RX4) (T := TX4) (N := 5) (ci := 4) hC 0 (wX (k := 25) (by omega) cX_vs) rfl hinX4 (by decide) tw_100 rfl rfl dX4_would_123 ?_
  refine X_iload_n hC 2 rfl dX4_would_126 ?_
  refine X_iload hC 3 rfl dX4_would_127 ?_
  refine X_iload hC 4 rfl dX4_would_129 ?_
  refine X_iload hC 0 rfl dX4_would_131 ?_
  refine X_callP (C := RX2) (T := TX2) (N := 3) (ci := 2) (rest := []) hC (c_X2_sumIfWritten _ G cls ad hi σ v1 v4 v5 w0) (gV tw_422 tw_423 tw_424 tw_2 tw_425) rfl (wX (k := 19) (by omega) cX_now) rfl rfl okm_X2_sumIfWritten (by decide) dX4_would_133 rfl (Nat.le_of_ble_eq_true rfl) (fun r9 => ?_)
  exact X_iret hC hz0 hz1 dX4_would_136 rfl
set_option maxHeartbeats 4000000 in
set_option maxRecDepth 100000 in
theorem L_X4_would_b103 {Γ : Cx} (G : va_G) (cls : Cls) (ad : Nat → Nat) (hi : inj 49 ad) (hC : CX Γ (YX G cls ad) cX4_would RX4 7 (some .int) 6 152) (hz0 : Γ.2.2.2.2.2.1 = 0) (hz1 : Γ.2.2.2.2.2.2 = 0) (σ : Sg)     (v1 v4 v5 : Int32) : WX Γ (YX G cls ad) (qf Γ (YX G cls ad) (fiP σ)) 7 103 [(0, .ref (ad 25)), (1, .int v1), (4, .int v4), (5, .int v5)] [] σ (f_X4_would_b103 σ   v1 v4 v5) := by
  unfold f_X4_would_b103
  refine X_bipush (v := 7) hC (by decide) dX4_would_103 ?_
  refine X_goto hC 120 dX4_would_105 (by decide) ?_
  exact (L_X4_would_b120 G cls ad hi hC hz0 hz1 σ v1 v4 v5 (7 : Int32))
set_option maxHeartbeats 4000000 in
set_option maxRecDepth 100000 in
theorem L_X4_would_b92 {Γ : Cx} (G : va_G) (cls : Cls) (ad : Nat → Nat) (hi : inj 49 ad) (hC : CX Γ (YX G cls ad) cX4_would RX4 7 (some .int) 6 152) (hz0 : Γ.2.2.2.2.2.1 = 0) (hz1 : Γ.2.2.2.2.2.2 = 0) (σ : Sg)     (v1 v2 v3 v4 w0 : Int32) : WX Γ (YX G cls ad) (qf Γ (YX G cls ad) (fiP σ)) 7 92 [(0, .ref (ad 25)), (1, .int v1), (2, .int v2), (3, .int v3), (4, .int v4)] [.int w0] σ (f_X4_would_b92 σ   v1 v2 v3 v4 w0) := by
  unfold f_X4_would_b92
  refine X_istore (ls' := [(5, .int w0), (0, .ref (ad 25)), (1, .int v1), (2, .int v2), (3, .int v3), (4, .int v4)]) hC dX4_would_92 (by decide) rfl ?_
  refine X_iload_n hC 4 rfl dX4_would_94 ?_
  refine X_if_ne hC 103 dX4_would_95 (by decide) (fun h8 => ?_) (fun h8 => ?_)
  · exact X_sub [1, 2, 5, 0] rfl (L_X4_would_b103 G cls ad hi hC hz0 hz1 σ v1 v4 w0)
  · refine X_iload_n hC 3 rfl dX4_would_98 ?_
    refine X_iconst (v := 3) hC (by decide) dX4_would_99 ?_
    refine X_icmp_ne hC 108 dX4_would_100 (by decide) (fun h10 => ?_) (fun h10 => ?_)
    · refine X_aload_n hC 1 rfl dX4_would_108 ?_
      refine X_getf (C := RX4) (T := TX4) (N := 5) (ci := 4) hC 0 (wX (k := 25) (by omega) cX_vs) rfl hinX4 (by decide) tw_100 rfl rfl dX4_would_109 ?_
      refine X_getf (C := RX2) (T := TX2) (N := 3) (ci := 2) hC 1 (wX (k := 19) (by omega) cX_now) rfl hinX2 (by decide) tw_49 rfl rfl dX4_would_112 ?_
      refine X_iload_n hC 2 rfl dX4_would_115 ?_
      refine X_iconst (v := 2) hC (by decide) dX4_would_116 ?_
      refine X_callP (C := RX3) (T := TX3) (N := 4) (ci := 3) (rest := []) hC (c_X3_cell _ G cls ad hi σ 1 (by omega) v1 (2 : Int32)) (gV tw_255 tw_133 tw_134 tw_3 tw_135) rfl (wX (k := 1) (by omega) (cX_tab (by omega))) rfl rfl okm_X3_cell (by decide) dX4_would_117 rfl (Nat.le_of_ble_eq_true rfl) (fun r11 => ?_)
      exact X_sub [1, 2, 5, 0] rfl (L_X4_would_b120 G cls ad hi hC hz0 hz1 σ v1 v4 w0 r11)
    · exact X_sub [1, 2, 5, 0] rfl (L_X4_would_b103 G cls ad hi hC hz0 hz1 σ v1 v4 w0)
set_option maxHeartbeats 4000000 in
set_option maxRecDepth 100000 in
theorem L_X4_would_b76 {Γ : Cx} (G : va_G) (cls : Cls) (ad : Nat → Nat) (hi : inj 49 ad) (hC : CX Γ (YX G cls ad) cX4_would RX4 7 (some .int) 6 152) (hz0 : Γ.2.2.2.2.2.1 = 0) (hz1 : Γ.2.2.2.2.2.2 = 0) (σ : Sg)     (v1 v2 v3 v4 : Int32) : WX Γ (YX G cls ad) (qf Γ (YX G cls ad) (fiP σ)) 7 76 [(0, .ref (ad 25)), (1, .int v1), (2, .int v2), (3, .int v3), (4, .int v4)] [] σ (f_X4_would_b76 σ   v1 v2 v3 v4) := by
  unfold f_X4_would_b76
  refine X_iconst (v := 0) hC (by decide) dX4_would_76 ?_
  refine X_goto hC 92 dX4_would_77 (by decide) ?_
  exact (L_X4_would_b92 G cls ad hi hC hz0 hz1 σ v1 v2 v3 v4 (0 : Int32))
set_option maxHeartbeats 4000000 in
set_option maxRecDepth 100000 in
theorem L_X4_would_b65 {Γ : Cx} (G : va_G) (cls : Cls) (ad : Nat → Nat) (hi : inj 49 ad) (hC : CX Γ (YX G cls ad) cX4_would RX4 7 (some .int) 6 152) (hz0 : Γ.2.2.2.2.2.1 = 0) (hz1 : Γ.2.2.2.2.2.2 = 0) (σ : Sg)     (v1 v2 v3 w0 : Int32) : WX Γ (YX G cls ad) (qf Γ (YX G cls ad) (fiP σ)) 7 65 [(0, .ref (ad 25)), (1, .int v1), (2, .int v2), (3, .int v3)] [.int w0] σ (f_X4_would_b65 σ   v1 v2 v3 w0) := by
  unfold f_X4_would_b65
  refine X_istore (ls' := [(4, .int w0), (0, .ref (ad 25)), (1, .int v1), (2, .int v2), (3, .int v3)]) hC dX4_would_65 (by decide) rfl ?_
  refine X_iload_n hC 4 rfl dX4_would_67 ?_
  refine X_if_ne hC 76 dX4_would_68 (by decide) (fun h7 => ?_) (fun h7 => ?_)
  · exact X_sub [1, 2, 3, 4, 0] rfl (L_X4_would_b76 G cls ad hi hC hz0 hz1 σ v1 v2 v3 w0)
  · refine X_iload_n hC 3 rfl dX4_would_71 ?_
    refine X_iconst (v := 2) hC (by decide) dX4_would_72 ?_
    refine X_icmp_ne hC 80 dX4_would_73 (by decide) (fun h12 => ?_) (fun h12 => ?_)
    · refine X_aload_n hC 1 rfl dX4_would_80 ?_
      refine X_getf (C := RX4) (T := TX4) (N := 5) (ci := 4) hC 0 (wX (k := 25) (by omega) cX_vs) rfl hinX4 (by decide) tw_100 rfl rfl dX4_would_81 ?_
      refine X_getf (C := RX2) (T := TX2) (N := 3) (ci := 2) hC 1 (wX (k := 19) (by omega) cX_now) rfl hinX2 (by decide) tw_49 rfl rfl dX4_would_84 ?_
      refine X_iload_n hC 2 rfl dX4_would_87 ?_
      refine X_iconst (v := 1) hC (by decide) dX4_would_88 ?_
      refine X_callP (C := RX3) (T := TX3) (N := 4) (ci := 3) (rest := []) hC (c_X3_cell _ G cls ad hi σ 1 (by omega) v1 (1 : Int32)) (gV tw_255 tw_133 tw_134 tw_3 tw_135) rfl (wX (k := 1) (by omega) (cX_tab (by omega))) rfl rfl okm_X3_cell (by decide) dX4_would_89 rfl (Nat.le_of_ble_eq_true rfl) (fun r13 => ?_)
      exact X_sub [1, 2, 3, 4, 0] rfl (L_X4_would_b92 G cls ad hi hC hz0 hz1 σ v1 v2 v3 w0 r13)
    · exact X_sub [1, 2, 3, 4, 0] rfl (L_X4_would_b76 G cls ad hi hC hz0 hz1 σ v1 v2 v3 w0)
set_option maxHeartbeats 4000000 in
set_option maxRecDepth 100000 in
theorem L_X4_would_b49 {Γ : Cx} (G : va_G) (cls : Cls) (ad : Nat → Nat) (hi : inj 49 ad) (hC : CX Γ (YX G cls ad) cX4_would RX4 7 (some .int) 6 152) (hz0 : Γ.2.2.2.2.2.1 = 0) (hz1 : Γ.2.2.2.2.2.2 = 0) (σ : Sg)     (v1 v2 v3 : Int32) : WX Γ (YX G cls ad) (qf Γ (YX G cls ad) (fiP σ)) 7 49 [(0, .ref (ad 25)), (1, .int v1), (2, .int v2), (3, .int v3)] [] σ (f_X4_would_b49 σ   v1 v2 v3) := by
  unfold f_X4_would_b49
  refine X_iconst (v := 0) hC (by decide) dX4_would_49 ?_
  refine X_goto hC 65 dX4_would_50 (by decide) ?_
  exact (L_X4_would_b65 G cls ad hi hC hz0 hz1 σ v1 v2 v3 (0 : Int32))
set_option maxHeartbeats 4000000 in
set_option maxRecDepth 100000 in
theorem L_X4_would_b39 {Γ : Cx} (G : va_G) (cls : Cls) (ad : Nat → Nat) (hi : inj 49 ad) (hC : CX Γ (YX G cls ad) cX4_would RX4 7 (some .int) 6 152) (hz0 : Γ.2.2.2.2.2.1 = 0) (hz1 : Γ.2.2.2.2.2.2 = 0) (σ : Sg)     (v1 v2 w0 : Int32) : WX Γ (YX G cls ad) (qf Γ (YX G cls ad) (fiP σ)) 7 39 [(0, .ref (ad 25)), (1, .int v1), (2, .int v2)] [.int w0] σ (f_X4_would_b39 σ   v1 v2 w0) := by
  unfold f_X4_would_b39
  refine X_istore_n (ls' := [(3, .int w0), (0, .ref (ad 25)), (1, .int v1), (2, .int v2)]) hC dX4_would_39 (by decide) rfl ?_
  refine X_iload_n hC 0 rfl dX4_would_40 ?_
  refine X_if_ne hC 49 dX4_would_41 (by decide) (fun h6 => ?_) (fun h6 => ?_)
  · exact X_sub [1, 2, 3, 0] rfl (L_X4_would_b49 G cls ad hi hC hz0 hz1 σ v1 v2 w0)
  · refine X_iload_n hC 3 rfl dX4_would_44 ?_
    refine X_iconst (v := 1) hC (by decide) dX4_would_45 ?_
    refine X_icmp_ne hC 53 dX4_would_46 (by decide) (fun h14 => ?_) (fun h14 => ?_)
    · refine X_aload_n hC 1 rfl dX4_would_53 ?_
      refine X_getf (C := RX4) (T := TX4) (N := 5) (ci := 4) hC 0 (wX (k := 25) (by omega) cX_vs) rfl hinX4 (by decide) tw_100 rfl rfl dX4_would_54 ?_
      refine X_getf (C := RX2) (T := TX2) (N := 3) (ci := 2) hC 1 (wX (k := 19) (by omega) cX_now) rfl hinX2 (by decide) tw_49 rfl rfl dX4_would_57 ?_
      refine X_iload_n hC 2 rfl dX4_would_60 ?_
      refine X_iconst (v := 0) hC (by decide) dX4_would_61 ?_
      refine X_callP (C := RX3) (T := TX3) (N := 4) (ci := 3) (rest := []) hC (c_X3_cell _ G cls ad hi σ 1 (by omega) v1 (0 : Int32)) (gV tw_255 tw_133 tw_134 tw_3 tw_135) rfl (wX (k := 1) (by omega) (cX_tab (by omega))) rfl rfl okm_X3_cell (by decide) dX4_would_62 rfl (Nat.le_of_ble_eq_true rfl) (fun r15 => ?_)
      exact X_sub [1, 2, 3, 0] rfl (L_X4_would_b65 G cls ad hi hC hz0 hz1 σ v1 v2 w0 r15)
    · exact X_sub [1, 2, 3, 0] rfl (L_X4_would_b49 G cls ad hi hC hz0 hz1 σ v1 v2 w0)
theorem okm_X4_would : okm yX4_would 2 = true := by decide +kernel
set_option maxHeartbeats 4000000 in
set_option maxRecDepth 100000 in
theorem c_X4_would (l : Launch) (G : va_G) (cls : Cls) (ad : Nat → Nat) (hi : inj 49 ad) (σ : Sg)   (p1 p2 : Int32) : MT l (YX G cls ad) yX4_would (.code yX4_would cX4_would 7 (some .int) :: gw) 6 152 [.ref (ad 25), .int p1, .int p2] (fiP σ) σ (f_X4_would σ  p1 p2) := by
  refine MT.of (own := RX4) (by decide) (YX_D hi) rfl (Nat.le_of_ble_eq_true rfl) fun Γ _ hz0 hz1 hC => ?_
  show WX Γ (YX G cls ad) (qf Γ (YX G cls ad) (fiP σ)) 7 0 [(0, .ref (ad 25)), (1, .int p1), (2, .int p2)] [] σ (f_X4_would σ  p1 p2)
  unfold f_X4_would
  refine X_aload_n hC 0 rfl dX4_would_0 ?_
  refine X_getf (C := RX4) (T := TX4) (N := 5) (ci := 4) hC 0 (wX (k := 25) (by omega) cX_vs) rfl hinX4 (by decide) tw_100 rfl rfl dX4_would_1 ?_
  refine X_getf (C := RX2) (T := TX2) (N := 3) (ci := 2) hC 1 (wX (k := 19) (by omega) cX_now) rfl hinX2 (by decide) tw_49 rfl rfl dX4_would_4 ?_
  refine X_iload_n hC 1 rfl dX4_would_7 ?_
  refine X_callP (C := RX3) (T := TX3) (N := 4) (ci := 3) (rest := []) hC (c_X3_lacks _ G cls ad hi σ 1 (by omega) p1) (gV tw_318 tw_137 tw_138 tw_3 tw_139) rfl (wX (k := 1) (by omega) (cX_tab (by omega))) rfl rfl okm_X3_lacks (by decide) dX4_would_8 rfl (Nat.le_of_ble_eq_true rfl) (fun r1 => ?_)
  refine X_if_eq hC 17 dX4_would_11 (by decide) (fun h2 => ?_) (fun h2 => ?_)
  · refine X_iload_n hC 2 rfl dX4_would_17 ?_
    refine X_iconst (v := 0) hC (by decide) dX4_would_18 ?_
    refine X_iconst (v := 4) hC (by decide) dX4_would_19 ?_
    refine X_statP (rest := []) hC (c_X4_outside _ G cls ad hi σ p2 (0 : Int32) (4 : Int32)) (gSt tw_321 tw_246 tw_1 tw_247) rfl okm_X4_outside (by decide) dX4_would_20 rfl (Nat.le_of_ble_eq_true rfl) (fun r3 => ?_)
    refine X_if_eq hC 29 dX4_would_23 (by decide) (fun h4 => ?_) (fun h4 => ?_)
    · refine X_iload_n hC 2 rfl dX4_would_29 ?_
      refine X_iconst (v := 4) hC (by decide) dX4_would_30 ?_
      refine X_icmp_ne hC 38 dX4_would_31 (by decide) (fun h5 => ?_) (fun h5 => ?_)
      · refine X_iconst (v := 0) hC (by decide) dX4_would_38 ?_
        exact (L_X4_would_b39 G cls ad hi hC hz0 hz1 σ p1 p2 (0 : Int32))
      · refine X_iconst (v := 1) hC (by decide) dX4_would_34 ?_
        refine X_goto hC 39 dX4_would_35 (by decide) ?_
        exact (L_X4_would_b39 G cls ad hi hC hz0 hz1 σ p1 p2 (1 : Int32))
    · refine X_ldc (v := -10000002) hC tw_322 dX4_would_26 ?_
      exact X_iret hC hz0 hz1 dX4_would_28 rfl
  · refine X_ldc (v := -10000001) hC tw_319 dX4_would_14 ?_
    exact X_iret hC hz0 hz1 dX4_would_16 rfl
theorem dX4_ranked_0 : decode cX4_ranked 0 = .ok (.iload_n 1, 1) := by decide +kernel
theorem dX4_ranked_1 : decode cX4_ranked 1 = .ok (.ifCond .ge 6, 3) := by decide +kernel
theorem dX4_ranked_4 : decode cX4_ranked 4 = .ok (.ldc 41, 2) := by decide +kernel
theorem dX4_ranked_6 : decode cX4_ranked 6 = .ok (.ireturn, 1) := by decide +kernel
theorem dX4_ranked_7 : decode cX4_ranked 7 = .ok (.iconst 0, 1) := by decide +kernel
theorem dX4_ranked_8 : decode cX4_ranked 8 = .ok (.istore_n 2, 1) := by decide +kernel
theorem dX4_ranked_9 : decode cX4_ranked 9 = .ok (.iload_n 2, 1) := by decide +kernel
theorem dX4_ranked_10 : decode cX4_ranked 10 = .ok (.aload_n 0, 1) := by decide +kernel
theorem dX4_ranked_11 : decode cX4_ranked 11 = .ok (.getfield 12, 3) := by decide +kernel
theorem dX4_ranked_14 : decode cX4_ranked 14 = .ok (.getfield 83, 3) := by decide +kernel
theorem dX4_ranked_17 : decode cX4_ranked 17 = .ok (.invokevirtual 150, 3) := by decide +kernel
theorem dX4_ranked_20 : decode cX4_ranked 20 = .ok (.if_icmp .ge 23, 3) := by decide +kernel
theorem dX4_ranked_23 : decode cX4_ranked 23 = .ok (.aload_n 0, 1) := by decide +kernel
theorem dX4_ranked_24 : decode cX4_ranked 24 = .ok (.getfield 12, 3) := by decide +kernel
theorem dX4_ranked_27 : decode cX4_ranked 27 = .ok (.iload_n 2, 1) := by decide +kernel
theorem dX4_ranked_28 : decode cX4_ranked 28 = .ok (.invokevirtual 160, 3) := by decide +kernel
theorem dX4_ranked_31 : decode cX4_ranked 31 = .ok (.iload_n 1, 1) := by decide +kernel
theorem dX4_ranked_32 : decode cX4_ranked 32 = .ok (.if_icmp .ne 5, 3) := by decide +kernel
theorem dX4_ranked_35 : decode cX4_ranked 35 = .ok (.iload_n 2, 1) := by decide +kernel
theorem dX4_ranked_36 : decode cX4_ranked 36 = .ok (.ireturn, 1) := by decide +kernel
theorem dX4_ranked_37 : decode cX4_ranked 37 = .ok (.iinc 2 1, 3) := by decide +kernel
theorem dX4_ranked_40 : decode cX4_ranked 40 = .ok (.goto (-31), 3) := by decide +kernel
theorem dX4_ranked_43 : decode cX4_ranked 43 = .ok (.ldc 74, 2) := by decide +kernel
theorem dX4_ranked_45 : decode cX4_ranked 45 = .ok (.ireturn, 1) := by decide +kernel
def f_X4_ranked_b9 (σ : Sg)   : Nat → Int32 → Int32 → Option (Int32)
  | 0, _, _ => none
  | n + 1, v1, v2 => (f_X3_size σ 1).bind fun r2 => if r2 ≤ v2 then (some (-10000005 : Int32)) else ((f_X2_rankOf σ v2).bind fun r4 => if r4 = v1 then (some v2) else (lt (v2 + (1 : Int32)) fun x6 => (f_X4_ranked_b9 σ   n) v1 x6))
def f_X4_ranked (σ : Sg)  (p1 : Int32) : Option (Int32) := if 0 ≤ p1 then (f_X4_ranked_b9 σ fuel p1 (0 : Int32)) else (some (-10000002 : Int32))
set_option maxHeartbeats 4000000 in
set_option maxRecDepth 100000 in
theorem L_X4_ranked_b9 {Γ : Cx} (G : va_G) (cls : Cls) (ad : Nat → Nat) (hi : inj 49 ad) (hC : CX Γ (YX G cls ad) cX4_ranked RX4 3 (some .int) 4 93) (hz0 : Γ.2.2.2.2.2.1 = 0) (hz1 : Γ.2.2.2.2.2.2 = 0) (σ : Sg)    : ∀ (n : Nat) (v1 v2 : Int32), WX Γ (YX G cls ad) (qf Γ (YX G cls ad) (fiP σ)) 3 9 [(0, .ref (ad 25)), (1, .int v1), (2, .int v2)] [] σ (f_X4_ranked_b9 σ   n v1 v2) := by
  intro n
  induction n with
  | zero => intro v1 v2; exact X_none
  | succ n ih =>
    intro v1 v2
    rw [f_X4_ranked_b9.eq_2]
    refine X_iload_n hC 2 rfl dX4_ranked_9 ?_
    refine X_aload_n hC 0 rfl dX4_ranked_10 ?_
    refine X_getf (C := RX4) (T := TX4) (N := 5) (ci := 4) hC 0 (wX (k := 25) (by omega) cX_vs) rfl hinX4 (by decide) tw_100 rfl rfl dX4_ranked_11 ?_
    refine X_getf (C := RX2) (T := TX2) (N := 3) (ci := 2) hC 1 (wX (k := 19) (by omega) cX_now) rfl hinX2 (by decide) tw_49 rfl rfl dX4_ranked_14 ?_
    refine X_callP (C := RX3) (T := TX3) (N := 4) (ci := 3) (rest := [.int v2]) hC (c_X3_size _ G cls ad hi σ 1 (by omega)) (gV tw_254 tw_125 tw_126 tw_3 tw_127) rfl (wX (k := 1) (by omega) (cX_tab (by omega))) rfl rfl okm_X3_size (by decide) dX4_ranked_17 rfl (Nat.le_of_ble_eq_true rfl) (fun r2 => ?_)
    refine X_icmp_ge hC 43 dX4_ranked_20 (by decide) (fun h3 => ?_) (fun h3 => ?_)
    · refine X_ldc (v := -10000005) hC tw_149 dX4_ranked_43 ?_
      exact X_iret hC hz0 hz1 dX4_ranked_45 rfl
    · refine X_aload_n hC 0 rfl dX4_ranked_23 ?_
      refine X_getf (C := RX4) (T := TX4) (N := 5) (ci := 4) hC 0 (wX (k := 25) (by omega) cX_vs) rfl hinX4 (by decide) tw_100 rfl rfl dX4_ranked_24 ?_
      refine X_iload_n hC 2 rfl dX4_ranked_27 ?_
      refine X_callP (C := RX2) (T := TX2) (N := 3) (ci := 2) (rest := []) hC (c_X2_rankOf _ G cls ad hi σ v2) (gV tw_330 tw_331 tw_332 tw_2 tw_333) rfl (wX (k := 19) (by omega) cX_now) rfl rfl okm_X2_rankOf (by decide) dX4_ranked_28 rfl (Nat.le_of_ble_eq_true rfl) (fun r4 => ?_)
      refine X_iload_n hC 1 rfl dX4_ranked_31 ?_
      refine X_icmp_ne hC 37 dX4_ranked_32 (by decide) (fun h5 => ?_) (fun h5 => ?_)
      · refine X_iinc (ls' := fun x6 => [(2, .int x6), (0, .ref (ad 25)), (1, .int v1)]) hC 2 dX4_ranked_37 rfl (by decide) (by decide) (fun _ => rfl) (fun x6 => ?_)
        refine X_goto hC 9 dX4_ranked_40 (by decide) ?_
        exact X_sub [1, 2, 0] rfl (ih v1 x6)
      · refine X_iload_n hC 2 rfl dX4_ranked_35 ?_
        exact X_iret hC hz0 hz1 dX4_ranked_36 rfl
theorem okm_X4_ranked : okm yX4_ranked 1 = true := by decide +kernel
set_option maxHeartbeats 4000000 in
set_option maxRecDepth 100000 in
theorem c_X4_ranked (l : Launch) (G : va_G) (cls : Cls) (ad : Nat → Nat) (hi : inj 49 ad) (σ : Sg)   (p1 : Int32) : MT l (YX G cls ad) yX4_ranked (.code yX4_ranked cX4_ranked 3 (some .int) :: gw) 4 93 [.ref (ad 25), .int p1] (fiP σ) σ (f_X4_ranked σ  p1) := by
  refine MT.of (own := RX4) (by decide) (YX_D hi) rfl (Nat.le_of_ble_eq_true rfl) fun Γ _ hz0 hz1 hC => ?_
  show WX Γ (YX G cls ad) (qf Γ (YX G cls ad) (fiP σ)) 3 0 [(0, .ref (ad 25)), (1, .int p1)] [] σ (f_X4_ranked σ  p1)
  unfold f_X4_ranked
  refine X_iload_n hC 1 rfl dX4_ranked_0 ?_
  refine X_if_ge hC 7 dX4_ranked_1 (by decide) (fun h1 => ?_) (fun h1 => ?_)
  · refine X_iconst (v := 0) hC (by decide) dX4_ranked_7 ?_
    refine X_istore_n (ls' := [(2, .int (0 : Int32)), (0, .ref (ad 25)), (1, .int p1)]) hC dX4_ranked_8 (by decide) rfl ?_
    exact X_sub [1, 2, 0] rfl (L_X4_ranked_b9 G cls ad hi hC hz0 hz1 σ fuel p1 (0 : Int32))
  · refine X_ldc (v := -10000002) hC tw_322 dX4_ranked_4 ?_
    exact X_iret hC hz0 hz1 dX4_ranked_6 rfl
theorem dX4_waiting_0 : decode cX4_waiting 0 = .ok (.iload_n 1, 1) := by decide +kernel
theorem dX4_waiting_1 : decode cX4_waiting 1 = .ok (.ifCond .ge 6, 3) := by decide +kernel
theorem dX4_waiting_4 : decode cX4_waiting 4 = .ok (.ldc 41, 2) := by decide +kernel
theorem dX4_waiting_6 : decode cX4_waiting 6 = .ok (.ireturn, 1) := by decide +kernel
theorem dX4_waiting_7 : decode cX4_waiting 7 = .ok (.aload_n 0, 1) := by decide +kernel
theorem dX4_waiting_8 : decode cX4_waiting 8 = .ok (.getfield 12, 3) := by decide +kernel
theorem dX4_waiting_11 : decode cX4_waiting 11 = .ok (.iload_n 1, 1) := by decide +kernel
theorem dX4_waiting_12 : decode cX4_waiting 12 = .ok (.invokevirtual 118, 3) := by decide +kernel
theorem dX4_waiting_15 : decode cX4_waiting 15 = .ok (.ireturn, 1) := by decide +kernel
def f_X4_waiting (σ : Sg)  (p1 : Int32) : Option (Int32) := if 0 ≤ p1 then ((f_X2_waitingAt σ p1).bind fun r2 => some r2) else (some (-10000002 : Int32))
theorem okm_X4_waiting : okm yX4_waiting 1 = true := by decide +kernel
set_option maxHeartbeats 4000000 in
set_option maxRecDepth 100000 in
theorem c_X4_waiting (l : Launch) (G : va_G) (cls : Cls) (ad : Nat → Nat) (hi : inj 49 ad) (σ : Sg)   (p1 : Int32) : MT l (YX G cls ad) yX4_waiting (.code yX4_waiting cX4_waiting 2 (some .int) :: gw) 5 115 [.ref (ad 25), .int p1] (fiP σ) σ (f_X4_waiting σ  p1) := by
  refine MT.of (own := RX4) (by decide) (YX_D hi) rfl (Nat.le_of_ble_eq_true rfl) fun Γ _ hz0 hz1 hC => ?_
  show WX Γ (YX G cls ad) (qf Γ (YX G cls ad) (fiP σ)) 2 0 [(0, .ref (ad 25)), (1, .int p1)] [] σ (f_X4_waiting σ  p1)
  unfold f_X4_waiting
  refine X_iload_n hC 1 rfl dX4_waiting_0 ?_
  refine X_if_ge hC 7 dX4_waiting_1 (by decide) (fun h1 => ?_) (fun h1 => ?_)
  · refine X_aload_n hC 0 rfl dX4_waiting_7 ?_
    refine X_getf (C := RX4) (T := TX4) (N := 5) (ci := 4) hC 0 (wX (k := 25) (by omega) cX_vs) rfl hinX4 (by decide) tw_100 rfl rfl dX4_waiting_8 ?_
    refine X_iload_n hC 1 rfl dX4_waiting_11 ?_
    refine X_callP (C := RX2) (T := TX2) (N := 3) (ci := 2) (rest := []) hC (c_X2_waitingAt _ G cls ad hi σ p1) (gV tw_120 tw_121 tw_122 tw_2 tw_123) rfl (wX (k := 19) (by omega) cX_now) rfl rfl okm_X2_waitingAt (by decide) dX4_waiting_12 rfl (Nat.le_of_ble_eq_true rfl) (fun r2 => ?_)
    exact X_iret hC hz0 hz1 dX4_waiting_15 rfl
  · refine X_ldc (v := -10000002) hC tw_322 dX4_waiting_4 ?_
    exact X_iret hC hz0 hz1 dX4_waiting_6 rfl
theorem dX4_count_0 : decode cX4_count 0 = .ok (.iload_n 1, 1) := by decide +kernel
theorem dX4_count_1 : decode cX4_count 1 = .ok (.tableswitch 151 0 8 #[51, 62, 73, 84, 97, 110, 123, 135, 143], 51) := by decide +kernel
theorem dX4_count_52 : decode cX4_count 52 = .ok (.aload_n 0, 1) := by decide +kernel
theorem dX4_count_53 : decode cX4_count 53 = .ok (.getfield 12, 3) := by decide +kernel
theorem dX4_count_56 : decode cX4_count 56 = .ok (.getfield 42, 3) := by decide +kernel
theorem dX4_count_59 : decode cX4_count 59 = .ok (.invokevirtual 150, 3) := by decide +kernel
theorem dX4_count_62 : decode cX4_count 62 = .ok (.ireturn, 1) := by decide +kernel
theorem dX4_count_63 : decode cX4_count 63 = .ok (.aload_n 0, 1) := by decide +kernel
theorem dX4_count_64 : decode cX4_count 64 = .ok (.getfield 12, 3) := by decide +kernel
theorem dX4_count_67 : decode cX4_count 67 = .ok (.getfield 83, 3) := by decide +kernel
theorem dX4_count_70 : decode cX4_count 70 = .ok (.invokevirtual 150, 3) := by decide +kernel
theorem dX4_count_73 : decode cX4_count 73 = .ok (.ireturn, 1) := by decide +kernel
theorem dX4_count_74 : decode cX4_count 74 = .ok (.aload_n 0, 1) := by decide +kernel
theorem dX4_count_75 : decode cX4_count 75 = .ok (.getfield 12, 3) := by decide +kernel
theorem dX4_count_78 : decode cX4_count 78 = .ok (.getfield 105, 3) := by decide +kernel
theorem dX4_count_81 : decode cX4_count 81 = .ok (.invokevirtual 150, 3) := by decide +kernel
theorem dX4_count_84 : decode cX4_count 84 = .ok (.ireturn, 1) := by decide +kernel
theorem dX4_count_85 : decode cX4_count 85 = .ok (.aload_n 0, 1) := by decide +kernel
theorem dX4_count_86 : decode cX4_count 86 = .ok (.getfield 12, 3) := by decide +kernel
theorem dX4_count_89 : decode cX4_count 89 = .ok (.getfield 105, 3) := by decide +kernel
theorem dX4_count_92 : decode cX4_count 92 = .ok (.iconst 5, 1) := by decide +kernel
theorem dX4_count_93 : decode cX4_count 93 = .ok (.iconst 1, 1) := by decide +kernel
theorem dX4_count_94 : decode cX4_count 94 = .ok (.invokevirtual 112, 3) := by decide +kernel
theorem dX4_count_97 : decode cX4_count 97 = .ok (.ireturn, 1) := by decide +kernel
theorem dX4_count_98 : decode cX4_count 98 = .ok (.aload_n 0, 1) := by decide +kernel
theorem dX4_count_99 : decode cX4_count 99 = .ok (.getfield 12, 3) := by decide +kernel
theorem dX4_count_102 : decode cX4_count 102 = .ok (.getfield 105, 3) := by decide +kernel
theorem dX4_count_105 : decode cX4_count 105 = .ok (.iconst 5, 1) := by decide +kernel
theorem dX4_count_106 : decode cX4_count 106 = .ok (.iconst 2, 1) := by decide +kernel
theorem dX4_count_107 : decode cX4_count 107 = .ok (.invokevirtual 112, 3) := by decide +kernel
theorem dX4_count_110 : decode cX4_count 110 = .ok (.ireturn, 1) := by decide +kernel
theorem dX4_count_111 : decode cX4_count 111 = .ok (.aload_n 0, 1) := by decide +kernel
theorem dX4_count_112 : decode cX4_count 112 = .ok (.getfield 12, 3) := by decide +kernel
theorem dX4_count_115 : decode cX4_count 115 = .ok (.getfield 105, 3) := by decide +kernel
theorem dX4_count_118 : decode cX4_count 118 = .ok (.iconst 5, 1) := by decide +kernel
theorem dX4_count_119 : decode cX4_count 119 = .ok (.iconst 3, 1) := by decide +kernel
theorem dX4_count_120 : decode cX4_count 120 = .ok (.invokevirtual 112, 3) := by decide +kernel
theorem dX4_count_123 : decode cX4_count 123 = .ok (.ireturn, 1) := by decide +kernel
theorem dX4_count_124 : decode cX4_count 124 = .ok (.aload_n 0, 1) := by decide +kernel
theorem dX4_count_125 : decode cX4_count 125 = .ok (.getfield 12, 3) := by decide +kernel
theorem dX4_count_128 : decode cX4_count 128 = .ok (.getfield 105, 3) := by decide +kernel
theorem dX4_count_131 : decode cX4_count 131 = .ok (.iconst 4, 1) := by decide +kernel
theorem dX4_count_132 : decode cX4_count 132 = .ok (.invokevirtual 185, 3) := by decide +kernel
theorem dX4_count_135 : decode cX4_count 135 = .ok (.ireturn, 1) := by decide +kernel
theorem dX4_count_136 : decode cX4_count 136 = .ok (.aload_n 0, 1) := by decide +kernel
theorem dX4_count_137 : decode cX4_count 137 = .ok (.getfield 22, 3) := by decide +kernel
theorem dX4_count_140 : decode cX4_count 140 = .ok (.invokevirtual 153, 3) := by decide +kernel
theorem dX4_count_143 : decode cX4_count 143 = .ok (.ireturn, 1) := by decide +kernel
theorem dX4_count_144 : decode cX4_count 144 = .ok (.aload_n 0, 1) := by decide +kernel
theorem dX4_count_145 : decode cX4_count 145 = .ok (.getfield 29, 3) := by decide +kernel
theorem dX4_count_148 : decode cX4_count 148 = .ok (.invokevirtual 133, 3) := by decide +kernel
theorem dX4_count_151 : decode cX4_count 151 = .ok (.ireturn, 1) := by decide +kernel
theorem dX4_count_152 : decode cX4_count 152 = .ok (.ldc 41, 2) := by decide +kernel
theorem dX4_count_154 : decode cX4_count 154 = .ok (.ireturn, 1) := by decide +kernel
def f_X4_count (σ : Sg)  (p1 : Int32) : Option (Int32) := if p1 = 0 then ((f_X3_size σ 0).bind fun r2 => some r2) else if p1 = 1 then ((f_X3_size σ 1).bind fun r4 => some r4) else if p1 = 2 then ((f_X3_size σ 2).bind fun r6 => some r6) else if p1 = 3 then ((f_X3_rowsWith σ 2 (5 : Int32) (1 : Int32)).bind fun r8 => some r8) else if p1 = 4 then ((f_X3_rowsWith σ 2 (5 : Int32) (2 : Int32)).bind fun r10 => some r10) else if p1 = 5 then ((f_X3_rowsWith σ 2 (5 : Int32) (3 : Int32)).bind fun r12 => some r12) else if p1 = 6 then ((f_X3_sumOf σ 2 (4 : Int32)).bind fun r14 => some r14) else if p1 = 7 then ((f_X0_size σ).bind fun r16 => some r16) else if p1 = 8 then ((f_X1_length σ).bind fun r18 => some r18) else (some (-10000002 : Int32))
theorem okm_X4_count : okm yX4_count 1 = true := by decide +kernel
set_option maxHeartbeats 4000000 in
set_option maxRecDepth 100000 in
theorem c_X4_count (l : Launch) (G : va_G) (cls : Cls) (ad : Nat → Nat) (hi : inj 49 ad) (σ : Sg)   (p1 : Int32) : MT l (YX G cls ad) yX4_count (.code yX4_count cX4_count 2 (some .int) :: gw) 3 68 [.ref (ad 25), .int p1] (fiP σ) σ (f_X4_count σ  p1) := by
  refine MT.of (own := RX4) (by decide) (YX_D hi) rfl (Nat.le_of_ble_eq_true rfl) fun Γ _ hz0 hz1 hC => ?_
  show WX Γ (YX G cls ad) (qf Γ (YX G cls ad) (fiP σ)) 2 0 [(0, .ref (ad 25)), (1, .int p1)] [] σ (f_X4_count σ  p1)
  unfold f_X4_count
  refine X_iload_n hC 1 rfl dX4_count_0 ?_
  refine X_ite (fun h1 => ?_) (fun h1 => ?_)
  · refine X_tableIn (v := 0) hC 52 dX4_count_1 (by rw [h1]; decide) (by decide) (by decide) rfl (by decide) ?_
    refine X_aload_n hC 0 rfl dX4_count_52 ?_
    refine X_getf (C := RX4) (T := TX4) (N := 5) (ci := 4) hC 0 (wX (k := 25) (by omega) cX_vs) rfl hinX4 (by decide) tw_100 rfl rfl dX4_count_53 ?_
    refine X_getf (C := RX2) (T := TX2) (N := 3) (ci := 2) hC 0 (wX (k := 19) (by omega) cX_now) rfl hinX2 (by decide) tw_47 rfl rfl dX4_count_56 ?_
    refine X_callP (C := RX3) (T := TX3) (N := 4) (ci := 3) (rest := []) hC (c_X3_size _ G cls ad hi σ 0 (by omega)) (gV tw_254 tw_125 tw_126 tw_3 tw_127) rfl (wX (k := 0) (by omega) (cX_tab (by omega))) rfl rfl okm_X3_size (by decide) dX4_count_59 rfl (Nat.le_of_ble_eq_true rfl) (fun r2 => ?_)
    exact X_iret hC hz0 hz1 dX4_count_62 rfl
  refine X_ite (fun h3 => ?_) (fun h3 => ?_)
  · refine X_tableIn (v := 1) hC 63 dX4_count_1 (by rw [h3]; decide) (by decide) (by decide) rfl (by decide) ?_
    refine X_aload_n hC 0 rfl dX4_count_63 ?_
    refine X_getf (C := RX4) (T := TX4) (N := 5) (ci := 4) hC 0 (wX (k := 25) (by omega) cX_vs) rfl hinX4 (by decide) tw_100 rfl rfl dX4_count_64 ?_
    refine X_getf (C := RX2) (T := TX2) (N := 3) (ci := 2) hC 1 (wX (k := 19) (by omega) cX_now) rfl hinX2 (by decide) tw_49 rfl rfl dX4_count_67 ?_
    refine X_callP (C := RX3) (T := TX3) (N := 4) (ci := 3) (rest := []) hC (c_X3_size _ G cls ad hi σ 1 (by omega)) (gV tw_254 tw_125 tw_126 tw_3 tw_127) rfl (wX (k := 1) (by omega) (cX_tab (by omega))) rfl rfl okm_X3_size (by decide) dX4_count_70 rfl (Nat.le_of_ble_eq_true rfl) (fun r4 => ?_)
    exact X_iret hC hz0 hz1 dX4_count_73 rfl
  refine X_ite (fun h5 => ?_) (fun h5 => ?_)
  · refine X_tableIn (v := 2) hC 74 dX4_count_1 (by rw [h5]; decide) (by decide) (by decide) rfl (by decide) ?_
    refine X_aload_n hC 0 rfl dX4_count_74 ?_
    refine X_getf (C := RX4) (T := TX4) (N := 5) (ci := 4) hC 0 (wX (k := 25) (by omega) cX_vs) rfl hinX4 (by decide) tw_100 rfl rfl dX4_count_75 ?_
    refine X_getf (C := RX2) (T := TX2) (N := 3) (ci := 2) hC 2 (wX (k := 19) (by omega) cX_now) rfl hinX2 (by decide) tw_51 rfl rfl dX4_count_78 ?_
    refine X_callP (C := RX3) (T := TX3) (N := 4) (ci := 3) (rest := []) hC (c_X3_size _ G cls ad hi σ 2 (by omega)) (gV tw_254 tw_125 tw_126 tw_3 tw_127) rfl (wX (k := 2) (by omega) (cX_tab (by omega))) rfl rfl okm_X3_size (by decide) dX4_count_81 rfl (Nat.le_of_ble_eq_true rfl) (fun r6 => ?_)
    exact X_iret hC hz0 hz1 dX4_count_84 rfl
  refine X_ite (fun h7 => ?_) (fun h7 => ?_)
  · refine X_tableIn (v := 3) hC 85 dX4_count_1 (by rw [h7]; decide) (by decide) (by decide) rfl (by decide) ?_
    refine X_aload_n hC 0 rfl dX4_count_85 ?_
    refine X_getf (C := RX4) (T := TX4) (N := 5) (ci := 4) hC 0 (wX (k := 25) (by omega) cX_vs) rfl hinX4 (by decide) tw_100 rfl rfl dX4_count_86 ?_
    refine X_getf (C := RX2) (T := TX2) (N := 3) (ci := 2) hC 2 (wX (k := 19) (by omega) cX_now) rfl hinX2 (by decide) tw_51 rfl rfl dX4_count_89 ?_
    refine X_iconst (v := 5) hC (by decide) dX4_count_92 ?_
    refine X_iconst (v := 1) hC (by decide) dX4_count_93 ?_
    refine X_callP (C := RX3) (T := TX3) (N := 4) (ci := 3) (rest := []) hC (c_X3_rowsWith _ G cls ad hi σ 2 (by omega) (5 : Int32) (1 : Int32)) (gV tw_342 tw_343 tw_344 tw_3 tw_345) rfl (wX (k := 2) (by omega) (cX_tab (by omega))) rfl rfl okm_X3_rowsWith (by decide) dX4_count_94 rfl (Nat.le_of_ble_eq_true rfl) (fun r8 => ?_)
    exact X_iret hC hz0 hz1 dX4_count_97 rfl
  refine X_ite (fun h9 => ?_) (fun h9 => ?_)
  · refine X_tableIn (v := 4) hC 98 dX4_count_1 (by rw [h9]; decide) (by decide) (by decide) rfl (by decide) ?_
    refine X_aload_n hC 0 rfl dX4_count_98 ?_
    refine X_getf (C := RX4) (T := TX4) (N := 5) (ci := 4) hC 0 (wX (k := 25) (by omega) cX_vs) rfl hinX4 (by decide) tw_100 rfl rfl dX4_count_99 ?_
    refine X_getf (C := RX2) (T := TX2) (N := 3) (ci := 2) hC 2 (wX (k := 19) (by omega) cX_now) rfl hinX2 (by decide) tw_51 rfl rfl dX4_count_102 ?_
    refine X_iconst (v := 5) hC (by decide) dX4_count_105 ?_
    refine X_iconst (v := 2) hC (by decide) dX4_count_106 ?_
    refine X_callP (C := RX3) (T := TX3) (N := 4) (ci := 3) (rest := []) hC (c_X3_rowsWith _ G cls ad hi σ 2 (by omega) (5 : Int32) (2 : Int32)) (gV tw_342 tw_343 tw_344 tw_3 tw_345) rfl (wX (k := 2) (by omega) (cX_tab (by omega))) rfl rfl okm_X3_rowsWith (by decide) dX4_count_107 rfl (Nat.le_of_ble_eq_true rfl) (fun r10 => ?_)
    exact X_iret hC hz0 hz1 dX4_count_110 rfl
  refine X_ite (fun h11 => ?_) (fun h11 => ?_)
  · refine X_tableIn (v := 5) hC 111 dX4_count_1 (by rw [h11]; decide) (by decide) (by decide) rfl (by decide) ?_
    refine X_aload_n hC 0 rfl dX4_count_111 ?_
    refine X_getf (C := RX4) (T := TX4) (N := 5) (ci := 4) hC 0 (wX (k := 25) (by omega) cX_vs) rfl hinX4 (by decide) tw_100 rfl rfl dX4_count_112 ?_
    refine X_getf (C := RX2) (T := TX2) (N := 3) (ci := 2) hC 2 (wX (k := 19) (by omega) cX_now) rfl hinX2 (by decide) tw_51 rfl rfl dX4_count_115 ?_
    refine X_iconst (v := 5) hC (by decide) dX4_count_118 ?_
    refine X_iconst (v := 3) hC (by decide) dX4_count_119 ?_
    refine X_callP (C := RX3) (T := TX3) (N := 4) (ci := 3) (rest := []) hC (c_X3_rowsWith _ G cls ad hi σ 2 (by omega) (5 : Int32) (3 : Int32)) (gV tw_342 tw_343 tw_344 tw_3 tw_345) rfl (wX (k := 2) (by omega) (cX_tab (by omega))) rfl rfl okm_X3_rowsWith (by decide) dX4_count_120 rfl (Nat.le_of_ble_eq_true rfl) (fun r12 => ?_)
    exact X_iret hC hz0 hz1 dX4_count_123 rfl
  refine X_ite (fun h13 => ?_) (fun h13 => ?_)
  · refine X_tableIn (v := 6) hC 124 dX4_count_1 (by rw [h13]; decide) (by decide) (by decide) rfl (by decide) ?_
    refine X_aload_n hC 0 rfl dX4_count_124 ?_
    refine X_getf (C := RX4) (T := TX4) (N := 5) (ci := 4) hC 0 (wX (k := 25) (by omega) cX_vs) rfl hinX4 (by decide) tw_100 rfl rfl dX4_count_125 ?_
    refine X_getf (C := RX2) (T := TX2) (N := 3) (ci := 2) hC 2 (wX (k := 19) (by omega) cX_now) rfl hinX2 (by decide) tw_51 rfl rfl dX4_count_128 ?_
    refine X_iconst (v := 4) hC (by decide) dX4_count_131 ?_
    refine X_callP (C := RX3) (T := TX3) (N := 4) (ci := 3) (rest := []) hC (c_X3_sumOf _ G cls ad hi σ 2 (by omega) (4 : Int32)) (gV tw_346 tw_347 tw_348 tw_3 tw_349) rfl (wX (k := 2) (by omega) (cX_tab (by omega))) rfl rfl okm_X3_sumOf (by decide) dX4_count_132 rfl (Nat.le_of_ble_eq_true rfl) (fun r14 => ?_)
    exact X_iret hC hz0 hz1 dX4_count_135 rfl
  refine X_ite (fun h15 => ?_) (fun h15 => ?_)
  · refine X_tableIn (v := 7) hC 136 dX4_count_1 (by rw [h15]; decide) (by decide) (by decide) rfl (by decide) ?_
    refine X_aload_n hC 0 rfl dX4_count_136 ?_
    refine X_getf (C := RX4) (T := TX4) (N := 5) (ci := 4) hC 2 (wX (k := 25) (by omega) cX_vs) rfl hinX4 (by decide) tw_102 rfl rfl dX4_count_137 ?_
    refine X_callP (C := RX0) (T := TX0) (N := 3) (ci := 0) (rest := []) hC (c_X0_size _ G cls ad hi σ) (gV tw_301 tw_302 tw_303 tw_5 tw_304) rfl (wX (k := 26) (by omega) cX_hi) rfl rfl okm_X0_size (by decide) dX4_count_140 rfl (Nat.le_of_ble_eq_true rfl) (fun r16 => ?_)
    exact X_iret hC hz0 hz1 dX4_count_143 rfl
  refine X_ite (fun h17 => ?_) (fun h17 => ?_)
  · refine X_tableIn (v := 8) hC 144 dX4_count_1 (by rw [h17]; decide) (by decide) (by decide) rfl (by decide) ?_
    refine X_aload_n hC 0 rfl dX4_count_144 ?_
    refine X_getf (C := RX4) (T := TX4) (N := 5) (ci := 4) hC 3 (wX (k := 25) (by omega) cX_vs) rfl hinX4 (by decide) tw_103 rfl rfl dX4_count_145 ?_
    refine X_callP (C := RX1) (T := TX1) (N := 4) (ci := 1) (rest := []) hC (c_X1_length _ G cls ad hi σ) (gV tw_350 tw_351 tw_352 tw_6 tw_353) rfl (wX (k := 27) (by omega) cX_pt) rfl rfl okm_X1_length (by decide) dX4_count_148 rfl (Nat.le_of_ble_eq_true rfl) (fun r18 => ?_)
    exact X_iret hC hz0 hz1 dX4_count_151 rfl
  refine X_tableOut hC 152 dX4_count_1 (by have q0 := lv_neT h1 (a := 0) (by decide); have q1 := lv_neT h3 (a := 1) (by decide); have q2 := lv_neT h5 (a := 2) (by decide); have q3 := lv_neT h7 (a := 3) (by decide); have q4 := lv_neT h9 (a := 4) (by decide); have q5 := lv_neT h11 (a := 5) (by decide); have q6 := lv_neT h13 (a := 6) (by decide); have q7 := lv_neT h15 (a := 7) (by decide); have q8 := lv_neT h17 (a := 8) (by decide); omega) (by decide) ?_
  refine X_ldc (v := -10000002) hC tw_322 dX4_count_152 ?_
  exact X_iret hC hz0 hz1 dX4_count_154 rfl
