theorem dX5_isAhead_0 : decode cX5_isAhead 0 = .ok (.aload_n 0, 1) := by decide +kernel
theorem dX5_isAhead_1 : decode cX5_isAhead 1 = .ok (.iload_n 1, 1) := by decide +kernel
theorem dX5_isAhead_2 : decode cX5_isAhead 2 = .ok (.bipush 7, 2) := by decide +kernel
theorem dX5_isAhead_4 : decode cX5_isAhead 4 = .ok (.invokevirtual 100, 3) := by decide +kernel
theorem dX5_isAhead_7 : decode cX5_isAhead 7 = .ok (.aload_n 0, 1) := by decide +kernel
theorem dX5_isAhead_8 : decode cX5_isAhead 8 = .ok (.iload_n 2, 1) := by decide +kernel
theorem dX5_isAhead_9 : decode cX5_isAhead 9 = .ok (.bipush 7, 2) := by decide +kernel
theorem dX5_isAhead_11 : decode cX5_isAhead 11 = .ok (.invokevirtual 100, 3) := by decide +kernel
theorem dX5_isAhead_14 : decode cX5_isAhead 14 = .ok (.if_icmp .eq 26, 3) := by decide +kernel
theorem dX5_isAhead_17 : decode cX5_isAhead 17 = .ok (.aload_n 0, 1) := by decide +kernel
theorem dX5_isAhead_18 : decode cX5_isAhead 18 = .ok (.iload_n 1, 1) := by decide +kernel
theorem dX5_isAhead_19 : decode cX5_isAhead 19 = .ok (.bipush 7, 2) := by decide +kernel
theorem dX5_isAhead_21 : decode cX5_isAhead 21 = .ok (.invokevirtual 100, 3) := by decide +kernel
theorem dX5_isAhead_24 : decode cX5_isAhead 24 = .ok (.aload_n 0, 1) := by decide +kernel
theorem dX5_isAhead_25 : decode cX5_isAhead 25 = .ok (.iload_n 2, 1) := by decide +kernel
theorem dX5_isAhead_26 : decode cX5_isAhead 26 = .ok (.bipush 7, 2) := by decide +kernel
theorem dX5_isAhead_28 : decode cX5_isAhead 28 = .ok (.invokevirtual 100, 3) := by decide +kernel
theorem dX5_isAhead_31 : decode cX5_isAhead 31 = .ok (.if_icmp .le 7, 3) := by decide +kernel
theorem dX5_isAhead_34 : decode cX5_isAhead 34 = .ok (.iconst 1, 1) := by decide +kernel
theorem dX5_isAhead_35 : decode cX5_isAhead 35 = .ok (.goto 4, 3) := by decide +kernel
theorem dX5_isAhead_38 : decode cX5_isAhead 38 = .ok (.iconst 0, 1) := by decide +kernel
theorem dX5_isAhead_39 : decode cX5_isAhead 39 = .ok (.ireturn, 1) := by decide +kernel
theorem dX5_isAhead_40 : decode cX5_isAhead 40 = .ok (.aload_n 0, 1) := by decide +kernel
theorem dX5_isAhead_41 : decode cX5_isAhead 41 = .ok (.iload_n 1, 1) := by decide +kernel
theorem dX5_isAhead_42 : decode cX5_isAhead 42 = .ok (.iconst 4, 1) := by decide +kernel
theorem dX5_isAhead_43 : decode cX5_isAhead 43 = .ok (.invokevirtual 100, 3) := by decide +kernel
theorem dX5_isAhead_46 : decode cX5_isAhead 46 = .ok (.aload_n 0, 1) := by decide +kernel
theorem dX5_isAhead_47 : decode cX5_isAhead 47 = .ok (.iload_n 2, 1) := by decide +kernel
theorem dX5_isAhead_48 : decode cX5_isAhead 48 = .ok (.iconst 4, 1) := by decide +kernel
theorem dX5_isAhead_49 : decode cX5_isAhead 49 = .ok (.invokevirtual 100, 3) := by decide +kernel
theorem dX5_isAhead_52 : decode cX5_isAhead 52 = .ok (.if_icmp .eq 26, 3) := by decide +kernel
theorem dX5_isAhead_55 : decode cX5_isAhead 55 = .ok (.aload_n 0, 1) := by decide +kernel
theorem dX5_isAhead_56 : decode cX5_isAhead 56 = .ok (.iload_n 1, 1) := by decide +kernel
theorem dX5_isAhead_57 : decode cX5_isAhead 57 = .ok (.iconst 4, 1) := by decide +kernel
theorem dX5_isAhead_58 : decode cX5_isAhead 58 = .ok (.invokevirtual 100, 3) := by decide +kernel
theorem dX5_isAhead_61 : decode cX5_isAhead 61 = .ok (.aload_n 0, 1) := by decide +kernel
theorem dX5_isAhead_62 : decode cX5_isAhead 62 = .ok (.iload_n 2, 1) := by decide +kernel
theorem dX5_isAhead_63 : decode cX5_isAhead 63 = .ok (.iconst 4, 1) := by decide +kernel
theorem dX5_isAhead_64 : decode cX5_isAhead 64 = .ok (.invokevirtual 100, 3) := by decide +kernel
theorem dX5_isAhead_67 : decode cX5_isAhead 67 = .ok (.if_icmp .ge 7, 3) := by decide +kernel
theorem dX5_isAhead_70 : decode cX5_isAhead 70 = .ok (.iconst 1, 1) := by decide +kernel
theorem dX5_isAhead_71 : decode cX5_isAhead 71 = .ok (.goto 17, 3) := by decide +kernel
theorem dX5_isAhead_74 : decode cX5_isAhead 74 = .ok (.iconst 0, 1) := by decide +kernel
theorem dX5_isAhead_75 : decode cX5_isAhead 75 = .ok (.goto 13, 3) := by decide +kernel
theorem dX5_isAhead_78 : decode cX5_isAhead 78 = .ok (.iload_n 1, 1) := by decide +kernel
theorem dX5_isAhead_79 : decode cX5_isAhead 79 = .ok (.iload_n 2, 1) := by decide +kernel
theorem dX5_isAhead_80 : decode cX5_isAhead 80 = .ok (.if_icmp .ge 7, 3) := by decide +kernel
theorem dX5_isAhead_83 : decode cX5_isAhead 83 = .ok (.iconst 1, 1) := by decide +kernel
theorem dX5_isAhead_84 : decode cX5_isAhead 84 = .ok (.goto 4, 3) := by decide +kernel
theorem dX5_isAhead_87 : decode cX5_isAhead 87 = .ok (.iconst 0, 1) := by decide +kernel
theorem dX5_isAhead_88 : decode cX5_isAhead 88 = .ok (.ireturn, 1) := by decide +kernel
def f_X5_isAhead (σ : Sg)  (p1 p2 : Int32) : Option (Int32) := (f_X5_sheet σ p1 (7 : Int32)).bind fun r1 => (f_X5_sheet σ p2 (7 : Int32)).bind fun r2 => if r1 = r2 then ((f_X5_sheet σ p1 (4 : Int32)).bind fun r4 => (f_X5_sheet σ p2 (4 : Int32)).bind fun r5 => if r4 = r5 then (if p2 ≤ p1 then (some (0 : Int32)) else (some (1 : Int32))) else ((f_X5_sheet σ p1 (4 : Int32)).bind fun r8 => (f_X5_sheet σ p2 (4 : Int32)).bind fun r9 => if r9 ≤ r8 then (some (0 : Int32)) else (some (1 : Int32)))) else ((f_X5_sheet σ p1 (7 : Int32)).bind fun r11 => (f_X5_sheet σ p2 (7 : Int32)).bind fun r12 => if r11 ≤ r12 then (some (0 : Int32)) else (some (1 : Int32)))
theorem okm_X5_isAhead : okm yX5_isAhead 2 = true := by decide +kernel
set_option maxHeartbeats 4000000 in
set_option maxRecDepth 100000 in
theorem c_X5_isAhead (l : Launch) (G : va_G) (cls : Cls) (ad : Nat → Nat) (hi : inj 6 ad) (σ : Sg)   (p1 p2 : Int32) : MT l (YM G cls ad) yX5_isAhead (.code yX5_isAhead cX5_isAhead 3 (some .boolean) :: gw) 1 22 [.ref (ad 0), .int p1, .int p2] (fiP σ) σ (f_X5_isAhead σ  p1 p2) := by
  refine MT.of (own := RX5) (by decide) (YM_D hi) rfl (Nat.le_of_ble_eq_true rfl) fun Γ _ hz0 hz1 hC => ?_
  show WX Γ (YM G cls ad) (qf Γ (YM G cls ad) (fiP σ)) 3 0 [(0, .ref (ad 0)), (1, .int p1), (2, .int p2)] [] σ (f_X5_isAhead σ  p1 p2)
  unfold f_X5_isAhead
  refine X_aload_n hC 0 rfl dX5_isAhead_0 ?_
  refine X_iload_n hC 1 rfl dX5_isAhead_1 ?_
  refine X_bipush (v := 7) hC (by decide) dX5_isAhead_2 ?_
  refine X_callP (C := RX5) (T := TX5) (N := 16) (ci := 5) (rest := []) hC (c_X5_sheet _ G cls ad hi σ p1 (7 : Int32)) (gV tw_629 tw_631 ts_18 tw_7 tw_632) rfl (wM (k := 0) (by omega) cM_ob) rfl rfl okm_X5_sheet (by decide) dX5_isAhead_4 rfl (Nat.le_of_ble_eq_true rfl) (fun r1 => ?_)
  refine X_aload_n hC 0 rfl dX5_isAhead_7 ?_
  refine X_iload_n hC 2 rfl dX5_isAhead_8 ?_
  refine X_bipush (v := 7) hC (by decide) dX5_isAhead_9 ?_
  refine X_callP (C := RX5) (T := TX5) (N := 16) (ci := 5) (rest := [.int r1]) hC (c_X5_sheet _ G cls ad hi σ p2 (7 : Int32)) (gV tw_629 tw_631 ts_18 tw_7 tw_632) rfl (wM (k := 0) (by omega) cM_ob) rfl rfl okm_X5_sheet (by decide) dX5_isAhead_11 rfl (Nat.le_of_ble_eq_true rfl) (fun r2 => ?_)
  refine X_icmp_eq hC 40 dX5_isAhead_14 (by decide) (fun h3 => ?_) (fun h3 => ?_)
  · refine X_aload_n hC 0 rfl dX5_isAhead_40 ?_
    refine X_iload_n hC 1 rfl dX5_isAhead_41 ?_
    refine X_iconst (v := 4) hC (by decide) dX5_isAhead_42 ?_
    refine X_callP (C := RX5) (T := TX5) (N := 16) (ci := 5) (rest := []) hC (c_X5_sheet _ G cls ad hi σ p1 (4 : Int32)) (gV tw_629 tw_631 ts_18 tw_7 tw_632) rfl (wM (k := 0) (by omega) cM_ob) rfl rfl okm_X5_sheet (by decide) dX5_isAhead_43 rfl (Nat.le_of_ble_eq_true rfl) (fun r4 => ?_)
    refine X_aload_n hC 0 rfl dX5_isAhead_46 ?_
    refine X_iload_n hC 2 rfl dX5_isAhead_47 ?_
    refine X_iconst (v := 4) hC (by decide) dX5_isAhead_48 ?_
    refine X_callP (C := RX5) (T := TX5) (N := 16) (ci := 5) (rest := [.int r4]) hC (c_X5_sheet _ G cls ad hi σ p2 (4 : Int32)) (gV tw_629 tw_631 ts_18 tw_7 tw_632) rfl (wM (k := 0) (by omega) cM_ob) rfl rfl okm_X5_sheet (by decide) dX5_isAhead_49 rfl (Nat.le_of_ble_eq_true rfl) (fun r5 => ?_)
    refine X_icmp_eq hC 78 dX5_isAhead_52 (by decide) (fun h6 => ?_) (fun h6 => ?_)
    · refine X_iload_n hC 1 rfl dX5_isAhead_78 ?_
      refine X_iload_n hC 2 rfl dX5_isAhead_79 ?_
      refine X_icmp_ge hC 87 dX5_isAhead_80 (by decide) (fun h7 => ?_) (fun h7 => ?_)
      · refine X_iconst (v := 0) hC (by decide) dX5_isAhead_87 ?_
        exact X_zret hC hz0 hz1 rfl dX5_isAhead_88 rfl
      · refine X_iconst (v := 1) hC (by decide) dX5_isAhead_83 ?_
        refine X_goto hC 88 dX5_isAhead_84 (by decide) ?_
        exact X_zret hC hz0 hz1 rfl dX5_isAhead_88 rfl
    · refine X_aload_n hC 0 rfl dX5_isAhead_55 ?_
      refine X_iload_n hC 1 rfl dX5_isAhead_56 ?_
      refine X_iconst (v := 4) hC (by decide) dX5_isAhead_57 ?_
      refine X_callP (C := RX5) (T := TX5) (N := 16) (ci := 5) (rest := []) hC (c_X5_sheet _ G cls ad hi σ p1 (4 : Int32)) (gV tw_629 tw_631 ts_18 tw_7 tw_632) rfl (wM (k := 0) (by omega) cM_ob) rfl rfl okm_X5_sheet (by decide) dX5_isAhead_58 rfl (Nat.le_of_ble_eq_true rfl) (fun r8 => ?_)
      refine X_aload_n hC 0 rfl dX5_isAhead_61 ?_
      refine X_iload_n hC 2 rfl dX5_isAhead_62 ?_
      refine X_iconst (v := 4) hC (by decide) dX5_isAhead_63 ?_
      refine X_callP (C := RX5) (T := TX5) (N := 16) (ci := 5) (rest := [.int r8]) hC (c_X5_sheet _ G cls ad hi σ p2 (4 : Int32)) (gV tw_629 tw_631 ts_18 tw_7 tw_632) rfl (wM (k := 0) (by omega) cM_ob) rfl rfl okm_X5_sheet (by decide) dX5_isAhead_64 rfl (Nat.le_of_ble_eq_true rfl) (fun r9 => ?_)
      refine X_icmp_ge hC 74 dX5_isAhead_67 (by decide) (fun h10 => ?_) (fun h10 => ?_)
      · refine X_iconst (v := 0) hC (by decide) dX5_isAhead_74 ?_
        refine X_goto hC 88 dX5_isAhead_75 (by decide) ?_
        exact X_zret hC hz0 hz1 rfl dX5_isAhead_88 rfl
      · refine X_iconst (v := 1) hC (by decide) dX5_isAhead_70 ?_
        refine X_goto hC 88 dX5_isAhead_71 (by decide) ?_
        exact X_zret hC hz0 hz1 rfl dX5_isAhead_88 rfl
  · refine X_aload_n hC 0 rfl dX5_isAhead_17 ?_
    refine X_iload_n hC 1 rfl dX5_isAhead_18 ?_
    refine X_bipush (v := 7) hC (by decide) dX5_isAhead_19 ?_
    refine X_callP (C := RX5) (T := TX5) (N := 16) (ci := 5) (rest := []) hC (c_X5_sheet _ G cls ad hi σ p1 (7 : Int32)) (gV tw_629 tw_631 ts_18 tw_7 tw_632) rfl (wM (k := 0) (by omega) cM_ob) rfl rfl okm_X5_sheet (by decide) dX5_isAhead_21 rfl (Nat.le_of_ble_eq_true rfl) (fun r11 => ?_)
    refine X_aload_n hC 0 rfl dX5_isAhead_24 ?_
    refine X_iload_n hC 2 rfl dX5_isAhead_25 ?_
    refine X_bipush (v := 7) hC (by decide) dX5_isAhead_26 ?_
    refine X_callP (C := RX5) (T := TX5) (N := 16) (ci := 5) (rest := [.int r11]) hC (c_X5_sheet _ G cls ad hi σ p2 (7 : Int32)) (gV tw_629 tw_631 ts_18 tw_7 tw_632) rfl (wM (k := 0) (by omega) cM_ob) rfl rfl okm_X5_sheet (by decide) dX5_isAhead_28 rfl (Nat.le_of_ble_eq_true rfl) (fun r12 => ?_)
    refine X_icmp_le hC 38 dX5_isAhead_31 (by decide) (fun h13 => ?_) (fun h13 => ?_)
    · refine X_iconst (v := 0) hC (by decide) dX5_isAhead_38 ?_
      exact X_zret hC hz0 hz1 rfl dX5_isAhead_39 rfl
    · refine X_iconst (v := 1) hC (by decide) dX5_isAhead_34 ?_
      refine X_goto hC 39 dX5_isAhead_35 (by decide) ?_
      exact X_zret hC hz0 hz1 rfl dX5_isAhead_39 rfl
theorem dX5_waiting_0 : decode cX5_waiting 0 = .ok (.iload_n 1, 1) := by decide +kernel
theorem dX5_waiting_1 : decode cX5_waiting 1 = .ok (.ifCond .ge 6, 3) := by decide +kernel
theorem dX5_waiting_4 : decode cX5_waiting 4 = .ok (.ldc 38, 2) := by decide +kernel
theorem dX5_waiting_6 : decode cX5_waiting 6 = .ok (.ireturn, 1) := by decide +kernel
theorem dX5_waiting_7 : decode cX5_waiting 7 = .ok (.iconst 0, 1) := by decide +kernel
theorem dX5_waiting_8 : decode cX5_waiting 8 = .ok (.istore_n 2, 1) := by decide +kernel
theorem dX5_waiting_9 : decode cX5_waiting 9 = .ok (.iload_n 2, 1) := by decide +kernel
theorem dX5_waiting_10 : decode cX5_waiting 10 = .ok (.aload_n 0, 1) := by decide +kernel
theorem dX5_waiting_11 : decode cX5_waiting 11 = .ok (.getfield 7, 3) := by decide +kernel
theorem dX5_waiting_14 : decode cX5_waiting 14 = .ok (.iconst 2, 1) := by decide +kernel
theorem dX5_waiting_15 : decode cX5_waiting 15 = .ok (.iaload, 1) := by decide +kernel
theorem dX5_waiting_16 : decode cX5_waiting 16 = .ok (.if_icmp .ge 83, 3) := by decide +kernel
theorem dX5_waiting_19 : decode cX5_waiting 19 = .ok (.iconst 0, 1) := by decide +kernel
theorem dX5_waiting_20 : decode cX5_waiting 20 = .ok (.istore_n 3, 1) := by decide +kernel
theorem dX5_waiting_21 : decode cX5_waiting 21 = .ok (.iconst 0, 1) := by decide +kernel
theorem dX5_waiting_22 : decode cX5_waiting 22 = .ok (.istore 4, 2) := by decide +kernel
theorem dX5_waiting_24 : decode cX5_waiting 24 = .ok (.iload 4, 2) := by decide +kernel
theorem dX5_waiting_26 : decode cX5_waiting 26 = .ok (.aload_n 0, 1) := by decide +kernel
theorem dX5_waiting_27 : decode cX5_waiting 27 = .ok (.getfield 7, 3) := by decide +kernel
theorem dX5_waiting_30 : decode cX5_waiting 30 = .ok (.iconst 2, 1) := by decide +kernel
theorem dX5_waiting_31 : decode cX5_waiting 31 = .ok (.iaload, 1) := by decide +kernel
theorem dX5_waiting_32 : decode cX5_waiting 32 = .ok (.if_icmp .ge 44, 3) := by decide +kernel
theorem dX5_waiting_35 : decode cX5_waiting 35 = .ok (.iload_n 3, 1) := by decide +kernel
theorem dX5_waiting_36 : decode cX5_waiting 36 = .ok (.iload 4, 2) := by decide +kernel
theorem dX5_waiting_38 : decode cX5_waiting 38 = .ok (.iload_n 2, 1) := by decide +kernel
theorem dX5_waiting_39 : decode cX5_waiting 39 = .ok (.if_icmp .eq 28, 3) := by decide +kernel
theorem dX5_waiting_42 : decode cX5_waiting 42 = .ok (.aload_n 0, 1) := by decide +kernel
theorem dX5_waiting_43 : decode cX5_waiting 43 = .ok (.iload 4, 2) := by decide +kernel
theorem dX5_waiting_45 : decode cX5_waiting 45 = .ok (.iconst 5, 1) := by decide +kernel
theorem dX5_waiting_46 : decode cX5_waiting 46 = .ok (.invokevirtual 100, 3) := by decide +kernel
theorem dX5_waiting_49 : decode cX5_waiting 49 = .ok (.iconst 1, 1) := by decide +kernel
theorem dX5_waiting_50 : decode cX5_waiting 50 = .ok (.if_icmp .ne 17, 3) := by decide +kernel
theorem dX5_waiting_53 : decode cX5_waiting 53 = .ok (.aload_n 0, 1) := by decide +kernel
theorem dX5_waiting_54 : decode cX5_waiting 54 = .ok (.iload 4, 2) := by decide +kernel
theorem dX5_waiting_56 : decode cX5_waiting 56 = .ok (.iload_n 2, 1) := by decide +kernel
theorem dX5_waiting_57 : decode cX5_waiting 57 = .ok (.invokevirtual 112, 3) := by decide +kernel
theorem dX5_waiting_60 : decode cX5_waiting 60 = .ok (.ifCond .eq 7, 3) := by decide +kernel
theorem dX5_waiting_63 : decode cX5_waiting 63 = .ok (.iconst 1, 1) := by decide +kernel
theorem dX5_waiting_64 : decode cX5_waiting 64 = .ok (.goto 4, 3) := by decide +kernel
theorem dX5_waiting_67 : decode cX5_waiting 67 = .ok (.iconst 0, 1) := by decide +kernel
theorem dX5_waiting_68 : decode cX5_waiting 68 = .ok (.iadd, 1) := by decide +kernel
theorem dX5_waiting_69 : decode cX5_waiting 69 = .ok (.istore_n 3, 1) := by decide +kernel
theorem dX5_waiting_70 : decode cX5_waiting 70 = .ok (.iinc 4 1, 3) := by decide +kernel
theorem dX5_waiting_73 : decode cX5_waiting 73 = .ok (.goto (-49), 3) := by decide +kernel
theorem dX5_waiting_76 : decode cX5_waiting 76 = .ok (.aload_n 0, 1) := by decide +kernel
theorem dX5_waiting_77 : decode cX5_waiting 77 = .ok (.iload_n 2, 1) := by decide +kernel
theorem dX5_waiting_78 : decode cX5_waiting 78 = .ok (.iconst 5, 1) := by decide +kernel
theorem dX5_waiting_79 : decode cX5_waiting 79 = .ok (.invokevirtual 100, 3) := by decide +kernel
theorem dX5_waiting_82 : decode cX5_waiting 82 = .ok (.iconst 1, 1) := by decide +kernel
theorem dX5_waiting_83 : decode cX5_waiting 83 = .ok (.if_icmp .ne 10, 3) := by decide +kernel
theorem dX5_waiting_86 : decode cX5_waiting 86 = .ok (.iload_n 3, 1) := by decide +kernel
theorem dX5_waiting_87 : decode cX5_waiting 87 = .ok (.iload_n 1, 1) := by decide +kernel
theorem dX5_waiting_88 : decode cX5_waiting 88 = .ok (.if_icmp .ne 5, 3) := by decide +kernel
theorem dX5_waiting_91 : decode cX5_waiting 91 = .ok (.iload_n 2, 1) := by decide +kernel
theorem dX5_waiting_92 : decode cX5_waiting 92 = .ok (.ireturn, 1) := by decide +kernel
theorem dX5_waiting_93 : decode cX5_waiting 93 = .ok (.iinc 2 1, 3) := by decide +kernel
theorem dX5_waiting_96 : decode cX5_waiting 96 = .ok (.goto (-87), 3) := by decide +kernel
theorem dX5_waiting_99 : decode cX5_waiting 99 = .ok (.ldc 52, 2) := by decide +kernel
theorem dX5_waiting_101 : decode cX5_waiting 101 = .ok (.ireturn, 1) := by decide +kernel
def f_X5_waiting_b93 (σ : Sg)  (K9 : Int32 → Int32 → Option (Int32))  (v1 v2 : Int32) : Option (Int32) := lt (v2 + (1 : Int32)) fun x6 => K9 v1 x6
def f_X5_waiting_b68 (σ : Sg)  (K9 : Int32 → Int32 → Option (Int32)) (K24 : Int32 → Int32 → Int32 → Int32 → Option (Int32))  (v1 v2 v4 w0 w1 : Int32) : Option (Int32) := lt (w1 + w0) fun x9 => lt (v4 + (1 : Int32)) fun x10 => K24 v1 v2 x9 x10
def f_X5_waiting_b67 (σ : Sg)  (K9 : Int32 → Int32 → Option (Int32)) (K24 : Int32 → Int32 → Int32 → Int32 → Option (Int32))  (v1 v2 v4 w0 : Int32) : Option (Int32) := f_X5_waiting_b68 σ K9 K24 v1 v2 v4 (0 : Int32) w0
def f_X5_waiting_b24 (σ : Sg)  (K9 : Int32 → Int32 → Option (Int32)) : Nat → Int32 → Int32 → Int32 → Int32 → Option (Int32)
  | 0, _, _, _, _ => none
  | n + 1, v1, v2, v3, v4 => gd (inb (2 : Int32) 624) (if (σ.2 0 (ix (2 : Int32))) ≤ v4 then ((f_X5_sheet σ v2 (5 : Int32)).bind fun r4 => if r4 = (1 : Int32) then (if v3 = v1 then (some v2) else (f_X5_waiting_b93 σ K9 v1 v2)) else (f_X5_waiting_b93 σ K9 v1 v2)) else (if v4 = v2 then (f_X5_waiting_b67 σ K9 (f_X5_waiting_b24 σ  K9 n) v1 v2 v4 v3) else ((f_X5_sheet σ v4 (5 : Int32)).bind fun r11 => if r11 = (1 : Int32) then ((f_X5_isAhead σ v4 v2).bind fun r13 => if r13 = 0 then (f_X5_waiting_b67 σ K9 (f_X5_waiting_b24 σ  K9 n) v1 v2 v4 v3) else (f_X5_waiting_b68 σ K9 (f_X5_waiting_b24 σ  K9 n) v1 v2 v4 (1 : Int32) v3)) else (f_X5_waiting_b67 σ K9 (f_X5_waiting_b24 σ  K9 n) v1 v2 v4 v3))))
def f_X5_waiting_b9 (σ : Sg)   : Nat → Int32 → Int32 → Option (Int32)
  | 0, _, _ => none
  | n + 1, v1, v2 => gd (inb (2 : Int32) 624) (if (σ.2 0 (ix (2 : Int32))) ≤ v2 then (some (-10000005 : Int32)) else (f_X5_waiting_b24 σ (f_X5_waiting_b9 σ   n) fuel v1 v2 (0 : Int32) (0 : Int32)))
def f_X5_waiting (σ : Sg)  (p1 : Int32) : Option (Int32) := if 0 ≤ p1 then (f_X5_waiting_b9 σ fuel p1 (0 : Int32)) else (some (-10000002 : Int32))
set_option maxHeartbeats 4000000 in
set_option maxRecDepth 100000 in
theorem L_X5_waiting_b93 {Γ : Cx} (G : va_G) (cls : Cls) (ad : Nat → Nat) (hi : inj 6 ad) (hC : CX Γ (YM G cls ad) cX5_waiting RX5 5 (some .int) 2 44) (hz0 : Γ.2.2.2.2.2.1 = 0) (hz1 : Γ.2.2.2.2.2.2 = 0) (σ : Sg)   (K9 : Int32 → Int32 → Option (Int32)) (hK9 : ∀ (v1 v2 : Int32), WX Γ (YM G cls ad) (qf Γ (YM G cls ad) (fiP σ)) 5 9 [(0, .ref (ad 0)), (1, .int v1), (2, .int v2)] [] σ (K9 v1 v2))  (v1 v2 : Int32) : WX Γ (YM G cls ad) (qf Γ (YM G cls ad) (fiP σ)) 5 93 [(0, .ref (ad 0)), (1, .int v1), (2, .int v2)] [] σ (f_X5_waiting_b93 σ  K9 v1 v2) := by
  unfold f_X5_waiting_b93
  refine X_iinc (ls' := fun x6 => [(2, .int x6), (0, .ref (ad 0)), (1, .int v1)]) hC 2 dX5_waiting_93 rfl (by decide) (by decide) (fun _ => rfl) (fun x6 => ?_)
  refine X_goto hC 9 dX5_waiting_96 (by decide) ?_
  exact X_sub [1, 2, 0] rfl (hK9 v1 x6)
set_option maxHeartbeats 4000000 in
set_option maxRecDepth 100000 in
theorem L_X5_waiting_b68 {Γ : Cx} (G : va_G) (cls : Cls) (ad : Nat → Nat) (hi : inj 6 ad) (hC : CX Γ (YM G cls ad) cX5_waiting RX5 5 (some .int) 2 44) (hz0 : Γ.2.2.2.2.2.1 = 0) (hz1 : Γ.2.2.2.2.2.2 = 0) (σ : Sg)   (K9 : Int32 → Int32 → Option (Int32)) (hK9 : ∀ (v1 v2 : Int32), WX Γ (YM G cls ad) (qf Γ (YM G cls ad) (fiP σ)) 5 9 [(0, .ref (ad 0)), (1, .int v1), (2, .int v2)] [] σ (K9 v1 v2)) (K24 : Int32 → Int32 → Int32 → Int32 → Option (Int32)) (hK24 : ∀ (v1 v2 v3 v4 : Int32), WX Γ (YM G cls ad) (qf Γ (YM G cls ad) (fiP σ)) 5 24 [(0, .ref (ad 0)), (1, .int v1), (2, .int v2), (3, .int v3), (4, .int v4)] [] σ (K24 v1 v2 v3 v4))  (v1 v2 v4 w0 w1 : Int32) : WX Γ (YM G cls ad) (qf Γ (YM G cls ad) (fiP σ)) 5 68 [(0, .ref (ad 0)), (1, .int v1), (2, .int v2), (4, .int v4)] [.int w0, .int w1] σ (f_X5_waiting_b68 σ  K9 K24 v1 v2 v4 w0 w1) := by
  unfold f_X5_waiting_b68
  refine X_iadd hC dX5_waiting_68 ?_
  refine X_lt (fun x9 => ?_)
  refine X_istore_n (ls' := [(3, .int x9), (0, .ref (ad 0)), (1, .int v1), (2, .int v2), (4, .int v4)]) hC dX5_waiting_69 (by decide) rfl ?_
  refine X_iinc (ls' := fun x10 => [(4, .int x10), (3, .int x9), (0, .ref (ad 0)), (1, .int v1), (2, .int v2)]) hC 4 dX5_waiting_70 rfl (by decide) (by decide) (fun _ => rfl) (fun x10 => ?_)
  refine X_goto hC 24 dX5_waiting_73 (by decide) ?_
  exact X_sub [2, 3, 4, 1, 0] rfl (hK24 v1 v2 x9 x10)
set_option maxHeartbeats 4000000 in
set_option maxRecDepth 100000 in
theorem L_X5_waiting_b67 {Γ : Cx} (G : va_G) (cls : Cls) (ad : Nat → Nat) (hi : inj 6 ad) (hC : CX Γ (YM G cls ad) cX5_waiting RX5 5 (some .int) 2 44) (hz0 : Γ.2.2.2.2.2.1 = 0) (hz1 : Γ.2.2.2.2.2.2 = 0) (σ : Sg)   (K9 : Int32 → Int32 → Option (Int32)) (hK9 : ∀ (v1 v2 : Int32), WX Γ (YM G cls ad) (qf Γ (YM G cls ad) (fiP σ)) 5 9 [(0, .ref (ad 0)), (1, .int v1), (2, .int v2)] [] σ (K9 v1 v2)) (K24 : Int32 → Int32 → Int32 → Int32 → Option (Int32)) (hK24 : ∀ (v1 v2 v3 v4 : Int32), WX Γ (YM G cls ad) (qf Γ (YM G cls ad) (fiP σ)) 5 24 [(0, .ref (ad 0)), (1, .int v1), (2, .int v2), (3, .int v3), (4, .int v4)] [] σ (K24 v1 v2 v3 v4))  (v1 v2 v4 w0 : Int32) : WX Γ (YM G cls ad) (qf Γ (YM G cls ad) (fiP σ)) 5 67 [(0, .ref (ad 0)), (1, .int v1), (2, .int v2), (4, .int v4)] [.int w0] σ (f_X5_waiting_b67 σ  K9 K24 v1 v2 v4 w0) := by
  unfold f_X5_waiting_b67
  refine X_iconst (v := 0) hC (by decide) dX5_waiting_67 ?_
  exact (L_X5_waiting_b68 G cls ad hi hC hz0 hz1 σ K9 hK9 K24 hK24 v1 v2 v4 (0 : Int32) w0)
set_option maxHeartbeats 4000000 in
set_option maxRecDepth 100000 in
theorem L_X5_waiting_b24 {Γ : Cx} (G : va_G) (cls : Cls) (ad : Nat → Nat) (hi : inj 6 ad) (hC : CX Γ (YM G cls ad) cX5_waiting RX5 5 (some .int) 2 44) (hz0 : Γ.2.2.2.2.2.1 = 0) (hz1 : Γ.2.2.2.2.2.2 = 0) (σ : Sg)   (K9 : Int32 → Int32 → Option (Int32)) (hK9 : ∀ (v1 v2 : Int32), WX Γ (YM G cls ad) (qf Γ (YM G cls ad) (fiP σ)) 5 9 [(0, .ref (ad 0)), (1, .int v1), (2, .int v2)] [] σ (K9 v1 v2)) : ∀ (n : Nat) (v1 v2 v3 v4 : Int32), WX Γ (YM G cls ad) (qf Γ (YM G cls ad) (fiP σ)) 5 24 [(0, .ref (ad 0)), (1, .int v1), (2, .int v2), (3, .int v3), (4, .int v4)] [] σ (f_X5_waiting_b24 σ  K9 n v1 v2 v3 v4) := by
  intro n
  induction n with
  | zero => intro v1 v2 v3 v4; exact X_none
  | succ n ih =>
    intro v1 v2 v3 v4
    rw [f_X5_waiting_b24.eq_2]
    refine X_iload hC 4 rfl dX5_waiting_24 ?_
    refine X_aload_n hC 0 rfl dX5_waiting_26 ?_
    refine X_getf (C := RX5) (T := TX5) (N := 16) (ci := 5) hC 0 (wM (k := 0) (by omega) cM_ob) rfl hinX5 (by decide) tw_485 rfl rfl dX5_waiting_27 ?_
    refine X_iconst (v := 2) hC (by decide) dX5_waiting_30 ?_
    refine X_iald hC (wM (k := 1) (by omega) cM_now) (t0 := 0) rfl dX5_waiting_31 ?_
    refine X_icmp_ge hC 76 dX5_waiting_32 (by decide) (fun h3 => ?_) (fun h3 => ?_)
    · refine X_aload_n hC 0 rfl dX5_waiting_76 ?_
      refine X_iload_n hC 2 rfl dX5_waiting_77 ?_
      refine X_iconst (v := 5) hC (by decide) dX5_waiting_78 ?_
      refine X_callP (C := RX5) (T := TX5) (N := 16) (ci := 5) (rest := []) hC (c_X5_sheet _ G cls ad hi σ v2 (5 : Int32)) (gV tw_629 tw_631 ts_18 tw_7 tw_632) rfl (wM (k := 0) (by omega) cM_ob) rfl rfl okm_X5_sheet (by decide) dX5_waiting_79 rfl (Nat.le_of_ble_eq_true rfl) (fun r4 => ?_)
      refine X_iconst (v := 1) hC (by decide) dX5_waiting_82 ?_
      refine X_icmp_ne hC 93 dX5_waiting_83 (by decide) (fun h5 => ?_) (fun h5 => ?_)
      · exact X_sub [0, 1, 2] rfl (L_X5_waiting_b93 G cls ad hi hC hz0 hz1 σ K9 hK9 v1 v2)
      · refine X_iload_n hC 3 rfl dX5_waiting_86 ?_
        refine X_iload_n hC 1 rfl dX5_waiting_87 ?_
        refine X_icmp_ne hC 93 dX5_waiting_88 (by decide) (fun h7 => ?_) (fun h7 => ?_)
        · exact X_sub [0, 1, 2] rfl (L_X5_waiting_b93 G cls ad hi hC hz0 hz1 σ K9 hK9 v1 v2)
        · refine X_iload_n hC 2 rfl dX5_waiting_91 ?_
          exact X_iret hC hz0 hz1 dX5_waiting_92 rfl
    · refine X_iload_n hC 3 rfl dX5_waiting_35 ?_
      refine X_iload hC 4 rfl dX5_waiting_36 ?_
      refine X_iload_n hC 2 rfl dX5_waiting_38 ?_
      refine X_icmp_eq hC 67 dX5_waiting_39 (by decide) (fun h8 => ?_) (fun h8 => ?_)
      · exact X_sub [0, 1, 2, 4] rfl (L_X5_waiting_b67 G cls ad hi hC hz0 hz1 σ K9 hK9 (f_X5_waiting_b24 σ  K9 n) ih v1 v2 v4 v3)
      · refine X_aload_n hC 0 rfl dX5_waiting_42 ?_
        refine X_iload hC 4 rfl dX5_waiting_43 ?_
        refine X_iconst (v := 5) hC (by decide) dX5_waiting_45 ?_
        refine X_callP (C := RX5) (T := TX5) (N := 16) (ci := 5) (rest := [.int v3]) hC (c_X5_sheet _ G cls ad hi σ v4 (5 : Int32)) (gV tw_629 tw_631 ts_18 tw_7 tw_632) rfl (wM (k := 0) (by omega) cM_ob) rfl rfl okm_X5_sheet (by decide) dX5_waiting_46 rfl (Nat.le_of_ble_eq_true rfl) (fun r11 => ?_)
        refine X_iconst (v := 1) hC (by decide) dX5_waiting_49 ?_
        refine X_icmp_ne hC 67 dX5_waiting_50 (by decide) (fun h12 => ?_) (fun h12 => ?_)
        · exact X_sub [0, 1, 2, 4] rfl (L_X5_waiting_b67 G cls ad hi hC hz0 hz1 σ K9 hK9 (f_X5_waiting_b24 σ  K9 n) ih v1 v2 v4 v3)
        · refine X_aload_n hC 0 rfl dX5_waiting_53 ?_
          refine X_iload hC 4 rfl dX5_waiting_54 ?_
          refine X_iload_n hC 2 rfl dX5_waiting_56 ?_
          refine X_callP (C := RX5) (T := TX5) (N := 16) (ci := 5) (rest := [.int v3]) hC (c_X5_isAhead _ G cls ad hi σ v4 v2) (gV tw_645 tw_647 ts_21 tw_7 tw_648) rfl (wM (k := 0) (by omega) cM_ob) rfl rfl okm_X5_isAhead (by decide) dX5_waiting_57 rfl (Nat.le_of_ble_eq_true rfl) (fun r13 => ?_)
          refine X_if_eq hC 67 dX5_waiting_60 (by decide) (fun h14 => ?_) (fun h14 => ?_)
          · exact X_sub [0, 1, 2, 4] rfl (L_X5_waiting_b67 G cls ad hi hC hz0 hz1 σ K9 hK9 (f_X5_waiting_b24 σ  K9 n) ih v1 v2 v4 v3)
          · refine X_iconst (v := 1) hC (by decide) dX5_waiting_63 ?_
            refine X_goto hC 68 dX5_waiting_64 (by decide) ?_
            exact X_sub [0, 1, 2, 4] rfl (L_X5_waiting_b68 G cls ad hi hC hz0 hz1 σ K9 hK9 (f_X5_waiting_b24 σ  K9 n) ih v1 v2 v4 (1 : Int32) v3)
set_option maxHeartbeats 4000000 in
set_option maxRecDepth 100000 in
theorem L_X5_waiting_b9 {Γ : Cx} (G : va_G) (cls : Cls) (ad : Nat → Nat) (hi : inj 6 ad) (hC : CX Γ (YM G cls ad) cX5_waiting RX5 5 (some .int) 2 44) (hz0 : Γ.2.2.2.2.2.1 = 0) (hz1 : Γ.2.2.2.2.2.2 = 0) (σ : Sg)    : ∀ (n : Nat) (v1 v2 : Int32), WX Γ (YM G cls ad) (qf Γ (YM G cls ad) (fiP σ)) 5 9 [(0, .ref (ad 0)), (1, .int v1), (2, .int v2)] [] σ (f_X5_waiting_b9 σ   n v1 v2) := by
  intro n
  induction n with
  | zero => intro v1 v2; exact X_none
  | succ n ih =>
    intro v1 v2
    rw [f_X5_waiting_b9.eq_2]
    refine X_iload_n hC 2 rfl dX5_waiting_9 ?_
    refine X_aload_n hC 0 rfl dX5_waiting_10 ?_
    refine X_getf (C := RX5) (T := TX5) (N := 16) (ci := 5) hC 0 (wM (k := 0) (by omega) cM_ob) rfl hinX5 (by decide) tw_485 rfl rfl dX5_waiting_11 ?_
    refine X_iconst (v := 2) hC (by decide) dX5_waiting_14 ?_
    refine X_iald hC (wM (k := 1) (by omega) cM_now) (t0 := 0) rfl dX5_waiting_15 ?_
    refine X_icmp_ge hC 99 dX5_waiting_16 (by decide) (fun h2 => ?_) (fun h2 => ?_)
    · refine X_ldc (v := -10000005) hC tw_564 dX5_waiting_99 ?_
      exact X_iret hC hz0 hz1 dX5_waiting_101 rfl
    · refine X_iconst (v := 0) hC (by decide) dX5_waiting_19 ?_
      refine X_istore_n (ls' := [(3, .int (0 : Int32)), (0, .ref (ad 0)), (1, .int v1), (2, .int v2)]) hC dX5_waiting_20 (by decide) rfl ?_
      refine X_iconst (v := 0) hC (by decide) dX5_waiting_21 ?_
      refine X_istore (ls' := [(4, .int (0 : Int32)), (3, .int (0 : Int32)), (0, .ref (ad 0)), (1, .int v1), (2, .int v2)]) hC dX5_waiting_22 (by decide) rfl ?_
      exact X_sub [2, 3, 4, 1, 0] rfl (L_X5_waiting_b24 G cls ad hi hC hz0 hz1 σ (f_X5_waiting_b9 σ   n) ih fuel v1 v2 (0 : Int32) (0 : Int32))
theorem okm_X5_waiting : okm yX5_waiting 1 = true := by decide +kernel
set_option maxHeartbeats 4000000 in
set_option maxRecDepth 100000 in
theorem c_X5_waiting (l : Launch) (G : va_G) (cls : Cls) (ad : Nat → Nat) (hi : inj 6 ad) (σ : Sg)   (p1 : Int32) : MT l (YM G cls ad) yX5_waiting (.code yX5_waiting cX5_waiting 5 (some .int) :: gw) 2 44 [.ref (ad 0), .int p1] (fiP σ) σ (f_X5_waiting σ  p1) := by
  refine MT.of (own := RX5) (by decide) (YM_D hi) rfl (Nat.le_of_ble_eq_true rfl) fun Γ _ hz0 hz1 hC => ?_
  show WX Γ (YM G cls ad) (qf Γ (YM G cls ad) (fiP σ)) 5 0 [(0, .ref (ad 0)), (1, .int p1)] [] σ (f_X5_waiting σ  p1)
  unfold f_X5_waiting
  refine X_iload_n hC 1 rfl dX5_waiting_0 ?_
  refine X_if_ge hC 7 dX5_waiting_1 (by decide) (fun h1 => ?_) (fun h1 => ?_)
  · refine X_iconst (v := 0) hC (by decide) dX5_waiting_7 ?_
    refine X_istore_n (ls' := [(2, .int (0 : Int32)), (0, .ref (ad 0)), (1, .int p1)]) hC dX5_waiting_8 (by decide) rfl ?_
    exact X_sub [1, 2, 0] rfl (L_X5_waiting_b9 G cls ad hi hC hz0 hz1 σ fuel p1 (0 : Int32))
  · refine X_ldc (v := -10000002) hC tw_541 dX5_waiting_4 ?_
    exact X_iret hC hz0 hz1 dX5_waiting_6 rfl
theorem dX5_isGranted_0 : decode cX5_isGranted 0 = .ok (.aload_n 0, 1) := by decide +kernel
theorem dX5_isGranted_1 : decode cX5_isGranted 1 = .ok (.iload_n 1, 1) := by decide +kernel
theorem dX5_isGranted_2 : decode cX5_isGranted 2 = .ok (.iconst 1, 1) := by decide +kernel
theorem dX5_isGranted_3 : decode cX5_isGranted 3 = .ok (.invokevirtual 100, 3) := by decide +kernel
theorem dX5_isGranted_6 : decode cX5_isGranted 6 = .ok (.istore_n 2, 1) := by decide +kernel
theorem dX5_isGranted_7 : decode cX5_isGranted 7 = .ok (.aload_n 0, 1) := by decide +kernel
theorem dX5_isGranted_8 : decode cX5_isGranted 8 = .ok (.iload_n 1, 1) := by decide +kernel
theorem dX5_isGranted_9 : decode cX5_isGranted 9 = .ok (.bipush 7, 2) := by decide +kernel
theorem dX5_isGranted_11 : decode cX5_isGranted 11 = .ok (.invokevirtual 100, 3) := by decide +kernel
theorem dX5_isGranted_14 : decode cX5_isGranted 14 = .ok (.ifCond .gt 5, 3) := by decide +kernel
theorem dX5_isGranted_17 : decode cX5_isGranted 17 = .ok (.iconst 0, 1) := by decide +kernel
theorem dX5_isGranted_18 : decode cX5_isGranted 18 = .ok (.ireturn, 1) := by decide +kernel
theorem dX5_isGranted_19 : decode cX5_isGranted 19 = .ok (.aload_n 0, 1) := by decide +kernel
theorem dX5_isGranted_20 : decode cX5_isGranted 20 = .ok (.iload_n 1, 1) := by decide +kernel
theorem dX5_isGranted_21 : decode cX5_isGranted 21 = .ok (.bipush 6, 2) := by decide +kernel
theorem dX5_isGranted_23 : decode cX5_isGranted 23 = .ok (.invokevirtual 100, 3) := by decide +kernel
theorem dX5_isGranted_26 : decode cX5_isGranted 26 = .ok (.lookupswitch 68 #[(1, 26), (2, 52)], 26) := by decide +kernel
theorem dX5_isGranted_52 : decode cX5_isGranted 52 = .ok (.aload_n 0, 1) := by decide +kernel
theorem dX5_isGranted_53 : decode cX5_isGranted 53 = .ok (.iload_n 2, 1) := by decide +kernel
theorem dX5_isGranted_54 : decode cX5_isGranted 54 = .ok (.bipush 6, 2) := by decide +kernel
theorem dX5_isGranted_56 : decode cX5_isGranted 56 = .ok (.invokevirtual 34, 3) := by decide +kernel
theorem dX5_isGranted_59 : decode cX5_isGranted 59 = .ok (.ifCond .le 17, 3) := by decide +kernel
theorem dX5_isGranted_62 : decode cX5_isGranted 62 = .ok (.aload_n 0, 1) := by decide +kernel
theorem dX5_isGranted_63 : decode cX5_isGranted 63 = .ok (.iload_n 2, 1) := by decide +kernel
theorem dX5_isGranted_64 : decode cX5_isGranted 64 = .ok (.bipush 7, 2) := by decide +kernel
theorem dX5_isGranted_66 : decode cX5_isGranted 66 = .ok (.invokevirtual 34, 3) := by decide +kernel
theorem dX5_isGranted_69 : decode cX5_isGranted 69 = .ok (.ifCond .ne 7, 3) := by decide +kernel
theorem dX5_isGranted_72 : decode cX5_isGranted 72 = .ok (.iconst 1, 1) := by decide +kernel
theorem dX5_isGranted_73 : decode cX5_isGranted 73 = .ok (.goto 4, 3) := by decide +kernel
theorem dX5_isGranted_76 : decode cX5_isGranted 76 = .ok (.iconst 0, 1) := by decide +kernel
theorem dX5_isGranted_77 : decode cX5_isGranted 77 = .ok (.ireturn, 1) := by decide +kernel
theorem dX5_isGranted_78 : decode cX5_isGranted 78 = .ok (.aload_n 0, 1) := by decide +kernel
theorem dX5_isGranted_79 : decode cX5_isGranted 79 = .ok (.iload_n 2, 1) := by decide +kernel
theorem dX5_isGranted_80 : decode cX5_isGranted 80 = .ok (.iconst 5, 1) := by decide +kernel
theorem dX5_isGranted_81 : decode cX5_isGranted 81 = .ok (.invokevirtual 34, 3) := by decide +kernel
theorem dX5_isGranted_84 : decode cX5_isGranted 84 = .ok (.iconst 5, 1) := by decide +kernel
theorem dX5_isGranted_85 : decode cX5_isGranted 85 = .ok (.if_icmp .lt 7, 3) := by decide +kernel
theorem dX5_isGranted_88 : decode cX5_isGranted 88 = .ok (.iconst 1, 1) := by decide +kernel
theorem dX5_isGranted_89 : decode cX5_isGranted 89 = .ok (.goto 4, 3) := by decide +kernel
theorem dX5_isGranted_92 : decode cX5_isGranted 92 = .ok (.iconst 0, 1) := by decide +kernel
theorem dX5_isGranted_93 : decode cX5_isGranted 93 = .ok (.ireturn, 1) := by decide +kernel
theorem dX5_isGranted_94 : decode cX5_isGranted 94 = .ok (.aload_n 0, 1) := by decide +kernel
theorem dX5_isGranted_95 : decode cX5_isGranted 95 = .ok (.iload_n 2, 1) := by decide +kernel
theorem dX5_isGranted_96 : decode cX5_isGranted 96 = .ok (.iconst 1, 1) := by decide +kernel
theorem dX5_isGranted_97 : decode cX5_isGranted 97 = .ok (.invokevirtual 34, 3) := by decide +kernel
theorem dX5_isGranted_100 : decode cX5_isGranted 100 = .ok (.bipush 10, 2) := by decide +kernel
theorem dX5_isGranted_102 : decode cX5_isGranted 102 = .ok (.if_icmp .gt 7, 3) := by decide +kernel
theorem dX5_isGranted_105 : decode cX5_isGranted 105 = .ok (.iconst 1, 1) := by decide +kernel
theorem dX5_isGranted_106 : decode cX5_isGranted 106 = .ok (.goto 4, 3) := by decide +kernel
theorem dX5_isGranted_109 : decode cX5_isGranted 109 = .ok (.iconst 0, 1) := by decide +kernel
theorem dX5_isGranted_110 : decode cX5_isGranted 110 = .ok (.ireturn, 1) := by decide +kernel
def f_X5_isGranted (σ : Sg)  (p1 : Int32) : Option (Int32) := (f_X5_sheet σ p1 (1 : Int32)).bind fun r1 => (f_X5_sheet σ p1 (7 : Int32)).bind fun r2 => if 0 < r2 then ((f_X5_sheet σ p1 (6 : Int32)).bind fun r4 => if r4 = 1 then ((f_X5_tool σ r1 (6 : Int32)).bind fun r6 => if r6 ≤ 0 then (some (0 : Int32)) else ((f_X5_tool σ r1 (7 : Int32)).bind fun r8 => if r8 = 0 then (some (1 : Int32)) else (some (0 : Int32)))) else if r4 = 2 then ((f_X5_tool σ r1 (5 : Int32)).bind fun r11 => if r11 < (5 : Int32) then (some (0 : Int32)) else (some (1 : Int32))) else ((f_X5_tool σ r1 (1 : Int32)).bind fun r13 => if (10 : Int32) < r13 then (some (0 : Int32)) else (some (1 : Int32)))) else (some (0 : Int32))
theorem okm_X5_isGranted : okm yX5_isGranted 1 = true := by decide +kernel
set_option maxHeartbeats 4000000 in
set_option maxRecDepth 100000 in
theorem c_X5_isGranted (l : Launch) (G : va_G) (cls : Cls) (ad : Nat → Nat) (hi : inj 6 ad) (σ : Sg)   (p1 : Int32) : MT l (YM G cls ad) yX5_isGranted (.code yX5_isGranted cX5_isGranted 3 (some .boolean) :: gw) 1 22 [.ref (ad 0), .int p1] (fiP σ) σ (f_X5_isGranted σ  p1) := by
  refine MT.of (own := RX5) (by decide) (YM_D hi) rfl (Nat.le_of_ble_eq_true rfl) fun Γ _ hz0 hz1 hC => ?_
  show WX Γ (YM G cls ad) (qf Γ (YM G cls ad) (fiP σ)) 3 0 [(0, .ref (ad 0)), (1, .int p1)] [] σ (f_X5_isGranted σ  p1)
  unfold f_X5_isGranted
  refine X_aload_n hC 0 rfl dX5_isGranted_0 ?_
  refine X_iload_n hC 1 rfl dX5_isGranted_1 ?_
  refine X_iconst (v := 1) hC (by decide) dX5_isGranted_2 ?_
  refine X_callP (C := RX5) (T := TX5) (N := 16) (ci := 5) (rest := []) hC (c_X5_sheet _ G cls ad hi σ p1 (1 : Int32)) (gV tw_629 tw_631 ts_18 tw_7 tw_632) rfl (wM (k := 0) (by omega) cM_ob) rfl rfl okm_X5_sheet (by decide) dX5_isGranted_3 rfl (Nat.le_of_ble_eq_true rfl) (fun r1 => ?_)
  refine X_istore_n (ls' := [(2, .int r1), (0, .ref (ad 0)), (1, .int p1)]) hC dX5_isGranted_6 (by decide) rfl ?_
  refine X_aload_n hC 1 rfl dX5_isGranted_7 ?_
  refine X_iload_n hC 2 rfl dX5_isGranted_8 ?_
  refine X_bipush (v := 7) hC (by decide) dX5_isGranted_9 ?_
  refine X_callP (C := RX5) (T := TX5) (N := 16) (ci := 5) (rest := []) hC (c_X5_sheet _ G cls ad hi σ p1 (7 : Int32)) (gV tw_629 tw_631 ts_18 tw_7 tw_632) rfl (wM (k := 0) (by omega) cM_ob) rfl rfl okm_X5_sheet (by decide) dX5_isGranted_11 rfl (Nat.le_of_ble_eq_true rfl) (fun r2 => ?_)
  refine X_if_gt hC 19 dX5_isGranted_14 (by decide) (fun h3 => ?_) (fun h3 => ?_)
  · refine X_aload_n hC 1 rfl dX5_isGranted_19 ?_
    refine X_iload_n hC 2 rfl dX5_isGranted_20 ?_
    refine X_bipush (v := 6) hC (by decide) dX5_isGranted_21 ?_
    refine X_callP (C := RX5) (T := TX5) (N := 16) (ci := 5) (rest := []) hC (c_X5_sheet _ G cls ad hi σ p1 (6 : Int32)) (gV tw_629 tw_631 ts_18 tw_7 tw_632) rfl (wM (k := 0) (by omega) cM_ob) rfl rfl okm_X5_sheet (by decide) dX5_isGranted_23 rfl (Nat.le_of_ble_eq_true rfl) (fun r4 => ?_)
    refine X_ite (fun h5 => ?_) (fun h5 => ?_)
    · refine X_lookup (off := 26) hC 52 dX5_isGranted_26 (by decide) (by rw [h5]; decide) (by decide) ?_
      refine X_aload_n hC 1 rfl dX5_isGranted_52 ?_
      refine X_iload_n hC 0 rfl dX5_isGranted_53 ?_
      refine X_bipush (v := 6) hC (by decide) dX5_isGranted_54 ?_
      refine X_callP (C := RX5) (T := TX5) (N := 16) (ci := 5) (rest := []) hC (c_X5_tool _ G cls ad hi σ r1 (6 : Int32)) (gV tw_560 tw_562 ts_9 tw_7 tw_563) rfl (wM (k := 0) (by omega) cM_ob) rfl rfl okm_X5_tool (by decide) dX5_isGranted_56 rfl (Nat.le_of_ble_eq_true rfl) (fun r6 => ?_)
      refine X_if_le hC 76 dX5_isGranted_59 (by decide) (fun h7 => ?_) (fun h7 => ?_)
      · refine X_iconst (v := 0) hC (by decide) dX5_isGranted_76 ?_
        exact X_zret hC hz0 hz1 rfl dX5_isGranted_77 rfl
      · refine X_aload_n hC 1 rfl dX5_isGranted_62 ?_
        refine X_iload_n hC 0 rfl dX5_isGranted_63 ?_
        refine X_bipush (v := 7) hC (by decide) dX5_isGranted_64 ?_
        refine X_callP (C := RX5) (T := TX5) (N := 16) (ci := 5) (rest := []) hC (c_X5_tool _ G cls ad hi σ r1 (7 : Int32)) (gV tw_560 tw_562 ts_9 tw_7 tw_563) rfl (wM (k := 0) (by omega) cM_ob) rfl rfl okm_X5_tool (by decide) dX5_isGranted_66 rfl (Nat.le_of_ble_eq_true rfl) (fun r8 => ?_)
        refine X_if_ne hC 76 dX5_isGranted_69 (by decide) (fun h9 => ?_) (fun h9 => ?_)
        · refine X_iconst (v := 0) hC (by decide) dX5_isGranted_76 ?_
          exact X_zret hC hz0 hz1 rfl dX5_isGranted_77 rfl
        · refine X_iconst (v := 1) hC (by decide) dX5_isGranted_72 ?_
          refine X_goto hC 77 dX5_isGranted_73 (by decide) ?_
          exact X_zret hC hz0 hz1 rfl dX5_isGranted_77 rfl
    refine X_ite (fun h10 => ?_) (fun h10 => ?_)
    · refine X_lookup (off := 52) hC 78 dX5_isGranted_26 (by decide) (by rw [h10]; decide) (by decide) ?_
      refine X_aload_n hC 1 rfl dX5_isGranted_78 ?_
      refine X_iload_n hC 0 rfl dX5_isGranted_79 ?_
      refine X_iconst (v := 5) hC (by decide) dX5_isGranted_80 ?_
      refine X_callP (C := RX5) (T := TX5) (N := 16) (ci := 5) (rest := []) hC (c_X5_tool _ G cls ad hi σ r1 (5 : Int32)) (gV tw_560 tw_562 ts_9 tw_7 tw_563) rfl (wM (k := 0) (by omega) cM_ob) rfl rfl okm_X5_tool (by decide) dX5_isGranted_81 rfl (Nat.le_of_ble_eq_true rfl) (fun r11 => ?_)
      refine X_iconst (v := 5) hC (by decide) dX5_isGranted_84 ?_
      refine X_icmp_lt hC 92 dX5_isGranted_85 (by decide) (fun h12 => ?_) (fun h12 => ?_)
      · refine X_iconst (v := 0) hC (by decide) dX5_isGranted_92 ?_
        exact X_zret hC hz0 hz1 rfl dX5_isGranted_93 rfl
      · refine X_iconst (v := 1) hC (by decide) dX5_isGranted_88 ?_
        refine X_goto hC 93 dX5_isGranted_89 (by decide) ?_
        exact X_zret hC hz0 hz1 rfl dX5_isGranted_93 rfl
    refine X_lookup (off := 68) hC 94 dX5_isGranted_26 (by decide) (by have q0 := lv_neT h5 (a := 1) (by decide); have q1 := lv_neT h10 (a := 2) (by decide); simp [Op.lookupswitch.offset, q0, Ne.symm q0, q1, Ne.symm q1]) (by decide) ?_
    refine X_aload_n hC 1 rfl dX5_isGranted_94 ?_
    refine X_iload_n hC 0 rfl dX5_isGranted_95 ?_
    refine X_iconst (v := 1) hC (by decide) dX5_isGranted_96 ?_
    refine X_callP (C := RX5) (T := TX5) (N := 16) (ci := 5) (rest := []) hC (c_X5_tool _ G cls ad hi σ r1 (1 : Int32)) (gV tw_560 tw_562 ts_9 tw_7 tw_563) rfl (wM (k := 0) (by omega) cM_ob) rfl rfl okm_X5_tool (by decide) dX5_isGranted_97 rfl (Nat.le_of_ble_eq_true rfl) (fun r13 => ?_)
    refine X_bipush (v := 10) hC (by decide) dX5_isGranted_100 ?_
    refine X_icmp_gt hC 109 dX5_isGranted_102 (by decide) (fun h14 => ?_) (fun h14 => ?_)
    · refine X_iconst (v := 0) hC (by decide) dX5_isGranted_109 ?_
      exact X_zret hC hz0 hz1 rfl dX5_isGranted_110 rfl
    · refine X_iconst (v := 1) hC (by decide) dX5_isGranted_105 ?_
      refine X_goto hC 110 dX5_isGranted_106 (by decide) ?_
      exact X_zret hC hz0 hz1 rfl dX5_isGranted_110 rfl
  · refine X_iconst (v := 0) hC (by decide) dX5_isGranted_17 ?_
    exact X_zret hC hz0 hz1 rfl dX5_isGranted_18 rfl
theorem dX5_decide_0 : decode cX5_decide 0 = .ok (.aload_n 0, 1) := by decide +kernel
theorem dX5_decide_1 : decode cX5_decide 1 = .ok (.iconst 0, 1) := by decide +kernel
theorem dX5_decide_2 : decode cX5_decide 2 = .ok (.invokevirtual 115, 3) := by decide +kernel
theorem dX5_decide_5 : decode cX5_decide 5 = .ok (.istore_n 1, 1) := by decide +kernel
theorem dX5_decide_6 : decode cX5_decide 6 = .ok (.iload_n 1, 1) := by decide +kernel
theorem dX5_decide_7 : decode cX5_decide 7 = .ok (.ldc 52, 2) := by decide +kernel
theorem dX5_decide_9 : decode cX5_decide 9 = .ok (.if_icmp .ne 6, 3) := by decide +kernel
theorem dX5_decide_12 : decode cX5_decide 12 = .ok (.ldc 52, 2) := by decide +kernel
theorem dX5_decide_14 : decode cX5_decide 14 = .ok (.ireturn, 1) := by decide +kernel
theorem dX5_decide_15 : decode cX5_decide 15 = .ok (.aload_n 0, 1) := by decide +kernel
theorem dX5_decide_16 : decode cX5_decide 16 = .ok (.invokevirtual 40, 3) := by decide +kernel
theorem dX5_decide_19 : decode cX5_decide 19 = .ok (.aload_n 0, 1) := by decide +kernel
theorem dX5_decide_20 : decode cX5_decide 20 = .ok (.iload_n 1, 1) := by decide +kernel
theorem dX5_decide_21 : decode cX5_decide 21 = .ok (.invokevirtual 118, 3) := by decide +kernel
theorem dX5_decide_24 : decode cX5_decide 24 = .ok (.istore_n 2, 1) := by decide +kernel
theorem dX5_decide_25 : decode cX5_decide 25 = .ok (.sipush 144, 3) := by decide +kernel
theorem dX5_decide_28 : decode cX5_decide 28 = .ok (.bipush 8, 2) := by decide +kernel
theorem dX5_decide_30 : decode cX5_decide 30 = .ok (.iload_n 1, 1) := by decide +kernel
theorem dX5_decide_31 : decode cX5_decide 31 = .ok (.imul, 1) := by decide +kernel
theorem dX5_decide_32 : decode cX5_decide 32 = .ok (.iadd, 1) := by decide +kernel
theorem dX5_decide_33 : decode cX5_decide 33 = .ok (.istore_n 3, 1) := by decide +kernel
theorem dX5_decide_34 : decode cX5_decide 34 = .ok (.aload_n 0, 1) := by decide +kernel
theorem dX5_decide_35 : decode cX5_decide 35 = .ok (.getfield 7, 3) := by decide +kernel
theorem dX5_decide_38 : decode cX5_decide 38 = .ok (.iload_n 3, 1) := by decide +kernel
theorem dX5_decide_39 : decode cX5_decide 39 = .ok (.iconst 5, 1) := by decide +kernel
theorem dX5_decide_40 : decode cX5_decide 40 = .ok (.iadd, 1) := by decide +kernel
theorem dX5_decide_41 : decode cX5_decide 41 = .ok (.iload_n 2, 1) := by decide +kernel
theorem dX5_decide_42 : decode cX5_decide 42 = .ok (.ifCond .eq 7, 3) := by decide +kernel
theorem dX5_decide_45 : decode cX5_decide 45 = .ok (.iconst 2, 1) := by decide +kernel
theorem dX5_decide_46 : decode cX5_decide 46 = .ok (.goto 4, 3) := by decide +kernel
theorem dX5_decide_49 : decode cX5_decide 49 = .ok (.iconst 3, 1) := by decide +kernel
theorem dX5_decide_50 : decode cX5_decide 50 = .ok (.iastore, 1) := by decide +kernel
theorem dX5_decide_51 : decode cX5_decide 51 = .ok (.aload_n 0, 1) := by decide +kernel
theorem dX5_decide_52 : decode cX5_decide 52 = .ok (.getfield 7, 3) := by decide +kernel
theorem dX5_decide_55 : decode cX5_decide 55 = .ok (.iload_n 3, 1) := by decide +kernel
theorem dX5_decide_56 : decode cX5_decide 56 = .ok (.iconst 4, 1) := by decide +kernel
theorem dX5_decide_57 : decode cX5_decide 57 = .ok (.iadd, 1) := by decide +kernel
theorem dX5_decide_58 : decode cX5_decide 58 = .ok (.dup2, 1) := by decide +kernel
theorem dX5_decide_59 : decode cX5_decide 59 = .ok (.iaload, 1) := by decide +kernel
theorem dX5_decide_60 : decode cX5_decide 60 = .ok (.iload_n 2, 1) := by decide +kernel
theorem dX5_decide_61 : decode cX5_decide 61 = .ok (.ifCond .eq 13, 3) := by decide +kernel
theorem dX5_decide_64 : decode cX5_decide 64 = .ok (.aload_n 0, 1) := by decide +kernel
theorem dX5_decide_65 : decode cX5_decide 65 = .ok (.iload_n 1, 1) := by decide +kernel
theorem dX5_decide_66 : decode cX5_decide 66 = .ok (.bipush 7, 2) := by decide +kernel
theorem dX5_decide_68 : decode cX5_decide 68 = .ok (.invokevirtual 100, 3) := by decide +kernel
theorem dX5_decide_71 : decode cX5_decide 71 = .ok (.goto 17, 3) := by decide +kernel
theorem dX5_decide_74 : decode cX5_decide 74 = .ok (.aload_n 0, 1) := by decide +kernel
theorem dX5_decide_75 : decode cX5_decide 75 = .ok (.iload_n 1, 1) := by decide +kernel
theorem dX5_decide_76 : decode cX5_decide 76 = .ok (.iconst 4, 1) := by decide +kernel
theorem dX5_decide_77 : decode cX5_decide 77 = .ok (.invokevirtual 100, 3) := by decide +kernel
theorem dX5_decide_80 : decode cX5_decide 80 = .ok (.ifCond .le 7, 3) := by decide +kernel
theorem dX5_decide_83 : decode cX5_decide 83 = .ok (.iconst (-1), 1) := by decide +kernel
theorem dX5_decide_84 : decode cX5_decide 84 = .ok (.goto 4, 3) := by decide +kernel
theorem dX5_decide_87 : decode cX5_decide 87 = .ok (.iconst 0, 1) := by decide +kernel
theorem dX5_decide_88 : decode cX5_decide 88 = .ok (.iadd, 1) := by decide +kernel
theorem dX5_decide_89 : decode cX5_decide 89 = .ok (.iastore, 1) := by decide +kernel
theorem dX5_decide_90 : decode cX5_decide 90 = .ok (.aload_n 0, 1) := by decide +kernel
theorem dX5_decide_91 : decode cX5_decide 91 = .ok (.getfield 7, 3) := by decide +kernel
theorem dX5_decide_94 : decode cX5_decide 94 = .ok (.bipush 84, 2) := by decide +kernel
theorem dX5_decide_96 : decode cX5_decide 96 = .ok (.iconst 5, 1) := by decide +kernel
theorem dX5_decide_97 : decode cX5_decide 97 = .ok (.aload_n 0, 1) := by decide +kernel
theorem dX5_decide_98 : decode cX5_decide 98 = .ok (.iload_n 1, 1) := by decide +kernel
theorem dX5_decide_99 : decode cX5_decide 99 = .ok (.iconst 0, 1) := by decide +kernel
theorem dX5_decide_100 : decode cX5_decide 100 = .ok (.invokevirtual 100, 3) := by decide +kernel
theorem dX5_decide_103 : decode cX5_decide 103 = .ok (.imul, 1) := by decide +kernel
theorem dX5_decide_104 : decode cX5_decide 104 = .ok (.iadd, 1) := by decide +kernel
theorem dX5_decide_105 : decode cX5_decide 105 = .ok (.iload_n 2, 1) := by decide +kernel
theorem dX5_decide_106 : decode cX5_decide 106 = .ok (.ifCond .eq 7, 3) := by decide +kernel
theorem dX5_decide_109 : decode cX5_decide 109 = .ok (.iconst 3, 1) := by decide +kernel
theorem dX5_decide_110 : decode cX5_decide 110 = .ok (.goto 4, 3) := by decide +kernel
theorem dX5_decide_113 : decode cX5_decide 113 = .ok (.iconst 4, 1) := by decide +kernel
theorem dX5_decide_114 : decode cX5_decide 114 = .ok (.iadd, 1) := by decide +kernel
theorem dX5_decide_115 : decode cX5_decide 115 = .ok (.dup2, 1) := by decide +kernel
theorem dX5_decide_116 : decode cX5_decide 116 = .ok (.iaload, 1) := by decide +kernel
theorem dX5_decide_117 : decode cX5_decide 117 = .ok (.iconst 1, 1) := by decide +kernel
theorem dX5_decide_118 : decode cX5_decide 118 = .ok (.iadd, 1) := by decide +kernel
theorem dX5_decide_119 : decode cX5_decide 119 = .ok (.iastore, 1) := by decide +kernel
theorem dX5_decide_120 : decode cX5_decide 120 = .ok (.iconst 2, 1) := by decide +kernel
theorem dX5_decide_121 : decode cX5_decide 121 = .ok (.iload_n 1, 1) := by decide +kernel
theorem dX5_decide_122 : decode cX5_decide 122 = .ok (.imul, 1) := by decide +kernel
theorem dX5_decide_123 : decode cX5_decide 123 = .ok (.iload_n 2, 1) := by decide +kernel
theorem dX5_decide_124 : decode cX5_decide 124 = .ok (.ifCond .eq 7, 3) := by decide +kernel
theorem dX5_decide_127 : decode cX5_decide 127 = .ok (.iconst 1, 1) := by decide +kernel
theorem dX5_decide_128 : decode cX5_decide 128 = .ok (.goto 4, 3) := by decide +kernel
theorem dX5_decide_131 : decode cX5_decide 131 = .ok (.iconst 0, 1) := by decide +kernel
theorem dX5_decide_132 : decode cX5_decide 132 = .ok (.iadd, 1) := by decide +kernel
theorem dX5_decide_133 : decode cX5_decide 133 = .ok (.ireturn, 1) := by decide +kernel
def f_X5_decide_b114    (σ : Sg) (v1 v2 w0 w1 : Int32) : Option (Int32 × Sg) := gd (inb (w1 + w0) 624) (gd (inb (w1 + w0) 624) (lts (s2 σ 0 (upd (σ.2 0) (ix (w1 + w0)) ((σ.2 0 (ix (w1 + w0))) + (1 : Int32)))) fun σ14 => if v2 = 0 then (some ((((2 : Int32) * v1) + (0 : Int32)), σ14)) else (some ((((2 : Int32) * v1) + (1 : Int32)), σ14))))
def f_X5_decide_b88    (σ : Sg) (v1 v2 w0 w1 w2 : Int32) : Option (Int32 × Sg) := gd (inb w2 624) (lts (s2 σ 0 (upd (σ.2 0) (ix w2) (w1 + w0))) fun σ11 => (f_X5_sheet σ11 v1 (0 : Int32)).bind fun r12 => if v2 = 0 then (f_X5_decide_b114 σ11 v1 v2 (4 : Int32) ((84 : Int32) + ((5 : Int32) * r12))) else (f_X5_decide_b114 σ11 v1 v2 (3 : Int32) ((84 : Int32) + ((5 : Int32) * r12))))
def f_X5_decide_b50    (σ : Sg) (v1 v2 v3 w0 w1 : Int32) : Option (Int32 × Sg) := gd (inb w1 624) (lts (s2 σ 0 (upd (σ.2 0) (ix w1) w0)) fun σ7 => gd (inb (v3 + (4 : Int32)) 624) (if v2 = 0 then ((f_X5_sheet σ7 v1 (4 : Int32)).bind fun r9 => if r9 ≤ 0 then (f_X5_decide_b88 σ7 v1 v2 (0 : Int32) (σ7.2 0 (ix (v3 + (4 : Int32)))) (v3 + (4 : Int32))) else (f_X5_decide_b88 σ7 v1 v2 (-1 : Int32) (σ7.2 0 (ix (v3 + (4 : Int32)))) (v3 + (4 : Int32)))) else ((f_X5_sheet σ7 v1 (7 : Int32)).bind fun r16 => f_X5_decide_b88 σ7 v1 v2 r16 (σ7.2 0 (ix (v3 + (4 : Int32)))) (v3 + (4 : Int32)))))
def f_X5_decide (σ : Sg)   : Option (Int32 × Sg) := (f_X5_waiting σ (0 : Int32)).bind fun r1 => if r1 = (-10000005 : Int32) then (some ((-10000005 : Int32), σ)) else ((f_X5_record σ).bind fun σ3 => (f_X5_isGranted σ3 r1).bind fun r4 => lt ((144 : Int32) + ((8 : Int32) * r1)) fun x5 => if r4 = 0 then (f_X5_decide_b50 σ3 r1 r4 x5 (3 : Int32) (x5 + (5 : Int32))) else (f_X5_decide_b50 σ3 r1 r4 x5 (2 : Int32) (x5 + (5 : Int32))))
set_option maxHeartbeats 4000000 in
set_option maxRecDepth 100000 in
theorem L_X5_decide_b114 {Γ : Cx} (G : va_G) (cls : Cls) (ad : Nat → Nat) (hi : inj 6 ad) (hC : CX Γ (YM G cls ad) cX5_decide RX5 4 (some .int) 3 68) (hz0 : Γ.2.2.2.2.2.1 = 0) (hz1 : Γ.2.2.2.2.2.2 = 0)     (σ : Sg) (v1 v2 w0 w1 : Int32) : WX Γ (YM G cls ad) (qf Γ (YM G cls ad) fiS) 4 114 [(1, .int v1), (2, .int v2)] [.int w0, .int w1, .ref (ad 1)] σ (f_X5_decide_b114   σ v1 v2 w0 w1) := by
  unfold f_X5_decide_b114
  refine X_iadd hC dX5_decide_114 ?_
  refine X_dup2 hC rfl rfl dX5_decide_115 ?_
  refine X_iald hC (wM (k := 1) (by omega) cM_now) (t0 := 0) rfl dX5_decide_116 ?_
  refine X_iconst (v := 1) hC (by decide) dX5_decide_117 ?_
  refine X_iadd hC dX5_decide_118 ?_
  refine X_iast hC (wM (k := 1) (by omega) cM_now) (t0 := 0) rfl (aM_now _) dX5_decide_119 (X_lts fun σ14 => ?_)
  refine X_iconst (v := 2) hC (by decide) dX5_decide_120 ?_
  refine X_iload_n hC 0 rfl dX5_decide_121 ?_
  refine X_imul hC dX5_decide_122 ?_
  refine X_iload_n hC 1 rfl dX5_decide_123 ?_
  refine X_if_eq hC 131 dX5_decide_124 (by decide) (fun h15 => ?_) (fun h15 => ?_)
  · refine X_iconst (v := 0) hC (by decide) dX5_decide_131 ?_
    refine X_iadd hC dX5_decide_132 ?_
    exact X_iret hC hz0 hz1 dX5_decide_133 rfl
  · refine X_iconst (v := 1) hC (by decide) dX5_decide_127 ?_
    refine X_goto hC 132 dX5_decide_128 (by decide) ?_
    refine X_iadd hC dX5_decide_132 ?_
    exact X_iret hC hz0 hz1 dX5_decide_133 rfl
set_option maxHeartbeats 4000000 in
set_option maxRecDepth 100000 in
theorem L_X5_decide_b88 {Γ : Cx} (G : va_G) (cls : Cls) (ad : Nat → Nat) (hi : inj 6 ad) (hC : CX Γ (YM G cls ad) cX5_decide RX5 4 (some .int) 3 68) (hz0 : Γ.2.2.2.2.2.1 = 0) (hz1 : Γ.2.2.2.2.2.2 = 0)     (σ : Sg) (v1 v2 w0 w1 w2 : Int32) : WX Γ (YM G cls ad) (qf Γ (YM G cls ad) fiS) 4 88 [(0, .ref (ad 0)), (1, .int v1), (2, .int v2)] [.int w0, .int w1, .int w2, .ref (ad 1)] σ (f_X5_decide_b88   σ v1 v2 w0 w1 w2) := by
  unfold f_X5_decide_b88
  refine X_iadd hC dX5_decide_88 ?_
  refine X_iast hC (wM (k := 1) (by omega) cM_now) (t0 := 0) rfl (aM_now _) dX5_decide_89 (X_lts fun σ11 => ?_)
  refine X_aload_n hC 0 rfl dX5_decide_90 ?_
  refine X_getf (C := RX5) (T := TX5) (N := 16) (ci := 5) hC 0 (wM (k := 0) (by omega) cM_ob) rfl hinX5 (by decide) tw_485 rfl rfl dX5_decide_91 ?_
  refine X_bipush (v := 84) hC (by decide) dX5_decide_94 ?_
  refine X_iconst (v := 5) hC (by decide) dX5_decide_96 ?_
  refine X_aload_n hC 0 rfl dX5_decide_97 ?_
  refine X_iload_n hC 1 rfl dX5_decide_98 ?_
  refine X_iconst (v := 0) hC (by decide) dX5_decide_99 ?_
  refine X_callP (C := RX5) (T := TX5) (N := 16) (ci := 5) (rest := [.int (5 : Int32), .int (84 : Int32), .ref (ad 1)]) hC (c_X5_sheet _ G cls ad hi σ11 v1 (0 : Int32)) (gV tw_629 tw_631 ts_18 tw_7 tw_632) rfl (wM (k := 0) (by omega) cM_ob) rfl rfl okm_X5_sheet (by decide) dX5_decide_100 rfl (Nat.le_of_ble_eq_true rfl) (fun r12 => ?_)
  refine X_imul hC dX5_decide_103 ?_
  refine X_iadd hC dX5_decide_104 ?_
  refine X_iload_n hC 2 rfl dX5_decide_105 ?_
  refine X_if_eq hC 113 dX5_decide_106 (by decide) (fun h13 => ?_) (fun h13 => ?_)
  · refine X_iconst (v := 4) hC (by decide) dX5_decide_113 ?_
    exact X_sub [1, 2] rfl (L_X5_decide_b114 G cls ad hi hC hz0 hz1 σ11 v1 v2 (4 : Int32) ((84 : Int32) + ((5 : Int32) * r12)))
  · refine X_iconst (v := 3) hC (by decide) dX5_decide_109 ?_
    refine X_goto hC 114 dX5_decide_110 (by decide) ?_
    exact X_sub [1, 2] rfl (L_X5_decide_b114 G cls ad hi hC hz0 hz1 σ11 v1 v2 (3 : Int32) ((84 : Int32) + ((5 : Int32) * r12)))
set_option maxHeartbeats 4000000 in
set_option maxRecDepth 100000 in
theorem L_X5_decide_b50 {Γ : Cx} (G : va_G) (cls : Cls) (ad : Nat → Nat) (hi : inj 6 ad) (hC : CX Γ (YM G cls ad) cX5_decide RX5 4 (some .int) 3 68) (hz0 : Γ.2.2.2.2.2.1 = 0) (hz1 : Γ.2.2.2.2.2.2 = 0)     (σ : Sg) (v1 v2 v3 w0 w1 : Int32) : WX Γ (YM G cls ad) (qf Γ (YM G cls ad) fiS) 4 50 [(0, .ref (ad 0)), (1, .int v1), (2, .int v2), (3, .int v3)] [.int w0, .int w1, .ref (ad 1)] σ (f_X5_decide_b50   σ v1 v2 v3 w0 w1) := by
  unfold f_X5_decide_b50
  refine X_iast hC (wM (k := 1) (by omega) cM_now) (t0 := 0) rfl (aM_now _) dX5_decide_50 (X_lts fun σ7 => ?_)
  refine X_aload_n hC 0 rfl dX5_decide_51 ?_
  refine X_getf (C := RX5) (T := TX5) (N := 16) (ci := 5) hC 0 (wM (k := 0) (by omega) cM_ob) rfl hinX5 (by decide) tw_485 rfl rfl dX5_decide_52 ?_
  refine X_iload_n hC 3 rfl dX5_decide_55 ?_
  refine X_iconst (v := 4) hC (by decide) dX5_decide_56 ?_
  refine X_iadd hC dX5_decide_57 ?_
  refine X_dup2 hC rfl rfl dX5_decide_58 ?_
  refine X_iald hC (wM (k := 1) (by omega) cM_now) (t0 := 0) rfl dX5_decide_59 ?_
  refine X_iload_n hC 2 rfl dX5_decide_60 ?_
  refine X_if_eq hC 74 dX5_decide_61 (by decide) (fun h8 => ?_) (fun h8 => ?_)
  · refine X_aload_n hC 0 rfl dX5_decide_74 ?_
    refine X_iload_n hC 1 rfl dX5_decide_75 ?_
    refine X_iconst (v := 4) hC (by decide) dX5_decide_76 ?_
    refine X_callP (C := RX5) (T := TX5) (N := 16) (ci := 5) (rest := [.int (σ7.2 0 (ix (v3 + (4 : Int32)))), .int (v3 + (4 : Int32)), .ref (ad 1)]) hC (c_X5_sheet _ G cls ad hi σ7 v1 (4 : Int32)) (gV tw_629 tw_631 ts_18 tw_7 tw_632) rfl (wM (k := 0) (by omega) cM_ob) rfl rfl okm_X5_sheet (by decide) dX5_decide_77 rfl (Nat.le_of_ble_eq_true rfl) (fun r9 => ?_)
    refine X_if_le hC 87 dX5_decide_80 (by decide) (fun h10 => ?_) (fun h10 => ?_)
    · refine X_iconst (v := 0) hC (by decide) dX5_decide_87 ?_
      exact X_sub [0, 1, 2] rfl (L_X5_decide_b88 G cls ad hi hC hz0 hz1 σ7 v1 v2 (0 : Int32) (σ7.2 0 (ix (v3 + (4 : Int32)))) (v3 + (4 : Int32)))
    · refine X_iconst (v := -1) hC (by decide) dX5_decide_83 ?_
      refine X_goto hC 88 dX5_decide_84 (by decide) ?_
      exact X_sub [0, 1, 2] rfl (L_X5_decide_b88 G cls ad hi hC hz0 hz1 σ7 v1 v2 (-1 : Int32) (σ7.2 0 (ix (v3 + (4 : Int32)))) (v3 + (4 : Int32)))
  · refine X_aload_n hC 0 rfl dX5_decide_64 ?_
    refine X_iload_n hC 1 rfl dX5_decide_65 ?_
    refine X_bipush (v := 7) hC (by decide) dX5_decide_66 ?_
    refine X_callP (C := RX5) (T := TX5) (N := 16) (ci := 5) (rest := [.int (σ7.2 0 (ix (v3 + (4 : Int32)))), .int (v3 + (4 : Int32)), .ref (ad 1)]) hC (c_X5_sheet _ G cls ad hi σ7 v1 (7 : Int32)) (gV tw_629 tw_631 ts_18 tw_7 tw_632) rfl (wM (k := 0) (by omega) cM_ob) rfl rfl okm_X5_sheet (by decide) dX5_decide_68 rfl (Nat.le_of_ble_eq_true rfl) (fun r16 => ?_)
    refine X_goto hC 88 dX5_decide_71 (by decide) ?_
    exact X_sub [0, 1, 2] rfl (L_X5_decide_b88 G cls ad hi hC hz0 hz1 σ7 v1 v2 r16 (σ7.2 0 (ix (v3 + (4 : Int32)))) (v3 + (4 : Int32)))
theorem okm_X5_decide : okm yX5_decide 0 = true := by decide +kernel
set_option maxHeartbeats 4000000 in
set_option maxRecDepth 100000 in
theorem c_X5_decide (l : Launch) (G : va_G) (cls : Cls) (ad : Nat → Nat) (hi : inj 6 ad) (σ : Sg)    : MT l (YM G cls ad) yX5_decide (.code yX5_decide cX5_decide 4 (some .int) :: gw) 3 68 [.ref (ad 0)] fiS σ (f_X5_decide σ  ) := by
  refine MT.of (own := RX5) (by decide) (YM_D hi) rfl (Nat.le_of_ble_eq_true rfl) fun Γ _ hz0 hz1 hC => ?_
  show WX Γ (YM G cls ad) (qf Γ (YM G cls ad) fiS) 4 0 [(0, .ref (ad 0))] [] σ (f_X5_decide σ  )
  unfold f_X5_decide
  refine X_aload_n hC 0 rfl dX5_decide_0 ?_
  refine X_iconst (v := 0) hC (by decide) dX5_decide_1 ?_
  refine X_callP (C := RX5) (T := TX5) (N := 16) (ci := 5) (rest := []) hC (c_X5_waiting _ G cls ad hi σ (0 : Int32)) (gV tw_653 tw_642 tw_643 tw_7 tw_644) rfl (wM (k := 0) (by omega) cM_ob) rfl rfl okm_X5_waiting (by decide) dX5_decide_2 rfl (Nat.le_of_ble_eq_true rfl) (fun r1 => ?_)
  refine X_istore_n (ls' := [(1, .int r1), (0, .ref (ad 0))]) hC dX5_decide_5 (by decide) rfl ?_
  refine X_iload_n hC 0 rfl dX5_decide_6 ?_
  refine X_ldc (v := -10000005) hC tw_564 dX5_decide_7 ?_
  refine X_icmp_ne hC 15 dX5_decide_9 (by decide) (fun h2 => ?_) (fun h2 => ?_)
  · refine X_aload_n hC 1 rfl dX5_decide_15 ?_
    refine X_callV (C := RX5) (T := TX5) (N := 16) (ci := 5) (rest := []) hC (c_X5_record _ G cls ad hi σ) (gV tw_543 tw_545 ts_6 tw_7 tw_546) rfl (wM (k := 0) (by omega) cM_ob) rfl rfl okm_X5_record (by decide) dX5_decide_16 rfl (Nat.le_of_ble_eq_true rfl) (fun σ3 => ?_)
    refine X_aload_n hC 1 rfl dX5_decide_19 ?_
    refine X_iload_n hC 0 rfl dX5_decide_20 ?_
    refine X_callP (C := RX5) (T := TX5) (N := 16) (ci := 5) (rest := []) hC (c_X5_isGranted _ G cls ad hi σ3 r1) (gV tw_654 tw_656 ts_22 tw_7 tw_657) rfl (wM (k := 0) (by omega) cM_ob) rfl rfl okm_X5_isGranted (by decide) dX5_decide_21 rfl (Nat.le_of_ble_eq_true rfl) (fun r4 => ?_)
    refine X_istore_n (ls' := [(2, .int r4), (1, .int r1), (0, .ref (ad 0))]) hC dX5_decide_24 (by decide) rfl ?_
    refine X_sipush (v := 144) hC (by decide) dX5_decide_25 ?_
    refine X_bipush (v := 8) hC (by decide) dX5_decide_28 ?_
    refine X_iload_n hC 1 rfl dX5_decide_30 ?_
    refine X_imul hC dX5_decide_31 ?_
    refine X_iadd hC dX5_decide_32 ?_
    refine X_lt (fun x5 => ?_)
    refine X_istore_n (ls' := [(3, .int x5), (2, .int r4), (1, .int r1), (0, .ref (ad 0))]) hC dX5_decide_33 (by decide) rfl ?_
    refine X_aload_n hC 3 rfl dX5_decide_34 ?_
    refine X_getf (C := RX5) (T := TX5) (N := 16) (ci := 5) hC 0 (wM (k := 0) (by omega) cM_ob) rfl hinX5 (by decide) tw_485 rfl rfl dX5_decide_35 ?_
    refine X_iload_n hC 0 rfl dX5_decide_38 ?_
    refine X_iconst (v := 5) hC (by decide) dX5_decide_39 ?_
    refine X_iadd hC dX5_decide_40 ?_
    refine X_iload_n hC 1 rfl dX5_decide_41 ?_
    refine X_if_eq hC 49 dX5_decide_42 (by decide) (fun h6 => ?_) (fun h6 => ?_)
    · refine X_iconst (v := 3) hC (by decide) dX5_decide_49 ?_
      exact X_sub [3, 2, 1, 0] rfl (L_X5_decide_b50 G cls ad hi hC hz0 hz1 σ3 r1 r4 x5 (3 : Int32) (x5 + (5 : Int32)))
    · refine X_iconst (v := 2) hC (by decide) dX5_decide_45 ?_
      refine X_goto hC 50 dX5_decide_46 (by decide) ?_
      exact X_sub [3, 2, 1, 0] rfl (L_X5_decide_b50 G cls ad hi hC hz0 hz1 σ3 r1 r4 x5 (2 : Int32) (x5 + (5 : Int32)))
  · refine X_ldc (v := -10000005) hC tw_564 dX5_decide_12 ?_
    exact X_iret hC hz0 hz1 dX5_decide_14 rfl
theorem dX5_type_0 : decode cX5_type 0 = .ok (.aload_n 0, 1) := by decide +kernel
theorem dX5_type_1 : decode cX5_type 1 = .ok (.getfield 121, 3) := by decide +kernel
theorem dX5_type_4 : decode cX5_type 4 = .ok (.bipush 60, 2) := by decide +kernel
theorem dX5_type_6 : decode cX5_type 6 = .ok (.if_icmp .ne 6, 3) := by decide +kernel
theorem dX5_type_9 : decode cX5_type 9 = .ok (.ldc 39, 2) := by decide +kernel
theorem dX5_type_11 : decode cX5_type 11 = .ok (.ireturn, 1) := by decide +kernel
theorem dX5_type_12 : decode cX5_type 12 = .ok (.aload_n 0, 1) := by decide +kernel
theorem dX5_type_13 : decode cX5_type 13 = .ok (.getfield 19, 3) := by decide +kernel
theorem dX5_type_16 : decode cX5_type 16 = .ok (.aload_n 0, 1) := by decide +kernel
theorem dX5_type_17 : decode cX5_type 17 = .ok (.getfield 121, 3) := by decide +kernel
theorem dX5_type_20 : decode cX5_type 20 = .ok (.iload_n 1, 1) := by decide +kernel
theorem dX5_type_21 : decode cX5_type 21 = .ok (.castore, 1) := by decide +kernel
theorem dX5_type_22 : decode cX5_type 22 = .ok (.aload_n 0, 1) := by decide +kernel
theorem dX5_type_23 : decode cX5_type 23 = .ok (.dup, 1) := by decide +kernel
theorem dX5_type_24 : decode cX5_type 24 = .ok (.getfield 121, 3) := by decide +kernel
theorem dX5_type_27 : decode cX5_type 27 = .ok (.iconst 1, 1) := by decide +kernel
theorem dX5_type_28 : decode cX5_type 28 = .ok (.iadd, 1) := by decide +kernel
theorem dX5_type_29 : decode cX5_type 29 = .ok (.putfield 121, 3) := by decide +kernel
theorem dX5_type_32 : decode cX5_type 32 = .ok (.aload_n 0, 1) := by decide +kernel
theorem dX5_type_33 : decode cX5_type 33 = .ok (.getfield 121, 3) := by decide +kernel
theorem dX5_type_36 : decode cX5_type 36 = .ok (.ireturn, 1) := by decide +kernel
def f_X5_type (σ : Sg)  (p1 : Int32) : Option (Int32 × Sg) := if (σ.1 8) = (60 : Int32) then (some ((-10000003 : Int32), σ)) else (gd (inb (σ.1 8) 60) (lts (s2 σ 3 (upd (σ.2 3) (ix (σ.1 8)) (vp_nar .char p1))) fun σ2 => lts (s1 σ2 8 ((σ2.1 8) + (1 : Int32))) fun σ3 => some ((σ3.1 8), σ3)))
theorem okm_X5_type : okm yX5_type 1 = true := by decide +kernel
set_option maxHeartbeats 4000000 in
set_option maxRecDepth 100000 in
theorem c_X5_type (l : Launch) (G : va_G) (cls : Cls) (ad : Nat → Nat) (hi : inj 6 ad) (σ : Sg)   (p1 : Int32) : MT l (YM G cls ad) yX5_type (.code yX5_type cX5_type 2 (some .int) :: gw) 0 0 [.ref (ad 0), .int p1] fiS σ (f_X5_type σ  p1) := by
  refine MT.of (own := RX5) (by decide) (YM_D hi) rfl (Nat.le_of_ble_eq_true rfl) fun Γ _ hz0 hz1 hC => ?_
  show WX Γ (YM G cls ad) (qf Γ (YM G cls ad) fiS) 2 0 [(0, .ref (ad 0)), (1, .int p1)] [] σ (f_X5_type σ  p1)
  unfold f_X5_type
  refine X_aload_n hC 0 rfl dX5_type_0 ?_
  refine X_getf (C := RX5) (T := TX5) (N := 16) (ci := 5) hC 11 (wM (k := 0) (by omega) cM_ob) rfl hinX5 (by decide) tw_496 rfl rfl dX5_type_1 ?_
  refine X_bipush (v := 60) hC (by decide) dX5_type_4 ?_
  refine X_icmp_ne hC 12 dX5_type_6 (by decide) (fun h1 => ?_) (fun h1 => ?_)
  · refine X_aload_n hC 0 rfl dX5_type_12 ?_
    refine X_getf (C := RX5) (T := TX5) (N := 16) (ci := 5) hC 12 (wM (k := 0) (by omega) cM_ob) rfl hinX5 (by decide) tw_497 rfl rfl dX5_type_13 ?_
    refine X_aload_n hC 0 rfl dX5_type_16 ?_
    refine X_getf (C := RX5) (T := TX5) (N := 16) (ci := 5) hC 11 (wM (k := 0) (by omega) cM_ob) rfl hinX5 (by decide) tw_496 rfl rfl dX5_type_17 ?_
    refine X_iload_n hC 1 rfl dX5_type_20 ?_
    refine X_cast hC (wM (k := 4) (by omega) cM_text) (t0 := 1) rfl (aM_text _) dX5_type_21 (X_lts fun σ2 => ?_)
    refine X_aload_n hC 0 rfl dX5_type_22 ?_
    refine X_dup hC rfl dX5_type_23 ?_
    refine X_getf (C := RX5) (T := TX5) (N := 16) (ci := 5) hC 11 (wM (k := 0) (by omega) cM_ob) rfl hinX5 (by decide) tw_496 rfl rfl dX5_type_24 ?_
    refine X_iconst (v := 1) hC (by decide) dX5_type_27 ?_
    refine X_iadd hC dX5_type_28 ?_
    refine X_putf (C := RX5) (T := TX5) (N := 16) (ci := 5) (ty := .int) hC 11 (wM (k := 0) (by omega) cM_ob) rfl hinX5 tyX5_ok nmX5 (by decide) tw_496 rfl rfl (by decide +kernel) rfl rfl (Nat.le_of_ble_eq_true rfl) (sM_typed _) dX5_type_29 (X_lts fun σ3 => ?_)
    refine X_aload_n hC 0 rfl dX5_type_32 ?_
    refine X_getf (C := RX5) (T := TX5) (N := 16) (ci := 5) hC 11 (wM (k := 0) (by omega) cM_ob) rfl hinX5 (by decide) tw_496 rfl rfl dX5_type_33 ?_
    exact X_iret hC hz0 hz1 dX5_type_36 rfl
  · refine X_ldc (v := -10000003) hC tw_542 dX5_type_9 ?_
    exact X_iret hC hz0 hz1 dX5_type_11 rfl
theorem dX5_clearText_0 : decode cX5_clearText 0 = .ok (.aload_n 0, 1) := by decide +kernel
theorem dX5_clearText_1 : decode cX5_clearText 1 = .ok (.getfield 121, 3) := by decide +kernel
theorem dX5_clearText_4 : decode cX5_clearText 4 = .ok (.istore_n 1, 1) := by decide +kernel
theorem dX5_clearText_5 : decode cX5_clearText 5 = .ok (.aload_n 0, 1) := by decide +kernel
theorem dX5_clearText_6 : decode cX5_clearText 6 = .ok (.iconst 0, 1) := by decide +kernel
theorem dX5_clearText_7 : decode cX5_clearText 7 = .ok (.putfield 121, 3) := by decide +kernel
theorem dX5_clearText_10 : decode cX5_clearText 10 = .ok (.iload_n 1, 1) := by decide +kernel
theorem dX5_clearText_11 : decode cX5_clearText 11 = .ok (.ireturn, 1) := by decide +kernel
def f_X5_clearText (σ : Sg)   : Option (Int32 × Sg) := lt (σ.1 8) fun x1 => lts (s1 σ 8 (0 : Int32)) fun σ2 => some (x1, σ2)
theorem okm_X5_clearText : okm yX5_clearText 0 = true := by decide +kernel
set_option maxHeartbeats 4000000 in
set_option maxRecDepth 100000 in
theorem c_X5_clearText (l : Launch) (G : va_G) (cls : Cls) (ad : Nat → Nat) (hi : inj 6 ad) (σ : Sg)    : MT l (YM G cls ad) yX5_clearText (.code yX5_clearText cX5_clearText 2 (some .int) :: gw) 0 0 [.ref (ad 0)] fiS σ (f_X5_clearText σ  ) := by
  refine MT.of (own := RX5) (by decide) (YM_D hi) rfl (Nat.le_of_ble_eq_true rfl) fun Γ _ hz0 hz1 hC => ?_
  show WX Γ (YM G cls ad) (qf Γ (YM G cls ad) fiS) 2 0 [(0, .ref (ad 0))] [] σ (f_X5_clearText σ  )
  unfold f_X5_clearText
  refine X_aload_n hC 0 rfl dX5_clearText_0 ?_
  refine X_getf (C := RX5) (T := TX5) (N := 16) (ci := 5) hC 11 (wM (k := 0) (by omega) cM_ob) rfl hinX5 (by decide) tw_496 rfl rfl dX5_clearText_1 ?_
  refine X_lt (fun x1 => ?_)
  refine X_istore_n (ls' := [(1, .int x1), (0, .ref (ad 0))]) hC dX5_clearText_4 (by decide) rfl ?_
  refine X_aload_n hC 1 rfl dX5_clearText_5 ?_
  refine X_iconst (v := 0) hC (by decide) dX5_clearText_6 ?_
  refine X_putf (C := RX5) (T := TX5) (N := 16) (ci := 5) (ty := .int) hC 11 (wM (k := 0) (by omega) cM_ob) rfl hinX5 tyX5_ok nmX5 (by decide) tw_496 rfl rfl (by decide +kernel) rfl rfl (Nat.le_of_ble_eq_true rfl) (sM_typed _) dX5_clearText_7 (X_lts fun σ2 => ?_)
  refine X_iload_n hC 0 rfl dX5_clearText_10 ?_
  exact X_iret hC hz0 hz1 dX5_clearText_11 rfl
theorem dX5_number_0 : decode cX5_number 0 = .ok (.aload_n 0, 1) := by decide +kernel
theorem dX5_number_1 : decode cX5_number 1 = .ok (.getfield 124, 3) := by decide +kernel
theorem dX5_number_4 : decode cX5_number 4 = .ok (.aload_n 0, 1) := by decide +kernel
theorem dX5_number_5 : decode cX5_number 5 = .ok (.getfield 121, 3) := by decide +kernel
theorem dX5_number_8 : decode cX5_number 8 = .ok (.if_icmp .ge 22, 3) := by decide +kernel
theorem dX5_number_11 : decode cX5_number 11 = .ok (.aload_n 0, 1) := by decide +kernel
theorem dX5_number_12 : decode cX5_number 12 = .ok (.getfield 19, 3) := by decide +kernel
theorem dX5_number_15 : decode cX5_number 15 = .ok (.aload_n 0, 1) := by decide +kernel
theorem dX5_number_16 : decode cX5_number 16 = .ok (.getfield 124, 3) := by decide +kernel
theorem dX5_number_19 : decode cX5_number 19 = .ok (.caload, 1) := by decide +kernel
theorem dX5_number_20 : decode cX5_number 20 = .ok (.bipush 48, 2) := by decide +kernel
theorem dX5_number_22 : decode cX5_number 22 = .ok (.bipush 57, 2) := by decide +kernel
theorem dX5_number_24 : decode cX5_number 24 = .ok (.invokestatic 30, 3) := by decide +kernel
theorem dX5_number_27 : decode cX5_number 27 = .ok (.ifCond .ne 6, 3) := by decide +kernel
theorem dX5_number_30 : decode cX5_number 30 = .ok (.ldc 52, 2) := by decide +kernel
theorem dX5_number_32 : decode cX5_number 32 = .ok (.ireturn, 1) := by decide +kernel
theorem dX5_number_33 : decode cX5_number 33 = .ok (.aload_n 0, 1) := by decide +kernel
theorem dX5_number_34 : decode cX5_number 34 = .ok (.getfield 19, 3) := by decide +kernel
theorem dX5_number_37 : decode cX5_number 37 = .ok (.aload_n 0, 1) := by decide +kernel
theorem dX5_number_38 : decode cX5_number 38 = .ok (.getfield 124, 3) := by decide +kernel
theorem dX5_number_41 : decode cX5_number 41 = .ok (.caload, 1) := by decide +kernel
theorem dX5_number_42 : decode cX5_number 42 = .ok (.bipush 48, 2) := by decide +kernel
theorem dX5_number_44 : decode cX5_number 44 = .ok (.isub, 1) := by decide +kernel
theorem dX5_number_45 : decode cX5_number 45 = .ok (.istore_n 2, 1) := by decide +kernel
theorem dX5_number_46 : decode cX5_number 46 = .ok (.aload_n 0, 1) := by decide +kernel
theorem dX5_number_47 : decode cX5_number 47 = .ok (.dup, 1) := by decide +kernel
theorem dX5_number_48 : decode cX5_number 48 = .ok (.getfield 124, 3) := by decide +kernel
theorem dX5_number_51 : decode cX5_number 51 = .ok (.iconst 1, 1) := by decide +kernel
theorem dX5_number_52 : decode cX5_number 52 = .ok (.iadd, 1) := by decide +kernel
theorem dX5_number_53 : decode cX5_number 53 = .ok (.putfield 124, 3) := by decide +kernel
theorem dX5_number_56 : decode cX5_number 56 = .ok (.iconst 1, 1) := by decide +kernel
theorem dX5_number_57 : decode cX5_number 57 = .ok (.istore_n 3, 1) := by decide +kernel
theorem dX5_number_58 : decode cX5_number 58 = .ok (.iload_n 3, 1) := by decide +kernel
theorem dX5_number_59 : decode cX5_number 59 = .ok (.iload_n 1, 1) := by decide +kernel
theorem dX5_number_60 : decode cX5_number 60 = .ok (.if_icmp .ge 71, 3) := by decide +kernel
theorem dX5_number_63 : decode cX5_number 63 = .ok (.iload_n 2, 1) := by decide +kernel
theorem dX5_number_64 : decode cX5_number 64 = .ok (.ifCond .le 67, 3) := by decide +kernel
theorem dX5_number_67 : decode cX5_number 67 = .ok (.aload_n 0, 1) := by decide +kernel
theorem dX5_number_68 : decode cX5_number 68 = .ok (.getfield 124, 3) := by decide +kernel
theorem dX5_number_71 : decode cX5_number 71 = .ok (.aload_n 0, 1) := by decide +kernel
theorem dX5_number_72 : decode cX5_number 72 = .ok (.getfield 121, 3) := by decide +kernel
theorem dX5_number_75 : decode cX5_number 75 = .ok (.if_icmp .ge 56, 3) := by decide +kernel
theorem dX5_number_78 : decode cX5_number 78 = .ok (.aload_n 0, 1) := by decide +kernel
theorem dX5_number_79 : decode cX5_number 79 = .ok (.getfield 19, 3) := by decide +kernel
theorem dX5_number_82 : decode cX5_number 82 = .ok (.aload_n 0, 1) := by decide +kernel
theorem dX5_number_83 : decode cX5_number 83 = .ok (.getfield 124, 3) := by decide +kernel
theorem dX5_number_86 : decode cX5_number 86 = .ok (.caload, 1) := by decide +kernel
theorem dX5_number_87 : decode cX5_number 87 = .ok (.bipush 48, 2) := by decide +kernel
theorem dX5_number_89 : decode cX5_number 89 = .ok (.bipush 57, 2) := by decide +kernel
theorem dX5_number_91 : decode cX5_number 91 = .ok (.invokestatic 30, 3) := by decide +kernel
theorem dX5_number_94 : decode cX5_number 94 = .ok (.ifCond .eq 37, 3) := by decide +kernel
theorem dX5_number_97 : decode cX5_number 97 = .ok (.bipush 10, 2) := by decide +kernel
theorem dX5_number_99 : decode cX5_number 99 = .ok (.iload_n 2, 1) := by decide +kernel
theorem dX5_number_100 : decode cX5_number 100 = .ok (.imul, 1) := by decide +kernel
theorem dX5_number_101 : decode cX5_number 101 = .ok (.aload_n 0, 1) := by decide +kernel
theorem dX5_number_102 : decode cX5_number 102 = .ok (.getfield 19, 3) := by decide +kernel
theorem dX5_number_105 : decode cX5_number 105 = .ok (.aload_n 0, 1) := by decide +kernel
theorem dX5_number_106 : decode cX5_number 106 = .ok (.getfield 124, 3) := by decide +kernel
theorem dX5_number_109 : decode cX5_number 109 = .ok (.caload, 1) := by decide +kernel
theorem dX5_number_110 : decode cX5_number 110 = .ok (.iadd, 1) := by decide +kernel
theorem dX5_number_111 : decode cX5_number 111 = .ok (.bipush 48, 2) := by decide +kernel
theorem dX5_number_113 : decode cX5_number 113 = .ok (.isub, 1) := by decide +kernel
theorem dX5_number_114 : decode cX5_number 114 = .ok (.istore_n 2, 1) := by decide +kernel
theorem dX5_number_115 : decode cX5_number 115 = .ok (.aload_n 0, 1) := by decide +kernel
theorem dX5_number_116 : decode cX5_number 116 = .ok (.dup, 1) := by decide +kernel
theorem dX5_number_117 : decode cX5_number 117 = .ok (.getfield 124, 3) := by decide +kernel
theorem dX5_number_120 : decode cX5_number 120 = .ok (.iconst 1, 1) := by decide +kernel
theorem dX5_number_121 : decode cX5_number 121 = .ok (.iadd, 1) := by decide +kernel
theorem dX5_number_122 : decode cX5_number 122 = .ok (.putfield 124, 3) := by decide +kernel
theorem dX5_number_125 : decode cX5_number 125 = .ok (.iinc 3 1, 3) := by decide +kernel
theorem dX5_number_128 : decode cX5_number 128 = .ok (.goto (-70), 3) := by decide +kernel
theorem dX5_number_131 : decode cX5_number 131 = .ok (.iload_n 2, 1) := by decide +kernel
theorem dX5_number_132 : decode cX5_number 132 = .ok (.ireturn, 1) := by decide +kernel
def f_X5_number_b58    : Nat → Sg → Int32 → Int32 → Int32 → Option (Int32 × Sg)
  | 0, _, _, _, _ => none
  | n + 1, σ, v1, v2, v3 => if v1 ≤ v3 then (some (v2, σ)) else (if v2 ≤ 0 then (some (v2, σ)) else (if (σ.1 8) ≤ (σ.1 9) then (some (v2, σ)) else (gd (inb (σ.1 9) 60) ((f_X5_in σ (σ.2 3 (ix (σ.1 9))) (48 : Int32) (57 : Int32)).bind fun r9 => if r9 = 0 then (some (v2, σ)) else (gd (inb (σ.1 9) 60) (lt ((((10 : Int32) * v2) + (σ.2 3 (ix (σ.1 9)))) - (48 : Int32)) fun x11 => lts (s1 σ 9 ((σ.1 9) + (1 : Int32))) fun σ12 => lt (v3 + (1 : Int32)) fun x13 => (f_X5_number_b58   n) σ12 v1 x11 x13))))))
def f_X5_number (σ : Sg)  (p1 : Int32) : Option (Int32 × Sg) := if (σ.1 8) ≤ (σ.1 9) then (some ((-10000005 : Int32), σ)) else (gd (inb (σ.1 9) 60) ((f_X5_in σ (σ.2 3 (ix (σ.1 9))) (48 : Int32) (57 : Int32)).bind fun r2 => if r2 = 0 then (some ((-10000005 : Int32), σ)) else (gd (inb (σ.1 9) 60) (lt ((σ.2 3 (ix (σ.1 9))) - (48 : Int32)) fun x4 => lts (s1 σ 9 ((σ.1 9) + (1 : Int32))) fun σ5 => f_X5_number_b58 fuel σ5 p1 x4 (1 : Int32)))))
set_option maxHeartbeats 4000000 in
set_option maxRecDepth 100000 in
theorem L_X5_number_b58 {Γ : Cx} (G : va_G) (cls : Cls) (ad : Nat → Nat) (hi : inj 6 ad) (hC : CX Γ (YM G cls ad) cX5_number RX5 4 (some .int) 1 22) (hz0 : Γ.2.2.2.2.2.1 = 0) (hz1 : Γ.2.2.2.2.2.2 = 0)     : ∀ (n : Nat) (σ : Sg) (v1 v2 v3 : Int32), WX Γ (YM G cls ad) (qf Γ (YM G cls ad) fiS) 4 58 [(0, .ref (ad 0)), (1, .int v1), (2, .int v2), (3, .int v3)] [] σ (f_X5_number_b58   n σ v1 v2 v3) := by
  intro n
  induction n with
  | zero => intro σ v1 v2 v3; exact X_none
  | succ n ih =>
    intro σ v1 v2 v3
    rw [f_X5_number_b58.eq_2]
    refine X_iload_n hC 3 rfl dX5_number_58 ?_
    refine X_iload_n hC 1 rfl dX5_number_59 ?_
    refine X_icmp_ge hC 131 dX5_number_60 (by decide) (fun h6 => ?_) (fun h6 => ?_)
    · refine X_iload_n hC 2 rfl dX5_number_131 ?_
      exact X_iret hC hz0 hz1 dX5_number_132 rfl
    · refine X_iload_n hC 2 rfl dX5_number_63 ?_
      refine X_if_le hC 131 dX5_number_64 (by decide) (fun h7 => ?_) (fun h7 => ?_)
      · refine X_iload_n hC 2 rfl dX5_number_131 ?_
        exact X_iret hC hz0 hz1 dX5_number_132 rfl
      · refine X_aload_n hC 0 rfl dX5_number_67 ?_
        refine X_getf (C := RX5) (T := TX5) (N := 16) (ci := 5) hC 13 (wM (k := 0) (by omega) cM_ob) rfl hinX5 (by decide) tw_498 rfl rfl dX5_number_68 ?_
        refine X_aload_n hC 0 rfl dX5_number_71 ?_
        refine X_getf (C := RX5) (T := TX5) (N := 16) (ci := 5) hC 11 (wM (k := 0) (by omega) cM_ob) rfl hinX5 (by decide) tw_496 rfl rfl dX5_number_72 ?_
        refine X_icmp_ge hC 131 dX5_number_75 (by decide) (fun h8 => ?_) (fun h8 => ?_)
        · refine X_iload_n hC 2 rfl dX5_number_131 ?_
          exact X_iret hC hz0 hz1 dX5_number_132 rfl
        · refine X_aload_n hC 0 rfl dX5_number_78 ?_
          refine X_getf (C := RX5) (T := TX5) (N := 16) (ci := 5) hC 12 (wM (k := 0) (by omega) cM_ob) rfl hinX5 (by decide) tw_497 rfl rfl dX5_number_79 ?_
          refine X_aload_n hC 0 rfl dX5_number_82 ?_
          refine X_getf (C := RX5) (T := TX5) (N := 16) (ci := 5) hC 13 (wM (k := 0) (by omega) cM_ob) rfl hinX5 (by decide) tw_498 rfl rfl dX5_number_83 ?_
          refine X_cald hC (wM (k := 4) (by omega) cM_text) (t0 := 1) rfl dX5_number_86 ?_
          refine X_bipush (v := 48) hC (by decide) dX5_number_87 ?_
          refine X_bipush (v := 57) hC (by decide) dX5_number_89 ?_
          refine X_statP (rest := []) hC (c_X5_in _ G cls ad hi σ (σ.2 3 (ix (σ.1 9))) (48 : Int32) (57 : Int32)) (gSt tw_538 tw_539 tw_7 tw_540) rfl okm_X5_in (by decide) dX5_number_91 rfl (Nat.le_of_ble_eq_true rfl) (fun r9 => ?_)
          refine X_if_eq hC 131 dX5_number_94 (by decide) (fun h10 => ?_) (fun h10 => ?_)
          · refine X_iload_n hC 2 rfl dX5_number_131 ?_
            exact X_iret hC hz0 hz1 dX5_number_132 rfl
          · refine X_bipush (v := 10) hC (by decide) dX5_number_97 ?_
            refine X_iload_n hC 2 rfl dX5_number_99 ?_
            refine X_imul hC dX5_number_100 ?_
            refine X_aload_n hC 0 rfl dX5_number_101 ?_
            refine X_getf (C := RX5) (T := TX5) (N := 16) (ci := 5) hC 12 (wM (k := 0) (by omega) cM_ob) rfl hinX5 (by decide) tw_497 rfl rfl dX5_number_102 ?_
            refine X_aload_n hC 0 rfl dX5_number_105 ?_
            refine X_getf (C := RX5) (T := TX5) (N := 16) (ci := 5) hC 13 (wM (k := 0) (by omega) cM_ob) rfl hinX5 (by decide) tw_498 rfl rfl dX5_number_106 ?_
            refine X_cald hC (wM (k := 4) (by omega) cM_text) (t0 := 1) rfl dX5_number_109 ?_
            refine X_iadd hC dX5_number_110 ?_
            refine X_bipush (v := 48) hC (by decide) dX5_number_111 ?_
            refine X_isub hC dX5_number_113 ?_
            refine X_lt (fun x11 => ?_)
            refine X_istore_n (ls' := [(2, .int x11), (0, .ref (ad 0)), (1, .int v1), (3, .int v3)]) hC dX5_number_114 (by decide) rfl ?_
            refine X_aload_n hC 1 rfl dX5_number_115 ?_
            refine X_dup hC rfl dX5_number_116 ?_
            refine X_getf (C := RX5) (T := TX5) (N := 16) (ci := 5) hC 13 (wM (k := 0) (by omega) cM_ob) rfl hinX5 (by decide) tw_498 rfl rfl dX5_number_117 ?_
            refine X_iconst (v := 1) hC (by decide) dX5_number_120 ?_
            refine X_iadd hC dX5_number_121 ?_
            refine X_putf (C := RX5) (T := TX5) (N := 16) (ci := 5) (ty := .int) hC 13 (wM (k := 0) (by omega) cM_ob) rfl hinX5 tyX5_ok nmX5 (by decide) tw_498 rfl rfl (by decide +kernel) rfl rfl (Nat.le_of_ble_eq_true rfl) (sM_at _) dX5_number_122 (X_lts fun σ12 => ?_)
            refine X_iinc (ls' := fun x13 => [(3, .int x13), (2, .int x11), (0, .ref (ad 0)), (1, .int v1)]) hC 3 dX5_number_125 rfl (by decide) (by decide) (fun _ => rfl) (fun x13 => ?_)
            refine X_goto hC 58 dX5_number_128 (by decide) ?_
            exact X_sub [2, 3, 1, 0] rfl (ih σ12 v1 x11 x13)
theorem okm_X5_number : okm yX5_number 1 = true := by decide +kernel
set_option maxHeartbeats 4000000 in
set_option maxRecDepth 100000 in
theorem c_X5_number (l : Launch) (G : va_G) (cls : Cls) (ad : Nat → Nat) (hi : inj 6 ad) (σ : Sg)   (p1 : Int32) : MT l (YM G cls ad) yX5_number (.code yX5_number cX5_number 4 (some .int) :: gw) 1 22 [.ref (ad 0), .int p1] fiS σ (f_X5_number σ  p1) := by
  refine MT.of (own := RX5) (by decide) (YM_D hi) rfl (Nat.le_of_ble_eq_true rfl) fun Γ _ hz0 hz1 hC => ?_
  show WX Γ (YM G cls ad) (qf Γ (YM G cls ad) fiS) 4 0 [(0, .ref (ad 0)), (1, .int p1)] [] σ (f_X5_number σ  p1)
  unfold f_X5_number
  refine X_aload_n hC 0 rfl dX5_number_0 ?_
  refine X_getf (C := RX5) (T := TX5) (N := 16) (ci := 5) hC 13 (wM (k := 0) (by omega) cM_ob) rfl hinX5 (by decide) tw_498 rfl rfl dX5_number_1 ?_
  refine X_aload_n hC 0 rfl dX5_number_4 ?_
  refine X_getf (C := RX5) (T := TX5) (N := 16) (ci := 5) hC 11 (wM (k := 0) (by omega) cM_ob) rfl hinX5 (by decide) tw_496 rfl rfl dX5_number_5 ?_
  refine X_icmp_ge hC 30 dX5_number_8 (by decide) (fun h1 => ?_) (fun h1 => ?_)
  · refine X_ldc (v := -10000005) hC tw_564 dX5_number_30 ?_
    exact X_iret hC hz0 hz1 dX5_number_32 rfl
  · refine X_aload_n hC 0 rfl dX5_number_11 ?_
    refine X_getf (C := RX5) (T := TX5) (N := 16) (ci := 5) hC 12 (wM (k := 0) (by omega) cM_ob) rfl hinX5 (by decide) tw_497 rfl rfl dX5_number_12 ?_
    refine X_aload_n hC 0 rfl dX5_number_15 ?_
    refine X_getf (C := RX5) (T := TX5) (N := 16) (ci := 5) hC 13 (wM (k := 0) (by omega) cM_ob) rfl hinX5 (by decide) tw_498 rfl rfl dX5_number_16 ?_
    refine X_cald hC (wM (k := 4) (by omega) cM_text) (t0 := 1) rfl dX5_number_19 ?_
    refine X_bipush (v := 48) hC (by decide) dX5_number_20 ?_
    refine X_bipush (v := 57) hC (by decide) dX5_number_22 ?_
    refine X_statP (rest := []) hC (c_X5_in _ G cls ad hi σ (σ.2 3 (ix (σ.1 9))) (48 : Int32) (57 : Int32)) (gSt tw_538 tw_539 tw_7 tw_540) rfl okm_X5_in (by decide) dX5_number_24 rfl (Nat.le_of_ble_eq_true rfl) (fun r2 => ?_)
    refine X_if_ne hC 33 dX5_number_27 (by decide) (fun h3 => ?_) (fun h3 => ?_)
    · refine X_aload_n hC 0 rfl dX5_number_33 ?_
      refine X_getf (C := RX5) (T := TX5) (N := 16) (ci := 5) hC 12 (wM (k := 0) (by omega) cM_ob) rfl hinX5 (by decide) tw_497 rfl rfl dX5_number_34 ?_
      refine X_aload_n hC 0 rfl dX5_number_37 ?_
      refine X_getf (C := RX5) (T := TX5) (N := 16) (ci := 5) hC 13 (wM (k := 0) (by omega) cM_ob) rfl hinX5 (by decide) tw_498 rfl rfl dX5_number_38 ?_
      refine X_cald hC (wM (k := 4) (by omega) cM_text) (t0 := 1) rfl dX5_number_41 ?_
      refine X_bipush (v := 48) hC (by decide) dX5_number_42 ?_
      refine X_isub hC dX5_number_44 ?_
      refine X_lt (fun x4 => ?_)
      refine X_istore_n (ls' := [(2, .int x4), (0, .ref (ad 0)), (1, .int p1)]) hC dX5_number_45 (by decide) rfl ?_
      refine X_aload_n hC 1 rfl dX5_number_46 ?_
      refine X_dup hC rfl dX5_number_47 ?_
      refine X_getf (C := RX5) (T := TX5) (N := 16) (ci := 5) hC 13 (wM (k := 0) (by omega) cM_ob) rfl hinX5 (by decide) tw_498 rfl rfl dX5_number_48 ?_
      refine X_iconst (v := 1) hC (by decide) dX5_number_51 ?_
      refine X_iadd hC dX5_number_52 ?_
      refine X_putf (C := RX5) (T := TX5) (N := 16) (ci := 5) (ty := .int) hC 13 (wM (k := 0) (by omega) cM_ob) rfl hinX5 tyX5_ok nmX5 (by decide) tw_498 rfl rfl (by decide +kernel) rfl rfl (Nat.le_of_ble_eq_true rfl) (sM_at _) dX5_number_53 (X_lts fun σ5 => ?_)
      refine X_iconst (v := 1) hC (by decide) dX5_number_56 ?_
      refine X_istore_n (ls' := [(3, .int (1 : Int32)), (2, .int x4), (0, .ref (ad 0)), (1, .int p1)]) hC dX5_number_57 (by decide) rfl ?_
      exact X_sub [2, 3, 1, 0] rfl (L_X5_number_b58 G cls ad hi hC hz0 hz1 fuel σ5 p1 x4 (1 : Int32))
    · refine X_ldc (v := -10000005) hC tw_564 dX5_number_30 ?_
      exact X_iret hC hz0 hz1 dX5_number_32 rfl
theorem dX5_takes_0 : decode cX5_takes 0 = .ok (.aload_n 0, 1) := by decide +kernel
theorem dX5_takes_1 : decode cX5_takes 1 = .ok (.getfield 124, 3) := by decide +kernel
theorem dX5_takes_4 : decode cX5_takes 4 = .ok (.aload_n 0, 1) := by decide +kernel
theorem dX5_takes_5 : decode cX5_takes 5 = .ok (.getfield 121, 3) := by decide +kernel
theorem dX5_takes_8 : decode cX5_takes 8 = .ok (.if_icmp .ge 16, 3) := by decide +kernel
theorem dX5_takes_11 : decode cX5_takes 11 = .ok (.aload_n 0, 1) := by decide +kernel
theorem dX5_takes_12 : decode cX5_takes 12 = .ok (.getfield 19, 3) := by decide +kernel
theorem dX5_takes_15 : decode cX5_takes 15 = .ok (.aload_n 0, 1) := by decide +kernel
theorem dX5_takes_16 : decode cX5_takes 16 = .ok (.getfield 124, 3) := by decide +kernel
theorem dX5_takes_19 : decode cX5_takes 19 = .ok (.caload, 1) := by decide +kernel
theorem dX5_takes_20 : decode cX5_takes 20 = .ok (.iload_n 1, 1) := by decide +kernel
theorem dX5_takes_21 : decode cX5_takes 21 = .ok (.if_icmp .eq 5, 3) := by decide +kernel
theorem dX5_takes_24 : decode cX5_takes 24 = .ok (.iconst 0, 1) := by decide +kernel
theorem dX5_takes_25 : decode cX5_takes 25 = .ok (.ireturn, 1) := by decide +kernel
theorem dX5_takes_26 : decode cX5_takes 26 = .ok (.aload_n 0, 1) := by decide +kernel
theorem dX5_takes_27 : decode cX5_takes 27 = .ok (.dup, 1) := by decide +kernel
theorem dX5_takes_28 : decode cX5_takes 28 = .ok (.getfield 124, 3) := by decide +kernel
theorem dX5_takes_31 : decode cX5_takes 31 = .ok (.iconst 1, 1) := by decide +kernel
theorem dX5_takes_32 : decode cX5_takes 32 = .ok (.iadd, 1) := by decide +kernel
theorem dX5_takes_33 : decode cX5_takes 33 = .ok (.putfield 124, 3) := by decide +kernel
theorem dX5_takes_36 : decode cX5_takes 36 = .ok (.iconst 1, 1) := by decide +kernel
theorem dX5_takes_37 : decode cX5_takes 37 = .ok (.ireturn, 1) := by decide +kernel
def f_X5_takes (σ : Sg)  (p1 : Int32) : Option (Int32 × Sg) := if (σ.1 8) ≤ (σ.1 9) then (some ((0 : Int32), σ)) else (gd (inb (σ.1 9) 60) (if (σ.2 3 (ix (σ.1 9))) = p1 then (lts (s1 σ 9 ((σ.1 9) + (1 : Int32))) fun σ3 => some ((1 : Int32), σ3)) else (some ((0 : Int32), σ))))
theorem okm_X5_takes : okm yX5_takes 1 = true := by decide +kernel
set_option maxHeartbeats 4000000 in
set_option maxRecDepth 100000 in
theorem c_X5_takes (l : Launch) (G : va_G) (cls : Cls) (ad : Nat → Nat) (hi : inj 6 ad) (σ : Sg)   (p1 : Int32) : MT l (YM G cls ad) yX5_takes (.code yX5_takes cX5_takes 2 (some .boolean) :: gw) 0 0 [.ref (ad 0), .int p1] fiS σ (f_X5_takes σ  p1) := by
  refine MT.of (own := RX5) (by decide) (YM_D hi) rfl (Nat.le_of_ble_eq_true rfl) fun Γ _ hz0 hz1 hC => ?_
  show WX Γ (YM G cls ad) (qf Γ (YM G cls ad) fiS) 2 0 [(0, .ref (ad 0)), (1, .int p1)] [] σ (f_X5_takes σ  p1)
  unfold f_X5_takes
  refine X_aload_n hC 0 rfl dX5_takes_0 ?_
  refine X_getf (C := RX5) (T := TX5) (N := 16) (ci := 5) hC 13 (wM (k := 0) (by omega) cM_ob) rfl hinX5 (by decide) tw_498 rfl rfl dX5_takes_1 ?_
  refine X_aload_n hC 0 rfl dX5_takes_4 ?_
  refine X_getf (C := RX5) (T := TX5) (N := 16) (ci := 5) hC 11 (wM (k := 0) (by omega) cM_ob) rfl hinX5 (by decide) tw_496 rfl rfl dX5_takes_5 ?_
  refine X_icmp_ge hC 24 dX5_takes_8 (by decide) (fun h1 => ?_) (fun h1 => ?_)
  · refine X_iconst (v := 0) hC (by decide) dX5_takes_24 ?_
    exact X_zret hC hz0 hz1 rfl dX5_takes_25 rfl
  · refine X_aload_n hC 0 rfl dX5_takes_11 ?_
    refine X_getf (C := RX5) (T := TX5) (N := 16) (ci := 5) hC 12 (wM (k := 0) (by omega) cM_ob) rfl hinX5 (by decide) tw_497 rfl rfl dX5_takes_12 ?_
    refine X_aload_n hC 0 rfl dX5_takes_15 ?_
    refine X_getf (C := RX5) (T := TX5) (N := 16) (ci := 5) hC 13 (wM (k := 0) (by omega) cM_ob) rfl hinX5 (by decide) tw_498 rfl rfl dX5_takes_16 ?_
    refine X_cald hC (wM (k := 4) (by omega) cM_text) (t0 := 1) rfl dX5_takes_19 ?_
    refine X_iload_n hC 1 rfl dX5_takes_20 ?_
    refine X_icmp_eq hC 26 dX5_takes_21 (by decide) (fun h2 => ?_) (fun h2 => ?_)
    · refine X_aload_n hC 0 rfl dX5_takes_26 ?_
      refine X_dup hC rfl dX5_takes_27 ?_
      refine X_getf (C := RX5) (T := TX5) (N := 16) (ci := 5) hC 13 (wM (k := 0) (by omega) cM_ob) rfl hinX5 (by decide) tw_498 rfl rfl dX5_takes_28 ?_
      refine X_iconst (v := 1) hC (by decide) dX5_takes_31 ?_
      refine X_iadd hC dX5_takes_32 ?_
      refine X_putf (C := RX5) (T := TX5) (N := 16) (ci := 5) (ty := .int) hC 13 (wM (k := 0) (by omega) cM_ob) rfl hinX5 tyX5_ok nmX5 (by decide) tw_498 rfl rfl (by decide +kernel) rfl rfl (Nat.le_of_ble_eq_true rfl) (sM_at _) dX5_takes_33 (X_lts fun σ3 => ?_)
      refine X_iconst (v := 1) hC (by decide) dX5_takes_36 ?_
      exact X_zret hC hz0 hz1 rfl dX5_takes_37 rfl
    · refine X_iconst (v := 0) hC (by decide) dX5_takes_24 ?_
      exact X_zret hC hz0 hz1 rfl dX5_takes_25 rfl
theorem dX5_readsPaper_0 : decode cX5_readsPaper 0 = .ok (.iconst 3, 1) := by decide +kernel
theorem dX5_readsPaper_1 : decode cX5_readsPaper 1 = .ok (.aload_n 0, 1) := by decide +kernel
theorem dX5_readsPaper_2 : decode cX5_readsPaper 2 = .ok (.getfield 127, 3) := by decide +kernel
theorem dX5_readsPaper_5 : decode cX5_readsPaper 5 = .ok (.imul, 1) := by decide +kernel
theorem dX5_readsPaper_6 : decode cX5_readsPaper 6 = .ok (.istore_n 1, 1) := by decide +kernel
theorem dX5_readsPaper_7 : decode cX5_readsPaper 7 = .ok (.aload_n 0, 1) := by decide +kernel
theorem dX5_readsPaper_8 : decode cX5_readsPaper 8 = .ok (.getfield 23, 3) := by decide +kernel
theorem dX5_readsPaper_11 : decode cX5_readsPaper 11 = .ok (.iload_n 1, 1) := by decide +kernel
theorem dX5_readsPaper_12 : decode cX5_readsPaper 12 = .ok (.aload_n 0, 1) := by decide +kernel
theorem dX5_readsPaper_13 : decode cX5_readsPaper 13 = .ok (.iconst 2, 1) := by decide +kernel
theorem dX5_readsPaper_14 : decode cX5_readsPaper 14 = .ok (.invokevirtual 130, 3) := by decide +kernel
theorem dX5_readsPaper_17 : decode cX5_readsPaper 17 = .ok (.iastore, 1) := by decide +kernel
theorem dX5_readsPaper_18 : decode cX5_readsPaper 18 = .ok (.aload_n 0, 1) := by decide +kernel
theorem dX5_readsPaper_19 : decode cX5_readsPaper 19 = .ok (.getfield 23, 3) := by decide +kernel
theorem dX5_readsPaper_22 : decode cX5_readsPaper 22 = .ok (.iload_n 1, 1) := by decide +kernel
theorem dX5_readsPaper_23 : decode cX5_readsPaper 23 = .ok (.iaload, 1) := by decide +kernel
theorem dX5_readsPaper_24 : decode cX5_readsPaper 24 = .ok (.ldc 52, 2) := by decide +kernel
theorem dX5_readsPaper_26 : decode cX5_readsPaper 26 = .ok (.if_icmp .eq 12, 3) := by decide +kernel
theorem dX5_readsPaper_29 : decode cX5_readsPaper 29 = .ok (.aload_n 0, 1) := by decide +kernel
theorem dX5_readsPaper_30 : decode cX5_readsPaper 30 = .ok (.bipush 47, 2) := by decide +kernel
theorem dX5_readsPaper_32 : decode cX5_readsPaper 32 = .ok (.invokevirtual 133, 3) := by decide +kernel
theorem dX5_readsPaper_35 : decode cX5_readsPaper 35 = .ok (.ifCond .ne 5, 3) := by decide +kernel
theorem dX5_readsPaper_38 : decode cX5_readsPaper 38 = .ok (.iconst 0, 1) := by decide +kernel
theorem dX5_readsPaper_39 : decode cX5_readsPaper 39 = .ok (.ireturn, 1) := by decide +kernel
theorem dX5_readsPaper_40 : decode cX5_readsPaper 40 = .ok (.aload_n 0, 1) := by decide +kernel
theorem dX5_readsPaper_41 : decode cX5_readsPaper 41 = .ok (.getfield 23, 3) := by decide +kernel
theorem dX5_readsPaper_44 : decode cX5_readsPaper 44 = .ok (.iload_n 1, 1) := by decide +kernel
theorem dX5_readsPaper_45 : decode cX5_readsPaper 45 = .ok (.iconst 1, 1) := by decide +kernel
theorem dX5_readsPaper_46 : decode cX5_readsPaper 46 = .ok (.iadd, 1) := by decide +kernel
theorem dX5_readsPaper_47 : decode cX5_readsPaper 47 = .ok (.aload_n 0, 1) := by decide +kernel
theorem dX5_readsPaper_48 : decode cX5_readsPaper 48 = .ok (.iconst 2, 1) := by decide +kernel
theorem dX5_readsPaper_49 : decode cX5_readsPaper 49 = .ok (.invokevirtual 130, 3) := by decide +kernel
theorem dX5_readsPaper_52 : decode cX5_readsPaper 52 = .ok (.iastore, 1) := by decide +kernel
theorem dX5_readsPaper_53 : decode cX5_readsPaper 53 = .ok (.aload_n 0, 1) := by decide +kernel
theorem dX5_readsPaper_54 : decode cX5_readsPaper 54 = .ok (.getfield 23, 3) := by decide +kernel
theorem dX5_readsPaper_57 : decode cX5_readsPaper 57 = .ok (.iload_n 1, 1) := by decide +kernel
theorem dX5_readsPaper_58 : decode cX5_readsPaper 58 = .ok (.iconst 1, 1) := by decide +kernel
theorem dX5_readsPaper_59 : decode cX5_readsPaper 59 = .ok (.iadd, 1) := by decide +kernel
theorem dX5_readsPaper_60 : decode cX5_readsPaper 60 = .ok (.iaload, 1) := by decide +kernel
theorem dX5_readsPaper_61 : decode cX5_readsPaper 61 = .ok (.ldc 52, 2) := by decide +kernel
theorem dX5_readsPaper_63 : decode cX5_readsPaper 63 = .ok (.if_icmp .eq 12, 3) := by decide +kernel
theorem dX5_readsPaper_66 : decode cX5_readsPaper 66 = .ok (.aload_n 0, 1) := by decide +kernel
theorem dX5_readsPaper_67 : decode cX5_readsPaper 67 = .ok (.bipush 64, 2) := by decide +kernel
theorem dX5_readsPaper_69 : decode cX5_readsPaper 69 = .ok (.invokevirtual 133, 3) := by decide +kernel
theorem dX5_readsPaper_72 : decode cX5_readsPaper 72 = .ok (.ifCond .ne 5, 3) := by decide +kernel
theorem dX5_readsPaper_75 : decode cX5_readsPaper 75 = .ok (.iconst 0, 1) := by decide +kernel
theorem dX5_readsPaper_76 : decode cX5_readsPaper 76 = .ok (.ireturn, 1) := by decide +kernel
theorem dX5_readsPaper_77 : decode cX5_readsPaper 77 = .ok (.aload_n 0, 1) := by decide +kernel
theorem dX5_readsPaper_78 : decode cX5_readsPaper 78 = .ok (.getfield 23, 3) := by decide +kernel
theorem dX5_readsPaper_81 : decode cX5_readsPaper 81 = .ok (.iload_n 1, 1) := by decide +kernel
theorem dX5_readsPaper_82 : decode cX5_readsPaper 82 = .ok (.iconst 2, 1) := by decide +kernel
theorem dX5_readsPaper_83 : decode cX5_readsPaper 83 = .ok (.iadd, 1) := by decide +kernel
theorem dX5_readsPaper_84 : decode cX5_readsPaper 84 = .ok (.aload_n 0, 1) := by decide +kernel
theorem dX5_readsPaper_85 : decode cX5_readsPaper 85 = .ok (.bipush 6, 2) := by decide +kernel
theorem dX5_readsPaper_87 : decode cX5_readsPaper 87 = .ok (.invokevirtual 130, 3) := by decide +kernel
theorem dX5_readsPaper_90 : decode cX5_readsPaper 90 = .ok (.iastore, 1) := by decide +kernel
theorem dX5_readsPaper_91 : decode cX5_readsPaper 91 = .ok (.aload_n 0, 1) := by decide +kernel
theorem dX5_readsPaper_92 : decode cX5_readsPaper 92 = .ok (.getfield 23, 3) := by decide +kernel
theorem dX5_readsPaper_95 : decode cX5_readsPaper 95 = .ok (.iload_n 1, 1) := by decide +kernel
theorem dX5_readsPaper_96 : decode cX5_readsPaper 96 = .ok (.iconst 2, 1) := by decide +kernel
theorem dX5_readsPaper_97 : decode cX5_readsPaper 97 = .ok (.iadd, 1) := by decide +kernel
theorem dX5_readsPaper_98 : decode cX5_readsPaper 98 = .ok (.iaload, 1) := by decide +kernel
theorem dX5_readsPaper_99 : decode cX5_readsPaper 99 = .ok (.ldc 52, 2) := by decide +kernel
theorem dX5_readsPaper_101 : decode cX5_readsPaper 101 = .ok (.if_icmp .ne 5, 3) := by decide +kernel
theorem dX5_readsPaper_104 : decode cX5_readsPaper 104 = .ok (.iconst 0, 1) := by decide +kernel
theorem dX5_readsPaper_105 : decode cX5_readsPaper 105 = .ok (.ireturn, 1) := by decide +kernel
theorem dX5_readsPaper_106 : decode cX5_readsPaper 106 = .ok (.aload_n 0, 1) := by decide +kernel
theorem dX5_readsPaper_107 : decode cX5_readsPaper 107 = .ok (.dup, 1) := by decide +kernel
theorem dX5_readsPaper_108 : decode cX5_readsPaper 108 = .ok (.getfield 127, 3) := by decide +kernel
theorem dX5_readsPaper_111 : decode cX5_readsPaper 111 = .ok (.iconst 1, 1) := by decide +kernel
theorem dX5_readsPaper_112 : decode cX5_readsPaper 112 = .ok (.iadd, 1) := by decide +kernel
theorem dX5_readsPaper_113 : decode cX5_readsPaper 113 = .ok (.putfield 127, 3) := by decide +kernel
theorem dX5_readsPaper_116 : decode cX5_readsPaper 116 = .ok (.aload_n 0, 1) := by decide +kernel
theorem dX5_readsPaper_117 : decode cX5_readsPaper 117 = .ok (.getfield 124, 3) := by decide +kernel
theorem dX5_readsPaper_120 : decode cX5_readsPaper 120 = .ok (.aload_n 0, 1) := by decide +kernel
theorem dX5_readsPaper_121 : decode cX5_readsPaper 121 = .ok (.getfield 121, 3) := by decide +kernel
theorem dX5_readsPaper_124 : decode cX5_readsPaper 124 = .ok (.if_icmp .eq 17, 3) := by decide +kernel
theorem dX5_readsPaper_127 : decode cX5_readsPaper 127 = .ok (.aload_n 0, 1) := by decide +kernel
theorem dX5_readsPaper_128 : decode cX5_readsPaper 128 = .ok (.getfield 19, 3) := by decide +kernel
theorem dX5_readsPaper_131 : decode cX5_readsPaper 131 = .ok (.aload_n 0, 1) := by decide +kernel
theorem dX5_readsPaper_132 : decode cX5_readsPaper 132 = .ok (.getfield 124, 3) := by decide +kernel
theorem dX5_readsPaper_135 : decode cX5_readsPaper 135 = .ok (.caload, 1) := by decide +kernel
theorem dX5_readsPaper_136 : decode cX5_readsPaper 136 = .ok (.bipush 59, 2) := by decide +kernel
theorem dX5_readsPaper_138 : decode cX5_readsPaper 138 = .ok (.if_icmp .ne 7, 3) := by decide +kernel
theorem dX5_readsPaper_141 : decode cX5_readsPaper 141 = .ok (.iconst 1, 1) := by decide +kernel
theorem dX5_readsPaper_142 : decode cX5_readsPaper 142 = .ok (.goto 4, 3) := by decide +kernel
theorem dX5_readsPaper_145 : decode cX5_readsPaper 145 = .ok (.iconst 0, 1) := by decide +kernel
theorem dX5_readsPaper_146 : decode cX5_readsPaper 146 = .ok (.ireturn, 1) := by decide +kernel
def f_X5_readsPaper_b141    (σ : Sg)  : Option (Int32 × Sg) := some ((1 : Int32), σ)
def f_X5_readsPaper (σ : Sg)   : Option (Int32 × Sg) := lt ((3 : Int32) * (σ.1 10)) fun x1 => (f_X5_number σ (2 : Int32)).bind fun q27 => lts q27.2 fun σ3 => lt q27.1 fun r2 => gd (inb x1 36) (lts (s2 σ3 4 (upd (σ3.2 4) (ix x1) r2)) fun σ4 => gd (inb x1 36) (if (σ4.2 4 (ix x1)) = (-10000005 : Int32) then (some ((0 : Int32), σ4)) else ((f_X5_takes σ4 (47 : Int32)).bind fun q26 => lts q26.2 fun σ7 => lt q26.1 fun r6 => if r6 = 0 then (some ((0 : Int32), σ7)) else ((f_X5_number σ7 (2 : Int32)).bind fun q25 => lts q25.2 fun σ10 => lt q25.1 fun r9 => gd (inb (x1 + (1 : Int32)) 36) (lts (s2 σ10 4 (upd (σ10.2 4) (ix (x1 + (1 : Int32))) r9)) fun σ11 => gd (inb (x1 + (1 : Int32)) 36) (if (σ11.2 4 (ix (x1 + (1 : Int32)))) = (-10000005 : Int32) then (some ((0 : Int32), σ11)) else ((f_X5_takes σ11 (64 : Int32)).bind fun q24 => lts q24.2 fun σ14 => lt q24.1 fun r13 => if r13 = 0 then (some ((0 : Int32), σ14)) else ((f_X5_number σ14 (6 : Int32)).bind fun q23 => lts q23.2 fun σ17 => lt q23.1 fun r16 => gd (inb (x1 + (2 : Int32)) 36) (lts (s2 σ17 4 (upd (σ17.2 4) (ix (x1 + (2 : Int32))) r16)) fun σ18 => gd (inb (x1 + (2 : Int32)) 36) (if (σ18.2 4 (ix (x1 + (2 : Int32)))) = (-10000005 : Int32) then (some ((0 : Int32), σ18)) else (lts (s1 σ18 10 ((σ18.1 10) + (1 : Int32))) fun σ20 => if (σ20.1 9) = (σ20.1 8) then (f_X5_readsPaper_b141 σ20) else (gd (inb (σ20.1 9) 60) (if (σ20.2 3 (ix (σ20.1 9))) = (59 : Int32) then (f_X5_readsPaper_b141 σ20) else (some ((0 : Int32), σ20)))))))))))))))
set_option maxHeartbeats 4000000 in
set_option maxRecDepth 100000 in
theorem L_X5_readsPaper_b141 {Γ : Cx} (G : va_G) (cls : Cls) (ad : Nat → Nat) (hi : inj 6 ad) (hC : CX Γ (YM G cls ad) cX5_readsPaper RX5 2 (some .boolean) 2 45) (hz0 : Γ.2.2.2.2.2.1 = 0) (hz1 : Γ.2.2.2.2.2.2 = 0)     (σ : Sg)  : WX Γ (YM G cls ad) (qf Γ (YM G cls ad) fiS) 2 141 [] [] σ (f_X5_readsPaper_b141   σ) := by
  unfold f_X5_readsPaper_b141
  refine X_iconst (v := 1) hC (by decide) dX5_readsPaper_141 ?_
  refine X_goto hC 146 dX5_readsPaper_142 (by decide) ?_
  exact X_zret hC hz0 hz1 rfl dX5_readsPaper_146 rfl
theorem okm_X5_readsPaper : okm yX5_readsPaper 0 = true := by decide +kernel
set_option maxHeartbeats 4000000 in
set_option maxRecDepth 100000 in
theorem c_X5_readsPaper (l : Launch) (G : va_G) (cls : Cls) (ad : Nat → Nat) (hi : inj 6 ad) (σ : Sg)    : MT l (YM G cls ad) yX5_readsPaper (.code yX5_readsPaper cX5_readsPaper 2 (some .boolean) :: gw) 2 45 [.ref (ad 0)] fiS σ (f_X5_readsPaper σ  ) := by
  refine MT.of (own := RX5) (by decide) (YM_D hi) rfl (Nat.le_of_ble_eq_true rfl) fun Γ _ hz0 hz1 hC => ?_
  show WX Γ (YM G cls ad) (qf Γ (YM G cls ad) fiS) 2 0 [(0, .ref (ad 0))] [] σ (f_X5_readsPaper σ  )
  unfold f_X5_readsPaper
  refine X_iconst (v := 3) hC (by decide) dX5_readsPaper_0 ?_
  refine X_aload_n hC 0 rfl dX5_readsPaper_1 ?_
  refine X_getf (C := RX5) (T := TX5) (N := 16) (ci := 5) hC 14 (wM (k := 0) (by omega) cM_ob) rfl hinX5 (by decide) tw_499 rfl rfl dX5_readsPaper_2 ?_
  refine X_imul hC dX5_readsPaper_5 ?_
  refine X_lt (fun x1 => ?_)
  refine X_istore_n (ls' := [(1, .int x1), (0, .ref (ad 0))]) hC dX5_readsPaper_6 (by decide) rfl ?_
  refine X_aload_n hC 1 rfl dX5_readsPaper_7 ?_
  refine X_getf (C := RX5) (T := TX5) (N := 16) (ci := 5) hC 15 (wM (k := 0) (by omega) cM_ob) rfl hinX5 (by decide) tw_500 rfl rfl dX5_readsPaper_8 ?_
  refine X_iload_n hC 0 rfl dX5_readsPaper_11 ?_
  refine X_aload_n hC 1 rfl dX5_readsPaper_12 ?_
  refine X_iconst (v := 2) hC (by decide) dX5_readsPaper_13 ?_
  refine X_callS (C := RX5) (T := TX5) (N := 16) (ci := 5) (rest := [.int x1, .ref (ad 5)]) hC (c_X5_number _ G cls ad hi σ (2 : Int32)) (gV tw_674 tw_676 ts_24 tw_7 tw_677) rfl (wM (k := 0) (by omega) cM_ob) rfl rfl okm_X5_number (by decide) dX5_readsPaper_14 rfl (Nat.le_of_ble_eq_true rfl) (fun q27 => X_lts fun σ3 => X_lt fun r2 => ?_)
  refine X_iast hC (wM (k := 5) (by omega) cM_readPaper) (t0 := 0) rfl (aM_readPaper _) dX5_readsPaper_17 (X_lts fun σ4 => ?_)
  refine X_aload_n hC 1 rfl dX5_readsPaper_18 ?_
  refine X_getf (C := RX5) (T := TX5) (N := 16) (ci := 5) hC 15 (wM (k := 0) (by omega) cM_ob) rfl hinX5 (by decide) tw_500 rfl rfl dX5_readsPaper_19 ?_
  refine X_iload_n hC 0 rfl dX5_readsPaper_22 ?_
  refine X_iald hC (wM (k := 5) (by omega) cM_readPaper) (t0 := 0) rfl dX5_readsPaper_23 ?_
  refine X_ldc (v := -10000005) hC tw_564 dX5_readsPaper_24 ?_
  refine X_icmp_eq hC 38 dX5_readsPaper_26 (by decide) (fun h5 => ?_) (fun h5 => ?_)
  · refine X_iconst (v := 0) hC (by decide) dX5_readsPaper_38 ?_
    exact X_zret hC hz0 hz1 rfl dX5_readsPaper_39 rfl
  · refine X_aload_n hC 1 rfl dX5_readsPaper_29 ?_
    refine X_bipush (v := 47) hC (by decide) dX5_readsPaper_30 ?_
    refine X_callS (C := RX5) (T := TX5) (N := 16) (ci := 5) (rest := []) hC (c_X5_takes _ G cls ad hi σ4 (47 : Int32)) (gV tw_678 tw_680 ts_25 tw_7 tw_681) rfl (wM (k := 0) (by omega) cM_ob) rfl rfl okm_X5_takes (by decide) dX5_readsPaper_32 rfl (Nat.le_of_ble_eq_true rfl) (fun q26 => X_lts fun σ7 => X_lt fun r6 => ?_)
    refine X_if_ne hC 40 dX5_readsPaper_35 (by decide) (fun h8 => ?_) (fun h8 => ?_)
    · refine X_aload_n hC 1 rfl dX5_readsPaper_40 ?_
      refine X_getf (C := RX5) (T := TX5) (N := 16) (ci := 5) hC 15 (wM (k := 0) (by omega) cM_ob) rfl hinX5 (by decide) tw_500 rfl rfl dX5_readsPaper_41 ?_
      refine X_iload_n hC 0 rfl dX5_readsPaper_44 ?_
      refine X_iconst (v := 1) hC (by decide) dX5_readsPaper_45 ?_
      refine X_iadd hC dX5_readsPaper_46 ?_
      refine X_aload_n hC 1 rfl dX5_readsPaper_47 ?_
      refine X_iconst (v := 2) hC (by decide) dX5_readsPaper_48 ?_
      refine X_callS (C := RX5) (T := TX5) (N := 16) (ci := 5) (rest := [.int (x1 + (1 : Int32)), .ref (ad 5)]) hC (c_X5_number _ G cls ad hi σ7 (2 : Int32)) (gV tw_674 tw_676 ts_24 tw_7 tw_677) rfl (wM (k := 0) (by omega) cM_ob) rfl rfl okm_X5_number (by decide) dX5_readsPaper_49 rfl (Nat.le_of_ble_eq_true rfl) (fun q25 => X_lts fun σ10 => X_lt fun r9 => ?_)
      refine X_iast hC (wM (k := 5) (by omega) cM_readPaper) (t0 := 0) rfl (aM_readPaper _) dX5_readsPaper_52 (X_lts fun σ11 => ?_)
      refine X_aload_n hC 1 rfl dX5_readsPaper_53 ?_
      refine X_getf (C := RX5) (T := TX5) (N := 16) (ci := 5) hC 15 (wM (k := 0) (by omega) cM_ob) rfl hinX5 (by decide) tw_500 rfl rfl dX5_readsPaper_54 ?_
      refine X_iload_n hC 0 rfl dX5_readsPaper_57 ?_
      refine X_iconst (v := 1) hC (by decide) dX5_readsPaper_58 ?_
      refine X_iadd hC dX5_readsPaper_59 ?_
      refine X_iald hC (wM (k := 5) (by omega) cM_readPaper) (t0 := 0) rfl dX5_readsPaper_60 ?_
      refine X_ldc (v := -10000005) hC tw_564 dX5_readsPaper_61 ?_
      refine X_icmp_eq hC 75 dX5_readsPaper_63 (by decide) (fun h12 => ?_) (fun h12 => ?_)
      · refine X_iconst (v := 0) hC (by decide) dX5_readsPaper_75 ?_
        exact X_zret hC hz0 hz1 rfl dX5_readsPaper_76 rfl
      · refine X_aload_n hC 1 rfl dX5_readsPaper_66 ?_
        refine X_bipush (v := 64) hC (by decide) dX5_readsPaper_67 ?_
        refine X_callS (C := RX5) (T := TX5) (N := 16) (ci := 5) (rest := []) hC (c_X5_takes _ G cls ad hi σ11 (64 : Int32)) (gV tw_678 tw_680 ts_25 tw_7 tw_681) rfl (wM (k := 0) (by omega) cM_ob) rfl rfl okm_X5_takes (by decide) dX5_readsPaper_69 rfl (Nat.le_of_ble_eq_true rfl) (fun q24 => X_lts fun σ14 => X_lt fun r13 => ?_)
        refine X_if_ne hC 77 dX5_readsPaper_72 (by decide) (fun h15 => ?_) (fun h15 => ?_)
        · refine X_aload_n hC 1 rfl dX5_readsPaper_77 ?_
          refine X_getf (C := RX5) (T := TX5) (N := 16) (ci := 5) hC 15 (wM (k := 0) (by omega) cM_ob) rfl hinX5 (by decide) tw_500 rfl rfl dX5_readsPaper_78 ?_
          refine X_iload_n hC 0 rfl dX5_readsPaper_81 ?_
          refine X_iconst (v := 2) hC (by decide) dX5_readsPaper_82 ?_
          refine X_iadd hC dX5_readsPaper_83 ?_
          refine X_aload_n hC 1 rfl dX5_readsPaper_84 ?_
          refine X_bipush (v := 6) hC (by decide) dX5_readsPaper_85 ?_
          refine X_callS (C := RX5) (T := TX5) (N := 16) (ci := 5) (rest := [.int (x1 + (2 : Int32)), .ref (ad 5)]) hC (c_X5_number _ G cls ad hi σ14 (6 : Int32)) (gV tw_674 tw_676 ts_24 tw_7 tw_677) rfl (wM (k := 0) (by omega) cM_ob) rfl rfl okm_X5_number (by decide) dX5_readsPaper_87 rfl (Nat.le_of_ble_eq_true rfl) (fun q23 => X_lts fun σ17 => X_lt fun r16 => ?_)
          refine X_iast hC (wM (k := 5) (by omega) cM_readPaper) (t0 := 0) rfl (aM_readPaper _) dX5_readsPaper_90 (X_lts fun σ18 => ?_)
          refine X_aload_n hC 1 rfl dX5_readsPaper_91 ?_
          refine X_getf (C := RX5) (T := TX5) (N := 16) (ci := 5) hC 15 (wM (k := 0) (by omega) cM_ob) rfl hinX5 (by decide) tw_500 rfl rfl dX5_readsPaper_92 ?_
          refine X_iload_n hC 0 rfl dX5_readsPaper_95 ?_
          refine X_iconst (v := 2) hC (by decide) dX5_readsPaper_96 ?_
          refine X_iadd hC dX5_readsPaper_97 ?_
          refine X_iald hC (wM (k := 5) (by omega) cM_readPaper) (t0 := 0) rfl dX5_readsPaper_98 ?_
          refine X_ldc (v := -10000005) hC tw_564 dX5_readsPaper_99 ?_
          refine X_icmp_ne hC 106 dX5_readsPaper_101 (by decide) (fun h19 => ?_) (fun h19 => ?_)
          · refine X_aload_n hC 1 rfl dX5_readsPaper_106 ?_
            refine X_dup hC rfl dX5_readsPaper_107 ?_
            refine X_getf (C := RX5) (T := TX5) (N := 16) (ci := 5) hC 14 (wM (k := 0) (by omega) cM_ob) rfl hinX5 (by decide) tw_499 rfl rfl dX5_readsPaper_108 ?_
            refine X_iconst (v := 1) hC (by decide) dX5_readsPaper_111 ?_
            refine X_iadd hC dX5_readsPaper_112 ?_
            refine X_putf (C := RX5) (T := TX5) (N := 16) (ci := 5) (ty := .int) hC 14 (wM (k := 0) (by omega) cM_ob) rfl hinX5 tyX5_ok nmX5 (by decide) tw_499 rfl rfl (by decide +kernel) rfl rfl (Nat.le_of_ble_eq_true rfl) (sM_readMany _) dX5_readsPaper_113 (X_lts fun σ20 => ?_)
            refine X_aload_n hC 1 rfl dX5_readsPaper_116 ?_
            refine X_getf (C := RX5) (T := TX5) (N := 16) (ci := 5) hC 13 (wM (k := 0) (by omega) cM_ob) rfl hinX5 (by decide) tw_498 rfl rfl dX5_readsPaper_117 ?_
            refine X_aload_n hC 1 rfl dX5_readsPaper_120 ?_
            refine X_getf (C := RX5) (T := TX5) (N := 16) (ci := 5) hC 11 (wM (k := 0) (by omega) cM_ob) rfl hinX5 (by decide) tw_496 rfl rfl dX5_readsPaper_121 ?_
            refine X_icmp_eq hC 141 dX5_readsPaper_124 (by decide) (fun h21 => ?_) (fun h21 => ?_)
            · exact X_sub [] rfl (L_X5_readsPaper_b141 G cls ad hi hC hz0 hz1 σ20)
            · refine X_aload_n hC 1 rfl dX5_readsPaper_127 ?_
              refine X_getf (C := RX5) (T := TX5) (N := 16) (ci := 5) hC 12 (wM (k := 0) (by omega) cM_ob) rfl hinX5 (by decide) tw_497 rfl rfl dX5_readsPaper_128 ?_
              refine X_aload_n hC 1 rfl dX5_readsPaper_131 ?_
              refine X_getf (C := RX5) (T := TX5) (N := 16) (ci := 5) hC 13 (wM (k := 0) (by omega) cM_ob) rfl hinX5 (by decide) tw_498 rfl rfl dX5_readsPaper_132 ?_
              refine X_cald hC (wM (k := 4) (by omega) cM_text) (t0 := 1) rfl dX5_readsPaper_135 ?_
              refine X_bipush (v := 59) hC (by decide) dX5_readsPaper_136 ?_
              refine X_icmp_ne hC 145 dX5_readsPaper_138 (by decide) (fun h22 => ?_) (fun h22 => ?_)
              · refine X_iconst (v := 0) hC (by decide) dX5_readsPaper_145 ?_
                exact X_zret hC hz0 hz1 rfl dX5_readsPaper_146 rfl
              · exact X_sub [] rfl (L_X5_readsPaper_b141 G cls ad hi hC hz0 hz1 σ20)
          · refine X_iconst (v := 0) hC (by decide) dX5_readsPaper_104 ?_
            exact X_zret hC hz0 hz1 rfl dX5_readsPaper_105 rfl
        · refine X_iconst (v := 0) hC (by decide) dX5_readsPaper_75 ?_
          exact X_zret hC hz0 hz1 rfl dX5_readsPaper_76 rfl
    · refine X_iconst (v := 0) hC (by decide) dX5_readsPaper_38 ?_
      exact X_zret hC hz0 hz1 rfl dX5_readsPaper_39 rfl
theorem dX5_readPapers_0 : decode cX5_readPapers 0 = .ok (.aload_n 0, 1) := by decide +kernel
theorem dX5_readPapers_1 : decode cX5_readPapers 1 = .ok (.iconst 0, 1) := by decide +kernel
theorem dX5_readPapers_2 : decode cX5_readPapers 2 = .ok (.putfield 124, 3) := by decide +kernel
theorem dX5_readPapers_5 : decode cX5_readPapers 5 = .ok (.aload_n 0, 1) := by decide +kernel
theorem dX5_readPapers_6 : decode cX5_readPapers 6 = .ok (.iconst 0, 1) := by decide +kernel
theorem dX5_readPapers_7 : decode cX5_readPapers 7 = .ok (.putfield 127, 3) := by decide +kernel
theorem dX5_readPapers_10 : decode cX5_readPapers 10 = .ok (.iconst 1, 1) := by decide +kernel
theorem dX5_readPapers_11 : decode cX5_readPapers 11 = .ok (.istore_n 1, 1) := by decide +kernel
theorem dX5_readPapers_12 : decode cX5_readPapers 12 = .ok (.iload_n 1, 1) := by decide +kernel
theorem dX5_readPapers_13 : decode cX5_readPapers 13 = .ok (.ifCond .eq 56, 3) := by decide +kernel
theorem dX5_readPapers_16 : decode cX5_readPapers 16 = .ok (.aload_n 0, 1) := by decide +kernel
theorem dX5_readPapers_17 : decode cX5_readPapers 17 = .ok (.invokevirtual 137, 3) := by decide +kernel
theorem dX5_readPapers_20 : decode cX5_readPapers 20 = .ok (.ifCond .ne 11, 3) := by decide +kernel
theorem dX5_readPapers_23 : decode cX5_readPapers 23 = .ok (.bipush (-100), 2) := by decide +kernel
theorem dX5_readPapers_25 : decode cX5_readPapers 25 = .ok (.aload_n 0, 1) := by decide +kernel
theorem dX5_readPapers_26 : decode cX5_readPapers 26 = .ok (.getfield 124, 3) := by decide +kernel
theorem dX5_readPapers_29 : decode cX5_readPapers 29 = .ok (.isub, 1) := by decide +kernel
theorem dX5_readPapers_30 : decode cX5_readPapers 30 = .ok (.ireturn, 1) := by decide +kernel
theorem dX5_readPapers_31 : decode cX5_readPapers 31 = .ok (.aload_n 0, 1) := by decide +kernel
theorem dX5_readPapers_32 : decode cX5_readPapers 32 = .ok (.getfield 124, 3) := by decide +kernel
theorem dX5_readPapers_35 : decode cX5_readPapers 35 = .ok (.aload_n 0, 1) := by decide +kernel
theorem dX5_readPapers_36 : decode cX5_readPapers 36 = .ok (.getfield 121, 3) := by decide +kernel
theorem dX5_readPapers_39 : decode cX5_readPapers 39 = .ok (.if_icmp .ge 7, 3) := by decide +kernel
theorem dX5_readPapers_42 : decode cX5_readPapers 42 = .ok (.iconst 1, 1) := by decide +kernel
theorem dX5_readPapers_43 : decode cX5_readPapers 43 = .ok (.goto 4, 3) := by decide +kernel
theorem dX5_readPapers_46 : decode cX5_readPapers 46 = .ok (.iconst 0, 1) := by decide +kernel
theorem dX5_readPapers_47 : decode cX5_readPapers 47 = .ok (.istore_n 1, 1) := by decide +kernel
theorem dX5_readPapers_48 : decode cX5_readPapers 48 = .ok (.aload_n 0, 1) := by decide +kernel
theorem dX5_readPapers_49 : decode cX5_readPapers 49 = .ok (.dup, 1) := by decide +kernel
theorem dX5_readPapers_50 : decode cX5_readPapers 50 = .ok (.getfield 124, 3) := by decide +kernel
theorem dX5_readPapers_53 : decode cX5_readPapers 53 = .ok (.iload_n 1, 1) := by decide +kernel
theorem dX5_readPapers_54 : decode cX5_readPapers 54 = .ok (.ifCond .eq 7, 3) := by decide +kernel
theorem dX5_readPapers_57 : decode cX5_readPapers 57 = .ok (.iconst 1, 1) := by decide +kernel
theorem dX5_readPapers_58 : decode cX5_readPapers 58 = .ok (.goto 4, 3) := by decide +kernel
theorem dX5_readPapers_61 : decode cX5_readPapers 61 = .ok (.iconst 0, 1) := by decide +kernel
theorem dX5_readPapers_62 : decode cX5_readPapers 62 = .ok (.iadd, 1) := by decide +kernel
theorem dX5_readPapers_63 : decode cX5_readPapers 63 = .ok (.putfield 124, 3) := by decide +kernel
theorem dX5_readPapers_66 : decode cX5_readPapers 66 = .ok (.goto (-54), 3) := by decide +kernel
theorem dX5_readPapers_69 : decode cX5_readPapers 69 = .ok (.iconst 0, 1) := by decide +kernel
theorem dX5_readPapers_70 : decode cX5_readPapers 70 = .ok (.istore_n 2, 1) := by decide +kernel
theorem dX5_readPapers_71 : decode cX5_readPapers 71 = .ok (.iload_n 2, 1) := by decide +kernel
theorem dX5_readPapers_72 : decode cX5_readPapers 72 = .ok (.aload_n 0, 1) := by decide +kernel
theorem dX5_readPapers_73 : decode cX5_readPapers 73 = .ok (.getfield 127, 3) := by decide +kernel
theorem dX5_readPapers_76 : decode cX5_readPapers 76 = .ok (.if_icmp .ge 44, 3) := by decide +kernel
theorem dX5_readPapers_79 : decode cX5_readPapers 79 = .ok (.aload_n 0, 1) := by decide +kernel
theorem dX5_readPapers_80 : decode cX5_readPapers 80 = .ok (.aload_n 0, 1) := by decide +kernel
theorem dX5_readPapers_81 : decode cX5_readPapers 81 = .ok (.getfield 23, 3) := by decide +kernel
theorem dX5_readPapers_84 : decode cX5_readPapers 84 = .ok (.iconst 3, 1) := by decide +kernel
theorem dX5_readPapers_85 : decode cX5_readPapers 85 = .ok (.iload_n 2, 1) := by decide +kernel
theorem dX5_readPapers_86 : decode cX5_readPapers 86 = .ok (.imul, 1) := by decide +kernel
theorem dX5_readPapers_87 : decode cX5_readPapers 87 = .ok (.iaload, 1) := by decide +kernel
theorem dX5_readPapers_88 : decode cX5_readPapers 88 = .ok (.invokevirtual 61, 3) := by decide +kernel
theorem dX5_readPapers_91 : decode cX5_readPapers 91 = .ok (.ifCond .ne 20, 3) := by decide +kernel
theorem dX5_readPapers_94 : decode cX5_readPapers 94 = .ok (.aload_n 0, 1) := by decide +kernel
theorem dX5_readPapers_95 : decode cX5_readPapers 95 = .ok (.aload_n 0, 1) := by decide +kernel
theorem dX5_readPapers_96 : decode cX5_readPapers 96 = .ok (.getfield 23, 3) := by decide +kernel
theorem dX5_readPapers_99 : decode cX5_readPapers 99 = .ok (.iconst 3, 1) := by decide +kernel
theorem dX5_readPapers_100 : decode cX5_readPapers 100 = .ok (.iload_n 2, 1) := by decide +kernel
theorem dX5_readPapers_101 : decode cX5_readPapers 101 = .ok (.imul, 1) := by decide +kernel
theorem dX5_readPapers_102 : decode cX5_readPapers 102 = .ok (.iconst 1, 1) := by decide +kernel
theorem dX5_readPapers_103 : decode cX5_readPapers 103 = .ok (.iadd, 1) := by decide +kernel
theorem dX5_readPapers_104 : decode cX5_readPapers 104 = .ok (.iaload, 1) := by decide +kernel
theorem dX5_readPapers_105 : decode cX5_readPapers 105 = .ok (.invokevirtual 43, 3) := by decide +kernel
theorem dX5_readPapers_108 : decode cX5_readPapers 108 = .ok (.ifCond .eq 6, 3) := by decide +kernel
theorem dX5_readPapers_111 : decode cX5_readPapers 111 = .ok (.ldc 47, 2) := by decide +kernel
theorem dX5_readPapers_113 : decode cX5_readPapers 113 = .ok (.ireturn, 1) := by decide +kernel
theorem dX5_readPapers_114 : decode cX5_readPapers 114 = .ok (.iinc 2 1, 3) := by decide +kernel
theorem dX5_readPapers_117 : decode cX5_readPapers 117 = .ok (.goto (-46), 3) := by decide +kernel
theorem dX5_readPapers_120 : decode cX5_readPapers 120 = .ok (.iconst 0, 1) := by decide +kernel
theorem dX5_readPapers_121 : decode cX5_readPapers 121 = .ok (.istore_n 2, 1) := by decide +kernel
theorem dX5_readPapers_122 : decode cX5_readPapers 122 = .ok (.iload_n 2, 1) := by decide +kernel
theorem dX5_readPapers_123 : decode cX5_readPapers 123 = .ok (.aload_n 0, 1) := by decide +kernel
theorem dX5_readPapers_124 : decode cX5_readPapers 124 = .ok (.getfield 127, 3) := by decide +kernel
theorem dX5_readPapers_127 : decode cX5_readPapers 127 = .ok (.if_icmp .ge 39, 3) := by decide +kernel
theorem dX5_readPapers_130 : decode cX5_readPapers 130 = .ok (.aload_n 0, 1) := by decide +kernel
theorem dX5_readPapers_131 : decode cX5_readPapers 131 = .ok (.aload_n 0, 1) := by decide +kernel
theorem dX5_readPapers_132 : decode cX5_readPapers 132 = .ok (.getfield 23, 3) := by decide +kernel
theorem dX5_readPapers_135 : decode cX5_readPapers 135 = .ok (.iconst 3, 1) := by decide +kernel
theorem dX5_readPapers_136 : decode cX5_readPapers 136 = .ok (.iload_n 2, 1) := by decide +kernel
theorem dX5_readPapers_137 : decode cX5_readPapers 137 = .ok (.imul, 1) := by decide +kernel
theorem dX5_readPapers_138 : decode cX5_readPapers 138 = .ok (.iconst 1, 1) := by decide +kernel
theorem dX5_readPapers_139 : decode cX5_readPapers 139 = .ok (.iadd, 1) := by decide +kernel
theorem dX5_readPapers_140 : decode cX5_readPapers 140 = .ok (.iaload, 1) := by decide +kernel
theorem dX5_readPapers_141 : decode cX5_readPapers 141 = .ok (.aload_n 0, 1) := by decide +kernel
theorem dX5_readPapers_142 : decode cX5_readPapers 142 = .ok (.getfield 23, 3) := by decide +kernel
theorem dX5_readPapers_145 : decode cX5_readPapers 145 = .ok (.iconst 3, 1) := by decide +kernel
theorem dX5_readPapers_146 : decode cX5_readPapers 146 = .ok (.iload_n 2, 1) := by decide +kernel
theorem dX5_readPapers_147 : decode cX5_readPapers 147 = .ok (.imul, 1) := by decide +kernel
theorem dX5_readPapers_148 : decode cX5_readPapers 148 = .ok (.iconst 2, 1) := by decide +kernel
theorem dX5_readPapers_149 : decode cX5_readPapers 149 = .ok (.iadd, 1) := by decide +kernel
theorem dX5_readPapers_150 : decode cX5_readPapers 150 = .ok (.iaload, 1) := by decide +kernel
theorem dX5_readPapers_151 : decode cX5_readPapers 151 = .ok (.invokevirtual 94, 3) := by decide +kernel
theorem dX5_readPapers_154 : decode cX5_readPapers 154 = .ok (.ifCond .ne 6, 3) := by decide +kernel
theorem dX5_readPapers_157 : decode cX5_readPapers 157 = .ok (.ldc 38, 2) := by decide +kernel
theorem dX5_readPapers_159 : decode cX5_readPapers 159 = .ok (.ireturn, 1) := by decide +kernel
theorem dX5_readPapers_160 : decode cX5_readPapers 160 = .ok (.iinc 2 1, 3) := by decide +kernel
theorem dX5_readPapers_163 : decode cX5_readPapers 163 = .ok (.goto (-41), 3) := by decide +kernel
theorem dX5_readPapers_166 : decode cX5_readPapers 166 = .ok (.aload_n 0, 1) := by decide +kernel
theorem dX5_readPapers_167 : decode cX5_readPapers 167 = .ok (.getfield 7, 3) := by decide +kernel
theorem dX5_readPapers_170 : decode cX5_readPapers 170 = .ok (.iconst 2, 1) := by decide +kernel
theorem dX5_readPapers_171 : decode cX5_readPapers 171 = .ok (.iaload, 1) := by decide +kernel
theorem dX5_readPapers_172 : decode cX5_readPapers 172 = .ok (.aload_n 0, 1) := by decide +kernel
theorem dX5_readPapers_173 : decode cX5_readPapers 173 = .ok (.getfield 127, 3) := by decide +kernel
theorem dX5_readPapers_176 : decode cX5_readPapers 176 = .ok (.iadd, 1) := by decide +kernel
theorem dX5_readPapers_177 : decode cX5_readPapers 177 = .ok (.bipush 60, 2) := by decide +kernel
theorem dX5_readPapers_179 : decode cX5_readPapers 179 = .ok (.if_icmp .le 6, 3) := by decide +kernel
theorem dX5_readPapers_182 : decode cX5_readPapers 182 = .ok (.ldc 39, 2) := by decide +kernel
theorem dX5_readPapers_184 : decode cX5_readPapers 184 = .ok (.ireturn, 1) := by decide +kernel
theorem dX5_readPapers_185 : decode cX5_readPapers 185 = .ok (.aload_n 0, 1) := by decide +kernel
theorem dX5_readPapers_186 : decode cX5_readPapers 186 = .ok (.invokevirtual 40, 3) := by decide +kernel
theorem dX5_readPapers_189 : decode cX5_readPapers 189 = .ok (.iconst 0, 1) := by decide +kernel
theorem dX5_readPapers_190 : decode cX5_readPapers 190 = .ok (.istore_n 2, 1) := by decide +kernel
theorem dX5_readPapers_191 : decode cX5_readPapers 191 = .ok (.iconst 0, 1) := by decide +kernel
theorem dX5_readPapers_192 : decode cX5_readPapers 192 = .ok (.istore_n 3, 1) := by decide +kernel
theorem dX5_readPapers_193 : decode cX5_readPapers 193 = .ok (.iload_n 3, 1) := by decide +kernel
theorem dX5_readPapers_194 : decode cX5_readPapers 194 = .ok (.aload_n 0, 1) := by decide +kernel
theorem dX5_readPapers_195 : decode cX5_readPapers 195 = .ok (.getfield 127, 3) := by decide +kernel
theorem dX5_readPapers_198 : decode cX5_readPapers 198 = .ok (.if_icmp .ge 44, 3) := by decide +kernel
theorem dX5_readPapers_201 : decode cX5_readPapers 201 = .ok (.iload_n 2, 1) := by decide +kernel
theorem dX5_readPapers_202 : decode cX5_readPapers 202 = .ok (.aload_n 0, 1) := by decide +kernel
theorem dX5_readPapers_203 : decode cX5_readPapers 203 = .ok (.aload_n 0, 1) := by decide +kernel
theorem dX5_readPapers_204 : decode cX5_readPapers 204 = .ok (.getfield 23, 3) := by decide +kernel
theorem dX5_readPapers_207 : decode cX5_readPapers 207 = .ok (.iconst 3, 1) := by decide +kernel
theorem dX5_readPapers_208 : decode cX5_readPapers 208 = .ok (.iload_n 3, 1) := by decide +kernel
theorem dX5_readPapers_209 : decode cX5_readPapers 209 = .ok (.imul, 1) := by decide +kernel
theorem dX5_readPapers_210 : decode cX5_readPapers 210 = .ok (.iaload, 1) := by decide +kernel
theorem dX5_readPapers_211 : decode cX5_readPapers 211 = .ok (.aload_n 0, 1) := by decide +kernel
theorem dX5_readPapers_212 : decode cX5_readPapers 212 = .ok (.getfield 23, 3) := by decide +kernel
theorem dX5_readPapers_215 : decode cX5_readPapers 215 = .ok (.iconst 3, 1) := by decide +kernel
theorem dX5_readPapers_216 : decode cX5_readPapers 216 = .ok (.iload_n 3, 1) := by decide +kernel
theorem dX5_readPapers_217 : decode cX5_readPapers 217 = .ok (.imul, 1) := by decide +kernel
theorem dX5_readPapers_218 : decode cX5_readPapers 218 = .ok (.iconst 1, 1) := by decide +kernel
theorem dX5_readPapers_219 : decode cX5_readPapers 219 = .ok (.iadd, 1) := by decide +kernel
theorem dX5_readPapers_220 : decode cX5_readPapers 220 = .ok (.iaload, 1) := by decide +kernel
theorem dX5_readPapers_221 : decode cX5_readPapers 221 = .ok (.aload_n 0, 1) := by decide +kernel
theorem dX5_readPapers_222 : decode cX5_readPapers 222 = .ok (.getfield 23, 3) := by decide +kernel
theorem dX5_readPapers_225 : decode cX5_readPapers 225 = .ok (.iconst 3, 1) := by decide +kernel
theorem dX5_readPapers_226 : decode cX5_readPapers 226 = .ok (.iload_n 3, 1) := by decide +kernel
theorem dX5_readPapers_227 : decode cX5_readPapers 227 = .ok (.imul, 1) := by decide +kernel
theorem dX5_readPapers_228 : decode cX5_readPapers 228 = .ok (.iconst 2, 1) := by decide +kernel
theorem dX5_readPapers_229 : decode cX5_readPapers 229 = .ok (.iadd, 1) := by decide +kernel
theorem dX5_readPapers_230 : decode cX5_readPapers 230 = .ok (.iaload, 1) := by decide +kernel
theorem dX5_readPapers_231 : decode cX5_readPapers 231 = .ok (.invokevirtual 97, 3) := by decide +kernel
theorem dX5_readPapers_234 : decode cX5_readPapers 234 = .ok (.iadd, 1) := by decide +kernel
theorem dX5_readPapers_235 : decode cX5_readPapers 235 = .ok (.istore_n 2, 1) := by decide +kernel
theorem dX5_readPapers_236 : decode cX5_readPapers 236 = .ok (.iinc 3 1, 3) := by decide +kernel
theorem dX5_readPapers_239 : decode cX5_readPapers 239 = .ok (.goto (-46), 3) := by decide +kernel
theorem dX5_readPapers_242 : decode cX5_readPapers 242 = .ok (.iload_n 2, 1) := by decide +kernel
theorem dX5_readPapers_243 : decode cX5_readPapers 243 = .ok (.ireturn, 1) := by decide +kernel
def f_X5_readPapers_b193    : Nat → Sg → Int32 → Int32 → Option (Int32 × Sg)
  | 0, _, _, _ => none
  | n + 1, σ, v2, v3 => if (σ.1 10) ≤ v3 then (some (v2, σ)) else (gd (inb ((3 : Int32) * v3) 36) (gd (inb (((3 : Int32) * v3) + (1 : Int32)) 36) (gd (inb (((3 : Int32) * v3) + (2 : Int32)) 36) ((f_X5_writes σ (σ.2 4 (ix ((3 : Int32) * v3))) (σ.2 4 (ix (((3 : Int32) * v3) + (1 : Int32)))) (σ.2 4 (ix (((3 : Int32) * v3) + (2 : Int32))))).bind fun q13 => lts q13.2 fun σ10 => lt q13.1 fun r9 => lt (v2 + r9) fun x11 => lt (v3 + (1 : Int32)) fun x12 => (f_X5_readPapers_b193   n) σ10 x11 x12))))
def f_X5_readPapers_b122    : Nat → Sg → Int32 → Option (Int32 × Sg)
  | 0, _, _ => none
  | n + 1, σ, v2 => if (σ.1 10) ≤ v2 then (gd (inb (2 : Int32) 624) (if ((σ.2 0 (ix (2 : Int32))) + (σ.1 10)) ≤ (60 : Int32) then ((f_X5_record σ).bind fun σ7 => f_X5_readPapers_b193 fuel σ7 (0 : Int32) (0 : Int32)) else (some ((-10000003 : Int32), σ)))) else (gd (inb (((3 : Int32) * v2) + (1 : Int32)) 36) (gd (inb (((3 : Int32) * v2) + (2 : Int32)) 36) ((f_X5_isSetting σ (σ.2 4 (ix (((3 : Int32) * v2) + (1 : Int32)))) (σ.2 4 (ix (((3 : Int32) * v2) + (2 : Int32))))).bind fun r14 => if r14 = 0 then (some ((-10000002 : Int32), σ)) else (lt (v2 + (1 : Int32)) fun x16 => (f_X5_readPapers_b122   n) σ x16))))
def f_X5_readPapers_b71    : Nat → Sg → Int32 → Option (Int32 × Sg)
  | 0, _, _ => none
  | n + 1, σ, v2 => if (σ.1 10) ≤ v2 then (f_X5_readPapers_b122 fuel σ (0 : Int32)) else (gd (inb ((3 : Int32) * v2) 36) ((f_X5_noScholar σ (σ.2 4 (ix ((3 : Int32) * v2)))).bind fun r17 => if r17 = 0 then (gd (inb (((3 : Int32) * v2) + (1 : Int32)) 36) ((f_X5_noTool σ (σ.2 4 (ix (((3 : Int32) * v2) + (1 : Int32))))).bind fun r19 => if r19 = 0 then (lt (v2 + (1 : Int32)) fun x21 => (f_X5_readPapers_b71   n) σ x21) else (some ((-10000001 : Int32), σ)))) else (some ((-10000001 : Int32), σ))))
def f_X5_readPapers_b62   (K12 : Sg → Int32 → Option (Int32 × Sg)) (σ : Sg) (v1 w0 w1 : Int32) : Option (Int32 × Sg) := lts (s1 σ 9 (w1 + w0)) fun σ27 => K12 σ27 v1
def f_X5_readPapers_b47   (K12 : Sg → Int32 → Option (Int32 × Sg)) (σ : Sg) (w0 : Int32) : Option (Int32 × Sg) := if w0 = 0 then (f_X5_readPapers_b62 K12 σ w0 (0 : Int32) (σ.1 9)) else (f_X5_readPapers_b62 K12 σ w0 (1 : Int32) (σ.1 9))
def f_X5_readPapers_b12    : Nat → Sg → Int32 → Option (Int32 × Sg)
  | 0, _, _ => none
  | n + 1, σ, v1 => if v1 = 0 then (f_X5_readPapers_b71 fuel σ (0 : Int32)) else ((f_X5_readsPaper σ).bind fun q28 => lts q28.2 fun σ23 => lt q28.1 fun r22 => if r22 = 0 then (some (((-100 : Int32) - (σ23.1 9)), σ23)) else (if (σ23.1 8) ≤ (σ23.1 9) then (f_X5_readPapers_b47 (f_X5_readPapers_b12   n) σ23 (0 : Int32)) else (f_X5_readPapers_b47 (f_X5_readPapers_b12   n) σ23 (1 : Int32))))
def f_X5_readPapers (σ : Sg)   : Option (Int32 × Sg) := lts (s1 σ 9 (0 : Int32)) fun σ1 => lts (s1 σ1 10 (0 : Int32)) fun σ2 => f_X5_readPapers_b12 fuel σ2 (1 : Int32)
set_option maxHeartbeats 4000000 in
set_option maxRecDepth 100000 in
theorem L_X5_readPapers_b193 {Γ : Cx} (G : va_G) (cls : Cls) (ad : Nat → Nat) (hi : inj 6 ad) (hC : CX Γ (YM G cls ad) cX5_readPapers RX5 4 (some .int) 5 125) (hz0 : Γ.2.2.2.2.2.1 = 0) (hz1 : Γ.2.2.2.2.2.2 = 0)     : ∀ (n : Nat) (σ : Sg) (v2 v3 : Int32), WX Γ (YM G cls ad) (qf Γ (YM G cls ad) fiS) 4 193 [(0, .ref (ad 0)), (2, .int v2), (3, .int v3)] [] σ (f_X5_readPapers_b193   n σ v2 v3) := by
  intro n
  induction n with
  | zero => intro σ v2 v3; exact X_none
  | succ n ih =>
    intro σ v2 v3
    rw [f_X5_readPapers_b193.eq_2]
    refine X_iload_n hC 2 rfl dX5_readPapers_193 ?_
    refine X_aload_n hC 0 rfl dX5_readPapers_194 ?_
    refine X_getf (C := RX5) (T := TX5) (N := 16) (ci := 5) hC 14 (wM (k := 0) (by omega) cM_ob) rfl hinX5 (by decide) tw_499 rfl rfl dX5_readPapers_195 ?_
    refine X_icmp_ge hC 242 dX5_readPapers_198 (by decide) (fun h8 => ?_) (fun h8 => ?_)
    · refine X_iload_n hC 1 rfl dX5_readPapers_242 ?_
      exact X_iret hC hz0 hz1 dX5_readPapers_243 rfl
    · refine X_iload_n hC 1 rfl dX5_readPapers_201 ?_
      refine X_aload_n hC 0 rfl dX5_readPapers_202 ?_
      refine X_aload_n hC 0 rfl dX5_readPapers_203 ?_
      refine X_getf (C := RX5) (T := TX5) (N := 16) (ci := 5) hC 15 (wM (k := 0) (by omega) cM_ob) rfl hinX5 (by decide) tw_500 rfl rfl dX5_readPapers_204 ?_
      refine X_iconst (v := 3) hC (by decide) dX5_readPapers_207 ?_
      refine X_iload_n hC 2 rfl dX5_readPapers_208 ?_
      refine X_imul hC dX5_readPapers_209 ?_
      refine X_iald hC (wM (k := 5) (by omega) cM_readPaper) (t0 := 0) rfl dX5_readPapers_210 ?_
      refine X_aload_n hC 0 rfl dX5_readPapers_211 ?_
      refine X_getf (C := RX5) (T := TX5) (N := 16) (ci := 5) hC 15 (wM (k := 0) (by omega) cM_ob) rfl hinX5 (by decide) tw_500 rfl rfl dX5_readPapers_212 ?_
      refine X_iconst (v := 3) hC (by decide) dX5_readPapers_215 ?_
      refine X_iload_n hC 2 rfl dX5_readPapers_216 ?_
      refine X_imul hC dX5_readPapers_217 ?_
      refine X_iconst (v := 1) hC (by decide) dX5_readPapers_218 ?_
      refine X_iadd hC dX5_readPapers_219 ?_
      refine X_iald hC (wM (k := 5) (by omega) cM_readPaper) (t0 := 0) rfl dX5_readPapers_220 ?_
      refine X_aload_n hC 0 rfl dX5_readPapers_221 ?_
      refine X_getf (C := RX5) (T := TX5) (N := 16) (ci := 5) hC 15 (wM (k := 0) (by omega) cM_ob) rfl hinX5 (by decide) tw_500 rfl rfl dX5_readPapers_222 ?_
      refine X_iconst (v := 3) hC (by decide) dX5_readPapers_225 ?_
      refine X_iload_n hC 2 rfl dX5_readPapers_226 ?_
      refine X_imul hC dX5_readPapers_227 ?_
      refine X_iconst (v := 2) hC (by decide) dX5_readPapers_228 ?_
      refine X_iadd hC dX5_readPapers_229 ?_
      refine X_iald hC (wM (k := 5) (by omega) cM_readPaper) (t0 := 0) rfl dX5_readPapers_230 ?_
      refine X_callS (C := RX5) (T := TX5) (N := 16) (ci := 5) (rest := [.int v2]) hC (c_X5_writes _ G cls ad hi σ (σ.2 4 (ix ((3 : Int32) * v3))) (σ.2 4 (ix (((3 : Int32) * v3) + (1 : Int32)))) (σ.2 4 (ix (((3 : Int32) * v3) + (2 : Int32))))) (gV tw_605 tw_607 ts_13 tw_7 tw_608) rfl (wM (k := 0) (by omega) cM_ob) rfl rfl okm_X5_writes (by decide) dX5_readPapers_231 rfl (Nat.le_of_ble_eq_true rfl) (fun q13 => X_lts fun σ10 => X_lt fun r9 => ?_)
      refine X_iadd hC dX5_readPapers_234 ?_
      refine X_lt (fun x11 => ?_)
      refine X_istore_n (ls' := [(2, .int x11), (0, .ref (ad 0)), (3, .int v3)]) hC dX5_readPapers_235 (by decide) rfl ?_
      refine X_iinc (ls' := fun x12 => [(3, .int x12), (2, .int x11), (0, .ref (ad 0))]) hC 2 dX5_readPapers_236 rfl (by decide) (by decide) (fun _ => rfl) (fun x12 => ?_)
      refine X_goto hC 193 dX5_readPapers_239 (by decide) ?_
      exact X_sub [2, 1, 0] rfl (ih σ10 x11 x12)
set_option maxHeartbeats 4000000 in
set_option maxRecDepth 100000 in
theorem L_X5_readPapers_b122 {Γ : Cx} (G : va_G) (cls : Cls) (ad : Nat → Nat) (hi : inj 6 ad) (hC : CX Γ (YM G cls ad) cX5_readPapers RX5 4 (some .int) 5 125) (hz0 : Γ.2.2.2.2.2.1 = 0) (hz1 : Γ.2.2.2.2.2.2 = 0)     : ∀ (n : Nat) (σ : Sg) (v2 : Int32), WX Γ (YM G cls ad) (qf Γ (YM G cls ad) fiS) 4 122 [(0, .ref (ad 0)), (2, .int v2)] [] σ (f_X5_readPapers_b122   n σ v2) := by
  intro n
  induction n with
  | zero => intro σ v2; exact X_none
  | succ n ih =>
    intro σ v2
    rw [f_X5_readPapers_b122.eq_2]
    refine X_iload_n hC 1 rfl dX5_readPapers_122 ?_
    refine X_aload_n hC 0 rfl dX5_readPapers_123 ?_
    refine X_getf (C := RX5) (T := TX5) (N := 16) (ci := 5) hC 14 (wM (k := 0) (by omega) cM_ob) rfl hinX5 (by decide) tw_499 rfl rfl dX5_readPapers_124 ?_
    refine X_icmp_ge hC 166 dX5_readPapers_127 (by decide) (fun h5 => ?_) (fun h5 => ?_)
    · refine X_aload_n hC 0 rfl dX5_readPapers_166 ?_
      refine X_getf (C := RX5) (T := TX5) (N := 16) (ci := 5) hC 0 (wM (k := 0) (by omega) cM_ob) rfl hinX5 (by decide) tw_485 rfl rfl dX5_readPapers_167 ?_
      refine X_iconst (v := 2) hC (by decide) dX5_readPapers_170 ?_
      refine X_iald hC (wM (k := 1) (by omega) cM_now) (t0 := 0) rfl dX5_readPapers_171 ?_
      refine X_aload_n hC 0 rfl dX5_readPapers_172 ?_
      refine X_getf (C := RX5) (T := TX5) (N := 16) (ci := 5) hC 14 (wM (k := 0) (by omega) cM_ob) rfl hinX5 (by decide) tw_499 rfl rfl dX5_readPapers_173 ?_
      refine X_iadd hC dX5_readPapers_176 ?_
      refine X_bipush (v := 60) hC (by decide) dX5_readPapers_177 ?_
      refine X_icmp_le hC 185 dX5_readPapers_179 (by decide) (fun h6 => ?_) (fun h6 => ?_)
      · refine X_aload_n hC 0 rfl dX5_readPapers_185 ?_
        refine X_callV (C := RX5) (T := TX5) (N := 16) (ci := 5) (rest := []) hC (c_X5_record _ G cls ad hi σ) (gV tw_543 tw_545 ts_6 tw_7 tw_546) rfl (wM (k := 0) (by omega) cM_ob) rfl rfl okm_X5_record (by decide) dX5_readPapers_186 rfl (Nat.le_of_ble_eq_true rfl) (fun σ7 => ?_)
        refine X_iconst (v := 0) hC (by decide) dX5_readPapers_189 ?_
        refine X_istore_n (ls' := [(2, .int (0 : Int32)), (0, .ref (ad 0))]) hC dX5_readPapers_190 (by decide) rfl ?_
        refine X_iconst (v := 0) hC (by decide) dX5_readPapers_191 ?_
        refine X_istore_n (ls' := [(3, .int (0 : Int32)), (2, .int (0 : Int32)), (0, .ref (ad 0))]) hC dX5_readPapers_192 (by decide) rfl ?_
        exact X_sub [2, 1, 0] rfl (L_X5_readPapers_b193 G cls ad hi hC hz0 hz1 fuel σ7 (0 : Int32) (0 : Int32))
      · refine X_ldc (v := -10000003) hC tw_542 dX5_readPapers_182 ?_
        exact X_iret hC hz0 hz1 dX5_readPapers_184 rfl
    · refine X_aload_n hC 0 rfl dX5_readPapers_130 ?_
      refine X_aload_n hC 0 rfl dX5_readPapers_131 ?_
      refine X_getf (C := RX5) (T := TX5) (N := 16) (ci := 5) hC 15 (wM (k := 0) (by omega) cM_ob) rfl hinX5 (by decide) tw_500 rfl rfl dX5_readPapers_132 ?_
      refine X_iconst (v := 3) hC (by decide) dX5_readPapers_135 ?_
      refine X_iload_n hC 1 rfl dX5_readPapers_136 ?_
      refine X_imul hC dX5_readPapers_137 ?_
      refine X_iconst (v := 1) hC (by decide) dX5_readPapers_138 ?_
      refine X_iadd hC dX5_readPapers_139 ?_
      refine X_iald hC (wM (k := 5) (by omega) cM_readPaper) (t0 := 0) rfl dX5_readPapers_140 ?_
      refine X_aload_n hC 0 rfl dX5_readPapers_141 ?_
      refine X_getf (C := RX5) (T := TX5) (N := 16) (ci := 5) hC 15 (wM (k := 0) (by omega) cM_ob) rfl hinX5 (by decide) tw_500 rfl rfl dX5_readPapers_142 ?_
      refine X_iconst (v := 3) hC (by decide) dX5_readPapers_145 ?_
      refine X_iload_n hC 1 rfl dX5_readPapers_146 ?_
      refine X_imul hC dX5_readPapers_147 ?_
      refine X_iconst (v := 2) hC (by decide) dX5_readPapers_148 ?_
      refine X_iadd hC dX5_readPapers_149 ?_
      refine X_iald hC (wM (k := 5) (by omega) cM_readPaper) (t0 := 0) rfl dX5_readPapers_150 ?_
      refine X_callP (C := RX5) (T := TX5) (N := 16) (ci := 5) (rest := []) hC (c_X5_isSetting _ G cls ad hi σ (σ.2 4 (ix (((3 : Int32) * v2) + (1 : Int32)))) (σ.2 4 (ix (((3 : Int32) * v2) + (2 : Int32))))) (gV tw_601 tw_603 ts_12 tw_7 tw_604) rfl (wM (k := 0) (by omega) cM_ob) rfl rfl okm_X5_isSetting (by decide) dX5_readPapers_151 rfl (Nat.le_of_ble_eq_true rfl) (fun r14 => ?_)
      refine X_if_ne hC 160 dX5_readPapers_154 (by decide) (fun h15 => ?_) (fun h15 => ?_)
      · refine X_iinc (ls' := fun x16 => [(2, .int x16), (0, .ref (ad 0))]) hC 1 dX5_readPapers_160 rfl (by decide) (by decide) (fun _ => rfl) (fun x16 => ?_)
        refine X_goto hC 122 dX5_readPapers_163 (by decide) ?_
        exact X_sub [1, 0] rfl (ih σ x16)
      · refine X_ldc (v := -10000002) hC tw_541 dX5_readPapers_157 ?_
        exact X_iret hC hz0 hz1 dX5_readPapers_159 rfl
set_option maxHeartbeats 4000000 in
set_option maxRecDepth 100000 in
theorem L_X5_readPapers_b71 {Γ : Cx} (G : va_G) (cls : Cls) (ad : Nat → Nat) (hi : inj 6 ad) (hC : CX Γ (YM G cls ad) cX5_readPapers RX5 4 (some .int) 5 125) (hz0 : Γ.2.2.2.2.2.1 = 0) (hz1 : Γ.2.2.2.2.2.2 = 0)     : ∀ (n : Nat) (σ : Sg) (v2 : Int32), WX Γ (YM G cls ad) (qf Γ (YM G cls ad) fiS) 4 71 [(0, .ref (ad 0)), (2, .int v2)] [] σ (f_X5_readPapers_b71   n σ v2) := by
  intro n
  induction n with
  | zero => intro σ v2; exact X_none
  | succ n ih =>
    intro σ v2
    rw [f_X5_readPapers_b71.eq_2]
    refine X_iload_n hC 1 rfl dX5_readPapers_71 ?_
    refine X_aload_n hC 0 rfl dX5_readPapers_72 ?_
    refine X_getf (C := RX5) (T := TX5) (N := 16) (ci := 5) hC 14 (wM (k := 0) (by omega) cM_ob) rfl hinX5 (by decide) tw_499 rfl rfl dX5_readPapers_73 ?_
    refine X_icmp_ge hC 120 dX5_readPapers_76 (by decide) (fun h4 => ?_) (fun h4 => ?_)
    · refine X_iconst (v := 0) hC (by decide) dX5_readPapers_120 ?_
      refine X_istore_n (ls' := [(2, .int (0 : Int32)), (0, .ref (ad 0))]) hC dX5_readPapers_121 (by decide) rfl ?_
      exact X_sub [1, 0] rfl (L_X5_readPapers_b122 G cls ad hi hC hz0 hz1 fuel σ (0 : Int32))
    · refine X_aload_n hC 0 rfl dX5_readPapers_79 ?_
      refine X_aload_n hC 0 rfl dX5_readPapers_80 ?_
      refine X_getf (C := RX5) (T := TX5) (N := 16) (ci := 5) hC 15 (wM (k := 0) (by omega) cM_ob) rfl hinX5 (by decide) tw_500 rfl rfl dX5_readPapers_81 ?_
      refine X_iconst (v := 3) hC (by decide) dX5_readPapers_84 ?_
      refine X_iload_n hC 1 rfl dX5_readPapers_85 ?_
      refine X_imul hC dX5_readPapers_86 ?_
      refine X_iald hC (wM (k := 5) (by omega) cM_readPaper) (t0 := 0) rfl dX5_readPapers_87 ?_
      refine X_callP (C := RX5) (T := TX5) (N := 16) (ci := 5) (rest := []) hC (c_X5_noScholar _ G cls ad hi σ (σ.2 4 (ix ((3 : Int32) * v2)))) (gV tw_589 tw_591 ts_11 tw_7 tw_592) rfl (wM (k := 0) (by omega) cM_ob) rfl rfl okm_X5_noScholar (by decide) dX5_readPapers_88 rfl (Nat.le_of_ble_eq_true rfl) (fun r17 => ?_)
      refine X_if_ne hC 111 dX5_readPapers_91 (by decide) (fun h18 => ?_) (fun h18 => ?_)
      · refine X_ldc (v := -10000001) hC tw_555 dX5_readPapers_111 ?_
        exact X_iret hC hz0 hz1 dX5_readPapers_113 rfl
      · refine X_aload_n hC 0 rfl dX5_readPapers_94 ?_
        refine X_aload_n hC 0 rfl dX5_readPapers_95 ?_
        refine X_getf (C := RX5) (T := TX5) (N := 16) (ci := 5) hC 15 (wM (k := 0) (by omega) cM_ob) rfl hinX5 (by decide) tw_500 rfl rfl dX5_readPapers_96 ?_
        refine X_iconst (v := 3) hC (by decide) dX5_readPapers_99 ?_
        refine X_iload_n hC 1 rfl dX5_readPapers_100 ?_
        refine X_imul hC dX5_readPapers_101 ?_
        refine X_iconst (v := 1) hC (by decide) dX5_readPapers_102 ?_
        refine X_iadd hC dX5_readPapers_103 ?_
        refine X_iald hC (wM (k := 5) (by omega) cM_readPaper) (t0 := 0) rfl dX5_readPapers_104 ?_
        refine X_callP (C := RX5) (T := TX5) (N := 16) (ci := 5) (rest := []) hC (c_X5_noTool _ G cls ad hi σ (σ.2 4 (ix (((3 : Int32) * v2) + (1 : Int32))))) (gV tw_551 tw_553 ts_7 tw_7 tw_554) rfl (wM (k := 0) (by omega) cM_ob) rfl rfl okm_X5_noTool (by decide) dX5_readPapers_105 rfl (Nat.le_of_ble_eq_true rfl) (fun r19 => ?_)
        refine X_if_eq hC 114 dX5_readPapers_108 (by decide) (fun h20 => ?_) (fun h20 => ?_)
        · refine X_iinc (ls' := fun x21 => [(2, .int x21), (0, .ref (ad 0))]) hC 1 dX5_readPapers_114 rfl (by decide) (by decide) (fun _ => rfl) (fun x21 => ?_)
          refine X_goto hC 71 dX5_readPapers_117 (by decide) ?_
          exact X_sub [1, 0] rfl (ih σ x21)
        · refine X_ldc (v := -10000001) hC tw_555 dX5_readPapers_111 ?_
          exact X_iret hC hz0 hz1 dX5_readPapers_113 rfl
set_option maxHeartbeats 4000000 in
set_option maxRecDepth 100000 in
theorem L_X5_readPapers_b62 {Γ : Cx} (G : va_G) (cls : Cls) (ad : Nat → Nat) (hi : inj 6 ad) (hC : CX Γ (YM G cls ad) cX5_readPapers RX5 4 (some .int) 5 125) (hz0 : Γ.2.2.2.2.2.1 = 0) (hz1 : Γ.2.2.2.2.2.2 = 0)    (K12 : Sg → Int32 → Option (Int32 × Sg)) (hK12 : ∀ (σ : Sg) (v1 : Int32), WX Γ (YM G cls ad) (qf Γ (YM G cls ad) fiS) 4 12 [(0, .ref (ad 0)), (1, .int v1)] [] σ (K12 σ v1)) (σ : Sg) (v1 w0 w1 : Int32) : WX Γ (YM G cls ad) (qf Γ (YM G cls ad) fiS) 4 62 [(0, .ref (ad 0)), (1, .int v1)] [.int w0, .int w1, .ref (ad 0)] σ (f_X5_readPapers_b62  K12 σ v1 w0 w1) := by
  unfold f_X5_readPapers_b62
  refine X_iadd hC dX5_readPapers_62 ?_
  refine X_putf (C := RX5) (T := TX5) (N := 16) (ci := 5) (ty := .int) hC 13 (wM (k := 0) (by omega) cM_ob) rfl hinX5 tyX5_ok nmX5 (by decide) tw_498 rfl rfl (by decide +kernel) rfl rfl (Nat.le_of_ble_eq_true rfl) (sM_at _) dX5_readPapers_63 (X_lts fun σ27 => ?_)
  refine X_goto hC 12 dX5_readPapers_66 (by decide) ?_
  exact (hK12 σ27 v1)
set_option maxHeartbeats 4000000 in
set_option maxRecDepth 100000 in
theorem L_X5_readPapers_b47 {Γ : Cx} (G : va_G) (cls : Cls) (ad : Nat → Nat) (hi : inj 6 ad) (hC : CX Γ (YM G cls ad) cX5_readPapers RX5 4 (some .int) 5 125) (hz0 : Γ.2.2.2.2.2.1 = 0) (hz1 : Γ.2.2.2.2.2.2 = 0)    (K12 : Sg → Int32 → Option (Int32 × Sg)) (hK12 : ∀ (σ : Sg) (v1 : Int32), WX Γ (YM G cls ad) (qf Γ (YM G cls ad) fiS) 4 12 [(0, .ref (ad 0)), (1, .int v1)] [] σ (K12 σ v1)) (σ : Sg) (w0 : Int32) : WX Γ (YM G cls ad) (qf Γ (YM G cls ad) fiS) 4 47 [(0, .ref (ad 0))] [.int w0] σ (f_X5_readPapers_b47  K12 σ w0) := by
  unfold f_X5_readPapers_b47
  refine X_istore_n (ls' := [(1, .int w0), (0, .ref (ad 0))]) hC dX5_readPapers_47 (by decide) rfl ?_
  refine X_aload_n hC 1 rfl dX5_readPapers_48 ?_
  refine X_dup hC rfl dX5_readPapers_49 ?_
  refine X_getf (C := RX5) (T := TX5) (N := 16) (ci := 5) hC 13 (wM (k := 0) (by omega) cM_ob) rfl hinX5 (by decide) tw_498 rfl rfl dX5_readPapers_50 ?_
  refine X_iload_n hC 0 rfl dX5_readPapers_53 ?_
  refine X_if_eq hC 61 dX5_readPapers_54 (by decide) (fun h26 => ?_) (fun h26 => ?_)
  · refine X_iconst (v := 0) hC (by decide) dX5_readPapers_61 ?_
    exact X_sub [1, 0] rfl (L_X5_readPapers_b62 G cls ad hi hC hz0 hz1 K12 hK12 σ w0 (0 : Int32) (σ.1 9))
  · refine X_iconst (v := 1) hC (by decide) dX5_readPapers_57 ?_
    refine X_goto hC 62 dX5_readPapers_58 (by decide) ?_
    exact X_sub [1, 0] rfl (L_X5_readPapers_b62 G cls ad hi hC hz0 hz1 K12 hK12 σ w0 (1 : Int32) (σ.1 9))
set_option maxHeartbeats 4000000 in
set_option maxRecDepth 100000 in
theorem L_X5_readPapers_b12 {Γ : Cx} (G : va_G) (cls : Cls) (ad : Nat → Nat) (hi : inj 6 ad) (hC : CX Γ (YM G cls ad) cX5_readPapers RX5 4 (some .int) 5 125) (hz0 : Γ.2.2.2.2.2.1 = 0) (hz1 : Γ.2.2.2.2.2.2 = 0)     : ∀ (n : Nat) (σ : Sg) (v1 : Int32), WX Γ (YM G cls ad) (qf Γ (YM G cls ad) fiS) 4 12 [(0, .ref (ad 0)), (1, .int v1)] [] σ (f_X5_readPapers_b12   n σ v1) := by
  intro n
  induction n with
  | zero => intro σ v1; exact X_none
  | succ n ih =>
    intro σ v1
    rw [f_X5_readPapers_b12.eq_2]
    refine X_iload_n hC 1 rfl dX5_readPapers_12 ?_
    refine X_if_eq hC 69 dX5_readPapers_13 (by decide) (fun h3 => ?_) (fun h3 => ?_)
    · refine X_iconst (v := 0) hC (by decide) dX5_readPapers_69 ?_
      refine X_istore_n (ls' := [(2, .int (0 : Int32)), (0, .ref (ad 0)), (1, .int v1)]) hC dX5_readPapers_70 (by decide) rfl ?_
      exact X_sub [1, 0] rfl (L_X5_readPapers_b71 G cls ad hi hC hz0 hz1 fuel σ (0 : Int32))
    · refine X_aload_n hC 0 rfl dX5_readPapers_16 ?_
      refine X_callS (C := RX5) (T := TX5) (N := 16) (ci := 5) (rest := []) hC (c_X5_readsPaper _ G cls ad hi σ) (gV tw_670 tw_672 ts_23 tw_7 tw_673) rfl (wM (k := 0) (by omega) cM_ob) rfl rfl okm_X5_readsPaper (by decide) dX5_readPapers_17 rfl (Nat.le_of_ble_eq_true rfl) (fun q28 => X_lts fun σ23 => X_lt fun r22 => ?_)
      refine X_if_ne hC 31 dX5_readPapers_20 (by decide) (fun h24 => ?_) (fun h24 => ?_)
      · refine X_aload_n hC 0 rfl dX5_readPapers_31 ?_
        refine X_getf (C := RX5) (T := TX5) (N := 16) (ci := 5) hC 13 (wM (k := 0) (by omega) cM_ob) rfl hinX5 (by decide) tw_498 rfl rfl dX5_readPapers_32 ?_
        refine X_aload_n hC 0 rfl dX5_readPapers_35 ?_
        refine X_getf (C := RX5) (T := TX5) (N := 16) (ci := 5) hC 11 (wM (k := 0) (by omega) cM_ob) rfl hinX5 (by decide) tw_496 rfl rfl dX5_readPapers_36 ?_
        refine X_icmp_ge hC 46 dX5_readPapers_39 (by decide) (fun h25 => ?_) (fun h25 => ?_)
        · refine X_iconst (v := 0) hC (by decide) dX5_readPapers_46 ?_
          exact X_sub [0] rfl (L_X5_readPapers_b47 G cls ad hi hC hz0 hz1 (f_X5_readPapers_b12   n) ih σ23 (0 : Int32))
        · refine X_iconst (v := 1) hC (by decide) dX5_readPapers_42 ?_
          refine X_goto hC 47 dX5_readPapers_43 (by decide) ?_
          exact X_sub [0] rfl (L_X5_readPapers_b47 G cls ad hi hC hz0 hz1 (f_X5_readPapers_b12   n) ih σ23 (1 : Int32))
      · refine X_bipush (v := -100) hC (by decide) dX5_readPapers_23 ?_
        refine X_aload_n hC 0 rfl dX5_readPapers_25 ?_
        refine X_getf (C := RX5) (T := TX5) (N := 16) (ci := 5) hC 13 (wM (k := 0) (by omega) cM_ob) rfl hinX5 (by decide) tw_498 rfl rfl dX5_readPapers_26 ?_
        refine X_isub hC dX5_readPapers_29 ?_
        exact X_iret hC hz0 hz1 dX5_readPapers_30 rfl
theorem okm_X5_readPapers : okm yX5_readPapers 0 = true := by decide +kernel
set_option maxHeartbeats 4000000 in
set_option maxRecDepth 100000 in
theorem c_X5_readPapers (l : Launch) (G : va_G) (cls : Cls) (ad : Nat → Nat) (hi : inj 6 ad) (σ : Sg)    : MT l (YM G cls ad) yX5_readPapers (.code yX5_readPapers cX5_readPapers 4 (some .int) :: gw) 5 125 [.ref (ad 0)] fiS σ (f_X5_readPapers σ  ) := by
  refine MT.of (own := RX5) (by decide) (YM_D hi) rfl (Nat.le_of_ble_eq_true rfl) fun Γ _ hz0 hz1 hC => ?_
  show WX Γ (YM G cls ad) (qf Γ (YM G cls ad) fiS) 4 0 [(0, .ref (ad 0))] [] σ (f_X5_readPapers σ  )
  unfold f_X5_readPapers
  refine X_aload_n hC 0 rfl dX5_readPapers_0 ?_
  refine X_iconst (v := 0) hC (by decide) dX5_readPapers_1 ?_
  refine X_putf (C := RX5) (T := TX5) (N := 16) (ci := 5) (ty := .int) hC 13 (wM (k := 0) (by omega) cM_ob) rfl hinX5 tyX5_ok nmX5 (by decide) tw_498 rfl rfl (by decide +kernel) rfl rfl (Nat.le_of_ble_eq_true rfl) (sM_at _) dX5_readPapers_2 (X_lts fun σ1 => ?_)
  refine X_aload_n hC 0 rfl dX5_readPapers_5 ?_
  refine X_iconst (v := 0) hC (by decide) dX5_readPapers_6 ?_
  refine X_putf (C := RX5) (T := TX5) (N := 16) (ci := 5) (ty := .int) hC 14 (wM (k := 0) (by omega) cM_ob) rfl hinX5 tyX5_ok nmX5 (by decide) tw_499 rfl rfl (by decide +kernel) rfl rfl (Nat.le_of_ble_eq_true rfl) (sM_readMany _) dX5_readPapers_7 (X_lts fun σ2 => ?_)
  refine X_iconst (v := 1) hC (by decide) dX5_readPapers_10 ?_
  refine X_istore_n (ls' := [(1, .int (1 : Int32)), (0, .ref (ad 0))]) hC dX5_readPapers_11 (by decide) rfl ?_
  exact X_sub [1, 0] rfl (L_X5_readPapers_b12 G cls ad hi hC hz0 hz1 fuel σ2 (1 : Int32))
theorem dX5_undo_0 : decode cX5_undo 0 = .ok (.aload_n 0, 1) := by decide +kernel
theorem dX5_undo_1 : decode cX5_undo 1 = .ok (.getfield 26, 3) := by decide +kernel
theorem dX5_undo_4 : decode cX5_undo 4 = .ok (.ifCond .ne 6, 3) := by decide +kernel
theorem dX5_undo_7 : decode cX5_undo 7 = .ok (.ldc 52, 2) := by decide +kernel
theorem dX5_undo_9 : decode cX5_undo 9 = .ok (.ireturn, 1) := by decide +kernel
theorem dX5_undo_10 : decode cX5_undo 10 = .ok (.aload_n 0, 1) := by decide +kernel
theorem dX5_undo_11 : decode cX5_undo 11 = .ok (.dup, 1) := by decide +kernel
theorem dX5_undo_12 : decode cX5_undo 12 = .ok (.getfield 26, 3) := by decide +kernel
theorem dX5_undo_15 : decode cX5_undo 15 = .ok (.iconst 1, 1) := by decide +kernel
theorem dX5_undo_16 : decode cX5_undo 16 = .ok (.isub, 1) := by decide +kernel
theorem dX5_undo_17 : decode cX5_undo 17 = .ok (.putfield 26, 3) := by decide +kernel
theorem dX5_undo_20 : decode cX5_undo 20 = .ok (.iconst 0, 1) := by decide +kernel
theorem dX5_undo_21 : decode cX5_undo 21 = .ok (.istore_n 1, 1) := by decide +kernel
theorem dX5_undo_22 : decode cX5_undo 22 = .ok (.iload_n 1, 1) := by decide +kernel
theorem dX5_undo_23 : decode cX5_undo 23 = .ok (.sipush 624, 3) := by decide +kernel
theorem dX5_undo_26 : decode cX5_undo 26 = .ok (.if_icmp .ge 30, 3) := by decide +kernel
theorem dX5_undo_29 : decode cX5_undo 29 = .ok (.aload_n 0, 1) := by decide +kernel
theorem dX5_undo_30 : decode cX5_undo 30 = .ok (.getfield 7, 3) := by decide +kernel
theorem dX5_undo_33 : decode cX5_undo 33 = .ok (.iload_n 1, 1) := by decide +kernel
theorem dX5_undo_34 : decode cX5_undo 34 = .ok (.aload_n 0, 1) := by decide +kernel
theorem dX5_undo_35 : decode cX5_undo 35 = .ok (.getfield 13, 3) := by decide +kernel
theorem dX5_undo_38 : decode cX5_undo 38 = .ok (.sipush 624, 3) := by decide +kernel
theorem dX5_undo_41 : decode cX5_undo 41 = .ok (.aload_n 0, 1) := by decide +kernel
theorem dX5_undo_42 : decode cX5_undo 42 = .ok (.getfield 26, 3) := by decide +kernel
theorem dX5_undo_45 : decode cX5_undo 45 = .ok (.imul, 1) := by decide +kernel
theorem dX5_undo_46 : decode cX5_undo 46 = .ok (.iload_n 1, 1) := by decide +kernel
theorem dX5_undo_47 : decode cX5_undo 47 = .ok (.iadd, 1) := by decide +kernel
theorem dX5_undo_48 : decode cX5_undo 48 = .ok (.iaload, 1) := by decide +kernel
theorem dX5_undo_49 : decode cX5_undo 49 = .ok (.iastore, 1) := by decide +kernel
theorem dX5_undo_50 : decode cX5_undo 50 = .ok (.iinc 1 1, 3) := by decide +kernel
theorem dX5_undo_53 : decode cX5_undo 53 = .ok (.goto (-31), 3) := by decide +kernel
theorem dX5_undo_56 : decode cX5_undo 56 = .ok (.aload_n 0, 1) := by decide +kernel
theorem dX5_undo_57 : decode cX5_undo 57 = .ok (.getfield 26, 3) := by decide +kernel
theorem dX5_undo_60 : decode cX5_undo 60 = .ok (.ireturn, 1) := by decide +kernel
def f_X5_undo_b22    : Nat → Sg → Int32 → Option (Int32 × Sg)
  | 0, _, _ => none
  | n + 1, σ, v1 => if (624 : Int32) ≤ v1 then (some ((σ.1 0), σ)) else (gd (inb (((624 : Int32) * (σ.1 0)) + v1) 2496) (gd (inb v1 624) (lts (s2 σ 0 (upd (σ.2 0) (ix v1) (σ.2 1 (ix (((624 : Int32) * (σ.1 0)) + v1))))) fun σ4 => lt (v1 + (1 : Int32)) fun x5 => (f_X5_undo_b22   n) σ4 x5)))
def f_X5_undo (σ : Sg)   : Option (Int32 × Sg) := if (σ.1 0) = 0 then (some ((-10000005 : Int32), σ)) else (lts (s1 σ 0 ((σ.1 0) - (1 : Int32))) fun σ2 => f_X5_undo_b22 fuel σ2 (0 : Int32))
set_option maxHeartbeats 4000000 in
set_option maxRecDepth 100000 in
theorem L_X5_undo_b22 {Γ : Cx} (G : va_G) (cls : Cls) (ad : Nat → Nat) (hi : inj 6 ad) (hC : CX Γ (YM G cls ad) cX5_undo RX5 2 (some .int) 0 0) (hz0 : Γ.2.2.2.2.2.1 = 0) (hz1 : Γ.2.2.2.2.2.2 = 0)     : ∀ (n : Nat) (σ : Sg) (v1 : Int32), WX Γ (YM G cls ad) (qf Γ (YM G cls ad) fiS) 2 22 [(0, .ref (ad 0)), (1, .int v1)] [] σ (f_X5_undo_b22   n σ v1) := by
  intro n
  induction n with
  | zero => intro σ v1; exact X_none
  | succ n ih =>
    intro σ v1
    rw [f_X5_undo_b22.eq_2]
    refine X_iload_n hC 1 rfl dX5_undo_22 ?_
    refine X_sipush (v := 624) hC (by decide) dX5_undo_23 ?_
    refine X_icmp_ge hC 56 dX5_undo_26 (by decide) (fun h3 => ?_) (fun h3 => ?_)
    · refine X_aload_n hC 0 rfl dX5_undo_56 ?_
      refine X_getf (C := RX5) (T := TX5) (N := 16) (ci := 5) hC 2 (wM (k := 0) (by omega) cM_ob) rfl hinX5 (by decide) tw_487 rfl rfl dX5_undo_57 ?_
      exact X_iret hC hz0 hz1 dX5_undo_60 rfl
    · refine X_aload_n hC 0 rfl dX5_undo_29 ?_
      refine X_getf (C := RX5) (T := TX5) (N := 16) (ci := 5) hC 0 (wM (k := 0) (by omega) cM_ob) rfl hinX5 (by decide) tw_485 rfl rfl dX5_undo_30 ?_
      refine X_iload_n hC 1 rfl dX5_undo_33 ?_
      refine X_aload_n hC 0 rfl dX5_undo_34 ?_
      refine X_getf (C := RX5) (T := TX5) (N := 16) (ci := 5) hC 1 (wM (k := 0) (by omega) cM_ob) rfl hinX5 (by decide) tw_486 rfl rfl dX5_undo_35 ?_
      refine X_sipush (v := 624) hC (by decide) dX5_undo_38 ?_
      refine X_aload_n hC 0 rfl dX5_undo_41 ?_
      refine X_getf (C := RX5) (T := TX5) (N := 16) (ci := 5) hC 2 (wM (k := 0) (by omega) cM_ob) rfl hinX5 (by decide) tw_487 rfl rfl dX5_undo_42 ?_
      refine X_imul hC dX5_undo_45 ?_
      refine X_iload_n hC 1 rfl dX5_undo_46 ?_
      refine X_iadd hC dX5_undo_47 ?_
      refine X_iald hC (wM (k := 2) (by omega) cM_history) (t0 := 0) rfl dX5_undo_48 ?_
      refine X_iast hC (wM (k := 1) (by omega) cM_now) (t0 := 0) rfl (aM_now _) dX5_undo_49 (X_lts fun σ4 => ?_)
      refine X_iinc (ls' := fun x5 => [(1, .int x5), (0, .ref (ad 0))]) hC 1 dX5_undo_50 rfl (by decide) (by decide) (fun _ => rfl) (fun x5 => ?_)
      refine X_goto hC 22 dX5_undo_53 (by decide) ?_
      exact X_sub [1, 0] rfl (ih σ4 x5)
theorem okm_X5_undo : okm yX5_undo 0 = true := by decide +kernel
set_option maxHeartbeats 4000000 in
set_option maxRecDepth 100000 in
theorem c_X5_undo (l : Launch) (G : va_G) (cls : Cls) (ad : Nat → Nat) (hi : inj 6 ad) (σ : Sg)    : MT l (YM G cls ad) yX5_undo (.code yX5_undo cX5_undo 2 (some .int) :: gw) 0 0 [.ref (ad 0)] fiS σ (f_X5_undo σ  ) := by
  refine MT.of (own := RX5) (by decide) (YM_D hi) rfl (Nat.le_of_ble_eq_true rfl) fun Γ _ hz0 hz1 hC => ?_
  show WX Γ (YM G cls ad) (qf Γ (YM G cls ad) fiS) 2 0 [(0, .ref (ad 0))] [] σ (f_X5_undo σ  )
  unfold f_X5_undo
  refine X_aload_n hC 0 rfl dX5_undo_0 ?_
  refine X_getf (C := RX5) (T := TX5) (N := 16) (ci := 5) hC 2 (wM (k := 0) (by omega) cM_ob) rfl hinX5 (by decide) tw_487 rfl rfl dX5_undo_1 ?_
  refine X_if_ne hC 10 dX5_undo_4 (by decide) (fun h1 => ?_) (fun h1 => ?_)
  · refine X_aload_n hC 0 rfl dX5_undo_10 ?_
    refine X_dup hC rfl dX5_undo_11 ?_
    refine X_getf (C := RX5) (T := TX5) (N := 16) (ci := 5) hC 2 (wM (k := 0) (by omega) cM_ob) rfl hinX5 (by decide) tw_487 rfl rfl dX5_undo_12 ?_
    refine X_iconst (v := 1) hC (by decide) dX5_undo_15 ?_
    refine X_isub hC dX5_undo_16 ?_
    refine X_putf (C := RX5) (T := TX5) (N := 16) (ci := 5) (ty := .int) hC 2 (wM (k := 0) (by omega) cM_ob) rfl hinX5 tyX5_ok nmX5 (by decide) tw_487 rfl rfl (by decide +kernel) rfl rfl (Nat.le_of_ble_eq_true rfl) (sM_kept _) dX5_undo_17 (X_lts fun σ2 => ?_)
    refine X_iconst (v := 0) hC (by decide) dX5_undo_20 ?_
    refine X_istore_n (ls' := [(1, .int (0 : Int32)), (0, .ref (ad 0))]) hC dX5_undo_21 (by decide) rfl ?_
    exact X_sub [1, 0] rfl (L_X5_undo_b22 G cls ad hi hC hz0 hz1 fuel σ2 (0 : Int32))
  · refine X_ldc (v := -10000005) hC tw_564 dX5_undo_7 ?_
    exact X_iret hC hz0 hz1 dX5_undo_9 rfl
theorem dX5_keep_0 : decode cX5_keep 0 = .ok (.iconst 0, 1) := by decide +kernel
theorem dX5_keep_1 : decode cX5_keep 1 = .ok (.istore_n 1, 1) := by decide +kernel
theorem dX5_keep_2 : decode cX5_keep 2 = .ok (.iload_n 1, 1) := by decide +kernel
theorem dX5_keep_3 : decode cX5_keep 3 = .ok (.sipush 624, 3) := by decide +kernel
theorem dX5_keep_6 : decode cX5_keep 6 = .ok (.if_icmp .ge 21, 3) := by decide +kernel
theorem dX5_keep_9 : decode cX5_keep 9 = .ok (.aload_n 0, 1) := by decide +kernel
theorem dX5_keep_10 : decode cX5_keep 10 = .ok (.getfield 16, 3) := by decide +kernel
theorem dX5_keep_13 : decode cX5_keep 13 = .ok (.iload_n 1, 1) := by decide +kernel
theorem dX5_keep_14 : decode cX5_keep 14 = .ok (.aload_n 0, 1) := by decide +kernel
theorem dX5_keep_15 : decode cX5_keep 15 = .ok (.getfield 7, 3) := by decide +kernel
theorem dX5_keep_18 : decode cX5_keep 18 = .ok (.iload_n 1, 1) := by decide +kernel
theorem dX5_keep_19 : decode cX5_keep 19 = .ok (.iaload, 1) := by decide +kernel
theorem dX5_keep_20 : decode cX5_keep 20 = .ok (.iastore, 1) := by decide +kernel
theorem dX5_keep_21 : decode cX5_keep 21 = .ok (.iinc 1 1, 3) := by decide +kernel
theorem dX5_keep_24 : decode cX5_keep 24 = .ok (.goto (-22), 3) := by decide +kernel
theorem dX5_keep_27 : decode cX5_keep 27 = .ok (.aload_n 0, 1) := by decide +kernel
theorem dX5_keep_28 : decode cX5_keep 28 = .ok (.iconst 1, 1) := by decide +kernel
theorem dX5_keep_29 : decode cX5_keep 29 = .ok (.putfield 141, 3) := by decide +kernel
theorem dX5_keep_32 : decode cX5_keep 32 = .ok (.aload_n 0, 1) := by decide +kernel
theorem dX5_keep_33 : decode cX5_keep 33 = .ok (.getfield 7, 3) := by decide +kernel
theorem dX5_keep_36 : decode cX5_keep 36 = .ok (.iconst 2, 1) := by decide +kernel
theorem dX5_keep_37 : decode cX5_keep 37 = .ok (.iaload, 1) := by decide +kernel
theorem dX5_keep_38 : decode cX5_keep 38 = .ok (.ireturn, 1) := by decide +kernel
def f_X5_keep_b2    : Nat → Sg → Int32 → Option (Int32 × Sg)
  | 0, _, _ => none
  | n + 1, σ, v1 => if (624 : Int32) ≤ v1 then (lts (s1 σ 1 (1 : Int32)) fun σ2 => gd (inb (2 : Int32) 624) (some ((σ2.2 0 (ix (2 : Int32))), σ2))) else (gd (inb v1 624) (gd (inb v1 624) (lts (s2 σ 2 (upd (σ.2 2) (ix v1) (σ.2 0 (ix v1)))) fun σ3 => lt (v1 + (1 : Int32)) fun x4 => (f_X5_keep_b2   n) σ3 x4)))
def f_X5_keep (σ : Sg)   : Option (Int32 × Sg) := f_X5_keep_b2 fuel σ (0 : Int32)
set_option maxHeartbeats 4000000 in
set_option maxRecDepth 100000 in
theorem L_X5_keep_b2 {Γ : Cx} (G : va_G) (cls : Cls) (ad : Nat → Nat) (hi : inj 6 ad) (hC : CX Γ (YM G cls ad) cX5_keep RX5 2 (some .int) 0 0) (hz0 : Γ.2.2.2.2.2.1 = 0) (hz1 : Γ.2.2.2.2.2.2 = 0)     : ∀ (n : Nat) (σ : Sg) (v1 : Int32), WX Γ (YM G cls ad) (qf Γ (YM G cls ad) fiS) 2 2 [(0, .ref (ad 0)), (1, .int v1)] [] σ (f_X5_keep_b2   n σ v1) := by
  intro n
  induction n with
  | zero => intro σ v1; exact X_none
  | succ n ih =>
    intro σ v1
    rw [f_X5_keep_b2.eq_2]
    refine X_iload_n hC 1 rfl dX5_keep_2 ?_
    refine X_sipush (v := 624) hC (by decide) dX5_keep_3 ?_
    refine X_icmp_ge hC 27 dX5_keep_6 (by decide) (fun h1 => ?_) (fun h1 => ?_)
    · refine X_aload_n hC 0 rfl dX5_keep_27 ?_
      refine X_iconst (v := 1) hC (by decide) dX5_keep_28 ?_
      refine X_putf (C := RX5) (T := TX5) (N := 16) (ci := 5) (ty := .boolean) hC 4 (wM (k := 0) (by omega) cM_ob) rfl hinX5 tyX5_ok nmX5 (by decide) tw_489 rfl rfl (by decide +kernel) rfl rfl (Nat.le_of_ble_eq_true rfl) (sM_isFilled _) dX5_keep_29 (X_lts fun σ2 => ?_)
      refine X_aload_n hC 0 rfl dX5_keep_32 ?_
      refine X_getf (C := RX5) (T := TX5) (N := 16) (ci := 5) hC 0 (wM (k := 0) (by omega) cM_ob) rfl hinX5 (by decide) tw_485 rfl rfl dX5_keep_33 ?_
      refine X_iconst (v := 2) hC (by decide) dX5_keep_36 ?_
      refine X_iald hC (wM (k := 1) (by omega) cM_now) (t0 := 0) rfl dX5_keep_37 ?_
      exact X_iret hC hz0 hz1 dX5_keep_38 rfl
    · refine X_aload_n hC 0 rfl dX5_keep_9 ?_
      refine X_getf (C := RX5) (T := TX5) (N := 16) (ci := 5) hC 3 (wM (k := 0) (by omega) cM_ob) rfl hinX5 (by decide) tw_488 rfl rfl dX5_keep_10 ?_
      refine X_iload_n hC 1 rfl dX5_keep_13 ?_
      refine X_aload_n hC 0 rfl dX5_keep_14 ?_
      refine X_getf (C := RX5) (T := TX5) (N := 16) (ci := 5) hC 0 (wM (k := 0) (by omega) cM_ob) rfl hinX5 (by decide) tw_485 rfl rfl dX5_keep_15 ?_
      refine X_iload_n hC 1 rfl dX5_keep_18 ?_
      refine X_iald hC (wM (k := 1) (by omega) cM_now) (t0 := 0) rfl dX5_keep_19 ?_
      refine X_iast hC (wM (k := 3) (by omega) cM_slot) (t0 := 0) rfl (aM_slot _) dX5_keep_20 (X_lts fun σ3 => ?_)
      refine X_iinc (ls' := fun x4 => [(1, .int x4), (0, .ref (ad 0))]) hC 1 dX5_keep_21 rfl (by decide) (by decide) (fun _ => rfl) (fun x4 => ?_)
      refine X_goto hC 2 dX5_keep_24 (by decide) ?_
      exact X_sub [1, 0] rfl (ih σ3 x4)
theorem okm_X5_keep : okm yX5_keep 0 = true := by decide +kernel
set_option maxHeartbeats 4000000 in
set_option maxRecDepth 100000 in
theorem c_X5_keep (l : Launch) (G : va_G) (cls : Cls) (ad : Nat → Nat) (hi : inj 6 ad) (σ : Sg)    : MT l (YM G cls ad) yX5_keep (.code yX5_keep cX5_keep 2 (some .int) :: gw) 0 0 [.ref (ad 0)] fiS σ (f_X5_keep σ  ) := by
  refine MT.of (own := RX5) (by decide) (YM_D hi) rfl (Nat.le_of_ble_eq_true rfl) fun Γ _ hz0 hz1 hC => ?_
  show WX Γ (YM G cls ad) (qf Γ (YM G cls ad) fiS) 2 0 [(0, .ref (ad 0))] [] σ (f_X5_keep σ  )
  unfold f_X5_keep
  refine X_iconst (v := 0) hC (by decide) dX5_keep_0 ?_
  refine X_istore_n (ls' := [(1, .int (0 : Int32)), (0, .ref (ad 0))]) hC dX5_keep_1 (by decide) rfl ?_
  exact X_sub [1, 0] rfl (L_X5_keep_b2 G cls ad hi hC hz0 hz1 fuel σ (0 : Int32))
theorem dX5_restore_0 : decode cX5_restore 0 = .ok (.aload_n 0, 1) := by decide +kernel
theorem dX5_restore_1 : decode cX5_restore 1 = .ok (.getfield 141, 3) := by decide +kernel
theorem dX5_restore_4 : decode cX5_restore 4 = .ok (.ifCond .ne 6, 3) := by decide +kernel
theorem dX5_restore_7 : decode cX5_restore 7 = .ok (.ldc 52, 2) := by decide +kernel
theorem dX5_restore_9 : decode cX5_restore 9 = .ok (.ireturn, 1) := by decide +kernel
theorem dX5_restore_10 : decode cX5_restore 10 = .ok (.aload_n 0, 1) := by decide +kernel
theorem dX5_restore_11 : decode cX5_restore 11 = .ok (.invokevirtual 40, 3) := by decide +kernel
theorem dX5_restore_14 : decode cX5_restore 14 = .ok (.iconst 0, 1) := by decide +kernel
theorem dX5_restore_15 : decode cX5_restore 15 = .ok (.istore_n 1, 1) := by decide +kernel
theorem dX5_restore_16 : decode cX5_restore 16 = .ok (.iload_n 1, 1) := by decide +kernel
theorem dX5_restore_17 : decode cX5_restore 17 = .ok (.sipush 624, 3) := by decide +kernel
theorem dX5_restore_20 : decode cX5_restore 20 = .ok (.if_icmp .ge 21, 3) := by decide +kernel
theorem dX5_restore_23 : decode cX5_restore 23 = .ok (.aload_n 0, 1) := by decide +kernel
theorem dX5_restore_24 : decode cX5_restore 24 = .ok (.getfield 7, 3) := by decide +kernel
theorem dX5_restore_27 : decode cX5_restore 27 = .ok (.iload_n 1, 1) := by decide +kernel
theorem dX5_restore_28 : decode cX5_restore 28 = .ok (.aload_n 0, 1) := by decide +kernel
theorem dX5_restore_29 : decode cX5_restore 29 = .ok (.getfield 16, 3) := by decide +kernel
theorem dX5_restore_32 : decode cX5_restore 32 = .ok (.iload_n 1, 1) := by decide +kernel
theorem dX5_restore_33 : decode cX5_restore 33 = .ok (.iaload, 1) := by decide +kernel
theorem dX5_restore_34 : decode cX5_restore 34 = .ok (.iastore, 1) := by decide +kernel
theorem dX5_restore_35 : decode cX5_restore 35 = .ok (.iinc 1 1, 3) := by decide +kernel
theorem dX5_restore_38 : decode cX5_restore 38 = .ok (.goto (-22), 3) := by decide +kernel
theorem dX5_restore_41 : decode cX5_restore 41 = .ok (.aload_n 0, 1) := by decide +kernel
theorem dX5_restore_42 : decode cX5_restore 42 = .ok (.getfield 7, 3) := by decide +kernel
theorem dX5_restore_45 : decode cX5_restore 45 = .ok (.iconst 2, 1) := by decide +kernel
theorem dX5_restore_46 : decode cX5_restore 46 = .ok (.iaload, 1) := by decide +kernel
theorem dX5_restore_47 : decode cX5_restore 47 = .ok (.ireturn, 1) := by decide +kernel
def f_X5_restore_b16    : Nat → Sg → Int32 → Option (Int32 × Sg)
  | 0, _, _ => none
  | n + 1, σ, v1 => if (624 : Int32) ≤ v1 then (gd (inb (2 : Int32) 624) (some ((σ.2 0 (ix (2 : Int32))), σ))) else (gd (inb v1 624) (gd (inb v1 624) (lts (s2 σ 0 (upd (σ.2 0) (ix v1) (σ.2 2 (ix v1)))) fun σ4 => lt (v1 + (1 : Int32)) fun x5 => (f_X5_restore_b16   n) σ4 x5)))
def f_X5_restore (σ : Sg)   : Option (Int32 × Sg) := if (σ.1 1) = 0 then (some ((-10000005 : Int32), σ)) else ((f_X5_record σ).bind fun σ2 => f_X5_restore_b16 fuel σ2 (0 : Int32))
set_option maxHeartbeats 4000000 in
set_option maxRecDepth 100000 in
theorem L_X5_restore_b16 {Γ : Cx} (G : va_G) (cls : Cls) (ad : Nat → Nat) (hi : inj 6 ad) (hC : CX Γ (YM G cls ad) cX5_restore RX5 2 (some .int) 1 21) (hz0 : Γ.2.2.2.2.2.1 = 0) (hz1 : Γ.2.2.2.2.2.2 = 0)     : ∀ (n : Nat) (σ : Sg) (v1 : Int32), WX Γ (YM G cls ad) (qf Γ (YM G cls ad) fiS) 2 16 [(0, .ref (ad 0)), (1, .int v1)] [] σ (f_X5_restore_b16   n σ v1) := by
  intro n
  induction n with
  | zero => intro σ v1; exact X_none
  | succ n ih =>
    intro σ v1
    rw [f_X5_restore_b16.eq_2]
    refine X_iload_n hC 1 rfl dX5_restore_16 ?_
    refine X_sipush (v := 624) hC (by decide) dX5_restore_17 ?_
    refine X_icmp_ge hC 41 dX5_restore_20 (by decide) (fun h3 => ?_) (fun h3 => ?_)
    · refine X_aload_n hC 0 rfl dX5_restore_41 ?_
      refine X_getf (C := RX5) (T := TX5) (N := 16) (ci := 5) hC 0 (wM (k := 0) (by omega) cM_ob) rfl hinX5 (by decide) tw_485 rfl rfl dX5_restore_42 ?_
      refine X_iconst (v := 2) hC (by decide) dX5_restore_45 ?_
      refine X_iald hC (wM (k := 1) (by omega) cM_now) (t0 := 0) rfl dX5_restore_46 ?_
      exact X_iret hC hz0 hz1 dX5_restore_47 rfl
    · refine X_aload_n hC 0 rfl dX5_restore_23 ?_
      refine X_getf (C := RX5) (T := TX5) (N := 16) (ci := 5) hC 0 (wM (k := 0) (by omega) cM_ob) rfl hinX5 (by decide) tw_485 rfl rfl dX5_restore_24 ?_
      refine X_iload_n hC 1 rfl dX5_restore_27 ?_
      refine X_aload_n hC 0 rfl dX5_restore_28 ?_
      refine X_getf (C := RX5) (T := TX5) (N := 16) (ci := 5) hC 3 (wM (k := 0) (by omega) cM_ob) rfl hinX5 (by decide) tw_488 rfl rfl dX5_restore_29 ?_
      refine X_iload_n hC 1 rfl dX5_restore_32 ?_
      refine X_iald hC (wM (k := 3) (by omega) cM_slot) (t0 := 0) rfl dX5_restore_33 ?_
      refine X_iast hC (wM (k := 1) (by omega) cM_now) (t0 := 0) rfl (aM_now _) dX5_restore_34 (X_lts fun σ4 => ?_)
      refine X_iinc (ls' := fun x5 => [(1, .int x5), (0, .ref (ad 0))]) hC 1 dX5_restore_35 rfl (by decide) (by decide) (fun _ => rfl) (fun x5 => ?_)
      refine X_goto hC 16 dX5_restore_38 (by decide) ?_
      exact X_sub [1, 0] rfl (ih σ4 x5)
theorem okm_X5_restore : okm yX5_restore 0 = true := by decide +kernel
set_option maxHeartbeats 4000000 in
set_option maxRecDepth 100000 in
theorem c_X5_restore (l : Launch) (G : va_G) (cls : Cls) (ad : Nat → Nat) (hi : inj 6 ad) (σ : Sg)    : MT l (YM G cls ad) yX5_restore (.code yX5_restore cX5_restore 2 (some .int) :: gw) 1 21 [.ref (ad 0)] fiS σ (f_X5_restore σ  ) := by
  refine MT.of (own := RX5) (by decide) (YM_D hi) rfl (Nat.le_of_ble_eq_true rfl) fun Γ _ hz0 hz1 hC => ?_
  show WX Γ (YM G cls ad) (qf Γ (YM G cls ad) fiS) 2 0 [(0, .ref (ad 0))] [] σ (f_X5_restore σ  )
  unfold f_X5_restore
  refine X_aload_n hC 0 rfl dX5_restore_0 ?_
  refine X_getf (C := RX5) (T := TX5) (N := 16) (ci := 5) hC 4 (wM (k := 0) (by omega) cM_ob) rfl hinX5 (by decide) tw_489 rfl rfl dX5_restore_1 ?_
  refine X_if_ne hC 10 dX5_restore_4 (by decide) (fun h1 => ?_) (fun h1 => ?_)
  · refine X_aload_n hC 0 rfl dX5_restore_10 ?_
    refine X_callV (C := RX5) (T := TX5) (N := 16) (ci := 5) (rest := []) hC (c_X5_record _ G cls ad hi σ) (gV tw_543 tw_545 ts_6 tw_7 tw_546) rfl (wM (k := 0) (by omega) cM_ob) rfl rfl okm_X5_record (by decide) dX5_restore_11 rfl (Nat.le_of_ble_eq_true rfl) (fun σ2 => ?_)
    refine X_iconst (v := 0) hC (by decide) dX5_restore_14 ?_
    refine X_istore_n (ls' := [(1, .int (0 : Int32)), (0, .ref (ad 0))]) hC dX5_restore_15 (by decide) rfl ?_
    exact X_sub [1, 0] rfl (L_X5_restore_b16 G cls ad hi hC hz0 hz1 fuel σ2 (0 : Int32))
  · refine X_ldc (v := -10000005) hC tw_564 dX5_restore_7 ?_
    exact X_iret hC hz0 hz1 dX5_restore_9 rfl
theorem dX5_writtenBy_0 : decode cX5_writtenBy 0 = .ok (.iconst 0, 1) := by decide +kernel
theorem dX5_writtenBy_1 : decode cX5_writtenBy 1 = .ok (.istore_n 3, 1) := by decide +kernel
theorem dX5_writtenBy_2 : decode cX5_writtenBy 2 = .ok (.iconst 0, 1) := by decide +kernel
theorem dX5_writtenBy_3 : decode cX5_writtenBy 3 = .ok (.istore 4, 2) := by decide +kernel
theorem dX5_writtenBy_5 : decode cX5_writtenBy 5 = .ok (.iload 4, 2) := by decide +kernel
theorem dX5_writtenBy_7 : decode cX5_writtenBy 7 = .ok (.aload_n 0, 1) := by decide +kernel
theorem dX5_writtenBy_8 : decode cX5_writtenBy 8 = .ok (.getfield 7, 3) := by decide +kernel
theorem dX5_writtenBy_11 : decode cX5_writtenBy 11 = .ok (.iconst 2, 1) := by decide +kernel
theorem dX5_writtenBy_12 : decode cX5_writtenBy 12 = .ok (.iaload, 1) := by decide +kernel
theorem dX5_writtenBy_13 : decode cX5_writtenBy 13 = .ok (.if_icmp .ge 28, 3) := by decide +kernel
theorem dX5_writtenBy_16 : decode cX5_writtenBy 16 = .ok (.iload_n 3, 1) := by decide +kernel
theorem dX5_writtenBy_17 : decode cX5_writtenBy 17 = .ok (.aload_n 0, 1) := by decide +kernel
theorem dX5_writtenBy_18 : decode cX5_writtenBy 18 = .ok (.iload 4, 2) := by decide +kernel
theorem dX5_writtenBy_20 : decode cX5_writtenBy 20 = .ok (.iload_n 1, 1) := by decide +kernel
theorem dX5_writtenBy_21 : decode cX5_writtenBy 21 = .ok (.invokevirtual 100, 3) := by decide +kernel
theorem dX5_writtenBy_24 : decode cX5_writtenBy 24 = .ok (.iload_n 2, 1) := by decide +kernel
theorem dX5_writtenBy_25 : decode cX5_writtenBy 25 = .ok (.if_icmp .ne 7, 3) := by decide +kernel
theorem dX5_writtenBy_28 : decode cX5_writtenBy 28 = .ok (.iconst 1, 1) := by decide +kernel
theorem dX5_writtenBy_29 : decode cX5_writtenBy 29 = .ok (.goto 4, 3) := by decide +kernel
theorem dX5_writtenBy_32 : decode cX5_writtenBy 32 = .ok (.iconst 0, 1) := by decide +kernel
theorem dX5_writtenBy_33 : decode cX5_writtenBy 33 = .ok (.iadd, 1) := by decide +kernel
theorem dX5_writtenBy_34 : decode cX5_writtenBy 34 = .ok (.istore_n 3, 1) := by decide +kernel
theorem dX5_writtenBy_35 : decode cX5_writtenBy 35 = .ok (.iinc 4 1, 3) := by decide +kernel
theorem dX5_writtenBy_38 : decode cX5_writtenBy 38 = .ok (.goto (-33), 3) := by decide +kernel
theorem dX5_writtenBy_41 : decode cX5_writtenBy 41 = .ok (.iload_n 3, 1) := by decide +kernel
theorem dX5_writtenBy_42 : decode cX5_writtenBy 42 = .ok (.ireturn, 1) := by decide +kernel
def f_X5_writtenBy_b33 (σ : Sg)  (K5 : Int32 → Int32 → Int32 → Int32 → Option (Int32))  (v1 v2 v4 w0 w1 : Int32) : Option (Int32) := lt (w1 + w0) fun x4 => lt (v4 + (1 : Int32)) fun x5 => K5 v1 v2 x4 x5
def f_X5_writtenBy_b5 (σ : Sg)   : Nat → Int32 → Int32 → Int32 → Int32 → Option (Int32)
  | 0, _, _, _, _ => none
  | n + 1, v1, v2, v3, v4 => gd (inb (2 : Int32) 624) (if (σ.2 0 (ix (2 : Int32))) ≤ v4 then (some v3) else ((f_X5_sheet σ v4 v1).bind fun r2 => if r2 = v2 then (f_X5_writtenBy_b33 σ (f_X5_writtenBy_b5 σ   n) v1 v2 v4 (1 : Int32) v3) else (f_X5_writtenBy_b33 σ (f_X5_writtenBy_b5 σ   n) v1 v2 v4 (0 : Int32) v3)))
def f_X5_writtenBy (σ : Sg)  (p1 p2 : Int32) : Option (Int32) := f_X5_writtenBy_b5 σ fuel p1 p2 (0 : Int32) (0 : Int32)
set_option maxHeartbeats 4000000 in
set_option maxRecDepth 100000 in
theorem L_X5_writtenBy_b33 {Γ : Cx} (G : va_G) (cls : Cls) (ad : Nat → Nat) (hi : inj 6 ad) (hC : CX Γ (YM G cls ad) cX5_writtenBy RX5 5 (some .int) 1 22) (hz0 : Γ.2.2.2.2.2.1 = 0) (hz1 : Γ.2.2.2.2.2.2 = 0) (σ : Sg)   (K5 : Int32 → Int32 → Int32 → Int32 → Option (Int32)) (hK5 : ∀ (v1 v2 v3 v4 : Int32), WX Γ (YM G cls ad) (qf Γ (YM G cls ad) (fiP σ)) 5 5 [(0, .ref (ad 0)), (1, .int v1), (2, .int v2), (3, .int v3), (4, .int v4)] [] σ (K5 v1 v2 v3 v4))  (v1 v2 v4 w0 w1 : Int32) : WX Γ (YM G cls ad) (qf Γ (YM G cls ad) (fiP σ)) 5 33 [(0, .ref (ad 0)), (1, .int v1), (2, .int v2), (4, .int v4)] [.int w0, .int w1] σ (f_X5_writtenBy_b33 σ  K5 v1 v2 v4 w0 w1) := by
  unfold f_X5_writtenBy_b33
  refine X_iadd hC dX5_writtenBy_33 ?_
  refine X_lt (fun x4 => ?_)
  refine X_istore_n (ls' := [(3, .int x4), (0, .ref (ad 0)), (1, .int v1), (2, .int v2), (4, .int v4)]) hC dX5_writtenBy_34 (by decide) rfl ?_
  refine X_iinc (ls' := fun x5 => [(4, .int x5), (3, .int x4), (0, .ref (ad 0)), (1, .int v1), (2, .int v2)]) hC 4 dX5_writtenBy_35 rfl (by decide) (by decide) (fun _ => rfl) (fun x5 => ?_)
  refine X_goto hC 5 dX5_writtenBy_38 (by decide) ?_
  exact X_sub [2, 3, 4, 1, 0] rfl (hK5 v1 v2 x4 x5)
set_option maxHeartbeats 4000000 in
set_option maxRecDepth 100000 in
theorem L_X5_writtenBy_b5 {Γ : Cx} (G : va_G) (cls : Cls) (ad : Nat → Nat) (hi : inj 6 ad) (hC : CX Γ (YM G cls ad) cX5_writtenBy RX5 5 (some .int) 1 22) (hz0 : Γ.2.2.2.2.2.1 = 0) (hz1 : Γ.2.2.2.2.2.2 = 0) (σ : Sg)    : ∀ (n : Nat) (v1 v2 v3 v4 : Int32), WX Γ (YM G cls ad) (qf Γ (YM G cls ad) (fiP σ)) 5 5 [(0, .ref (ad 0)), (1, .int v1), (2, .int v2), (3, .int v3), (4, .int v4)] [] σ (f_X5_writtenBy_b5 σ   n v1 v2 v3 v4) := by
  intro n
  induction n with
  | zero => intro v1 v2 v3 v4; exact X_none
  | succ n ih =>
    intro v1 v2 v3 v4
    rw [f_X5_writtenBy_b5.eq_2]
    refine X_iload hC 4 rfl dX5_writtenBy_5 ?_
    refine X_aload_n hC 0 rfl dX5_writtenBy_7 ?_
    refine X_getf (C := RX5) (T := TX5) (N := 16) (ci := 5) hC 0 (wM (k := 0) (by omega) cM_ob) rfl hinX5 (by decide) tw_485 rfl rfl dX5_writtenBy_8 ?_
    refine X_iconst (v := 2) hC (by decide) dX5_writtenBy_11 ?_
    refine X_iald hC (wM (k := 1) (by omega) cM_now) (t0 := 0) rfl dX5_writtenBy_12 ?_
    refine X_icmp_ge hC 41 dX5_writtenBy_13 (by decide) (fun h1 => ?_) (fun h1 => ?_)
    · refine X_iload_n hC 3 rfl dX5_writtenBy_41 ?_
      exact X_iret hC hz0 hz1 dX5_writtenBy_42 rfl
    · refine X_iload_n hC 3 rfl dX5_writtenBy_16 ?_
      refine X_aload_n hC 0 rfl dX5_writtenBy_17 ?_
      refine X_iload hC 4 rfl dX5_writtenBy_18 ?_
      refine X_iload_n hC 1 rfl dX5_writtenBy_20 ?_
      refine X_callP (C := RX5) (T := TX5) (N := 16) (ci := 5) (rest := [.int v3]) hC (c_X5_sheet _ G cls ad hi σ v4 v1) (gV tw_629 tw_631 ts_18 tw_7 tw_632) rfl (wM (k := 0) (by omega) cM_ob) rfl rfl okm_X5_sheet (by decide) dX5_writtenBy_21 rfl (Nat.le_of_ble_eq_true rfl) (fun r2 => ?_)
      refine X_iload_n hC 2 rfl dX5_writtenBy_24 ?_
      refine X_icmp_ne hC 32 dX5_writtenBy_25 (by decide) (fun h3 => ?_) (fun h3 => ?_)
      · refine X_iconst (v := 0) hC (by decide) dX5_writtenBy_32 ?_
        exact X_sub [0, 1, 2, 4] rfl (L_X5_writtenBy_b33 G cls ad hi hC hz0 hz1 σ (f_X5_writtenBy_b5 σ   n) ih v1 v2 v4 (0 : Int32) v3)
      · refine X_iconst (v := 1) hC (by decide) dX5_writtenBy_28 ?_
        refine X_goto hC 33 dX5_writtenBy_29 (by decide) ?_
        exact X_sub [0, 1, 2, 4] rfl (L_X5_writtenBy_b33 G cls ad hi hC hz0 hz1 σ (f_X5_writtenBy_b5 σ   n) ih v1 v2 v4 (1 : Int32) v3)
theorem okm_X5_writtenBy : okm yX5_writtenBy 2 = true := by decide +kernel
set_option maxHeartbeats 4000000 in
set_option maxRecDepth 100000 in
theorem c_X5_writtenBy (l : Launch) (G : va_G) (cls : Cls) (ad : Nat → Nat) (hi : inj 6 ad) (σ : Sg)   (p1 p2 : Int32) : MT l (YM G cls ad) yX5_writtenBy (.code yX5_writtenBy cX5_writtenBy 5 (some .int) :: gw) 1 22 [.ref (ad 0), .int p1, .int p2] (fiP σ) σ (f_X5_writtenBy σ  p1 p2) := by
  refine MT.of (own := RX5) (by decide) (YM_D hi) rfl (Nat.le_of_ble_eq_true rfl) fun Γ _ hz0 hz1 hC => ?_
  show WX Γ (YM G cls ad) (qf Γ (YM G cls ad) (fiP σ)) 5 0 [(0, .ref (ad 0)), (1, .int p1), (2, .int p2)] [] σ (f_X5_writtenBy σ  p1 p2)
  unfold f_X5_writtenBy
  refine X_iconst (v := 0) hC (by decide) dX5_writtenBy_0 ?_
  refine X_istore_n (ls' := [(3, .int (0 : Int32)), (0, .ref (ad 0)), (1, .int p1), (2, .int p2)]) hC dX5_writtenBy_1 (by decide) rfl ?_
  refine X_iconst (v := 0) hC (by decide) dX5_writtenBy_2 ?_
  refine X_istore (ls' := [(4, .int (0 : Int32)), (3, .int (0 : Int32)), (0, .ref (ad 0)), (1, .int p1), (2, .int p2)]) hC dX5_writtenBy_3 (by decide) rfl ?_
  exact X_sub [2, 3, 4, 1, 0] rfl (L_X5_writtenBy_b5 G cls ad hi hC hz0 hz1 σ fuel p1 p2 (0 : Int32) (0 : Int32))
theorem dX5_instrument_0 : decode cX5_instrument 0 = .ok (.aload_n 0, 1) := by decide +kernel
theorem dX5_instrument_1 : decode cX5_instrument 1 = .ok (.iload_n 1, 1) := by decide +kernel
theorem dX5_instrument_2 : decode cX5_instrument 2 = .ok (.invokevirtual 43, 3) := by decide +kernel
theorem dX5_instrument_5 : decode cX5_instrument 5 = .ok (.ifCond .eq 6, 3) := by decide +kernel
theorem dX5_instrument_8 : decode cX5_instrument 8 = .ok (.ldc 47, 2) := by decide +kernel
theorem dX5_instrument_10 : decode cX5_instrument 10 = .ok (.ireturn, 1) := by decide +kernel
theorem dX5_instrument_11 : decode cX5_instrument 11 = .ok (.iload_n 2, 1) := by decide +kernel
theorem dX5_instrument_12 : decode cX5_instrument 12 = .ok (.iconst 0, 1) := by decide +kernel
theorem dX5_instrument_13 : decode cX5_instrument 13 = .ok (.bipush 7, 2) := by decide +kernel
theorem dX5_instrument_15 : decode cX5_instrument 15 = .ok (.invokestatic 30, 3) := by decide +kernel
theorem dX5_instrument_18 : decode cX5_instrument 18 = .ok (.ifCond .eq 10, 3) := by decide +kernel
theorem dX5_instrument_21 : decode cX5_instrument 21 = .ok (.aload_n 0, 1) := by decide +kernel
theorem dX5_instrument_22 : decode cX5_instrument 22 = .ok (.iload_n 1, 1) := by decide +kernel
theorem dX5_instrument_23 : decode cX5_instrument 23 = .ok (.iload_n 2, 1) := by decide +kernel
theorem dX5_instrument_24 : decode cX5_instrument 24 = .ok (.invokevirtual 34, 3) := by decide +kernel
theorem dX5_instrument_27 : decode cX5_instrument 27 = .ok (.ireturn, 1) := by decide +kernel
theorem dX5_instrument_28 : decode cX5_instrument 28 = .ok (.iload_n 2, 1) := by decide +kernel
theorem dX5_instrument_29 : decode cX5_instrument 29 = .ok (.tableswitch 77 8 10 #[27, 40, 70], 27) := by decide +kernel
theorem dX5_instrument_56 : decode cX5_instrument 56 = .ok (.aload_n 0, 1) := by decide +kernel
theorem dX5_instrument_57 : decode cX5_instrument 57 = .ok (.iload_n 1, 1) := by decide +kernel
theorem dX5_instrument_58 : decode cX5_instrument 58 = .ok (.iconst 2, 1) := by decide +kernel
theorem dX5_instrument_59 : decode cX5_instrument 59 = .ok (.invokevirtual 34, 3) := by decide +kernel
theorem dX5_instrument_62 : decode cX5_instrument 62 = .ok (.aload_n 0, 1) := by decide +kernel
theorem dX5_instrument_63 : decode cX5_instrument 63 = .ok (.iload_n 1, 1) := by decide +kernel
theorem dX5_instrument_64 : decode cX5_instrument 64 = .ok (.invokevirtual 48, 3) := by decide +kernel
theorem dX5_instrument_67 : decode cX5_instrument 67 = .ok (.imul, 1) := by decide +kernel
theorem dX5_instrument_68 : decode cX5_instrument 68 = .ok (.ireturn, 1) := by decide +kernel
theorem dX5_instrument_69 : decode cX5_instrument 69 = .ok (.aload_n 0, 1) := by decide +kernel
theorem dX5_instrument_70 : decode cX5_instrument 70 = .ok (.iload_n 1, 1) := by decide +kernel
theorem dX5_instrument_71 : decode cX5_instrument 71 = .ok (.iconst 0, 1) := by decide +kernel
theorem dX5_instrument_72 : decode cX5_instrument 72 = .ok (.invokevirtual 34, 3) := by decide +kernel
theorem dX5_instrument_75 : decode cX5_instrument 75 = .ok (.aload_n 0, 1) := by decide +kernel
theorem dX5_instrument_76 : decode cX5_instrument 76 = .ok (.iload_n 1, 1) := by decide +kernel
theorem dX5_instrument_77 : decode cX5_instrument 77 = .ok (.iconst 3, 1) := by decide +kernel
theorem dX5_instrument_78 : decode cX5_instrument 78 = .ok (.invokevirtual 34, 3) := by decide +kernel
theorem dX5_instrument_81 : decode cX5_instrument 81 = .ok (.iconst 1, 1) := by decide +kernel
theorem dX5_instrument_82 : decode cX5_instrument 82 = .ok (.if_icmp .ne 7, 3) := by decide +kernel
theorem dX5_instrument_85 : decode cX5_instrument 85 = .ok (.iconst 1, 1) := by decide +kernel
theorem dX5_instrument_86 : decode cX5_instrument 86 = .ok (.goto 4, 3) := by decide +kernel
theorem dX5_instrument_89 : decode cX5_instrument 89 = .ok (.iconst (-1), 1) := by decide +kernel
theorem dX5_instrument_90 : decode cX5_instrument 90 = .ok (.iadd, 1) := by decide +kernel
theorem dX5_instrument_91 : decode cX5_instrument 91 = .ok (.aload_n 0, 1) := by decide +kernel
theorem dX5_instrument_92 : decode cX5_instrument 92 = .ok (.iload_n 1, 1) := by decide +kernel
theorem dX5_instrument_93 : decode cX5_instrument 93 = .ok (.iconst 1, 1) := by decide +kernel
theorem dX5_instrument_94 : decode cX5_instrument 94 = .ok (.invokevirtual 34, 3) := by decide +kernel
theorem dX5_instrument_97 : decode cX5_instrument 97 = .ok (.imul, 1) := by decide +kernel
theorem dX5_instrument_98 : decode cX5_instrument 98 = .ok (.ireturn, 1) := by decide +kernel
theorem dX5_instrument_99 : decode cX5_instrument 99 = .ok (.aload_n 0, 1) := by decide +kernel
theorem dX5_instrument_100 : decode cX5_instrument 100 = .ok (.iconst 1, 1) := by decide +kernel
theorem dX5_instrument_101 : decode cX5_instrument 101 = .ok (.iload_n 1, 1) := by decide +kernel
theorem dX5_instrument_102 : decode cX5_instrument 102 = .ok (.invokevirtual 145, 3) := by decide +kernel
theorem dX5_instrument_105 : decode cX5_instrument 105 = .ok (.ireturn, 1) := by decide +kernel
theorem dX5_instrument_106 : decode cX5_instrument 106 = .ok (.ldc 38, 2) := by decide +kernel
theorem dX5_instrument_108 : decode cX5_instrument 108 = .ok (.ireturn, 1) := by decide +kernel
def f_X5_instrument_b90 (σ : Sg)    (v1 w0 w1 : Int32) : Option (Int32) := (f_X5_tool σ v1 (1 : Int32)).bind fun r12 => some ((w1 + w0) * r12)
def f_X5_instrument (σ : Sg)  (p1 p2 : Int32) : Option (Int32) := (f_X5_noTool σ p1).bind fun r1 => if r1 = 0 then ((f_X5_in σ p2 (0 : Int32) (7 : Int32)).bind fun r3 => if r3 = 0 then (if p2 = 8 then ((f_X5_tool σ p1 (2 : Int32)).bind fun r6 => (f_X5_wide σ p1).bind fun r7 => some (r6 * r7)) else if p2 = 9 then ((f_X5_tool σ p1 (0 : Int32)).bind fun r9 => (f_X5_tool σ p1 (3 : Int32)).bind fun r10 => if r10 = (1 : Int32) then (f_X5_instrument_b90 σ p1 (1 : Int32) r9) else (f_X5_instrument_b90 σ p1 (-1 : Int32) r9)) else if p2 = 10 then ((f_X5_writtenBy σ (1 : Int32) p1).bind fun r14 => some r14) else (some (-10000002 : Int32))) else ((f_X5_tool σ p1 p2).bind fun r15 => some r15)) else (some (-10000001 : Int32))
set_option maxHeartbeats 4000000 in
set_option maxRecDepth 100000 in
theorem L_X5_instrument_b90 {Γ : Cx} (G : va_G) (cls : Cls) (ad : Nat → Nat) (hi : inj 6 ad) (hC : CX Γ (YM G cls ad) cX5_instrument RX5 3 (some .int) 2 46) (hz0 : Γ.2.2.2.2.2.1 = 0) (hz1 : Γ.2.2.2.2.2.2 = 0) (σ : Sg)     (v1 w0 w1 : Int32) : WX Γ (YM G cls ad) (qf Γ (YM G cls ad) (fiP σ)) 3 90 [(0, .ref (ad 0)), (1, .int v1)] [.int w0, .int w1] σ (f_X5_instrument_b90 σ   v1 w0 w1) := by
  unfold f_X5_instrument_b90
  refine X_iadd hC dX5_instrument_90 ?_
  refine X_aload_n hC 0 rfl dX5_instrument_91 ?_
  refine X_iload_n hC 1 rfl dX5_instrument_92 ?_
  refine X_iconst (v := 1) hC (by decide) dX5_instrument_93 ?_
  refine X_callP (C := RX5) (T := TX5) (N := 16) (ci := 5) (rest := [.int (w1 + w0)]) hC (c_X5_tool _ G cls ad hi σ v1 (1 : Int32)) (gV tw_560 tw_562 ts_9 tw_7 tw_563) rfl (wM (k := 0) (by omega) cM_ob) rfl rfl okm_X5_tool (by decide) dX5_instrument_94 rfl (Nat.le_of_ble_eq_true rfl) (fun r12 => ?_)
  refine X_imul hC dX5_instrument_97 ?_
  exact X_iret hC hz0 hz1 dX5_instrument_98 rfl
theorem okm_X5_instrument : okm yX5_instrument 2 = true := by decide +kernel
set_option maxHeartbeats 4000000 in
set_option maxRecDepth 100000 in
theorem c_X5_instrument (l : Launch) (G : va_G) (cls : Cls) (ad : Nat → Nat) (hi : inj 6 ad) (σ : Sg)   (p1 p2 : Int32) : MT l (YM G cls ad) yX5_instrument (.code yX5_instrument cX5_instrument 3 (some .int) :: gw) 2 46 [.ref (ad 0), .int p1, .int p2] (fiP σ) σ (f_X5_instrument σ  p1 p2) := by
  refine MT.of (own := RX5) (by decide) (YM_D hi) rfl (Nat.le_of_ble_eq_true rfl) fun Γ _ hz0 hz1 hC => ?_
  show WX Γ (YM G cls ad) (qf Γ (YM G cls ad) (fiP σ)) 3 0 [(0, .ref (ad 0)), (1, .int p1), (2, .int p2)] [] σ (f_X5_instrument σ  p1 p2)
  unfold f_X5_instrument
  refine X_aload_n hC 0 rfl dX5_instrument_0 ?_
  refine X_iload_n hC 1 rfl dX5_instrument_1 ?_
  refine X_callP (C := RX5) (T := TX5) (N := 16) (ci := 5) (rest := []) hC (c_X5_noTool _ G cls ad hi σ p1) (gV tw_551 tw_553 ts_7 tw_7 tw_554) rfl (wM (k := 0) (by omega) cM_ob) rfl rfl okm_X5_noTool (by decide) dX5_instrument_2 rfl (Nat.le_of_ble_eq_true rfl) (fun r1 => ?_)
  refine X_if_eq hC 11 dX5_instrument_5 (by decide) (fun h2 => ?_) (fun h2 => ?_)
  · refine X_iload_n hC 2 rfl dX5_instrument_11 ?_
    refine X_iconst (v := 0) hC (by decide) dX5_instrument_12 ?_
    refine X_bipush (v := 7) hC (by decide) dX5_instrument_13 ?_
    refine X_statP (rest := []) hC (c_X5_in _ G cls ad hi σ p2 (0 : Int32) (7 : Int32)) (gSt tw_538 tw_539 tw_7 tw_540) rfl okm_X5_in (by decide) dX5_instrument_15 rfl (Nat.le_of_ble_eq_true rfl) (fun r3 => ?_)
    refine X_if_eq hC 28 dX5_instrument_18 (by decide) (fun h4 => ?_) (fun h4 => ?_)
    · refine X_iload_n hC 2 rfl dX5_instrument_28 ?_
      refine X_ite (fun h5 => ?_) (fun h5 => ?_)
      · refine X_tableIn (v := 8) hC 56 dX5_instrument_29 (by rw [h5]; decide) (by decide) (by decide) rfl (by decide) ?_
        refine X_aload_n hC 0 rfl dX5_instrument_56 ?_
        refine X_iload_n hC 1 rfl dX5_instrument_57 ?_
        refine X_iconst (v := 2) hC (by decide) dX5_instrument_58 ?_
        refine X_callP (C := RX5) (T := TX5) (N := 16) (ci := 5) (rest := []) hC (c_X5_tool _ G cls ad hi σ p1 (2 : Int32)) (gV tw_560 tw_562 ts_9 tw_7 tw_563) rfl (wM (k := 0) (by omega) cM_ob) rfl rfl okm_X5_tool (by decide) dX5_instrument_59 rfl (Nat.le_of_ble_eq_true rfl) (fun r6 => ?_)
        refine X_aload_n hC 0 rfl dX5_instrument_62 ?_
        refine X_iload_n hC 1 rfl dX5_instrument_63 ?_
        refine X_callP (C := RX5) (T := TX5) (N := 16) (ci := 5) (rest := [.int r6]) hC (c_X5_wide _ G cls ad hi σ p1) (gV tw_556 tw_558 ts_8 tw_7 tw_559) rfl (wM (k := 0) (by omega) cM_ob) rfl rfl okm_X5_wide (by decide) dX5_instrument_64 rfl (Nat.le_of_ble_eq_true rfl) (fun r7 => ?_)
        refine X_imul hC dX5_instrument_67 ?_
        exact X_iret hC hz0 hz1 dX5_instrument_68 rfl
      refine X_ite (fun h8 => ?_) (fun h8 => ?_)
      · refine X_tableIn (v := 9) hC 69 dX5_instrument_29 (by rw [h8]; decide) (by decide) (by decide) rfl (by decide) ?_
        refine X_aload_n hC 0 rfl dX5_instrument_69 ?_
        refine X_iload_n hC 1 rfl dX5_instrument_70 ?_
        refine X_iconst (v := 0) hC (by decide) dX5_instrument_71 ?_
        refine X_callP (C := RX5) (T := TX5) (N := 16) (ci := 5) (rest := []) hC (c_X5_tool _ G cls ad hi σ p1 (0 : Int32)) (gV tw_560 tw_562 ts_9 tw_7 tw_563) rfl (wM (k := 0) (by omega) cM_ob) rfl rfl okm_X5_tool (by decide) dX5_instrument_72 rfl (Nat.le_of_ble_eq_true rfl) (fun r9 => ?_)
        refine X_aload_n hC 0 rfl dX5_instrument_75 ?_
        refine X_iload_n hC 1 rfl dX5_instrument_76 ?_
        refine X_iconst (v := 3) hC (by decide) dX5_instrument_77 ?_
        refine X_callP (C := RX5) (T := TX5) (N := 16) (ci := 5) (rest := [.int r9]) hC (c_X5_tool _ G cls ad hi σ p1 (3 : Int32)) (gV tw_560 tw_562 ts_9 tw_7 tw_563) rfl (wM (k := 0) (by omega) cM_ob) rfl rfl okm_X5_tool (by decide) dX5_instrument_78 rfl (Nat.le_of_ble_eq_true rfl) (fun r10 => ?_)
        refine X_iconst (v := 1) hC (by decide) dX5_instrument_81 ?_
        refine X_icmp_ne hC 89 dX5_instrument_82 (by decide) (fun h11 => ?_) (fun h11 => ?_)
        · refine X_iconst (v := -1) hC (by decide) dX5_instrument_89 ?_
          exact X_sub [0, 1] rfl (L_X5_instrument_b90 G cls ad hi hC hz0 hz1 σ p1 (-1 : Int32) r9)
        · refine X_iconst (v := 1) hC (by decide) dX5_instrument_85 ?_
          refine X_goto hC 90 dX5_instrument_86 (by decide) ?_
          exact X_sub [0, 1] rfl (L_X5_instrument_b90 G cls ad hi hC hz0 hz1 σ p1 (1 : Int32) r9)
      refine X_ite (fun h13 => ?_) (fun h13 => ?_)
      · refine X_tableIn (v := 10) hC 99 dX5_instrument_29 (by rw [h13]; decide) (by decide) (by decide) rfl (by decide) ?_
        refine X_aload_n hC 0 rfl dX5_instrument_99 ?_
        refine X_iconst (v := 1) hC (by decide) dX5_instrument_100 ?_
        refine X_iload_n hC 1 rfl dX5_instrument_101 ?_
        refine X_callP (C := RX5) (T := TX5) (N := 16) (ci := 5) (rest := []) hC (c_X5_writtenBy _ G cls ad hi σ (1 : Int32) p1) (gV tw_698 tw_700 ts_26 tw_7 tw_701) rfl (wM (k := 0) (by omega) cM_ob) rfl rfl okm_X5_writtenBy (by decide) dX5_instrument_102 rfl (Nat.le_of_ble_eq_true rfl) (fun r14 => ?_)
        exact X_iret hC hz0 hz1 dX5_instrument_105 rfl
      refine X_tableOut hC 106 dX5_instrument_29 (by have q0 := lv_neT h5 (a := 8) (by decide); have q1 := lv_neT h8 (a := 9) (by decide); have q2 := lv_neT h13 (a := 10) (by decide); omega) (by decide) ?_
      refine X_ldc (v := -10000002) hC tw_541 dX5_instrument_106 ?_
      exact X_iret hC hz0 hz1 dX5_instrument_108 rfl
    · refine X_aload_n hC 0 rfl dX5_instrument_21 ?_
      refine X_iload_n hC 1 rfl dX5_instrument_22 ?_
      refine X_iload_n hC 2 rfl dX5_instrument_23 ?_
      refine X_callP (C := RX5) (T := TX5) (N := 16) (ci := 5) (rest := []) hC (c_X5_tool _ G cls ad hi σ p1 p2) (gV tw_560 tw_562 ts_9 tw_7 tw_563) rfl (wM (k := 0) (by omega) cM_ob) rfl rfl okm_X5_tool (by decide) dX5_instrument_24 rfl (Nat.le_of_ble_eq_true rfl) (fun r15 => ?_)
      exact X_iret hC hz0 hz1 dX5_instrument_27 rfl
  · refine X_ldc (v := -10000001) hC tw_555 dX5_instrument_8 ?_
    exact X_iret hC hz0 hz1 dX5_instrument_10 rfl
theorem dX5_marksOf_0 : decode cX5_marksOf 0 = .ok (.iconst 0, 1) := by decide +kernel
theorem dX5_marksOf_1 : decode cX5_marksOf 1 = .ok (.istore_n 2, 1) := by decide +kernel
theorem dX5_marksOf_2 : decode cX5_marksOf 2 = .ok (.iconst 0, 1) := by decide +kernel
theorem dX5_marksOf_3 : decode cX5_marksOf 3 = .ok (.istore_n 3, 1) := by decide +kernel
theorem dX5_marksOf_4 : decode cX5_marksOf 4 = .ok (.iload_n 3, 1) := by decide +kernel
theorem dX5_marksOf_5 : decode cX5_marksOf 5 = .ok (.aload_n 0, 1) := by decide +kernel
theorem dX5_marksOf_6 : decode cX5_marksOf 6 = .ok (.getfield 7, 3) := by decide +kernel
theorem dX5_marksOf_9 : decode cX5_marksOf 9 = .ok (.iconst 2, 1) := by decide +kernel
theorem dX5_marksOf_10 : decode cX5_marksOf 10 = .ok (.iaload, 1) := by decide +kernel
theorem dX5_marksOf_11 : decode cX5_marksOf 11 = .ok (.if_icmp .ge 32, 3) := by decide +kernel
theorem dX5_marksOf_14 : decode cX5_marksOf 14 = .ok (.iload_n 2, 1) := by decide +kernel
theorem dX5_marksOf_15 : decode cX5_marksOf 15 = .ok (.aload_n 0, 1) := by decide +kernel
theorem dX5_marksOf_16 : decode cX5_marksOf 16 = .ok (.iload_n 3, 1) := by decide +kernel
theorem dX5_marksOf_17 : decode cX5_marksOf 17 = .ok (.iconst 0, 1) := by decide +kernel
theorem dX5_marksOf_18 : decode cX5_marksOf 18 = .ok (.invokevirtual 100, 3) := by decide +kernel
theorem dX5_marksOf_21 : decode cX5_marksOf 21 = .ok (.iload_n 1, 1) := by decide +kernel
theorem dX5_marksOf_22 : decode cX5_marksOf 22 = .ok (.if_icmp .ne 12, 3) := by decide +kernel
theorem dX5_marksOf_25 : decode cX5_marksOf 25 = .ok (.aload_n 0, 1) := by decide +kernel
theorem dX5_marksOf_26 : decode cX5_marksOf 26 = .ok (.iload_n 3, 1) := by decide +kernel
theorem dX5_marksOf_27 : decode cX5_marksOf 27 = .ok (.iconst 4, 1) := by decide +kernel
theorem dX5_marksOf_28 : decode cX5_marksOf 28 = .ok (.invokevirtual 100, 3) := by decide +kernel
theorem dX5_marksOf_31 : decode cX5_marksOf 31 = .ok (.goto 4, 3) := by decide +kernel
theorem dX5_marksOf_34 : decode cX5_marksOf 34 = .ok (.iconst 0, 1) := by decide +kernel
theorem dX5_marksOf_35 : decode cX5_marksOf 35 = .ok (.iadd, 1) := by decide +kernel
theorem dX5_marksOf_36 : decode cX5_marksOf 36 = .ok (.istore_n 2, 1) := by decide +kernel
theorem dX5_marksOf_37 : decode cX5_marksOf 37 = .ok (.iinc 3 1, 3) := by decide +kernel
theorem dX5_marksOf_40 : decode cX5_marksOf 40 = .ok (.goto (-36), 3) := by decide +kernel
theorem dX5_marksOf_43 : decode cX5_marksOf 43 = .ok (.iload_n 2, 1) := by decide +kernel
theorem dX5_marksOf_44 : decode cX5_marksOf 44 = .ok (.ireturn, 1) := by decide +kernel
def f_X5_marksOf_b35 (σ : Sg)  (K4 : Int32 → Int32 → Int32 → Option (Int32))  (v1 v3 w0 w1 : Int32) : Option (Int32) := lt (w1 + w0) fun x4 => lt (v3 + (1 : Int32)) fun x5 => K4 v1 x4 x5
def f_X5_marksOf_b4 (σ : Sg)   : Nat → Int32 → Int32 → Int32 → Option (Int32)
  | 0, _, _, _ => none
  | n + 1, v1, v2, v3 => gd (inb (2 : Int32) 624) (if (σ.2 0 (ix (2 : Int32))) ≤ v3 then (some v2) else ((f_X5_sheet σ v3 (0 : Int32)).bind fun r2 => if r2 = v1 then ((f_X5_sheet σ v3 (4 : Int32)).bind fun r6 => f_X5_marksOf_b35 σ (f_X5_marksOf_b4 σ   n) v1 v3 r6 v2) else (f_X5_marksOf_b35 σ (f_X5_marksOf_b4 σ   n) v1 v3 (0 : Int32) v2)))
def f_X5_marksOf (σ : Sg)  (p1 : Int32) : Option (Int32) := f_X5_marksOf_b4 σ fuel p1 (0 : Int32) (0 : Int32)
set_option maxHeartbeats 4000000 in
set_option maxRecDepth 100000 in
theorem L_X5_marksOf_b35 {Γ : Cx} (G : va_G) (cls : Cls) (ad : Nat → Nat) (hi : inj 6 ad) (hC : CX Γ (YM G cls ad) cX5_marksOf RX5 4 (some .int) 1 22) (hz0 : Γ.2.2.2.2.2.1 = 0) (hz1 : Γ.2.2.2.2.2.2 = 0) (σ : Sg)   (K4 : Int32 → Int32 → Int32 → Option (Int32)) (hK4 : ∀ (v1 v2 v3 : Int32), WX Γ (YM G cls ad) (qf Γ (YM G cls ad) (fiP σ)) 4 4 [(0, .ref (ad 0)), (1, .int v1), (2, .int v2), (3, .int v3)] [] σ (K4 v1 v2 v3))  (v1 v3 w0 w1 : Int32) : WX Γ (YM G cls ad) (qf Γ (YM G cls ad) (fiP σ)) 4 35 [(0, .ref (ad 0)), (1, .int v1), (3, .int v3)] [.int w0, .int w1] σ (f_X5_marksOf_b35 σ  K4 v1 v3 w0 w1) := by
  unfold f_X5_marksOf_b35
  refine X_iadd hC dX5_marksOf_35 ?_
  refine X_lt (fun x4 => ?_)
  refine X_istore_n (ls' := [(2, .int x4), (0, .ref (ad 0)), (1, .int v1), (3, .int v3)]) hC dX5_marksOf_36 (by decide) rfl ?_
  refine X_iinc (ls' := fun x5 => [(3, .int x5), (2, .int x4), (0, .ref (ad 0)), (1, .int v1)]) hC 3 dX5_marksOf_37 rfl (by decide) (by decide) (fun _ => rfl) (fun x5 => ?_)
  refine X_goto hC 4 dX5_marksOf_40 (by decide) ?_
  exact X_sub [2, 3, 1, 0] rfl (hK4 v1 x4 x5)
set_option maxHeartbeats 4000000 in
set_option maxRecDepth 100000 in
theorem L_X5_marksOf_b4 {Γ : Cx} (G : va_G) (cls : Cls) (ad : Nat → Nat) (hi : inj 6 ad) (hC : CX Γ (YM G cls ad) cX5_marksOf RX5 4 (some .int) 1 22) (hz0 : Γ.2.2.2.2.2.1 = 0) (hz1 : Γ.2.2.2.2.2.2 = 0) (σ : Sg)    : ∀ (n : Nat) (v1 v2 v3 : Int32), WX Γ (YM G cls ad) (qf Γ (YM G cls ad) (fiP σ)) 4 4 [(0, .ref (ad 0)), (1, .int v1), (2, .int v2), (3, .int v3)] [] σ (f_X5_marksOf_b4 σ   n v1 v2 v3) := by
  intro n
  induction n with
  | zero => intro v1 v2 v3; exact X_none
  | succ n ih =>
    intro v1 v2 v3
    rw [f_X5_marksOf_b4.eq_2]
    refine X_iload_n hC 3 rfl dX5_marksOf_4 ?_
    refine X_aload_n hC 0 rfl dX5_marksOf_5 ?_
    refine X_getf (C := RX5) (T := TX5) (N := 16) (ci := 5) hC 0 (wM (k := 0) (by omega) cM_ob) rfl hinX5 (by decide) tw_485 rfl rfl dX5_marksOf_6 ?_
    refine X_iconst (v := 2) hC (by decide) dX5_marksOf_9 ?_
    refine X_iald hC (wM (k := 1) (by omega) cM_now) (t0 := 0) rfl dX5_marksOf_10 ?_
    refine X_icmp_ge hC 43 dX5_marksOf_11 (by decide) (fun h1 => ?_) (fun h1 => ?_)
    · refine X_iload_n hC 2 rfl dX5_marksOf_43 ?_
      exact X_iret hC hz0 hz1 dX5_marksOf_44 rfl
    · refine X_iload_n hC 2 rfl dX5_marksOf_14 ?_
      refine X_aload_n hC 0 rfl dX5_marksOf_15 ?_
      refine X_iload_n hC 3 rfl dX5_marksOf_16 ?_
      refine X_iconst (v := 0) hC (by decide) dX5_marksOf_17 ?_
      refine X_callP (C := RX5) (T := TX5) (N := 16) (ci := 5) (rest := [.int v2]) hC (c_X5_sheet _ G cls ad hi σ v3 (0 : Int32)) (gV tw_629 tw_631 ts_18 tw_7 tw_632) rfl (wM (k := 0) (by omega) cM_ob) rfl rfl okm_X5_sheet (by decide) dX5_marksOf_18 rfl (Nat.le_of_ble_eq_true rfl) (fun r2 => ?_)
      refine X_iload_n hC 1 rfl dX5_marksOf_21 ?_
      refine X_icmp_ne hC 34 dX5_marksOf_22 (by decide) (fun h3 => ?_) (fun h3 => ?_)
      · refine X_iconst (v := 0) hC (by decide) dX5_marksOf_34 ?_
        exact X_sub [0, 1, 3] rfl (L_X5_marksOf_b35 G cls ad hi hC hz0 hz1 σ (f_X5_marksOf_b4 σ   n) ih v1 v3 (0 : Int32) v2)
      · refine X_aload_n hC 0 rfl dX5_marksOf_25 ?_
        refine X_iload_n hC 3 rfl dX5_marksOf_26 ?_
        refine X_iconst (v := 4) hC (by decide) dX5_marksOf_27 ?_
        refine X_callP (C := RX5) (T := TX5) (N := 16) (ci := 5) (rest := [.int v2]) hC (c_X5_sheet _ G cls ad hi σ v3 (4 : Int32)) (gV tw_629 tw_631 ts_18 tw_7 tw_632) rfl (wM (k := 0) (by omega) cM_ob) rfl rfl okm_X5_sheet (by decide) dX5_marksOf_28 rfl (Nat.le_of_ble_eq_true rfl) (fun r6 => ?_)
        refine X_goto hC 35 dX5_marksOf_31 (by decide) ?_
        exact X_sub [0, 1, 3] rfl (L_X5_marksOf_b35 G cls ad hi hC hz0 hz1 σ (f_X5_marksOf_b4 σ   n) ih v1 v3 r6 v2)
theorem okm_X5_marksOf : okm yX5_marksOf 1 = true := by decide +kernel
set_option maxHeartbeats 4000000 in
set_option maxRecDepth 100000 in
theorem c_X5_marksOf (l : Launch) (G : va_G) (cls : Cls) (ad : Nat → Nat) (hi : inj 6 ad) (σ : Sg)   (p1 : Int32) : MT l (YM G cls ad) yX5_marksOf (.code yX5_marksOf cX5_marksOf 4 (some .int) :: gw) 1 22 [.ref (ad 0), .int p1] (fiP σ) σ (f_X5_marksOf σ  p1) := by
  refine MT.of (own := RX5) (by decide) (YM_D hi) rfl (Nat.le_of_ble_eq_true rfl) fun Γ _ hz0 hz1 hC => ?_
  show WX Γ (YM G cls ad) (qf Γ (YM G cls ad) (fiP σ)) 4 0 [(0, .ref (ad 0)), (1, .int p1)] [] σ (f_X5_marksOf σ  p1)
  unfold f_X5_marksOf
  refine X_iconst (v := 0) hC (by decide) dX5_marksOf_0 ?_
  refine X_istore_n (ls' := [(2, .int (0 : Int32)), (0, .ref (ad 0)), (1, .int p1)]) hC dX5_marksOf_1 (by decide) rfl ?_
  refine X_iconst (v := 0) hC (by decide) dX5_marksOf_2 ?_
  refine X_istore_n (ls' := [(3, .int (0 : Int32)), (2, .int (0 : Int32)), (0, .ref (ad 0)), (1, .int p1)]) hC dX5_marksOf_3 (by decide) rfl ?_
  exact X_sub [2, 3, 1, 0] rfl (L_X5_marksOf_b4 G cls ad hi hC hz0 hz1 σ fuel p1 (0 : Int32) (0 : Int32))
theorem dX5_lowestOf_0 : decode cX5_lowestOf 0 = .ok (.ldc 52, 2) := by decide +kernel
theorem dX5_lowestOf_2 : decode cX5_lowestOf 2 = .ok (.istore_n 2, 1) := by decide +kernel
theorem dX5_lowestOf_3 : decode cX5_lowestOf 3 = .ok (.iconst 0, 1) := by decide +kernel
theorem dX5_lowestOf_4 : decode cX5_lowestOf 4 = .ok (.istore_n 3, 1) := by decide +kernel
theorem dX5_lowestOf_5 : decode cX5_lowestOf 5 = .ok (.iload_n 3, 1) := by decide +kernel
theorem dX5_lowestOf_6 : decode cX5_lowestOf 6 = .ok (.aload_n 0, 1) := by decide +kernel
theorem dX5_lowestOf_7 : decode cX5_lowestOf 7 = .ok (.getfield 7, 3) := by decide +kernel
theorem dX5_lowestOf_10 : decode cX5_lowestOf 10 = .ok (.iconst 2, 1) := by decide +kernel
theorem dX5_lowestOf_11 : decode cX5_lowestOf 11 = .ok (.iaload, 1) := by decide +kernel
theorem dX5_lowestOf_12 : decode cX5_lowestOf 12 = .ok (.if_icmp .ge 42, 3) := by decide +kernel
theorem dX5_lowestOf_15 : decode cX5_lowestOf 15 = .ok (.aload_n 0, 1) := by decide +kernel
theorem dX5_lowestOf_16 : decode cX5_lowestOf 16 = .ok (.iload_n 3, 1) := by decide +kernel
theorem dX5_lowestOf_17 : decode cX5_lowestOf 17 = .ok (.iconst 0, 1) := by decide +kernel
theorem dX5_lowestOf_18 : decode cX5_lowestOf 18 = .ok (.invokevirtual 100, 3) := by decide +kernel
theorem dX5_lowestOf_21 : decode cX5_lowestOf 21 = .ok (.iload_n 1, 1) := by decide +kernel
theorem dX5_lowestOf_22 : decode cX5_lowestOf 22 = .ok (.if_icmp .ne 26, 3) := by decide +kernel
theorem dX5_lowestOf_25 : decode cX5_lowestOf 25 = .ok (.iload_n 2, 1) := by decide +kernel
theorem dX5_lowestOf_26 : decode cX5_lowestOf 26 = .ok (.ldc 52, 2) := by decide +kernel
theorem dX5_lowestOf_28 : decode cX5_lowestOf 28 = .ok (.if_icmp .eq 13, 3) := by decide +kernel
theorem dX5_lowestOf_31 : decode cX5_lowestOf 31 = .ok (.aload_n 0, 1) := by decide +kernel
theorem dX5_lowestOf_32 : decode cX5_lowestOf 32 = .ok (.iload_n 3, 1) := by decide +kernel
theorem dX5_lowestOf_33 : decode cX5_lowestOf 33 = .ok (.iconst 4, 1) := by decide +kernel
theorem dX5_lowestOf_34 : decode cX5_lowestOf 34 = .ok (.invokevirtual 100, 3) := by decide +kernel
theorem dX5_lowestOf_37 : decode cX5_lowestOf 37 = .ok (.iload_n 2, 1) := by decide +kernel
theorem dX5_lowestOf_38 : decode cX5_lowestOf 38 = .ok (.if_icmp .ge 10, 3) := by decide +kernel
theorem dX5_lowestOf_41 : decode cX5_lowestOf 41 = .ok (.aload_n 0, 1) := by decide +kernel
theorem dX5_lowestOf_42 : decode cX5_lowestOf 42 = .ok (.iload_n 3, 1) := by decide +kernel
theorem dX5_lowestOf_43 : decode cX5_lowestOf 43 = .ok (.iconst 4, 1) := by decide +kernel
theorem dX5_lowestOf_44 : decode cX5_lowestOf 44 = .ok (.invokevirtual 100, 3) := by decide +kernel
theorem dX5_lowestOf_47 : decode cX5_lowestOf 47 = .ok (.istore_n 2, 1) := by decide +kernel
theorem dX5_lowestOf_48 : decode cX5_lowestOf 48 = .ok (.iinc 3 1, 3) := by decide +kernel
theorem dX5_lowestOf_51 : decode cX5_lowestOf 51 = .ok (.goto (-46), 3) := by decide +kernel
theorem dX5_lowestOf_54 : decode cX5_lowestOf 54 = .ok (.iload_n 2, 1) := by decide +kernel
theorem dX5_lowestOf_55 : decode cX5_lowestOf 55 = .ok (.ireturn, 1) := by decide +kernel
def f_X5_lowestOf_b48 (σ : Sg)  (K5 : Int32 → Int32 → Int32 → Option (Int32))  (v1 v2 v3 : Int32) : Option (Int32) := lt (v3 + (1 : Int32)) fun x4 => K5 v1 v2 x4
def f_X5_lowestOf_b41 (σ : Sg)  (K5 : Int32 → Int32 → Int32 → Option (Int32))  (v1 v3 : Int32) : Option (Int32) := (f_X5_sheet σ v3 (4 : Int32)).bind fun r6 => f_X5_lowestOf_b48 σ K5 v1 r6 v3
def f_X5_lowestOf_b5 (σ : Sg)   : Nat → Int32 → Int32 → Int32 → Option (Int32)
  | 0, _, _, _ => none
  | n + 1, v1, v2, v3 => gd (inb (2 : Int32) 624) (if (σ.2 0 (ix (2 : Int32))) ≤ v3 then (some v2) else ((f_X5_sheet σ v3 (0 : Int32)).bind fun r2 => if r2 = v1 then (if v2 = (-10000005 : Int32) then (f_X5_lowestOf_b41 σ (f_X5_lowestOf_b5 σ   n) v1 v3) else ((f_X5_sheet σ v3 (4 : Int32)).bind fun r7 => if v2 ≤ r7 then (f_X5_lowestOf_b48 σ (f_X5_lowestOf_b5 σ   n) v1 v2 v3) else (f_X5_lowestOf_b41 σ (f_X5_lowestOf_b5 σ   n) v1 v3))) else (f_X5_lowestOf_b48 σ (f_X5_lowestOf_b5 σ   n) v1 v2 v3)))
def f_X5_lowestOf (σ : Sg)  (p1 : Int32) : Option (Int32) := f_X5_lowestOf_b5 σ fuel p1 (-10000005 : Int32) (0 : Int32)
set_option maxHeartbeats 4000000 in
set_option maxRecDepth 100000 in
theorem L_X5_lowestOf_b48 {Γ : Cx} (G : va_G) (cls : Cls) (ad : Nat → Nat) (hi : inj 6 ad) (hC : CX Γ (YM G cls ad) cX5_lowestOf RX5 4 (some .int) 1 22) (hz0 : Γ.2.2.2.2.2.1 = 0) (hz1 : Γ.2.2.2.2.2.2 = 0) (σ : Sg)   (K5 : Int32 → Int32 → Int32 → Option (Int32)) (hK5 : ∀ (v1 v2 v3 : Int32), WX Γ (YM G cls ad) (qf Γ (YM G cls ad) (fiP σ)) 4 5 [(0, .ref (ad 0)), (1, .int v1), (2, .int v2), (3, .int v3)] [] σ (K5 v1 v2 v3))  (v1 v2 v3 : Int32) : WX Γ (YM G cls ad) (qf Γ (YM G cls ad) (fiP σ)) 4 48 [(0, .ref (ad 0)), (1, .int v1), (2, .int v2), (3, .int v3)] [] σ (f_X5_lowestOf_b48 σ  K5 v1 v2 v3) := by
  unfold f_X5_lowestOf_b48
  refine X_iinc (ls' := fun x4 => [(3, .int x4), (0, .ref (ad 0)), (1, .int v1), (2, .int v2)]) hC 3 dX5_lowestOf_48 rfl (by decide) (by decide) (fun _ => rfl) (fun x4 => ?_)
  refine X_goto hC 5 dX5_lowestOf_51 (by decide) ?_
  exact X_sub [1, 2, 3, 0] rfl (hK5 v1 v2 x4)
set_option maxHeartbeats 4000000 in
set_option maxRecDepth 100000 in
theorem L_X5_lowestOf_b41 {Γ : Cx} (G : va_G) (cls : Cls) (ad : Nat → Nat) (hi : inj 6 ad) (hC : CX Γ (YM G cls ad) cX5_lowestOf RX5 4 (some .int) 1 22) (hz0 : Γ.2.2.2.2.2.1 = 0) (hz1 : Γ.2.2.2.2.2.2 = 0) (σ : Sg)   (K5 : Int32 → Int32 → Int32 → Option (Int32)) (hK5 : ∀ (v1 v2 v3 : Int32), WX Γ (YM G cls ad) (qf Γ (YM G cls ad) (fiP σ)) 4 5 [(0, .ref (ad 0)), (1, .int v1), (2, .int v2), (3, .int v3)] [] σ (K5 v1 v2 v3))  (v1 v3 : Int32) : WX Γ (YM G cls ad) (qf Γ (YM G cls ad) (fiP σ)) 4 41 [(0, .ref (ad 0)), (1, .int v1), (3, .int v3)] [] σ (f_X5_lowestOf_b41 σ  K5 v1 v3) := by
  unfold f_X5_lowestOf_b41
  refine X_aload_n hC 0 rfl dX5_lowestOf_41 ?_
  refine X_iload_n hC 2 rfl dX5_lowestOf_42 ?_
  refine X_iconst (v := 4) hC (by decide) dX5_lowestOf_43 ?_
  refine X_callP (C := RX5) (T := TX5) (N := 16) (ci := 5) (rest := []) hC (c_X5_sheet _ G cls ad hi σ v3 (4 : Int32)) (gV tw_629 tw_631 ts_18 tw_7 tw_632) rfl (wM (k := 0) (by omega) cM_ob) rfl rfl okm_X5_sheet (by decide) dX5_lowestOf_44 rfl (Nat.le_of_ble_eq_true rfl) (fun r6 => ?_)
  refine X_istore_n (ls' := [(2, .int r6), (0, .ref (ad 0)), (1, .int v1), (3, .int v3)]) hC dX5_lowestOf_47 (by decide) rfl ?_
  exact X_sub [1, 2, 0, 3] rfl (L_X5_lowestOf_b48 G cls ad hi hC hz0 hz1 σ K5 hK5 v1 r6 v3)
set_option maxHeartbeats 4000000 in
set_option maxRecDepth 100000 in
theorem L_X5_lowestOf_b5 {Γ : Cx} (G : va_G) (cls : Cls) (ad : Nat → Nat) (hi : inj 6 ad) (hC : CX Γ (YM G cls ad) cX5_lowestOf RX5 4 (some .int) 1 22) (hz0 : Γ.2.2.2.2.2.1 = 0) (hz1 : Γ.2.2.2.2.2.2 = 0) (σ : Sg)    : ∀ (n : Nat) (v1 v2 v3 : Int32), WX Γ (YM G cls ad) (qf Γ (YM G cls ad) (fiP σ)) 4 5 [(0, .ref (ad 0)), (1, .int v1), (2, .int v2), (3, .int v3)] [] σ (f_X5_lowestOf_b5 σ   n v1 v2 v3) := by
  intro n
  induction n with
  | zero => intro v1 v2 v3; exact X_none
  | succ n ih =>
    intro v1 v2 v3
    rw [f_X5_lowestOf_b5.eq_2]
    refine X_iload_n hC 3 rfl dX5_lowestOf_5 ?_
    refine X_aload_n hC 0 rfl dX5_lowestOf_6 ?_
    refine X_getf (C := RX5) (T := TX5) (N := 16) (ci := 5) hC 0 (wM (k := 0) (by omega) cM_ob) rfl hinX5 (by decide) tw_485 rfl rfl dX5_lowestOf_7 ?_
    refine X_iconst (v := 2) hC (by decide) dX5_lowestOf_10 ?_
    refine X_iald hC (wM (k := 1) (by omega) cM_now) (t0 := 0) rfl dX5_lowestOf_11 ?_
    refine X_icmp_ge hC 54 dX5_lowestOf_12 (by decide) (fun h1 => ?_) (fun h1 => ?_)
    · refine X_iload_n hC 2 rfl dX5_lowestOf_54 ?_
      exact X_iret hC hz0 hz1 dX5_lowestOf_55 rfl
    · refine X_aload_n hC 0 rfl dX5_lowestOf_15 ?_
      refine X_iload_n hC 3 rfl dX5_lowestOf_16 ?_
      refine X_iconst (v := 0) hC (by decide) dX5_lowestOf_17 ?_
      refine X_callP (C := RX5) (T := TX5) (N := 16) (ci := 5) (rest := []) hC (c_X5_sheet _ G cls ad hi σ v3 (0 : Int32)) (gV tw_629 tw_631 ts_18 tw_7 tw_632) rfl (wM (k := 0) (by omega) cM_ob) rfl rfl okm_X5_sheet (by decide) dX5_lowestOf_18 rfl (Nat.le_of_ble_eq_true rfl) (fun r2 => ?_)
      refine X_iload_n hC 1 rfl dX5_lowestOf_21 ?_
      refine X_icmp_ne hC 48 dX5_lowestOf_22 (by decide) (fun h3 => ?_) (fun h3 => ?_)
      · exact (L_X5_lowestOf_b48 G cls ad hi hC hz0 hz1 σ (f_X5_lowestOf_b5 σ   n) ih v1 v2 v3)
      · refine X_iload_n hC 2 rfl dX5_lowestOf_25 ?_
        refine X_ldc (v := -10000005) hC tw_564 dX5_lowestOf_26 ?_
        refine X_icmp_eq hC 41 dX5_lowestOf_28 (by decide) (fun h5 => ?_) (fun h5 => ?_)
        · exact X_sub [0, 1, 3] rfl (L_X5_lowestOf_b41 G cls ad hi hC hz0 hz1 σ (f_X5_lowestOf_b5 σ   n) ih v1 v3)
        · refine X_aload_n hC 0 rfl dX5_lowestOf_31 ?_
          refine X_iload_n hC 3 rfl dX5_lowestOf_32 ?_
          refine X_iconst (v := 4) hC (by decide) dX5_lowestOf_33 ?_
          refine X_callP (C := RX5) (T := TX5) (N := 16) (ci := 5) (rest := []) hC (c_X5_sheet _ G cls ad hi σ v3 (4 : Int32)) (gV tw_629 tw_631 ts_18 tw_7 tw_632) rfl (wM (k := 0) (by omega) cM_ob) rfl rfl okm_X5_sheet (by decide) dX5_lowestOf_34 rfl (Nat.le_of_ble_eq_true rfl) (fun r7 => ?_)
          refine X_iload_n hC 2 rfl dX5_lowestOf_37 ?_
          refine X_icmp_ge hC 48 dX5_lowestOf_38 (by decide) (fun h8 => ?_) (fun h8 => ?_)
          · exact (L_X5_lowestOf_b48 G cls ad hi hC hz0 hz1 σ (f_X5_lowestOf_b5 σ   n) ih v1 v2 v3)
          · exact X_sub [0, 1, 3] rfl (L_X5_lowestOf_b41 G cls ad hi hC hz0 hz1 σ (f_X5_lowestOf_b5 σ   n) ih v1 v3)
theorem okm_X5_lowestOf : okm yX5_lowestOf 1 = true := by decide +kernel
set_option maxHeartbeats 4000000 in
set_option maxRecDepth 100000 in
theorem c_X5_lowestOf (l : Launch) (G : va_G) (cls : Cls) (ad : Nat → Nat) (hi : inj 6 ad) (σ : Sg)   (p1 : Int32) : MT l (YM G cls ad) yX5_lowestOf (.code yX5_lowestOf cX5_lowestOf 4 (some .int) :: gw) 1 22 [.ref (ad 0), .int p1] (fiP σ) σ (f_X5_lowestOf σ  p1) := by
  refine MT.of (own := RX5) (by decide) (YM_D hi) rfl (Nat.le_of_ble_eq_true rfl) fun Γ _ hz0 hz1 hC => ?_
  show WX Γ (YM G cls ad) (qf Γ (YM G cls ad) (fiP σ)) 4 0 [(0, .ref (ad 0)), (1, .int p1)] [] σ (f_X5_lowestOf σ  p1)
  unfold f_X5_lowestOf
  refine X_ldc (v := -10000005) hC tw_564 dX5_lowestOf_0 ?_
  refine X_istore_n (ls' := [(2, .int (-10000005 : Int32)), (0, .ref (ad 0)), (1, .int p1)]) hC dX5_lowestOf_2 (by decide) rfl ?_
  refine X_iconst (v := 0) hC (by decide) dX5_lowestOf_3 ?_
  refine X_istore_n (ls' := [(3, .int (0 : Int32)), (2, .int (-10000005 : Int32)), (0, .ref (ad 0)), (1, .int p1)]) hC dX5_lowestOf_4 (by decide) rfl ?_
  exact X_sub [2, 3, 1, 0] rfl (L_X5_lowestOf_b5 G cls ad hi hC hz0 hz1 σ fuel p1 (-10000005 : Int32) (0 : Int32))
theorem dX5_isBetter_0 : decode cX5_isBetter 0 = .ok (.aload_n 0, 1) := by decide +kernel
theorem dX5_isBetter_1 : decode cX5_isBetter 1 = .ok (.iconst 0, 1) := by decide +kernel
theorem dX5_isBetter_2 : decode cX5_isBetter 2 = .ok (.iload_n 1, 1) := by decide +kernel
theorem dX5_isBetter_3 : decode cX5_isBetter 3 = .ok (.invokevirtual 145, 3) := by decide +kernel
theorem dX5_isBetter_6 : decode cX5_isBetter 6 = .ok (.istore_n 3, 1) := by decide +kernel
theorem dX5_isBetter_7 : decode cX5_isBetter 7 = .ok (.aload_n 0, 1) := by decide +kernel
theorem dX5_isBetter_8 : decode cX5_isBetter 8 = .ok (.iconst 0, 1) := by decide +kernel
theorem dX5_isBetter_9 : decode cX5_isBetter 9 = .ok (.iload_n 2, 1) := by decide +kernel
theorem dX5_isBetter_10 : decode cX5_isBetter 10 = .ok (.invokevirtual 145, 3) := by decide +kernel
theorem dX5_isBetter_13 : decode cX5_isBetter 13 = .ok (.istore 4, 2) := by decide +kernel
theorem dX5_isBetter_15 : decode cX5_isBetter 15 = .ok (.iload_n 3, 1) := by decide +kernel
theorem dX5_isBetter_16 : decode cX5_isBetter 16 = .ok (.ifCond .eq 8, 3) := by decide +kernel
theorem dX5_isBetter_19 : decode cX5_isBetter 19 = .ok (.iload 4, 2) := by decide +kernel
theorem dX5_isBetter_21 : decode cX5_isBetter 21 = .ok (.ifCond .ne 32, 3) := by decide +kernel
theorem dX5_isBetter_24 : decode cX5_isBetter 24 = .ok (.iload_n 3, 1) := by decide +kernel
theorem dX5_isBetter_25 : decode cX5_isBetter 25 = .ok (.iload 4, 2) := by decide +kernel
theorem dX5_isBetter_27 : decode cX5_isBetter 27 = .ok (.if_icmp .ne 16, 3) := by decide +kernel
theorem dX5_isBetter_30 : decode cX5_isBetter 30 = .ok (.iload_n 1, 1) := by decide +kernel
theorem dX5_isBetter_31 : decode cX5_isBetter 31 = .ok (.iload_n 2, 1) := by decide +kernel
theorem dX5_isBetter_32 : decode cX5_isBetter 32 = .ok (.if_icmp .ge 7, 3) := by decide +kernel
theorem dX5_isBetter_35 : decode cX5_isBetter 35 = .ok (.iconst 1, 1) := by decide +kernel
theorem dX5_isBetter_36 : decode cX5_isBetter 36 = .ok (.goto 16, 3) := by decide +kernel
theorem dX5_isBetter_39 : decode cX5_isBetter 39 = .ok (.iconst 0, 1) := by decide +kernel
theorem dX5_isBetter_40 : decode cX5_isBetter 40 = .ok (.goto 12, 3) := by decide +kernel
theorem dX5_isBetter_43 : decode cX5_isBetter 43 = .ok (.iload_n 3, 1) := by decide +kernel
theorem dX5_isBetter_44 : decode cX5_isBetter 44 = .ok (.ifCond .le 7, 3) := by decide +kernel
theorem dX5_isBetter_47 : decode cX5_isBetter 47 = .ok (.iconst 1, 1) := by decide +kernel
theorem dX5_isBetter_48 : decode cX5_isBetter 48 = .ok (.goto 4, 3) := by decide +kernel
theorem dX5_isBetter_51 : decode cX5_isBetter 51 = .ok (.iconst 0, 1) := by decide +kernel
theorem dX5_isBetter_52 : decode cX5_isBetter 52 = .ok (.ireturn, 1) := by decide +kernel
theorem dX5_isBetter_53 : decode cX5_isBetter 53 = .ok (.aload_n 0, 1) := by decide +kernel
theorem dX5_isBetter_54 : decode cX5_isBetter 54 = .ok (.iload_n 1, 1) := by decide +kernel
theorem dX5_isBetter_55 : decode cX5_isBetter 55 = .ok (.invokevirtual 148, 3) := by decide +kernel
theorem dX5_isBetter_58 : decode cX5_isBetter 58 = .ok (.iload 4, 2) := by decide +kernel
theorem dX5_isBetter_60 : decode cX5_isBetter 60 = .ok (.imul, 1) := by decide +kernel
theorem dX5_isBetter_61 : decode cX5_isBetter 61 = .ok (.aload_n 0, 1) := by decide +kernel
theorem dX5_isBetter_62 : decode cX5_isBetter 62 = .ok (.iload_n 2, 1) := by decide +kernel
theorem dX5_isBetter_63 : decode cX5_isBetter 63 = .ok (.invokevirtual 148, 3) := by decide +kernel
theorem dX5_isBetter_66 : decode cX5_isBetter 66 = .ok (.iload_n 3, 1) := by decide +kernel
theorem dX5_isBetter_67 : decode cX5_isBetter 67 = .ok (.imul, 1) := by decide +kernel
theorem dX5_isBetter_68 : decode cX5_isBetter 68 = .ok (.isub, 1) := by decide +kernel
theorem dX5_isBetter_69 : decode cX5_isBetter 69 = .ok (.istore 5, 2) := by decide +kernel
theorem dX5_isBetter_71 : decode cX5_isBetter 71 = .ok (.iload 5, 2) := by decide +kernel
theorem dX5_isBetter_73 : decode cX5_isBetter 73 = .ok (.ifCond .eq 16, 3) := by decide +kernel
theorem dX5_isBetter_76 : decode cX5_isBetter 76 = .ok (.iload 5, 2) := by decide +kernel
theorem dX5_isBetter_78 : decode cX5_isBetter 78 = .ok (.ifCond .le 7, 3) := by decide +kernel
theorem dX5_isBetter_81 : decode cX5_isBetter 81 = .ok (.iconst 1, 1) := by decide +kernel
theorem dX5_isBetter_82 : decode cX5_isBetter 82 = .ok (.goto 37, 3) := by decide +kernel
theorem dX5_isBetter_85 : decode cX5_isBetter 85 = .ok (.iconst 0, 1) := by decide +kernel
theorem dX5_isBetter_86 : decode cX5_isBetter 86 = .ok (.goto 33, 3) := by decide +kernel
theorem dX5_isBetter_89 : decode cX5_isBetter 89 = .ok (.iload_n 3, 1) := by decide +kernel
theorem dX5_isBetter_90 : decode cX5_isBetter 90 = .ok (.iload 4, 2) := by decide +kernel
theorem dX5_isBetter_92 : decode cX5_isBetter 92 = .ok (.if_icmp .eq 17, 3) := by decide +kernel
theorem dX5_isBetter_95 : decode cX5_isBetter 95 = .ok (.iload_n 3, 1) := by decide +kernel
theorem dX5_isBetter_96 : decode cX5_isBetter 96 = .ok (.iload 4, 2) := by decide +kernel
theorem dX5_isBetter_98 : decode cX5_isBetter 98 = .ok (.if_icmp .le 7, 3) := by decide +kernel
theorem dX5_isBetter_101 : decode cX5_isBetter 101 = .ok (.iconst 1, 1) := by decide +kernel
theorem dX5_isBetter_102 : decode cX5_isBetter 102 = .ok (.goto 17, 3) := by decide +kernel
theorem dX5_isBetter_105 : decode cX5_isBetter 105 = .ok (.iconst 0, 1) := by decide +kernel
theorem dX5_isBetter_106 : decode cX5_isBetter 106 = .ok (.goto 13, 3) := by decide +kernel
theorem dX5_isBetter_109 : decode cX5_isBetter 109 = .ok (.iload_n 1, 1) := by decide +kernel
theorem dX5_isBetter_110 : decode cX5_isBetter 110 = .ok (.iload_n 2, 1) := by decide +kernel
theorem dX5_isBetter_111 : decode cX5_isBetter 111 = .ok (.if_icmp .ge 7, 3) := by decide +kernel
theorem dX5_isBetter_114 : decode cX5_isBetter 114 = .ok (.iconst 1, 1) := by decide +kernel
theorem dX5_isBetter_115 : decode cX5_isBetter 115 = .ok (.goto 4, 3) := by decide +kernel
theorem dX5_isBetter_118 : decode cX5_isBetter 118 = .ok (.iconst 0, 1) := by decide +kernel
theorem dX5_isBetter_119 : decode cX5_isBetter 119 = .ok (.ireturn, 1) := by decide +kernel
def f_X5_isBetter_b24 (σ : Sg)    (v1 v2 v3 v4 : Int32) : Option (Int32) := if v3 = v4 then (if v2 ≤ v1 then (some (0 : Int32)) else (some (1 : Int32))) else (if v3 ≤ 0 then (some (0 : Int32)) else (some (1 : Int32)))
def f_X5_isBetter (σ : Sg)  (p1 p2 : Int32) : Option (Int32) := (f_X5_writtenBy σ (0 : Int32) p1).bind fun r1 => (f_X5_writtenBy σ (0 : Int32) p2).bind fun r2 => if r1 = 0 then (f_X5_isBetter_b24 σ p1 p2 r1 r2) else (if r2 = 0 then (f_X5_isBetter_b24 σ p1 p2 r1 r2) else ((f_X5_marksOf σ p1).bind fun r8 => (f_X5_marksOf σ p2).bind fun r9 => lt ((r8 * r2) - (r9 * r1)) fun x10 => if x10 = 0 then (if r1 = r2 then (if p2 ≤ p1 then (some (0 : Int32)) else (some (1 : Int32))) else (if r1 ≤ r2 then (some (0 : Int32)) else (some (1 : Int32)))) else (if x10 ≤ 0 then (some (0 : Int32)) else (some (1 : Int32)))))
set_option maxHeartbeats 4000000 in
set_option maxRecDepth 100000 in
theorem L_X5_isBetter_b24 {Γ : Cx} (G : va_G) (cls : Cls) (ad : Nat → Nat) (hi : inj 6 ad) (hC : CX Γ (YM G cls ad) cX5_isBetter RX5 6 (some .boolean) 2 46) (hz0 : Γ.2.2.2.2.2.1 = 0) (hz1 : Γ.2.2.2.2.2.2 = 0) (σ : Sg)     (v1 v2 v3 v4 : Int32) : WX Γ (YM G cls ad) (qf Γ (YM G cls ad) (fiP σ)) 6 24 [(1, .int v1), (2, .int v2), (3, .int v3), (4, .int v4)] [] σ (f_X5_isBetter_b24 σ   v1 v2 v3 v4) := by
  unfold f_X5_isBetter_b24
  refine X_iload_n hC 2 rfl dX5_isBetter_24 ?_
  refine X_iload hC 3 rfl dX5_isBetter_25 ?_
  refine X_icmp_ne hC 43 dX5_isBetter_27 (by decide) (fun h4 => ?_) (fun h4 => ?_)
  · refine X_iload_n hC 2 rfl dX5_isBetter_43 ?_
    refine X_if_le hC 51 dX5_isBetter_44 (by decide) (fun h5 => ?_) (fun h5 => ?_)
    · refine X_iconst (v := 0) hC (by decide) dX5_isBetter_51 ?_
      exact X_zret hC hz0 hz1 rfl dX5_isBetter_52 rfl
    · refine X_iconst (v := 1) hC (by decide) dX5_isBetter_47 ?_
      refine X_goto hC 52 dX5_isBetter_48 (by decide) ?_
      exact X_zret hC hz0 hz1 rfl dX5_isBetter_52 rfl
  · refine X_iload_n hC 0 rfl dX5_isBetter_30 ?_
    refine X_iload_n hC 1 rfl dX5_isBetter_31 ?_
    refine X_icmp_ge hC 39 dX5_isBetter_32 (by decide) (fun h6 => ?_) (fun h6 => ?_)
    · refine X_iconst (v := 0) hC (by decide) dX5_isBetter_39 ?_
      refine X_goto hC 52 dX5_isBetter_40 (by decide) ?_
      exact X_zret hC hz0 hz1 rfl dX5_isBetter_52 rfl
    · refine X_iconst (v := 1) hC (by decide) dX5_isBetter_35 ?_
      refine X_goto hC 52 dX5_isBetter_36 (by decide) ?_
      exact X_zret hC hz0 hz1 rfl dX5_isBetter_52 rfl
theorem okm_X5_isBetter : okm yX5_isBetter 2 = true := by decide +kernel
set_option maxHeartbeats 4000000 in
set_option maxRecDepth 100000 in
theorem c_X5_isBetter (l : Launch) (G : va_G) (cls : Cls) (ad : Nat → Nat) (hi : inj 6 ad) (σ : Sg)   (p1 p2 : Int32) : MT l (YM G cls ad) yX5_isBetter (.code yX5_isBetter cX5_isBetter 6 (some .boolean) :: gw) 2 46 [.ref (ad 0), .int p1, .int p2] (fiP σ) σ (f_X5_isBetter σ  p1 p2) := by
  refine MT.of (own := RX5) (by decide) (YM_D hi) rfl (Nat.le_of_ble_eq_true rfl) fun Γ _ hz0 hz1 hC => ?_
  show WX Γ (YM G cls ad) (qf Γ (YM G cls ad) (fiP σ)) 6 0 [(0, .ref (ad 0)), (1, .int p1), (2, .int p2)] [] σ (f_X5_isBetter σ  p1 p2)
  unfold f_X5_isBetter
  refine X_aload_n hC 0 rfl dX5_isBetter_0 ?_
  refine X_iconst (v := 0) hC (by decide) dX5_isBetter_1 ?_
  refine X_iload_n hC 1 rfl dX5_isBetter_2 ?_
  refine X_callP (C := RX5) (T := TX5) (N := 16) (ci := 5) (rest := []) hC (c_X5_writtenBy _ G cls ad hi σ (0 : Int32) p1) (gV tw_698 tw_700 ts_26 tw_7 tw_701) rfl (wM (k := 0) (by omega) cM_ob) rfl rfl okm_X5_writtenBy (by decide) dX5_isBetter_3 rfl (Nat.le_of_ble_eq_true rfl) (fun r1 => ?_)
  refine X_istore_n (ls' := [(3, .int r1), (0, .ref (ad 0)), (1, .int p1), (2, .int p2)]) hC dX5_isBetter_6 (by decide) rfl ?_
  refine X_aload_n hC 1 rfl dX5_isBetter_7 ?_
  refine X_iconst (v := 0) hC (by decide) dX5_isBetter_8 ?_
  refine X_iload_n hC 3 rfl dX5_isBetter_9 ?_
  refine X_callP (C := RX5) (T := TX5) (N := 16) (ci := 5) (rest := []) hC (c_X5_writtenBy _ G cls ad hi σ (0 : Int32) p2) (gV tw_698 tw_700 ts_26 tw_7 tw_701) rfl (wM (k := 0) (by omega) cM_ob) rfl rfl okm_X5_writtenBy (by decide) dX5_isBetter_10 rfl (Nat.le_of_ble_eq_true rfl) (fun r2 => ?_)
  refine X_istore (ls' := [(4, .int r2), (3, .int r1), (0, .ref (ad 0)), (1, .int p1), (2, .int p2)]) hC dX5_isBetter_13 (by decide) rfl ?_
  refine X_iload_n hC 1 rfl dX5_isBetter_15 ?_
  refine X_if_eq hC 24 dX5_isBetter_16 (by decide) (fun h3 => ?_) (fun h3 => ?_)
  · exact X_sub [3, 4, 1, 0] rfl (L_X5_isBetter_b24 G cls ad hi hC hz0 hz1 σ p1 p2 r1 r2)
  · refine X_iload hC 0 rfl dX5_isBetter_19 ?_
    refine X_if_ne hC 53 dX5_isBetter_21 (by decide) (fun h7 => ?_) (fun h7 => ?_)
    · refine X_aload_n hC 2 rfl dX5_isBetter_53 ?_
      refine X_iload_n hC 3 rfl dX5_isBetter_54 ?_
      refine X_callP (C := RX5) (T := TX5) (N := 16) (ci := 5) (rest := []) hC (c_X5_marksOf _ G cls ad hi σ p1) (gV tw_706 tw_708 ts_27 tw_7 tw_709) rfl (wM (k := 0) (by omega) cM_ob) rfl rfl okm_X5_marksOf (by decide) dX5_isBetter_55 rfl (Nat.le_of_ble_eq_true rfl) (fun r8 => ?_)
      refine X_iload hC 0 rfl dX5_isBetter_58 ?_
      refine X_imul hC dX5_isBetter_60 ?_
      refine X_aload_n hC 2 rfl dX5_isBetter_61 ?_
      refine X_iload_n hC 4 rfl dX5_isBetter_62 ?_
      refine X_callP (C := RX5) (T := TX5) (N := 16) (ci := 5) (rest := [.int (r8 * r2)]) hC (c_X5_marksOf _ G cls ad hi σ p2) (gV tw_706 tw_708 ts_27 tw_7 tw_709) rfl (wM (k := 0) (by omega) cM_ob) rfl rfl okm_X5_marksOf (by decide) dX5_isBetter_63 rfl (Nat.le_of_ble_eq_true rfl) (fun r9 => ?_)
      refine X_iload_n hC 1 rfl dX5_isBetter_66 ?_
      refine X_imul hC dX5_isBetter_67 ?_
      refine X_isub hC dX5_isBetter_68 ?_
      refine X_lt (fun x10 => ?_)
      refine X_istore (ls' := [(5, .int x10), (4, .int r2), (3, .int r1), (0, .ref (ad 0)), (1, .int p1), (2, .int p2)]) hC dX5_isBetter_69 (by decide) rfl ?_
      refine X_iload hC 0 rfl dX5_isBetter_71 ?_
      refine X_if_eq hC 89 dX5_isBetter_73 (by decide) (fun h11 => ?_) (fun h11 => ?_)
      · refine X_iload_n hC 2 rfl dX5_isBetter_89 ?_
        refine X_iload hC 1 rfl dX5_isBetter_90 ?_
        refine X_icmp_eq hC 109 dX5_isBetter_92 (by decide) (fun h12 => ?_) (fun h12 => ?_)
        · refine X_iload_n hC 4 rfl dX5_isBetter_109 ?_
          refine X_iload_n hC 5 rfl dX5_isBetter_110 ?_
          refine X_icmp_ge hC 118 dX5_isBetter_111 (by decide) (fun h13 => ?_) (fun h13 => ?_)
          · refine X_iconst (v := 0) hC (by decide) dX5_isBetter_118 ?_
            exact X_zret hC hz0 hz1 rfl dX5_isBetter_119 rfl
          · refine X_iconst (v := 1) hC (by decide) dX5_isBetter_114 ?_
            refine X_goto hC 119 dX5_isBetter_115 (by decide) ?_
            exact X_zret hC hz0 hz1 rfl dX5_isBetter_119 rfl
        · refine X_iload_n hC 2 rfl dX5_isBetter_95 ?_
          refine X_iload hC 1 rfl dX5_isBetter_96 ?_
          refine X_icmp_le hC 105 dX5_isBetter_98 (by decide) (fun h14 => ?_) (fun h14 => ?_)
          · refine X_iconst (v := 0) hC (by decide) dX5_isBetter_105 ?_
            refine X_goto hC 119 dX5_isBetter_106 (by decide) ?_
            exact X_zret hC hz0 hz1 rfl dX5_isBetter_119 rfl
          · refine X_iconst (v := 1) hC (by decide) dX5_isBetter_101 ?_
            refine X_goto hC 119 dX5_isBetter_102 (by decide) ?_
            exact X_zret hC hz0 hz1 rfl dX5_isBetter_119 rfl
      · refine X_iload hC 0 rfl dX5_isBetter_76 ?_
        refine X_if_le hC 85 dX5_isBetter_78 (by decide) (fun h15 => ?_) (fun h15 => ?_)
        · refine X_iconst (v := 0) hC (by decide) dX5_isBetter_85 ?_
          refine X_goto hC 119 dX5_isBetter_86 (by decide) ?_
          exact X_zret hC hz0 hz1 rfl dX5_isBetter_119 rfl
        · refine X_iconst (v := 1) hC (by decide) dX5_isBetter_81 ?_
          refine X_goto hC 119 dX5_isBetter_82 (by decide) ?_
          exact X_zret hC hz0 hz1 rfl dX5_isBetter_119 rfl
    · exact X_sub [3, 4, 1, 0] rfl (L_X5_isBetter_b24 G cls ad hi hC hz0 hz1 σ p1 p2 r1 r2)
theorem dX5_rankOf_0 : decode cX5_rankOf 0 = .ok (.iconst 0, 1) := by decide +kernel
theorem dX5_rankOf_1 : decode cX5_rankOf 1 = .ok (.istore_n 2, 1) := by decide +kernel
theorem dX5_rankOf_2 : decode cX5_rankOf 2 = .ok (.iconst 0, 1) := by decide +kernel
theorem dX5_rankOf_3 : decode cX5_rankOf 3 = .ok (.istore_n 3, 1) := by decide +kernel
theorem dX5_rankOf_4 : decode cX5_rankOf 4 = .ok (.iload_n 3, 1) := by decide +kernel
theorem dX5_rankOf_5 : decode cX5_rankOf 5 = .ok (.aload_n 0, 1) := by decide +kernel
theorem dX5_rankOf_6 : decode cX5_rankOf 6 = .ok (.getfield 7, 3) := by decide +kernel
theorem dX5_rankOf_9 : decode cX5_rankOf 9 = .ok (.iconst 1, 1) := by decide +kernel
theorem dX5_rankOf_10 : decode cX5_rankOf 10 = .ok (.iaload, 1) := by decide +kernel
theorem dX5_rankOf_11 : decode cX5_rankOf 11 = .ok (.if_icmp .ge 31, 3) := by decide +kernel
theorem dX5_rankOf_14 : decode cX5_rankOf 14 = .ok (.iload_n 2, 1) := by decide +kernel
theorem dX5_rankOf_15 : decode cX5_rankOf 15 = .ok (.iload_n 3, 1) := by decide +kernel
theorem dX5_rankOf_16 : decode cX5_rankOf 16 = .ok (.iload_n 1, 1) := by decide +kernel
theorem dX5_rankOf_17 : decode cX5_rankOf 17 = .ok (.if_icmp .eq 16, 3) := by decide +kernel
theorem dX5_rankOf_20 : decode cX5_rankOf 20 = .ok (.aload_n 0, 1) := by decide +kernel
theorem dX5_rankOf_21 : decode cX5_rankOf 21 = .ok (.iload_n 3, 1) := by decide +kernel
theorem dX5_rankOf_22 : decode cX5_rankOf 22 = .ok (.iload_n 1, 1) := by decide +kernel
theorem dX5_rankOf_23 : decode cX5_rankOf 23 = .ok (.invokevirtual 151, 3) := by decide +kernel
theorem dX5_rankOf_26 : decode cX5_rankOf 26 = .ok (.ifCond .eq 7, 3) := by decide +kernel
theorem dX5_rankOf_29 : decode cX5_rankOf 29 = .ok (.iconst 1, 1) := by decide +kernel
theorem dX5_rankOf_30 : decode cX5_rankOf 30 = .ok (.goto 4, 3) := by decide +kernel
theorem dX5_rankOf_33 : decode cX5_rankOf 33 = .ok (.iconst 0, 1) := by decide +kernel
theorem dX5_rankOf_34 : decode cX5_rankOf 34 = .ok (.iadd, 1) := by decide +kernel
theorem dX5_rankOf_35 : decode cX5_rankOf 35 = .ok (.istore_n 2, 1) := by decide +kernel
theorem dX5_rankOf_36 : decode cX5_rankOf 36 = .ok (.iinc 3 1, 3) := by decide +kernel
theorem dX5_rankOf_39 : decode cX5_rankOf 39 = .ok (.goto (-35), 3) := by decide +kernel
theorem dX5_rankOf_42 : decode cX5_rankOf 42 = .ok (.iload_n 2, 1) := by decide +kernel
theorem dX5_rankOf_43 : decode cX5_rankOf 43 = .ok (.ireturn, 1) := by decide +kernel
def f_X5_rankOf_b34 (σ : Sg)  (K4 : Int32 → Int32 → Int32 → Option (Int32))  (v1 v3 w0 w1 : Int32) : Option (Int32) := lt (w1 + w0) fun x3 => lt (v3 + (1 : Int32)) fun x4 => K4 v1 x3 x4
def f_X5_rankOf_b33 (σ : Sg)  (K4 : Int32 → Int32 → Int32 → Option (Int32))  (v1 v3 w0 : Int32) : Option (Int32) := f_X5_rankOf_b34 σ K4 v1 v3 (0 : Int32) w0
def f_X5_rankOf_b4 (σ : Sg)   : Nat → Int32 → Int32 → Int32 → Option (Int32)
  | 0, _, _, _ => none
  | n + 1, v1, v2, v3 => gd (inb (1 : Int32) 624) (if (σ.2 0 (ix (1 : Int32))) ≤ v3 then (some v2) else (if v3 = v1 then (f_X5_rankOf_b33 σ (f_X5_rankOf_b4 σ   n) v1 v3 v2) else ((f_X5_isBetter σ v3 v1).bind fun r5 => if r5 = 0 then (f_X5_rankOf_b33 σ (f_X5_rankOf_b4 σ   n) v1 v3 v2) else (f_X5_rankOf_b34 σ (f_X5_rankOf_b4 σ   n) v1 v3 (1 : Int32) v2))))
def f_X5_rankOf (σ : Sg)  (p1 : Int32) : Option (Int32) := f_X5_rankOf_b4 σ fuel p1 (0 : Int32) (0 : Int32)
set_option maxHeartbeats 4000000 in
set_option maxRecDepth 100000 in
theorem L_X5_rankOf_b34 {Γ : Cx} (G : va_G) (cls : Cls) (ad : Nat → Nat) (hi : inj 6 ad) (hC : CX Γ (YM G cls ad) cX5_rankOf RX5 4 (some .int) 3 71) (hz0 : Γ.2.2.2.2.2.1 = 0) (hz1 : Γ.2.2.2.2.2.2 = 0) (σ : Sg)   (K4 : Int32 → Int32 → Int32 → Option (Int32)) (hK4 : ∀ (v1 v2 v3 : Int32), WX Γ (YM G cls ad) (qf Γ (YM G cls ad) (fiP σ)) 4 4 [(0, .ref (ad 0)), (1, .int v1), (2, .int v2), (3, .int v3)] [] σ (K4 v1 v2 v3))  (v1 v3 w0 w1 : Int32) : WX Γ (YM G cls ad) (qf Γ (YM G cls ad) (fiP σ)) 4 34 [(0, .ref (ad 0)), (1, .int v1), (3, .int v3)] [.int w0, .int w1] σ (f_X5_rankOf_b34 σ  K4 v1 v3 w0 w1) := by
  unfold f_X5_rankOf_b34
  refine X_iadd hC dX5_rankOf_34 ?_
  refine X_lt (fun x3 => ?_)
  refine X_istore_n (ls' := [(2, .int x3), (0, .ref (ad 0)), (1, .int v1), (3, .int v3)]) hC dX5_rankOf_35 (by decide) rfl ?_
  refine X_iinc (ls' := fun x4 => [(3, .int x4), (2, .int x3), (0, .ref (ad 0)), (1, .int v1)]) hC 3 dX5_rankOf_36 rfl (by decide) (by decide) (fun _ => rfl) (fun x4 => ?_)
  refine X_goto hC 4 dX5_rankOf_39 (by decide) ?_
  exact X_sub [2, 3, 1, 0] rfl (hK4 v1 x3 x4)
set_option maxHeartbeats 4000000 in
set_option maxRecDepth 100000 in
theorem L_X5_rankOf_b33 {Γ : Cx} (G : va_G) (cls : Cls) (ad : Nat → Nat) (hi : inj 6 ad) (hC : CX Γ (YM G cls ad) cX5_rankOf RX5 4 (some .int) 3 71) (hz0 : Γ.2.2.2.2.2.1 = 0) (hz1 : Γ.2.2.2.2.2.2 = 0) (σ : Sg)   (K4 : Int32 → Int32 → Int32 → Option (Int32)) (hK4 : ∀ (v1 v2 v3 : Int32), WX Γ (YM G cls ad) (qf Γ (YM G cls ad) (fiP σ)) 4 4 [(0, .ref (ad 0)), (1, .int v1), (2, .int v2), (3, .int v3)] [] σ (K4 v1 v2 v3))  (v1 v3 w0 : Int32) : WX Γ (YM G cls ad) (qf Γ (YM G cls ad) (fiP σ)) 4 33 [(0, .ref (ad 0)), (1, .int v1), (3, .int v3)] [.int w0] σ (f_X5_rankOf_b33 σ  K4 v1 v3 w0) := by
  unfold f_X5_rankOf_b33
  refine X_iconst (v := 0) hC (by decide) dX5_rankOf_33 ?_
  exact (L_X5_rankOf_b34 G cls ad hi hC hz0 hz1 σ K4 hK4 v1 v3 (0 : Int32) w0)
set_option maxHeartbeats 4000000 in
set_option maxRecDepth 100000 in
theorem L_X5_rankOf_b4 {Γ : Cx} (G : va_G) (cls : Cls) (ad : Nat → Nat) (hi : inj 6 ad) (hC : CX Γ (YM G cls ad) cX5_rankOf RX5 4 (some .int) 3 71) (hz0 : Γ.2.2.2.2.2.1 = 0) (hz1 : Γ.2.2.2.2.2.2 = 0) (σ : Sg)    : ∀ (n : Nat) (v1 v2 v3 : Int32), WX Γ (YM G cls ad) (qf Γ (YM G cls ad) (fiP σ)) 4 4 [(0, .ref (ad 0)), (1, .int v1), (2, .int v2), (3, .int v3)] [] σ (f_X5_rankOf_b4 σ   n v1 v2 v3) := by
  intro n
  induction n with
  | zero => intro v1 v2 v3; exact X_none
  | succ n ih =>
    intro v1 v2 v3
    rw [f_X5_rankOf_b4.eq_2]
    refine X_iload_n hC 3 rfl dX5_rankOf_4 ?_
    refine X_aload_n hC 0 rfl dX5_rankOf_5 ?_
    refine X_getf (C := RX5) (T := TX5) (N := 16) (ci := 5) hC 0 (wM (k := 0) (by omega) cM_ob) rfl hinX5 (by decide) tw_485 rfl rfl dX5_rankOf_6 ?_
    refine X_iconst (v := 1) hC (by decide) dX5_rankOf_9 ?_
    refine X_iald hC (wM (k := 1) (by omega) cM_now) (t0 := 0) rfl dX5_rankOf_10 ?_
    refine X_icmp_ge hC 42 dX5_rankOf_11 (by decide) (fun h1 => ?_) (fun h1 => ?_)
    · refine X_iload_n hC 2 rfl dX5_rankOf_42 ?_
      exact X_iret hC hz0 hz1 dX5_rankOf_43 rfl
    · refine X_iload_n hC 2 rfl dX5_rankOf_14 ?_
      refine X_iload_n hC 3 rfl dX5_rankOf_15 ?_
      refine X_iload_n hC 1 rfl dX5_rankOf_16 ?_
      refine X_icmp_eq hC 33 dX5_rankOf_17 (by decide) (fun h2 => ?_) (fun h2 => ?_)
      · exact X_sub [0, 1, 3] rfl (L_X5_rankOf_b33 G cls ad hi hC hz0 hz1 σ (f_X5_rankOf_b4 σ   n) ih v1 v3 v2)
      · refine X_aload_n hC 0 rfl dX5_rankOf_20 ?_
        refine X_iload_n hC 3 rfl dX5_rankOf_21 ?_
        refine X_iload_n hC 1 rfl dX5_rankOf_22 ?_
        refine X_callP (C := RX5) (T := TX5) (N := 16) (ci := 5) (rest := [.int v2]) hC (c_X5_isBetter _ G cls ad hi σ v3 v1) (gV tw_714 tw_716 ts_29 tw_7 tw_717) rfl (wM (k := 0) (by omega) cM_ob) rfl rfl okm_X5_isBetter (by decide) dX5_rankOf_23 rfl (Nat.le_of_ble_eq_true rfl) (fun r5 => ?_)
        refine X_if_eq hC 33 dX5_rankOf_26 (by decide) (fun h6 => ?_) (fun h6 => ?_)
        · exact X_sub [0, 1, 3] rfl (L_X5_rankOf_b33 G cls ad hi hC hz0 hz1 σ (f_X5_rankOf_b4 σ   n) ih v1 v3 v2)
        · refine X_iconst (v := 1) hC (by decide) dX5_rankOf_29 ?_
          refine X_goto hC 34 dX5_rankOf_30 (by decide) ?_
          exact X_sub [0, 1, 3] rfl (L_X5_rankOf_b34 G cls ad hi hC hz0 hz1 σ (f_X5_rankOf_b4 σ   n) ih v1 v3 (1 : Int32) v2)
theorem okm_X5_rankOf : okm yX5_rankOf 1 = true := by decide +kernel
set_option maxHeartbeats 4000000 in
set_option maxRecDepth 100000 in
theorem c_X5_rankOf (l : Launch) (G : va_G) (cls : Cls) (ad : Nat → Nat) (hi : inj 6 ad) (σ : Sg)   (p1 : Int32) : MT l (YM G cls ad) yX5_rankOf (.code yX5_rankOf cX5_rankOf 4 (some .int) :: gw) 3 71 [.ref (ad 0), .int p1] (fiP σ) σ (f_X5_rankOf σ  p1) := by
  refine MT.of (own := RX5) (by decide) (YM_D hi) rfl (Nat.le_of_ble_eq_true rfl) fun Γ _ hz0 hz1 hC => ?_
  show WX Γ (YM G cls ad) (qf Γ (YM G cls ad) (fiP σ)) 4 0 [(0, .ref (ad 0)), (1, .int p1)] [] σ (f_X5_rankOf σ  p1)
  unfold f_X5_rankOf
  refine X_iconst (v := 0) hC (by decide) dX5_rankOf_0 ?_
  refine X_istore_n (ls' := [(2, .int (0 : Int32)), (0, .ref (ad 0)), (1, .int p1)]) hC dX5_rankOf_1 (by decide) rfl ?_
  refine X_iconst (v := 0) hC (by decide) dX5_rankOf_2 ?_
  refine X_istore_n (ls' := [(3, .int (0 : Int32)), (2, .int (0 : Int32)), (0, .ref (ad 0)), (1, .int p1)]) hC dX5_rankOf_3 (by decide) rfl ?_
  exact X_sub [2, 3, 1, 0] rfl (L_X5_rankOf_b4 G cls ad hi hC hz0 hz1 σ fuel p1 (0 : Int32) (0 : Int32))
theorem dX5_pupil_0 : decode cX5_pupil 0 = .ok (.aload_n 0, 1) := by decide +kernel
theorem dX5_pupil_1 : decode cX5_pupil 1 = .ok (.iload_n 1, 1) := by decide +kernel
theorem dX5_pupil_2 : decode cX5_pupil 2 = .ok (.invokevirtual 61, 3) := by decide +kernel
theorem dX5_pupil_5 : decode cX5_pupil 5 = .ok (.ifCond .eq 6, 3) := by decide +kernel
theorem dX5_pupil_8 : decode cX5_pupil 8 = .ok (.ldc 47, 2) := by decide +kernel
theorem dX5_pupil_10 : decode cX5_pupil 10 = .ok (.ireturn, 1) := by decide +kernel
theorem dX5_pupil_11 : decode cX5_pupil 11 = .ok (.iload_n 2, 1) := by decide +kernel
theorem dX5_pupil_12 : decode cX5_pupil 12 = .ok (.tableswitch 98 0 8 #[52, 52, 52, 59, 66, 72, 78, 85, 92], 52) := by decide +kernel
theorem dX5_pupil_64 : decode cX5_pupil 64 = .ok (.aload_n 0, 1) := by decide +kernel
theorem dX5_pupil_65 : decode cX5_pupil 65 = .ok (.iload_n 1, 1) := by decide +kernel
theorem dX5_pupil_66 : decode cX5_pupil 66 = .ok (.iload_n 2, 1) := by decide +kernel
theorem dX5_pupil_67 : decode cX5_pupil 67 = .ok (.invokevirtual 54, 3) := by decide +kernel
theorem dX5_pupil_70 : decode cX5_pupil 70 = .ok (.ireturn, 1) := by decide +kernel
theorem dX5_pupil_71 : decode cX5_pupil 71 = .ok (.aload_n 0, 1) := by decide +kernel
theorem dX5_pupil_72 : decode cX5_pupil 72 = .ok (.iconst 0, 1) := by decide +kernel
theorem dX5_pupil_73 : decode cX5_pupil 73 = .ok (.iload_n 1, 1) := by decide +kernel
theorem dX5_pupil_74 : decode cX5_pupil 74 = .ok (.invokevirtual 145, 3) := by decide +kernel
theorem dX5_pupil_77 : decode cX5_pupil 77 = .ok (.ireturn, 1) := by decide +kernel
theorem dX5_pupil_78 : decode cX5_pupil 78 = .ok (.aload_n 0, 1) := by decide +kernel
theorem dX5_pupil_79 : decode cX5_pupil 79 = .ok (.iload_n 1, 1) := by decide +kernel
theorem dX5_pupil_80 : decode cX5_pupil 80 = .ok (.invokevirtual 148, 3) := by decide +kernel
theorem dX5_pupil_83 : decode cX5_pupil 83 = .ok (.ireturn, 1) := by decide +kernel
theorem dX5_pupil_84 : decode cX5_pupil 84 = .ok (.aload_n 0, 1) := by decide +kernel
theorem dX5_pupil_85 : decode cX5_pupil 85 = .ok (.iload_n 1, 1) := by decide +kernel
theorem dX5_pupil_86 : decode cX5_pupil 86 = .ok (.invokevirtual 154, 3) := by decide +kernel
theorem dX5_pupil_89 : decode cX5_pupil 89 = .ok (.ireturn, 1) := by decide +kernel
theorem dX5_pupil_90 : decode cX5_pupil 90 = .ok (.aload_n 0, 1) := by decide +kernel
theorem dX5_pupil_91 : decode cX5_pupil 91 = .ok (.iload_n 1, 1) := by decide +kernel
theorem dX5_pupil_92 : decode cX5_pupil 92 = .ok (.iconst 3, 1) := by decide +kernel
theorem dX5_pupil_93 : decode cX5_pupil 93 = .ok (.invokevirtual 54, 3) := by decide +kernel
theorem dX5_pupil_96 : decode cX5_pupil 96 = .ok (.ireturn, 1) := by decide +kernel
theorem dX5_pupil_97 : decode cX5_pupil 97 = .ok (.aload_n 0, 1) := by decide +kernel
theorem dX5_pupil_98 : decode cX5_pupil 98 = .ok (.iload_n 1, 1) := by decide +kernel
theorem dX5_pupil_99 : decode cX5_pupil 99 = .ok (.iconst 4, 1) := by decide +kernel
theorem dX5_pupil_100 : decode cX5_pupil 100 = .ok (.invokevirtual 54, 3) := by decide +kernel
theorem dX5_pupil_103 : decode cX5_pupil 103 = .ok (.ireturn, 1) := by decide +kernel
theorem dX5_pupil_104 : decode cX5_pupil 104 = .ok (.aload_n 0, 1) := by decide +kernel
theorem dX5_pupil_105 : decode cX5_pupil 105 = .ok (.iload_n 1, 1) := by decide +kernel
theorem dX5_pupil_106 : decode cX5_pupil 106 = .ok (.invokevirtual 157, 3) := by decide +kernel
theorem dX5_pupil_109 : decode cX5_pupil 109 = .ok (.ireturn, 1) := by decide +kernel
theorem dX5_pupil_110 : decode cX5_pupil 110 = .ok (.ldc 38, 2) := by decide +kernel
theorem dX5_pupil_112 : decode cX5_pupil 112 = .ok (.ireturn, 1) := by decide +kernel
def f_X5_pupil_b64 (σ : Sg)    (v1 v2 : Int32) : Option (Int32) := (f_X5_scholar σ v1 v2).bind fun r4 => some r4
def f_X5_pupil (σ : Sg)  (p1 p2 : Int32) : Option (Int32) := (f_X5_noScholar σ p1).bind fun r1 => if r1 = 0 then (if p2 = 0 then (f_X5_pupil_b64 σ p1 p2) else if p2 = 1 then (f_X5_pupil_b64 σ p1 p2) else if p2 = 2 then (f_X5_pupil_b64 σ p1 p2) else if p2 = 3 then ((f_X5_writtenBy σ (0 : Int32) p1).bind fun r8 => some r8) else if p2 = 4 then ((f_X5_marksOf σ p1).bind fun r10 => some r10) else if p2 = 5 then ((f_X5_rankOf σ p1).bind fun r12 => some r12) else if p2 = 6 then ((f_X5_scholar σ p1 (3 : Int32)).bind fun r14 => some r14) else if p2 = 7 then ((f_X5_scholar σ p1 (4 : Int32)).bind fun r16 => some r16) else if p2 = 8 then ((f_X5_lowestOf σ p1).bind fun r18 => some r18) else (some (-10000002 : Int32))) else (some (-10000001 : Int32))
set_option maxHeartbeats 4000000 in
set_option maxRecDepth 100000 in
theorem L_X5_pupil_b64 {Γ : Cx} (G : va_G) (cls : Cls) (ad : Nat → Nat) (hi : inj 6 ad) (hC : CX Γ (YM G cls ad) cX5_pupil RX5 3 (some .int) 4 94) (hz0 : Γ.2.2.2.2.2.1 = 0) (hz1 : Γ.2.2.2.2.2.2 = 0) (σ : Sg)     (v1 v2 : Int32) : WX Γ (YM G cls ad) (qf Γ (YM G cls ad) (fiP σ)) 3 64 [(0, .ref (ad 0)), (1, .int v1), (2, .int v2)] [] σ (f_X5_pupil_b64 σ   v1 v2) := by
  unfold f_X5_pupil_b64
  refine X_aload_n hC 0 rfl dX5_pupil_64 ?_
  refine X_iload_n hC 1 rfl dX5_pupil_65 ?_
  refine X_iload_n hC 2 rfl dX5_pupil_66 ?_
  refine X_callP (C := RX5) (T := TX5) (N := 16) (ci := 5) (rest := []) hC (c_X5_scholar _ G cls ad hi σ v1 v2) (gV tw_574 tw_576 ts_10 tw_7 tw_577) rfl (wM (k := 0) (by omega) cM_ob) rfl rfl okm_X5_scholar (by decide) dX5_pupil_67 rfl (Nat.le_of_ble_eq_true rfl) (fun r4 => ?_)
  exact X_iret hC hz0 hz1 dX5_pupil_70 rfl
theorem okm_X5_pupil : okm yX5_pupil 2 = true := by decide +kernel
set_option maxHeartbeats 4000000 in
set_option maxRecDepth 100000 in
theorem c_X5_pupil (l : Launch) (G : va_G) (cls : Cls) (ad : Nat → Nat) (hi : inj 6 ad) (σ : Sg)   (p1 p2 : Int32) : MT l (YM G cls ad) yX5_pupil (.code yX5_pupil cX5_pupil 3 (some .int) :: gw) 4 94 [.ref (ad 0), .int p1, .int p2] (fiP σ) σ (f_X5_pupil σ  p1 p2) := by
  refine MT.of (own := RX5) (by decide) (YM_D hi) rfl (Nat.le_of_ble_eq_true rfl) fun Γ _ hz0 hz1 hC => ?_
  show WX Γ (YM G cls ad) (qf Γ (YM G cls ad) (fiP σ)) 3 0 [(0, .ref (ad 0)), (1, .int p1), (2, .int p2)] [] σ (f_X5_pupil σ  p1 p2)
  unfold f_X5_pupil
  refine X_aload_n hC 0 rfl dX5_pupil_0 ?_
  refine X_iload_n hC 1 rfl dX5_pupil_1 ?_
  refine X_callP (C := RX5) (T := TX5) (N := 16) (ci := 5) (rest := []) hC (c_X5_noScholar _ G cls ad hi σ p1) (gV tw_589 tw_591 ts_11 tw_7 tw_592) rfl (wM (k := 0) (by omega) cM_ob) rfl rfl okm_X5_noScholar (by decide) dX5_pupil_2 rfl (Nat.le_of_ble_eq_true rfl) (fun r1 => ?_)
  refine X_if_eq hC 11 dX5_pupil_5 (by decide) (fun h2 => ?_) (fun h2 => ?_)
  · refine X_iload_n hC 2 rfl dX5_pupil_11 ?_
    refine X_ite (fun h3 => ?_) (fun h3 => ?_)
    · refine X_tableIn (v := 0) hC 64 dX5_pupil_12 (by rw [h3]; decide) (by decide) (by decide) rfl (by decide) ?_
      exact (L_X5_pupil_b64 G cls ad hi hC hz0 hz1 σ p1 p2)
    refine X_ite (fun h5 => ?_) (fun h5 => ?_)
    · refine X_tableIn (v := 1) hC 64 dX5_pupil_12 (by rw [h5]; decide) (by decide) (by decide) rfl (by decide) ?_
      exact (L_X5_pupil_b64 G cls ad hi hC hz0 hz1 σ p1 p2)
    refine X_ite (fun h6 => ?_) (fun h6 => ?_)
    · refine X_tableIn (v := 2) hC 64 dX5_pupil_12 (by rw [h6]; decide) (by decide) (by decide) rfl (by decide) ?_
      exact (L_X5_pupil_b64 G cls ad hi hC hz0 hz1 σ p1 p2)
    refine X_ite (fun h7 => ?_) (fun h7 => ?_)
    · refine X_tableIn (v := 3) hC 71 dX5_pupil_12 (by rw [h7]; decide) (by decide) (by decide) rfl (by decide) ?_
      refine X_aload_n hC 0 rfl dX5_pupil_71 ?_
      refine X_iconst (v := 0) hC (by decide) dX5_pupil_72 ?_
      refine X_iload_n hC 1 rfl dX5_pupil_73 ?_
      refine X_callP (C := RX5) (T := TX5) (N := 16) (ci := 5) (rest := []) hC (c_X5_writtenBy _ G cls ad hi σ (0 : Int32) p1) (gV tw_698 tw_700 ts_26 tw_7 tw_701) rfl (wM (k := 0) (by omega) cM_ob) rfl rfl okm_X5_writtenBy (by decide) dX5_pupil_74 rfl (Nat.le_of_ble_eq_true rfl) (fun r8 => ?_)
      exact X_iret hC hz0 hz1 dX5_pupil_77 rfl
    refine X_ite (fun h9 => ?_) (fun h9 => ?_)
    · refine X_tableIn (v := 4) hC 78 dX5_pupil_12 (by rw [h9]; decide) (by decide) (by decide) rfl (by decide) ?_
      refine X_aload_n hC 0 rfl dX5_pupil_78 ?_
      refine X_iload_n hC 1 rfl dX5_pupil_79 ?_
      refine X_callP (C := RX5) (T := TX5) (N := 16) (ci := 5) (rest := []) hC (c_X5_marksOf _ G cls ad hi σ p1) (gV tw_706 tw_708 ts_27 tw_7 tw_709) rfl (wM (k := 0) (by omega) cM_ob) rfl rfl okm_X5_marksOf (by decide) dX5_pupil_80 rfl (Nat.le_of_ble_eq_true rfl) (fun r10 => ?_)
      exact X_iret hC hz0 hz1 dX5_pupil_83 rfl
    refine X_ite (fun h11 => ?_) (fun h11 => ?_)
    · refine X_tableIn (v := 5) hC 84 dX5_pupil_12 (by rw [h11]; decide) (by decide) (by decide) rfl (by decide) ?_
      refine X_aload_n hC 0 rfl dX5_pupil_84 ?_
      refine X_iload_n hC 1 rfl dX5_pupil_85 ?_
      refine X_callP (C := RX5) (T := TX5) (N := 16) (ci := 5) (rest := []) hC (c_X5_rankOf _ G cls ad hi σ p1) (gV tw_710 tw_712 ts_28 tw_7 tw_713) rfl (wM (k := 0) (by omega) cM_ob) rfl rfl okm_X5_rankOf (by decide) dX5_pupil_86 rfl (Nat.le_of_ble_eq_true rfl) (fun r12 => ?_)
      exact X_iret hC hz0 hz1 dX5_pupil_89 rfl
    refine X_ite (fun h13 => ?_) (fun h13 => ?_)
    · refine X_tableIn (v := 6) hC 90 dX5_pupil_12 (by rw [h13]; decide) (by decide) (by decide) rfl (by decide) ?_
      refine X_aload_n hC 0 rfl dX5_pupil_90 ?_
      refine X_iload_n hC 1 rfl dX5_pupil_91 ?_
      refine X_iconst (v := 3) hC (by decide) dX5_pupil_92 ?_
      refine X_callP (C := RX5) (T := TX5) (N := 16) (ci := 5) (rest := []) hC (c_X5_scholar _ G cls ad hi σ p1 (3 : Int32)) (gV tw_574 tw_576 ts_10 tw_7 tw_577) rfl (wM (k := 0) (by omega) cM_ob) rfl rfl okm_X5_scholar (by decide) dX5_pupil_93 rfl (Nat.le_of_ble_eq_true rfl) (fun r14 => ?_)
      exact X_iret hC hz0 hz1 dX5_pupil_96 rfl
    refine X_ite (fun h15 => ?_) (fun h15 => ?_)
    · refine X_tableIn (v := 7) hC 97 dX5_pupil_12 (by rw [h15]; decide) (by decide) (by decide) rfl (by decide) ?_
      refine X_aload_n hC 0 rfl dX5_pupil_97 ?_
      refine X_iload_n hC 1 rfl dX5_pupil_98 ?_
      refine X_iconst (v := 4) hC (by decide) dX5_pupil_99 ?_
      refine X_callP (C := RX5) (T := TX5) (N := 16) (ci := 5) (rest := []) hC (c_X5_scholar _ G cls ad hi σ p1 (4 : Int32)) (gV tw_574 tw_576 ts_10 tw_7 tw_577) rfl (wM (k := 0) (by omega) cM_ob) rfl rfl okm_X5_scholar (by decide) dX5_pupil_100 rfl (Nat.le_of_ble_eq_true rfl) (fun r16 => ?_)
      exact X_iret hC hz0 hz1 dX5_pupil_103 rfl
    refine X_ite (fun h17 => ?_) (fun h17 => ?_)
    · refine X_tableIn (v := 8) hC 104 dX5_pupil_12 (by rw [h17]; decide) (by decide) (by decide) rfl (by decide) ?_
      refine X_aload_n hC 0 rfl dX5_pupil_104 ?_
      refine X_iload_n hC 1 rfl dX5_pupil_105 ?_
      refine X_callP (C := RX5) (T := TX5) (N := 16) (ci := 5) (rest := []) hC (c_X5_lowestOf _ G cls ad hi σ p1) (gV tw_718 tw_720 ts_30 tw_7 tw_721) rfl (wM (k := 0) (by omega) cM_ob) rfl rfl okm_X5_lowestOf (by decide) dX5_pupil_106 rfl (Nat.le_of_ble_eq_true rfl) (fun r18 => ?_)
      exact X_iret hC hz0 hz1 dX5_pupil_109 rfl
    refine X_tableOut hC 110 dX5_pupil_12 (by have q0 := lv_neT h3 (a := 0) (by decide); have q1 := lv_neT h5 (a := 1) (by decide); have q2 := lv_neT h6 (a := 2) (by decide); have q3 := lv_neT h7 (a := 3) (by decide); have q4 := lv_neT h9 (a := 4) (by decide); have q5 := lv_neT h11 (a := 5) (by decide); have q6 := lv_neT h13 (a := 6) (by decide); have q7 := lv_neT h15 (a := 7) (by decide); have q8 := lv_neT h17 (a := 8) (by decide); omega) (by decide) ?_
    refine X_ldc (v := -10000002) hC tw_541 dX5_pupil_110 ?_
    exact X_iret hC hz0 hz1 dX5_pupil_112 rfl
  · refine X_ldc (v := -10000001) hC tw_555 dX5_pupil_8 ?_
    exact X_iret hC hz0 hz1 dX5_pupil_10 rfl
theorem dX5_paper_0 : decode cX5_paper 0 = .ok (.aload_n 0, 1) := by decide +kernel
theorem dX5_paper_1 : decode cX5_paper 1 = .ok (.iload_n 1, 1) := by decide +kernel
theorem dX5_paper_2 : decode cX5_paper 2 = .ok (.invokevirtual 103, 3) := by decide +kernel
theorem dX5_paper_5 : decode cX5_paper 5 = .ok (.ifCond .eq 6, 3) := by decide +kernel
theorem dX5_paper_8 : decode cX5_paper 8 = .ok (.ldc 47, 2) := by decide +kernel
theorem dX5_paper_10 : decode cX5_paper 10 = .ok (.ireturn, 1) := by decide +kernel
theorem dX5_paper_11 : decode cX5_paper 11 = .ok (.iload_n 2, 1) := by decide +kernel
theorem dX5_paper_12 : decode cX5_paper 12 = .ok (.iconst 0, 1) := by decide +kernel
theorem dX5_paper_13 : decode cX5_paper 13 = .ok (.iconst 5, 1) := by decide +kernel
theorem dX5_paper_14 : decode cX5_paper 14 = .ok (.invokestatic 30, 3) := by decide +kernel
theorem dX5_paper_17 : decode cX5_paper 17 = .ok (.ifCond .eq 10, 3) := by decide +kernel
theorem dX5_paper_20 : decode cX5_paper 20 = .ok (.aload_n 0, 1) := by decide +kernel
theorem dX5_paper_21 : decode cX5_paper 21 = .ok (.iload_n 1, 1) := by decide +kernel
theorem dX5_paper_22 : decode cX5_paper 22 = .ok (.iload_n 2, 1) := by decide +kernel
theorem dX5_paper_23 : decode cX5_paper 23 = .ok (.invokevirtual 100, 3) := by decide +kernel
theorem dX5_paper_26 : decode cX5_paper 26 = .ok (.ireturn, 1) := by decide +kernel
theorem dX5_paper_27 : decode cX5_paper 27 = .ok (.iload_n 2, 1) := by decide +kernel
theorem dX5_paper_28 : decode cX5_paper 28 = .ok (.bipush 6, 2) := by decide +kernel
theorem dX5_paper_30 : decode cX5_paper 30 = .ok (.bipush 7, 2) := by decide +kernel
theorem dX5_paper_32 : decode cX5_paper 32 = .ok (.invokestatic 30, 3) := by decide +kernel
theorem dX5_paper_35 : decode cX5_paper 35 = .ok (.ifCond .ne 6, 3) := by decide +kernel
theorem dX5_paper_38 : decode cX5_paper 38 = .ok (.ldc 38, 2) := by decide +kernel
theorem dX5_paper_40 : decode cX5_paper 40 = .ok (.ireturn, 1) := by decide +kernel
theorem dX5_paper_41 : decode cX5_paper 41 = .ok (.aload_n 0, 1) := by decide +kernel
theorem dX5_paper_42 : decode cX5_paper 42 = .ok (.iload_n 1, 1) := by decide +kernel
theorem dX5_paper_43 : decode cX5_paper 43 = .ok (.iconst 5, 1) := by decide +kernel
theorem dX5_paper_44 : decode cX5_paper 44 = .ok (.invokevirtual 100, 3) := by decide +kernel
theorem dX5_paper_47 : decode cX5_paper 47 = .ok (.ifCond .ne 8, 3) := by decide +kernel
theorem dX5_paper_50 : decode cX5_paper 50 = .ok (.ldc 52, 2) := by decide +kernel
theorem dX5_paper_52 : decode cX5_paper 52 = .ok (.goto 9, 3) := by decide +kernel
theorem dX5_paper_55 : decode cX5_paper 55 = .ok (.aload_n 0, 1) := by decide +kernel
theorem dX5_paper_56 : decode cX5_paper 56 = .ok (.iload_n 1, 1) := by decide +kernel
theorem dX5_paper_57 : decode cX5_paper 57 = .ok (.iload_n 2, 1) := by decide +kernel
theorem dX5_paper_58 : decode cX5_paper 58 = .ok (.invokevirtual 100, 3) := by decide +kernel
theorem dX5_paper_61 : decode cX5_paper 61 = .ok (.ireturn, 1) := by decide +kernel
def f_X5_paper (σ : Sg)  (p1 p2 : Int32) : Option (Int32) := (f_X5_noPaper σ p1).bind fun r1 => if r1 = 0 then ((f_X5_in σ p2 (0 : Int32) (5 : Int32)).bind fun r3 => if r3 = 0 then ((f_X5_in σ p2 (6 : Int32) (7 : Int32)).bind fun r5 => if r5 = 0 then (some (-10000002 : Int32)) else ((f_X5_sheet σ p1 (5 : Int32)).bind fun r7 => if r7 = 0 then (some (-10000005 : Int32)) else ((f_X5_sheet σ p1 p2).bind fun r9 => some r9))) else ((f_X5_sheet σ p1 p2).bind fun r10 => some r10)) else (some (-10000001 : Int32))
theorem okm_X5_paper : okm yX5_paper 2 = true := by decide +kernel
set_option maxHeartbeats 4000000 in
set_option maxRecDepth 100000 in
theorem c_X5_paper (l : Launch) (G : va_G) (cls : Cls) (ad : Nat → Nat) (hi : inj 6 ad) (σ : Sg)   (p1 p2 : Int32) : MT l (YM G cls ad) yX5_paper (.code yX5_paper cX5_paper 3 (some .int) :: gw) 2 43 [.ref (ad 0), .int p1, .int p2] (fiP σ) σ (f_X5_paper σ  p1 p2) := by
  refine MT.of (own := RX5) (by decide) (YM_D hi) rfl (Nat.le_of_ble_eq_true rfl) fun Γ _ hz0 hz1 hC => ?_
  show WX Γ (YM G cls ad) (qf Γ (YM G cls ad) (fiP σ)) 3 0 [(0, .ref (ad 0)), (1, .int p1), (2, .int p2)] [] σ (f_X5_paper σ  p1 p2)
  unfold f_X5_paper
  refine X_aload_n hC 0 rfl dX5_paper_0 ?_
  refine X_iload_n hC 1 rfl dX5_paper_1 ?_
  refine X_callP (C := RX5) (T := TX5) (N := 16) (ci := 5) (rest := []) hC (c_X5_noPaper _ G cls ad hi σ p1) (gV tw_625 tw_627 ts_17 tw_7 tw_628) rfl (wM (k := 0) (by omega) cM_ob) rfl rfl okm_X5_noPaper (by decide) dX5_paper_2 rfl (Nat.le_of_ble_eq_true rfl) (fun r1 => ?_)
  refine X_if_eq hC 11 dX5_paper_5 (by decide) (fun h2 => ?_) (fun h2 => ?_)
  · refine X_iload_n hC 2 rfl dX5_paper_11 ?_
    refine X_iconst (v := 0) hC (by decide) dX5_paper_12 ?_
    refine X_iconst (v := 5) hC (by decide) dX5_paper_13 ?_
    refine X_statP (rest := []) hC (c_X5_in _ G cls ad hi σ p2 (0 : Int32) (5 : Int32)) (gSt tw_538 tw_539 tw_7 tw_540) rfl okm_X5_in (by decide) dX5_paper_14 rfl (Nat.le_of_ble_eq_true rfl) (fun r3 => ?_)
    refine X_if_eq hC 27 dX5_paper_17 (by decide) (fun h4 => ?_) (fun h4 => ?_)
    · refine X_iload_n hC 2 rfl dX5_paper_27 ?_
      refine X_bipush (v := 6) hC (by decide) dX5_paper_28 ?_
      refine X_bipush (v := 7) hC (by decide) dX5_paper_30 ?_
      refine X_statP (rest := []) hC (c_X5_in _ G cls ad hi σ p2 (6 : Int32) (7 : Int32)) (gSt tw_538 tw_539 tw_7 tw_540) rfl okm_X5_in (by decide) dX5_paper_32 rfl (Nat.le_of_ble_eq_true rfl) (fun r5 => ?_)
      refine X_if_ne hC 41 dX5_paper_35 (by decide) (fun h6 => ?_) (fun h6 => ?_)
      · refine X_aload_n hC 0 rfl dX5_paper_41 ?_
        refine X_iload_n hC 1 rfl dX5_paper_42 ?_
        refine X_iconst (v := 5) hC (by decide) dX5_paper_43 ?_
        refine X_callP (C := RX5) (T := TX5) (N := 16) (ci := 5) (rest := []) hC (c_X5_sheet _ G cls ad hi σ p1 (5 : Int32)) (gV tw_629 tw_631 ts_18 tw_7 tw_632) rfl (wM (k := 0) (by omega) cM_ob) rfl rfl okm_X5_sheet (by decide) dX5_paper_44 rfl (Nat.le_of_ble_eq_true rfl) (fun r7 => ?_)
        refine X_if_ne hC 55 dX5_paper_47 (by decide) (fun h8 => ?_) (fun h8 => ?_)
        · refine X_aload_n hC 0 rfl dX5_paper_55 ?_
          refine X_iload_n hC 1 rfl dX5_paper_56 ?_
          refine X_iload_n hC 2 rfl dX5_paper_57 ?_
          refine X_callP (C := RX5) (T := TX5) (N := 16) (ci := 5) (rest := []) hC (c_X5_sheet _ G cls ad hi σ p1 p2) (gV tw_629 tw_631 ts_18 tw_7 tw_632) rfl (wM (k := 0) (by omega) cM_ob) rfl rfl okm_X5_sheet (by decide) dX5_paper_58 rfl (Nat.le_of_ble_eq_true rfl) (fun r9 => ?_)
          exact X_iret hC hz0 hz1 dX5_paper_61 rfl
        · refine X_ldc (v := -10000005) hC tw_564 dX5_paper_50 ?_
          refine X_goto hC 61 dX5_paper_52 (by decide) ?_
          exact X_iret hC hz0 hz1 dX5_paper_61 rfl
      · refine X_ldc (v := -10000002) hC tw_541 dX5_paper_38 ?_
        exact X_iret hC hz0 hz1 dX5_paper_40 rfl
    · refine X_aload_n hC 0 rfl dX5_paper_20 ?_
      refine X_iload_n hC 1 rfl dX5_paper_21 ?_
      refine X_iload_n hC 2 rfl dX5_paper_22 ?_
      refine X_callP (C := RX5) (T := TX5) (N := 16) (ci := 5) (rest := []) hC (c_X5_sheet _ G cls ad hi σ p1 p2) (gV tw_629 tw_631 ts_18 tw_7 tw_632) rfl (wM (k := 0) (by omega) cM_ob) rfl rfl okm_X5_sheet (by decide) dX5_paper_23 rfl (Nat.le_of_ble_eq_true rfl) (fun r10 => ?_)
      exact X_iret hC hz0 hz1 dX5_paper_26 rfl
  · refine X_ldc (v := -10000001) hC tw_555 dX5_paper_8 ?_
    exact X_iret hC hz0 hz1 dX5_paper_10 rfl
theorem dX5_coincidence_0 : decode cX5_coincidence 0 = .ok (.aload_n 0, 1) := by decide +kernel
theorem dX5_coincidence_1 : decode cX5_coincidence 1 = .ok (.iload_n 1, 1) := by decide +kernel
theorem dX5_coincidence_2 : decode cX5_coincidence 2 = .ok (.invokevirtual 43, 3) := by decide +kernel
theorem dX5_coincidence_5 : decode cX5_coincidence 5 = .ok (.ifCond .eq 6, 3) := by decide +kernel
theorem dX5_coincidence_8 : decode cX5_coincidence 8 = .ok (.ldc 47, 2) := by decide +kernel
theorem dX5_coincidence_10 : decode cX5_coincidence 10 = .ok (.ireturn, 1) := by decide +kernel
theorem dX5_coincidence_11 : decode cX5_coincidence 11 = .ok (.iload_n 2, 1) := by decide +kernel
theorem dX5_coincidence_12 : decode cX5_coincidence 12 = .ok (.sipush (-1000), 3) := by decide +kernel
theorem dX5_coincidence_15 : decode cX5_coincidence 15 = .ok (.ldc 160, 2) := by decide +kernel
theorem dX5_coincidence_17 : decode cX5_coincidence 17 = .ok (.invokestatic 30, 3) := by decide +kernel
theorem dX5_coincidence_20 : decode cX5_coincidence 20 = .ok (.ifCond .eq 13, 3) := by decide +kernel
theorem dX5_coincidence_23 : decode cX5_coincidence 23 = .ok (.iload_n 3, 1) := by decide +kernel
theorem dX5_coincidence_24 : decode cX5_coincidence 24 = .ok (.iconst 0, 1) := by decide +kernel
theorem dX5_coincidence_25 : decode cX5_coincidence 25 = .ok (.bipush 6, 2) := by decide +kernel
theorem dX5_coincidence_27 : decode cX5_coincidence 27 = .ok (.invokestatic 30, 3) := by decide +kernel
theorem dX5_coincidence_30 : decode cX5_coincidence 30 = .ok (.ifCond .ne 6, 3) := by decide +kernel
theorem dX5_coincidence_33 : decode cX5_coincidence 33 = .ok (.ldc 38, 2) := by decide +kernel
theorem dX5_coincidence_35 : decode cX5_coincidence 35 = .ok (.ireturn, 1) := by decide +kernel
theorem dX5_coincidence_36 : decode cX5_coincidence 36 = .ok (.aload_n 0, 1) := by decide +kernel
theorem dX5_coincidence_37 : decode cX5_coincidence 37 = .ok (.iload_n 1, 1) := by decide +kernel
theorem dX5_coincidence_38 : decode cX5_coincidence 38 = .ok (.iload_n 2, 1) := by decide +kernel
theorem dX5_coincidence_39 : decode cX5_coincidence 39 = .ok (.invokevirtual 82, 3) := by decide +kernel
theorem dX5_coincidence_42 : decode cX5_coincidence 42 = .ok (.iload_n 3, 1) := by decide +kernel
theorem dX5_coincidence_43 : decode cX5_coincidence 43 = .ok (.tableswitch 67 0 5 #[37, 42, 47, 52, 57, 62], 37) := by decide +kernel
theorem dX5_coincidence_80 : decode cX5_coincidence 80 = .ok (.aload_n 0, 1) := by decide +kernel
theorem dX5_coincidence_81 : decode cX5_coincidence 81 = .ok (.getfield 64, 3) := by decide +kernel
theorem dX5_coincidence_84 : decode cX5_coincidence 84 = .ok (.ireturn, 1) := by decide +kernel
theorem dX5_coincidence_85 : decode cX5_coincidence 85 = .ok (.aload_n 0, 1) := by decide +kernel
theorem dX5_coincidence_86 : decode cX5_coincidence 86 = .ok (.getfield 67, 3) := by decide +kernel
theorem dX5_coincidence_89 : decode cX5_coincidence 89 = .ok (.ireturn, 1) := by decide +kernel
theorem dX5_coincidence_90 : decode cX5_coincidence 90 = .ok (.aload_n 0, 1) := by decide +kernel
theorem dX5_coincidence_91 : decode cX5_coincidence 91 = .ok (.getfield 76, 3) := by decide +kernel
theorem dX5_coincidence_94 : decode cX5_coincidence 94 = .ok (.ireturn, 1) := by decide +kernel
theorem dX5_coincidence_95 : decode cX5_coincidence 95 = .ok (.aload_n 0, 1) := by decide +kernel
theorem dX5_coincidence_96 : decode cX5_coincidence 96 = .ok (.getfield 73, 3) := by decide +kernel
theorem dX5_coincidence_99 : decode cX5_coincidence 99 = .ok (.ireturn, 1) := by decide +kernel
theorem dX5_coincidence_100 : decode cX5_coincidence 100 = .ok (.aload_n 0, 1) := by decide +kernel
theorem dX5_coincidence_101 : decode cX5_coincidence 101 = .ok (.getfield 79, 3) := by decide +kernel
theorem dX5_coincidence_104 : decode cX5_coincidence 104 = .ok (.ireturn, 1) := by decide +kernel
theorem dX5_coincidence_105 : decode cX5_coincidence 105 = .ok (.aload_n 0, 1) := by decide +kernel
theorem dX5_coincidence_106 : decode cX5_coincidence 106 = .ok (.getfield 70, 3) := by decide +kernel
theorem dX5_coincidence_109 : decode cX5_coincidence 109 = .ok (.ireturn, 1) := by decide +kernel
theorem dX5_coincidence_110 : decode cX5_coincidence 110 = .ok (.aload_n 0, 1) := by decide +kernel
theorem dX5_coincidence_111 : decode cX5_coincidence 111 = .ok (.getfield 64, 3) := by decide +kernel
theorem dX5_coincidence_114 : decode cX5_coincidence 114 = .ok (.aload_n 0, 1) := by decide +kernel
theorem dX5_coincidence_115 : decode cX5_coincidence 115 = .ok (.iload_n 1, 1) := by decide +kernel
theorem dX5_coincidence_116 : decode cX5_coincidence 116 = .ok (.invokevirtual 48, 3) := by decide +kernel
theorem dX5_coincidence_119 : decode cX5_coincidence 119 = .ok (.imul, 1) := by decide +kernel
theorem dX5_coincidence_120 : decode cX5_coincidence 120 = .ok (.aload_n 0, 1) := by decide +kernel
theorem dX5_coincidence_121 : decode cX5_coincidence 121 = .ok (.getfield 79, 3) := by decide +kernel
theorem dX5_coincidence_124 : decode cX5_coincidence 124 = .ok (.aload_n 0, 1) := by decide +kernel
theorem dX5_coincidence_125 : decode cX5_coincidence 125 = .ok (.iload_n 1, 1) := by decide +kernel
theorem dX5_coincidence_126 : decode cX5_coincidence 126 = .ok (.iconst 1, 1) := by decide +kernel
theorem dX5_coincidence_127 : decode cX5_coincidence 127 = .ok (.invokevirtual 34, 3) := by decide +kernel
theorem dX5_coincidence_130 : decode cX5_coincidence 130 = .ok (.imul, 1) := by decide +kernel
theorem dX5_coincidence_131 : decode cX5_coincidence 131 = .ok (.iadd, 1) := by decide +kernel
theorem dX5_coincidence_132 : decode cX5_coincidence 132 = .ok (.ireturn, 1) := by decide +kernel
def f_X5_coincidence (σ : Sg)  (p1 p2 p3 : Int32) : Option (Int32 × Sg) := (f_X5_noTool σ p1).bind fun r1 => if r1 = 0 then ((f_X5_in σ p2 (-1000 : Int32) (1000000 : Int32)).bind fun r3 => if r3 = 0 then (some ((-10000002 : Int32), σ)) else ((f_X5_in σ p3 (0 : Int32) (6 : Int32)).bind fun r5 => if r5 = 0 then (some ((-10000002 : Int32), σ)) else ((f_X5_look σ p1 p2).bind fun σ7 => if p3 = 0 then (some ((σ7.1 2), σ7)) else if p3 = 1 then (some ((σ7.1 3), σ7)) else if p3 = 2 then (some ((σ7.1 4), σ7)) else if p3 = 3 then (some ((σ7.1 5), σ7)) else if p3 = 4 then (some ((σ7.1 6), σ7)) else if p3 = 5 then (some ((σ7.1 7), σ7)) else ((f_X5_wide σ7 p1).bind fun r14 => (f_X5_tool σ7 p1 (1 : Int32)).bind fun r15 => some ((((σ7.1 2) * r14) + ((σ7.1 6) * r15)), σ7))))) else (some ((-10000001 : Int32), σ))
theorem okm_X5_coincidence : okm yX5_coincidence 3 = true := by decide +kernel
set_option maxHeartbeats 4000000 in
set_option maxRecDepth 100000 in
theorem c_X5_coincidence (l : Launch) (G : va_G) (cls : Cls) (ad : Nat → Nat) (hi : inj 6 ad) (σ : Sg)   (p1 p2 p3 : Int32) : MT l (YM G cls ad) yX5_coincidence (.code yX5_coincidence cX5_coincidence 4 (some .int) :: gw) 3 71 [.ref (ad 0), .int p1, .int p2, .int p3] fiS σ (f_X5_coincidence σ  p1 p2 p3) := by
  refine MT.of (own := RX5) (by decide) (YM_D hi) rfl (Nat.le_of_ble_eq_true rfl) fun Γ _ hz0 hz1 hC => ?_
  show WX Γ (YM G cls ad) (qf Γ (YM G cls ad) fiS) 4 0 [(0, .ref (ad 0)), (1, .int p1), (2, .int p2), (3, .int p3)] [] σ (f_X5_coincidence σ  p1 p2 p3)
  unfold f_X5_coincidence
  refine X_aload_n hC 0 rfl dX5_coincidence_0 ?_
  refine X_iload_n hC 1 rfl dX5_coincidence_1 ?_
  refine X_callP (C := RX5) (T := TX5) (N := 16) (ci := 5) (rest := []) hC (c_X5_noTool _ G cls ad hi σ p1) (gV tw_551 tw_553 ts_7 tw_7 tw_554) rfl (wM (k := 0) (by omega) cM_ob) rfl rfl okm_X5_noTool (by decide) dX5_coincidence_2 rfl (Nat.le_of_ble_eq_true rfl) (fun r1 => ?_)
  refine X_if_eq hC 11 dX5_coincidence_5 (by decide) (fun h2 => ?_) (fun h2 => ?_)
  · refine X_iload_n hC 2 rfl dX5_coincidence_11 ?_
    refine X_sipush (v := -1000) hC (by decide) dX5_coincidence_12 ?_
    refine X_ldc (v := 1000000) hC tw_730 dX5_coincidence_15 ?_
    refine X_statP (rest := []) hC (c_X5_in _ G cls ad hi σ p2 (-1000 : Int32) (1000000 : Int32)) (gSt tw_538 tw_539 tw_7 tw_540) rfl okm_X5_in (by decide) dX5_coincidence_17 rfl (Nat.le_of_ble_eq_true rfl) (fun r3 => ?_)
    refine X_if_eq hC 33 dX5_coincidence_20 (by decide) (fun h4 => ?_) (fun h4 => ?_)
    · refine X_ldc (v := -10000002) hC tw_541 dX5_coincidence_33 ?_
      exact X_iret hC hz0 hz1 dX5_coincidence_35 rfl
    · refine X_iload_n hC 3 rfl dX5_coincidence_23 ?_
      refine X_iconst (v := 0) hC (by decide) dX5_coincidence_24 ?_
      refine X_bipush (v := 6) hC (by decide) dX5_coincidence_25 ?_
      refine X_statP (rest := []) hC (c_X5_in _ G cls ad hi σ p3 (0 : Int32) (6 : Int32)) (gSt tw_538 tw_539 tw_7 tw_540) rfl okm_X5_in (by decide) dX5_coincidence_27 rfl (Nat.le_of_ble_eq_true rfl) (fun r5 => ?_)
      refine X_if_ne hC 36 dX5_coincidence_30 (by decide) (fun h6 => ?_) (fun h6 => ?_)
      · refine X_aload_n hC 0 rfl dX5_coincidence_36 ?_
        refine X_iload_n hC 1 rfl dX5_coincidence_37 ?_
        refine X_iload_n hC 2 rfl dX5_coincidence_38 ?_
        refine X_callV (C := RX5) (T := TX5) (N := 16) (ci := 5) (rest := []) hC (c_X5_look _ G cls ad hi σ p1 p2) (gV tw_613 tw_615 ts_15 tw_7 tw_616) rfl (wM (k := 0) (by omega) cM_ob) rfl rfl okm_X5_look (by decide) dX5_coincidence_39 rfl (Nat.le_of_ble_eq_true rfl) (fun σ7 => ?_)
        refine X_iload_n hC 3 rfl dX5_coincidence_42 ?_
        refine X_ite (fun h8 => ?_) (fun h8 => ?_)
        · refine X_tableIn (v := 0) hC 80 dX5_coincidence_43 (by rw [h8]; decide) (by decide) (by decide) rfl (by decide) ?_
          refine X_aload_n hC 0 rfl dX5_coincidence_80 ?_
          refine X_getf (C := RX5) (T := TX5) (N := 16) (ci := 5) hC 5 (wM (k := 0) (by omega) cM_ob) rfl hinX5 (by decide) tw_490 rfl rfl dX5_coincidence_81 ?_
          exact X_iret hC hz0 hz1 dX5_coincidence_84 rfl
        refine X_ite (fun h9 => ?_) (fun h9 => ?_)
        · refine X_tableIn (v := 1) hC 85 dX5_coincidence_43 (by rw [h9]; decide) (by decide) (by decide) rfl (by decide) ?_
          refine X_aload_n hC 0 rfl dX5_coincidence_85 ?_
          refine X_getf (C := RX5) (T := TX5) (N := 16) (ci := 5) hC 6 (wM (k := 0) (by omega) cM_ob) rfl hinX5 (by decide) tw_491 rfl rfl dX5_coincidence_86 ?_
          exact X_iret hC hz0 hz1 dX5_coincidence_89 rfl
        refine X_ite (fun h10 => ?_) (fun h10 => ?_)
        · refine X_tableIn (v := 2) hC 90 dX5_coincidence_43 (by rw [h10]; decide) (by decide) (by decide) rfl (by decide) ?_
          refine X_aload_n hC 0 rfl dX5_coincidence_90 ?_
          refine X_getf (C := RX5) (T := TX5) (N := 16) (ci := 5) hC 7 (wM (k := 0) (by omega) cM_ob) rfl hinX5 (by decide) tw_492 rfl rfl dX5_coincidence_91 ?_
          exact X_iret hC hz0 hz1 dX5_coincidence_94 rfl
        refine X_ite (fun h11 => ?_) (fun h11 => ?_)
        · refine X_tableIn (v := 3) hC 95 dX5_coincidence_43 (by rw [h11]; decide) (by decide) (by decide) rfl (by decide) ?_
          refine X_aload_n hC 0 rfl dX5_coincidence_95 ?_
          refine X_getf (C := RX5) (T := TX5) (N := 16) (ci := 5) hC 8 (wM (k := 0) (by omega) cM_ob) rfl hinX5 (by decide) tw_493 rfl rfl dX5_coincidence_96 ?_
          exact X_iret hC hz0 hz1 dX5_coincidence_99 rfl
        refine X_ite (fun h12 => ?_) (fun h12 => ?_)
        · refine X_tableIn (v := 4) hC 100 dX5_coincidence_43 (by rw [h12]; decide) (by decide) (by decide) rfl (by decide) ?_
          refine X_aload_n hC 0 rfl dX5_coincidence_100 ?_
          refine X_getf (C := RX5) (T := TX5) (N := 16) (ci := 5) hC 9 (wM (k := 0) (by omega) cM_ob) rfl hinX5 (by decide) tw_494 rfl rfl dX5_coincidence_101 ?_
          exact X_iret hC hz0 hz1 dX5_coincidence_104 rfl
        refine X_ite (fun h13 => ?_) (fun h13 => ?_)
        · refine X_tableIn (v := 5) hC 105 dX5_coincidence_43 (by rw [h13]; decide) (by decide) (by decide) rfl (by decide) ?_
          refine X_aload_n hC 0 rfl dX5_coincidence_105 ?_
          refine X_getf (C := RX5) (T := TX5) (N := 16) (ci := 5) hC 10 (wM (k := 0) (by omega) cM_ob) rfl hinX5 (by decide) tw_495 rfl rfl dX5_coincidence_106 ?_
          exact X_iret hC hz0 hz1 dX5_coincidence_109 rfl
        refine X_tableOut hC 110 dX5_coincidence_43 (by have q0 := lv_neT h8 (a := 0) (by decide); have q1 := lv_neT h9 (a := 1) (by decide); have q2 := lv_neT h10 (a := 2) (by decide); have q3 := lv_neT h11 (a := 3) (by decide); have q4 := lv_neT h12 (a := 4) (by decide); have q5 := lv_neT h13 (a := 5) (by decide); omega) (by decide) ?_
        refine X_aload_n hC 0 rfl dX5_coincidence_110 ?_
        refine X_getf (C := RX5) (T := TX5) (N := 16) (ci := 5) hC 5 (wM (k := 0) (by omega) cM_ob) rfl hinX5 (by decide) tw_490 rfl rfl dX5_coincidence_111 ?_
        refine X_aload_n hC 0 rfl dX5_coincidence_114 ?_
        refine X_iload_n hC 1 rfl dX5_coincidence_115 ?_
        refine X_callP (C := RX5) (T := TX5) (N := 16) (ci := 5) (rest := [.int (σ7.1 2)]) hC (c_X5_wide _ G cls ad hi σ7 p1) (gV tw_556 tw_558 ts_8 tw_7 tw_559) rfl (wM (k := 0) (by omega) cM_ob) rfl rfl okm_X5_wide (by decide) dX5_coincidence_116 rfl (Nat.le_of_ble_eq_true rfl) (fun r14 => ?_)
        refine X_imul hC dX5_coincidence_119 ?_
        refine X_aload_n hC 0 rfl dX5_coincidence_120 ?_
        refine X_getf (C := RX5) (T := TX5) (N := 16) (ci := 5) hC 9 (wM (k := 0) (by omega) cM_ob) rfl hinX5 (by decide) tw_494 rfl rfl dX5_coincidence_121 ?_
        refine X_aload_n hC 0 rfl dX5_coincidence_124 ?_
        refine X_iload_n hC 1 rfl dX5_coincidence_125 ?_
        refine X_iconst (v := 1) hC (by decide) dX5_coincidence_126 ?_
        refine X_callP (C := RX5) (T := TX5) (N := 16) (ci := 5) (rest := [.int (σ7.1 6), .int ((σ7.1 2) * r14)]) hC (c_X5_tool _ G cls ad hi σ7 p1 (1 : Int32)) (gV tw_560 tw_562 ts_9 tw_7 tw_563) rfl (wM (k := 0) (by omega) cM_ob) rfl rfl okm_X5_tool (by decide) dX5_coincidence_127 rfl (Nat.le_of_ble_eq_true rfl) (fun r15 => ?_)
        refine X_imul hC dX5_coincidence_130 ?_
        refine X_iadd hC dX5_coincidence_131 ?_
        exact X_iret hC hz0 hz1 dX5_coincidence_132 rfl
      · refine X_ldc (v := -10000002) hC tw_541 dX5_coincidence_33 ?_
        exact X_iret hC hz0 hz1 dX5_coincidence_35 rfl
  · refine X_ldc (v := -10000001) hC tw_555 dX5_coincidence_8 ?_
    exact X_iret hC hz0 hz1 dX5_coincidence_10 rfl
theorem dX5_answer_0 : decode cX5_answer 0 = .ok (.aload_n 0, 1) := by decide +kernel
theorem dX5_answer_1 : decode cX5_answer 1 = .ok (.iload_n 1, 1) := by decide +kernel
theorem dX5_answer_2 : decode cX5_answer 2 = .ok (.invokevirtual 61, 3) := by decide +kernel
theorem dX5_answer_5 : decode cX5_answer 5 = .ok (.ifCond .ne 11, 3) := by decide +kernel
theorem dX5_answer_8 : decode cX5_answer 8 = .ok (.aload_n 0, 1) := by decide +kernel
theorem dX5_answer_9 : decode cX5_answer 9 = .ok (.iload_n 2, 1) := by decide +kernel
theorem dX5_answer_10 : decode cX5_answer 10 = .ok (.invokevirtual 43, 3) := by decide +kernel
theorem dX5_answer_13 : decode cX5_answer 13 = .ok (.ifCond .eq 6, 3) := by decide +kernel
theorem dX5_answer_16 : decode cX5_answer 16 = .ok (.ldc 47, 2) := by decide +kernel
theorem dX5_answer_18 : decode cX5_answer 18 = .ok (.ireturn, 1) := by decide +kernel
theorem dX5_answer_19 : decode cX5_answer 19 = .ok (.aload_n 0, 1) := by decide +kernel
theorem dX5_answer_20 : decode cX5_answer 20 = .ok (.iload_n 2, 1) := by decide +kernel
theorem dX5_answer_21 : decode cX5_answer 21 = .ok (.iload_n 3, 1) := by decide +kernel
theorem dX5_answer_22 : decode cX5_answer 22 = .ok (.invokevirtual 94, 3) := by decide +kernel
theorem dX5_answer_25 : decode cX5_answer 25 = .ok (.ifCond .ne 6, 3) := by decide +kernel
theorem dX5_answer_28 : decode cX5_answer 28 = .ok (.ldc 38, 2) := by decide +kernel
theorem dX5_answer_30 : decode cX5_answer 30 = .ok (.ireturn, 1) := by decide +kernel
theorem dX5_answer_31 : decode cX5_answer 31 = .ok (.aload_n 0, 1) := by decide +kernel
theorem dX5_answer_32 : decode cX5_answer 32 = .ok (.iload_n 2, 1) := by decide +kernel
theorem dX5_answer_33 : decode cX5_answer 33 = .ok (.iload_n 3, 1) := by decide +kernel
theorem dX5_answer_34 : decode cX5_answer 34 = .ok (.aload_n 0, 1) := by decide +kernel
theorem dX5_answer_35 : decode cX5_answer 35 = .ok (.iload_n 1, 1) := by decide +kernel
theorem dX5_answer_36 : decode cX5_answer 36 = .ok (.iconst 0, 1) := by decide +kernel
theorem dX5_answer_37 : decode cX5_answer 37 = .ok (.invokevirtual 54, 3) := by decide +kernel
theorem dX5_answer_40 : decode cX5_answer 40 = .ok (.aload_n 0, 1) := by decide +kernel
theorem dX5_answer_41 : decode cX5_answer 41 = .ok (.iload_n 1, 1) := by decide +kernel
theorem dX5_answer_42 : decode cX5_answer 42 = .ok (.iconst 1, 1) := by decide +kernel
theorem dX5_answer_43 : decode cX5_answer 43 = .ok (.invokevirtual 54, 3) := by decide +kernel
theorem dX5_answer_46 : decode cX5_answer 46 = .ok (.aload_n 0, 1) := by decide +kernel
theorem dX5_answer_47 : decode cX5_answer 47 = .ok (.iload_n 1, 1) := by decide +kernel
theorem dX5_answer_48 : decode cX5_answer 48 = .ok (.iconst 2, 1) := by decide +kernel
theorem dX5_answer_49 : decode cX5_answer 49 = .ok (.invokevirtual 54, 3) := by decide +kernel
theorem dX5_answer_52 : decode cX5_answer 52 = .ok (.invokevirtual 86, 3) := by decide +kernel
theorem dX5_answer_55 : decode cX5_answer 55 = .ok (.ireturn, 1) := by decide +kernel
def f_X5_answer (σ : Sg)  (p1 p2 p3 : Int32) : Option (Int32 × Sg) := (f_X5_noScholar σ p1).bind fun r1 => if r1 = 0 then ((f_X5_noTool σ p2).bind fun r3 => if r3 = 0 then ((f_X5_isSetting σ p2 p3).bind fun r5 => if r5 = 0 then (some ((-10000002 : Int32), σ)) else ((f_X5_scholar σ p1 (0 : Int32)).bind fun r7 => (f_X5_scholar σ p1 (1 : Int32)).bind fun r8 => (f_X5_scholar σ p1 (2 : Int32)).bind fun r9 => (f_X5_answerBy σ p2 p3 r7 r8 r9).bind fun q12 => lts q12.2 fun σ11 => lt q12.1 fun r10 => some (r10, σ11))) else (some ((-10000001 : Int32), σ))) else (some ((-10000001 : Int32), σ))
theorem okm_X5_answer : okm yX5_answer 3 = true := by decide +kernel
set_option maxHeartbeats 4000000 in
set_option maxRecDepth 100000 in
theorem c_X5_answer (l : Launch) (G : va_G) (cls : Cls) (ad : Nat → Nat) (hi : inj 6 ad) (σ : Sg)   (p1 p2 p3 : Int32) : MT l (YM G cls ad) yX5_answer (.code yX5_answer cX5_answer 4 (some .int) :: gw) 4 101 [.ref (ad 0), .int p1, .int p2, .int p3] fiS σ (f_X5_answer σ  p1 p2 p3) := by
  refine MT.of (own := RX5) (by decide) (YM_D hi) rfl (Nat.le_of_ble_eq_true rfl) fun Γ _ hz0 hz1 hC => ?_
  show WX Γ (YM G cls ad) (qf Γ (YM G cls ad) fiS) 4 0 [(0, .ref (ad 0)), (1, .int p1), (2, .int p2), (3, .int p3)] [] σ (f_X5_answer σ  p1 p2 p3)
  unfold f_X5_answer
  refine X_aload_n hC 0 rfl dX5_answer_0 ?_
  refine X_iload_n hC 1 rfl dX5_answer_1 ?_
  refine X_callP (C := RX5) (T := TX5) (N := 16) (ci := 5) (rest := []) hC (c_X5_noScholar _ G cls ad hi σ p1) (gV tw_589 tw_591 ts_11 tw_7 tw_592) rfl (wM (k := 0) (by omega) cM_ob) rfl rfl okm_X5_noScholar (by decide) dX5_answer_2 rfl (Nat.le_of_ble_eq_true rfl) (fun r1 => ?_)
  refine X_if_ne hC 16 dX5_answer_5 (by decide) (fun h2 => ?_) (fun h2 => ?_)
  · refine X_ldc (v := -10000001) hC tw_555 dX5_answer_16 ?_
    exact X_iret hC hz0 hz1 dX5_answer_18 rfl
  · refine X_aload_n hC 0 rfl dX5_answer_8 ?_
    refine X_iload_n hC 2 rfl dX5_answer_9 ?_
    refine X_callP (C := RX5) (T := TX5) (N := 16) (ci := 5) (rest := []) hC (c_X5_noTool _ G cls ad hi σ p2) (gV tw_551 tw_553 ts_7 tw_7 tw_554) rfl (wM (k := 0) (by omega) cM_ob) rfl rfl okm_X5_noTool (by decide) dX5_answer_10 rfl (Nat.le_of_ble_eq_true rfl) (fun r3 => ?_)
    refine X_if_eq hC 19 dX5_answer_13 (by decide) (fun h4 => ?_) (fun h4 => ?_)
    · refine X_aload_n hC 0 rfl dX5_answer_19 ?_
      refine X_iload_n hC 2 rfl dX5_answer_20 ?_
      refine X_iload_n hC 3 rfl dX5_answer_21 ?_
      refine X_callP (C := RX5) (T := TX5) (N := 16) (ci := 5) (rest := []) hC (c_X5_isSetting _ G cls ad hi σ p2 p3) (gV tw_601 tw_603 ts_12 tw_7 tw_604) rfl (wM (k := 0) (by omega) cM_ob) rfl rfl okm_X5_isSetting (by decide) dX5_answer_22 rfl (Nat.le_of_ble_eq_true rfl) (fun r5 => ?_)
      refine X_if_ne hC 31 dX5_answer_25 (by decide) (fun h6 => ?_) (fun h6 => ?_)
      · refine X_aload_n hC 0 rfl dX5_answer_31 ?_
        refine X_iload_n hC 2 rfl dX5_answer_32 ?_
        refine X_iload_n hC 3 rfl dX5_answer_33 ?_
        refine X_aload_n hC 0 rfl dX5_answer_34 ?_
        refine X_iload_n hC 1 rfl dX5_answer_35 ?_
        refine X_iconst (v := 0) hC (by decide) dX5_answer_36 ?_
        refine X_callP (C := RX5) (T := TX5) (N := 16) (ci := 5) (rest := [.int p3, .int p2, .ref (ad 0)]) hC (c_X5_scholar _ G cls ad hi σ p1 (0 : Int32)) (gV tw_574 tw_576 ts_10 tw_7 tw_577) rfl (wM (k := 0) (by omega) cM_ob) rfl rfl okm_X5_scholar (by decide) dX5_answer_37 rfl (Nat.le_of_ble_eq_true rfl) (fun r7 => ?_)
        refine X_aload_n hC 0 rfl dX5_answer_40 ?_
        refine X_iload_n hC 1 rfl dX5_answer_41 ?_
        refine X_iconst (v := 1) hC (by decide) dX5_answer_42 ?_
        refine X_callP (C := RX5) (T := TX5) (N := 16) (ci := 5) (rest := [.int r7, .int p3, .int p2, .ref (ad 0)]) hC (c_X5_scholar _ G cls ad hi σ p1 (1 : Int32)) (gV tw_574 tw_576 ts_10 tw_7 tw_577) rfl (wM (k := 0) (by omega) cM_ob) rfl rfl okm_X5_scholar (by decide) dX5_answer_43 rfl (Nat.le_of_ble_eq_true rfl) (fun r8 => ?_)
        refine X_aload_n hC 0 rfl dX5_answer_46 ?_
        refine X_iload_n hC 1 rfl dX5_answer_47 ?_
        refine X_iconst (v := 2) hC (by decide) dX5_answer_48 ?_
        refine X_callP (C := RX5) (T := TX5) (N := 16) (ci := 5) (rest := [.int r8, .int r7, .int p3, .int p2, .ref (ad 0)]) hC (c_X5_scholar _ G cls ad hi σ p1 (2 : Int32)) (gV tw_574 tw_576 ts_10 tw_7 tw_577) rfl (wM (k := 0) (by omega) cM_ob) rfl rfl okm_X5_scholar (by decide) dX5_answer_49 rfl (Nat.le_of_ble_eq_true rfl) (fun r9 => ?_)
        refine X_callS (C := RX5) (T := TX5) (N := 16) (ci := 5) (rest := []) hC (c_X5_answerBy _ G cls ad hi σ p2 p3 r7 r8 r9) (gV tw_609 tw_611 ts_14 tw_7 tw_612) rfl (wM (k := 0) (by omega) cM_ob) rfl rfl okm_X5_answerBy (by decide) dX5_answer_52 rfl (Nat.le_of_ble_eq_true rfl) (fun q12 => X_lts fun σ11 => X_lt fun r10 => ?_)
        exact X_iret hC hz0 hz1 dX5_answer_55 rfl
      · refine X_ldc (v := -10000002) hC tw_541 dX5_answer_28 ?_
        exact X_iret hC hz0 hz1 dX5_answer_30 rfl
    · refine X_ldc (v := -10000001) hC tw_555 dX5_answer_16 ?_
      exact X_iret hC hz0 hz1 dX5_answer_18 rfl
theorem dX5_would_0 : decode cX5_would 0 = .ok (.aload_n 0, 1) := by decide +kernel
theorem dX5_would_1 : decode cX5_would 1 = .ok (.iload_n 1, 1) := by decide +kernel
theorem dX5_would_2 : decode cX5_would 2 = .ok (.invokevirtual 61, 3) := by decide +kernel
theorem dX5_would_5 : decode cX5_would 5 = .ok (.ifCond .eq 6, 3) := by decide +kernel
theorem dX5_would_8 : decode cX5_would 8 = .ok (.ldc 47, 2) := by decide +kernel
theorem dX5_would_10 : decode cX5_would 10 = .ok (.ireturn, 1) := by decide +kernel
theorem dX5_would_11 : decode cX5_would 11 = .ok (.iload_n 2, 1) := by decide +kernel
theorem dX5_would_12 : decode cX5_would 12 = .ok (.iconst 0, 1) := by decide +kernel
theorem dX5_would_13 : decode cX5_would 13 = .ok (.iconst 4, 1) := by decide +kernel
theorem dX5_would_14 : decode cX5_would 14 = .ok (.invokestatic 30, 3) := by decide +kernel
theorem dX5_would_17 : decode cX5_would 17 = .ok (.ifCond .ne 6, 3) := by decide +kernel
theorem dX5_would_20 : decode cX5_would 20 = .ok (.ldc 38, 2) := by decide +kernel
theorem dX5_would_22 : decode cX5_would 22 = .ok (.ireturn, 1) := by decide +kernel
theorem dX5_would_23 : decode cX5_would 23 = .ok (.iload_n 2, 1) := by decide +kernel
theorem dX5_would_24 : decode cX5_would 24 = .ok (.iconst 1, 1) := by decide +kernel
theorem dX5_would_25 : decode cX5_would 25 = .ok (.if_icmp .eq 8, 3) := by decide +kernel
theorem dX5_would_28 : decode cX5_would 28 = .ok (.iload_n 2, 1) := by decide +kernel
theorem dX5_would_29 : decode cX5_would 29 = .ok (.iconst 4, 1) := by decide +kernel
theorem dX5_would_30 : decode cX5_would 30 = .ok (.if_icmp .ne 7, 3) := by decide +kernel
theorem dX5_would_33 : decode cX5_would 33 = .ok (.iconst 0, 1) := by decide +kernel
theorem dX5_would_34 : decode cX5_would 34 = .ok (.goto 9, 3) := by decide +kernel
theorem dX5_would_37 : decode cX5_would 37 = .ok (.aload_n 0, 1) := by decide +kernel
theorem dX5_would_38 : decode cX5_would 38 = .ok (.iload_n 1, 1) := by decide +kernel
theorem dX5_would_39 : decode cX5_would 39 = .ok (.iconst 0, 1) := by decide +kernel
theorem dX5_would_40 : decode cX5_would 40 = .ok (.invokevirtual 54, 3) := by decide +kernel
theorem dX5_would_43 : decode cX5_would 43 = .ok (.istore_n 3, 1) := by decide +kernel
theorem dX5_would_44 : decode cX5_would 44 = .ok (.iload_n 2, 1) := by decide +kernel
theorem dX5_would_45 : decode cX5_would 45 = .ok (.iconst 2, 1) := by decide +kernel
theorem dX5_would_46 : decode cX5_would 46 = .ok (.if_icmp .eq 8, 3) := by decide +kernel
theorem dX5_would_49 : decode cX5_would 49 = .ok (.iload_n 2, 1) := by decide +kernel
theorem dX5_would_50 : decode cX5_would 50 = .ok (.iconst 4, 1) := by decide +kernel
theorem dX5_would_51 : decode cX5_would 51 = .ok (.if_icmp .ne 7, 3) := by decide +kernel
theorem dX5_would_54 : decode cX5_would 54 = .ok (.iconst 0, 1) := by decide +kernel
theorem dX5_would_55 : decode cX5_would 55 = .ok (.goto 9, 3) := by decide +kernel
theorem dX5_would_58 : decode cX5_would 58 = .ok (.aload_n 0, 1) := by decide +kernel
theorem dX5_would_59 : decode cX5_would 59 = .ok (.iload_n 1, 1) := by decide +kernel
theorem dX5_would_60 : decode cX5_would 60 = .ok (.iconst 1, 1) := by decide +kernel
theorem dX5_would_61 : decode cX5_would 61 = .ok (.invokevirtual 54, 3) := by decide +kernel
theorem dX5_would_64 : decode cX5_would 64 = .ok (.istore 4, 2) := by decide +kernel
theorem dX5_would_66 : decode cX5_would 66 = .ok (.iload_n 2, 1) := by decide +kernel
theorem dX5_would_67 : decode cX5_would 67 = .ok (.iconst 3, 1) := by decide +kernel
theorem dX5_would_68 : decode cX5_would 68 = .ok (.if_icmp .eq 8, 3) := by decide +kernel
theorem dX5_would_71 : decode cX5_would 71 = .ok (.iload_n 2, 1) := by decide +kernel
theorem dX5_would_72 : decode cX5_would 72 = .ok (.iconst 4, 1) := by decide +kernel
theorem dX5_would_73 : decode cX5_would 73 = .ok (.if_icmp .ne 8, 3) := by decide +kernel
theorem dX5_would_76 : decode cX5_would 76 = .ok (.bipush 7, 2) := by decide +kernel
theorem dX5_would_78 : decode cX5_would 78 = .ok (.goto 9, 3) := by decide +kernel
theorem dX5_would_81 : decode cX5_would 81 = .ok (.aload_n 0, 1) := by decide +kernel
theorem dX5_would_82 : decode cX5_would 82 = .ok (.iload_n 1, 1) := by decide +kernel
theorem dX5_would_83 : decode cX5_would 83 = .ok (.iconst 2, 1) := by decide +kernel
theorem dX5_would_84 : decode cX5_would 84 = .ok (.invokevirtual 54, 3) := by decide +kernel
theorem dX5_would_87 : decode cX5_would 87 = .ok (.istore 5, 2) := by decide +kernel
theorem dX5_would_89 : decode cX5_would 89 = .ok (.iconst 0, 1) := by decide +kernel
theorem dX5_would_90 : decode cX5_would 90 = .ok (.istore 6, 2) := by decide +kernel
theorem dX5_would_92 : decode cX5_would 92 = .ok (.iconst 0, 1) := by decide +kernel
theorem dX5_would_93 : decode cX5_would 93 = .ok (.istore 7, 2) := by decide +kernel
theorem dX5_would_95 : decode cX5_would 95 = .ok (.iload 7, 2) := by decide +kernel
theorem dX5_would_97 : decode cX5_would 97 = .ok (.aload_n 0, 1) := by decide +kernel
theorem dX5_would_98 : decode cX5_would 98 = .ok (.getfield 7, 3) := by decide +kernel
theorem dX5_would_101 : decode cX5_would 101 = .ok (.iconst 2, 1) := by decide +kernel
theorem dX5_would_102 : decode cX5_would 102 = .ok (.iaload, 1) := by decide +kernel
theorem dX5_would_103 : decode cX5_would 103 = .ok (.if_icmp .ge 65, 3) := by decide +kernel
theorem dX5_would_106 : decode cX5_would 106 = .ok (.aload_n 0, 1) := by decide +kernel
theorem dX5_would_107 : decode cX5_would 107 = .ok (.iload 7, 2) := by decide +kernel
theorem dX5_would_109 : decode cX5_would 109 = .ok (.iconst 0, 1) := by decide +kernel
theorem dX5_would_110 : decode cX5_would 110 = .ok (.invokevirtual 100, 3) := by decide +kernel
theorem dX5_would_113 : decode cX5_would 113 = .ok (.iload_n 1, 1) := by decide +kernel
theorem dX5_would_114 : decode cX5_would 114 = .ok (.if_icmp .ne 48, 3) := by decide +kernel
theorem dX5_would_117 : decode cX5_would 117 = .ok (.aload_n 0, 1) := by decide +kernel
theorem dX5_would_118 : decode cX5_would 118 = .ok (.iload 7, 2) := by decide +kernel
theorem dX5_would_120 : decode cX5_would 120 = .ok (.iconst 1, 1) := by decide +kernel
theorem dX5_would_121 : decode cX5_would 121 = .ok (.invokevirtual 100, 3) := by decide +kernel
theorem dX5_would_124 : decode cX5_would 124 = .ok (.istore 8, 2) := by decide +kernel
theorem dX5_would_126 : decode cX5_would 126 = .ok (.iload 6, 2) := by decide +kernel
theorem dX5_would_128 : decode cX5_would 128 = .ok (.aload_n 0, 1) := by decide +kernel
theorem dX5_would_129 : decode cX5_would 129 = .ok (.iload 8, 2) := by decide +kernel
theorem dX5_would_131 : decode cX5_would 131 = .ok (.aload_n 0, 1) := by decide +kernel
theorem dX5_would_132 : decode cX5_would 132 = .ok (.iload 7, 2) := by decide +kernel
theorem dX5_would_134 : decode cX5_would 134 = .ok (.iconst 2, 1) := by decide +kernel
theorem dX5_would_135 : decode cX5_would 135 = .ok (.invokevirtual 100, 3) := by decide +kernel
theorem dX5_would_138 : decode cX5_would 138 = .ok (.aload_n 0, 1) := by decide +kernel
theorem dX5_would_139 : decode cX5_would 139 = .ok (.iload 8, 2) := by decide +kernel
theorem dX5_would_141 : decode cX5_would 141 = .ok (.aload_n 0, 1) := by decide +kernel
theorem dX5_would_142 : decode cX5_would 142 = .ok (.iload 7, 2) := by decide +kernel
theorem dX5_would_144 : decode cX5_would 144 = .ok (.iconst 2, 1) := by decide +kernel
theorem dX5_would_145 : decode cX5_would 145 = .ok (.invokevirtual 100, 3) := by decide +kernel
theorem dX5_would_148 : decode cX5_would 148 = .ok (.iload_n 3, 1) := by decide +kernel
theorem dX5_would_149 : decode cX5_would 149 = .ok (.iload 4, 2) := by decide +kernel
theorem dX5_would_151 : decode cX5_would 151 = .ok (.iload 5, 2) := by decide +kernel
theorem dX5_would_153 : decode cX5_would 153 = .ok (.invokevirtual 86, 3) := by decide +kernel
theorem dX5_would_156 : decode cX5_would 156 = .ok (.invokevirtual 90, 3) := by decide +kernel
theorem dX5_would_159 : decode cX5_would 159 = .ok (.iadd, 1) := by decide +kernel
theorem dX5_would_160 : decode cX5_would 160 = .ok (.istore 6, 2) := by decide +kernel
theorem dX5_would_162 : decode cX5_would 162 = .ok (.iinc 7 1, 3) := by decide +kernel
theorem dX5_would_165 : decode cX5_would 165 = .ok (.goto (-70), 3) := by decide +kernel
theorem dX5_would_168 : decode cX5_would 168 = .ok (.iload 6, 2) := by decide +kernel
theorem dX5_would_170 : decode cX5_would 170 = .ok (.ireturn, 1) := by decide +kernel
def f_X5_would_b162   (K95 : Sg → Int32 → Int32 → Int32 → Int32 → Int32 → Int32 → Option (Int32 × Sg)) (σ : Sg) (v1 v3 v4 v5 v6 v7 : Int32) : Option (Int32 × Sg) := lt (v7 + (1 : Int32)) fun x11 => K95 σ v1 v3 v4 v5 v6 x11
def f_X5_would_b95    : Nat → Sg → Int32 → Int32 → Int32 → Int32 → Int32 → Int32 → Option (Int32 × Sg)
  | 0, _, _, _, _, _, _, _ => none
  | n + 1, σ, v1, v3, v4, v5, v6, v7 => gd (inb (2 : Int32) 624) (if (σ.2 0 (ix (2 : Int32))) ≤ v7 then (some (v6, σ)) else ((f_X5_sheet σ v7 (0 : Int32)).bind fun r9 => if r9 = v1 then ((f_X5_sheet σ v7 (1 : Int32)).bind fun r12 => (f_X5_sheet σ v7 (2 : Int32)).bind fun r13 => (f_X5_sheet σ v7 (2 : Int32)).bind fun r14 => (f_X5_answerBy σ r12 r14 v3 v4 v5).bind fun q19 => lts q19.2 fun σ16 => lt q19.1 fun r15 => (f_X5_markOf σ16 r12 r13 r15).bind fun r17 => lt (v6 + r17) fun x18 => f_X5_would_b162 (f_X5_would_b95   n) σ16 v1 v3 v4 v5 x18 v7) else (f_X5_would_b162 (f_X5_would_b95   n) σ v1 v3 v4 v5 v6 v7)))
def f_X5_would_b87    (σ : Sg) (v1 v3 v4 w0 : Int32) : Option (Int32 × Sg) := f_X5_would_b95 fuel σ v1 v3 v4 w0 (0 : Int32) (0 : Int32)
def f_X5_would_b76    (σ : Sg) (v1 v3 v4 : Int32) : Option (Int32 × Sg) := f_X5_would_b87 σ v1 v3 v4 (7 : Int32)
def f_X5_would_b64    (σ : Sg) (v1 v2 v3 w0 : Int32) : Option (Int32 × Sg) := if v2 = (3 : Int32) then (f_X5_would_b76 σ v1 v3 w0) else (if v2 = (4 : Int32) then (f_X5_would_b76 σ v1 v3 w0) else ((f_X5_scholar σ v1 (2 : Int32)).bind fun r21 => f_X5_would_b87 σ v1 v3 w0 r21))
def f_X5_would_b54    (σ : Sg) (v1 v2 v3 : Int32) : Option (Int32 × Sg) := f_X5_would_b64 σ v1 v2 v3 (0 : Int32)
def f_X5_would_b43    (σ : Sg) (v1 v2 w0 : Int32) : Option (Int32 × Sg) := if v2 = (2 : Int32) then (f_X5_would_b54 σ v1 v2 w0) else (if v2 = (4 : Int32) then (f_X5_would_b54 σ v1 v2 w0) else ((f_X5_scholar σ v1 (1 : Int32)).bind fun r23 => f_X5_would_b64 σ v1 v2 w0 r23))
def f_X5_would_b33    (σ : Sg) (v1 v2 : Int32) : Option (Int32 × Sg) := f_X5_would_b43 σ v1 v2 (0 : Int32)
def f_X5_would (σ : Sg)  (p1 p2 : Int32) : Option (Int32 × Sg) := (f_X5_noScholar σ p1).bind fun r1 => if r1 = 0 then ((f_X5_in σ p2 (0 : Int32) (4 : Int32)).bind fun r3 => if r3 = 0 then (some ((-10000002 : Int32), σ)) else (if p2 = (1 : Int32) then (f_X5_would_b33 σ p1 p2) else (if p2 = (4 : Int32) then (f_X5_would_b33 σ p1 p2) else ((f_X5_scholar σ p1 (0 : Int32)).bind fun r25 => f_X5_would_b43 σ p1 p2 r25)))) else (some ((-10000001 : Int32), σ))
set_option maxHeartbeats 4000000 in
set_option maxRecDepth 100000 in
theorem L_X5_would_b162 {Γ : Cx} (G : va_G) (cls : Cls) (ad : Nat → Nat) (hi : inj 6 ad) (hC : CX Γ (YM G cls ad) cX5_would RX5 9 (some .int) 4 101) (hz0 : Γ.2.2.2.2.2.1 = 0) (hz1 : Γ.2.2.2.2.2.2 = 0)    (K95 : Sg → Int32 → Int32 → Int32 → Int32 → Int32 → Int32 → Option (Int32 × Sg)) (hK95 : ∀ (σ : Sg) (v1 v3 v4 v5 v6 v7 : Int32), WX Γ (YM G cls ad) (qf Γ (YM G cls ad) fiS) 9 95 [(0, .ref (ad 0)), (1, .int v1), (3, .int v3), (4, .int v4), (5, .int v5), (6, .int v6), (7, .int v7)] [] σ (K95 σ v1 v3 v4 v5 v6 v7)) (σ : Sg) (v1 v3 v4 v5 v6 v7 : Int32) : WX Γ (YM G cls ad) (qf Γ (YM G cls ad) fiS) 9 162 [(0, .ref (ad 0)), (1, .int v1), (3, .int v3), (4, .int v4), (5, .int v5), (6, .int v6), (7, .int v7)] [] σ (f_X5_would_b162  K95 σ v1 v3 v4 v5 v6 v7) := by
  unfold f_X5_would_b162
  refine X_iinc (ls' := fun x11 => [(7, .int x11), (0, .ref (ad 0)), (1, .int v1), (3, .int v3), (4, .int v4), (5, .int v5), (6, .int v6)]) hC 6 dX5_would_162 rfl (by decide) (by decide) (fun _ => rfl) (fun x11 => ?_)
  refine X_goto hC 95 dX5_would_165 (by decide) ?_
  exact X_sub [1, 2, 3, 4, 5, 6, 0] rfl (hK95 σ v1 v3 v4 v5 v6 x11)
set_option maxHeartbeats 4000000 in
set_option maxRecDepth 100000 in
theorem L_X5_would_b95 {Γ : Cx} (G : va_G) (cls : Cls) (ad : Nat → Nat) (hi : inj 6 ad) (hC : CX Γ (YM G cls ad) cX5_would RX5 9 (some .int) 4 101) (hz0 : Γ.2.2.2.2.2.1 = 0) (hz1 : Γ.2.2.2.2.2.2 = 0)     : ∀ (n : Nat) (σ : Sg) (v1 v3 v4 v5 v6 v7 : Int32), WX Γ (YM G cls ad) (qf Γ (YM G cls ad) fiS) 9 95 [(0, .ref (ad 0)), (1, .int v1), (3, .int v3), (4, .int v4), (5, .int v5), (6, .int v6), (7, .int v7)] [] σ (f_X5_would_b95   n σ v1 v3 v4 v5 v6 v7) := by
  intro n
  induction n with
  | zero => intro σ v1 v3 v4 v5 v6 v7; exact X_none
  | succ n ih =>
    intro σ v1 v3 v4 v5 v6 v7
    rw [f_X5_would_b95.eq_2]
    refine X_iload hC 6 rfl dX5_would_95 ?_
    refine X_aload_n hC 0 rfl dX5_would_97 ?_
    refine X_getf (C := RX5) (T := TX5) (N := 16) (ci := 5) hC 0 (wM (k := 0) (by omega) cM_ob) rfl hinX5 (by decide) tw_485 rfl rfl dX5_would_98 ?_
    refine X_iconst (v := 2) hC (by decide) dX5_would_101 ?_
    refine X_iald hC (wM (k := 1) (by omega) cM_now) (t0 := 0) rfl dX5_would_102 ?_
    refine X_icmp_ge hC 168 dX5_would_103 (by decide) (fun h8 => ?_) (fun h8 => ?_)
    · refine X_iload hC 5 rfl dX5_would_168 ?_
      exact X_iret hC hz0 hz1 dX5_would_170 rfl
    · refine X_aload_n hC 0 rfl dX5_would_106 ?_
      refine X_iload hC 6 rfl dX5_would_107 ?_
      refine X_iconst (v := 0) hC (by decide) dX5_would_109 ?_
      refine X_callP (C := RX5) (T := TX5) (N := 16) (ci := 5) (rest := []) hC (c_X5_sheet _ G cls ad hi σ v7 (0 : Int32)) (gV tw_629 tw_631 ts_18 tw_7 tw_632) rfl (wM (k := 0) (by omega) cM_ob) rfl rfl okm_X5_sheet (by decide) dX5_would_110 rfl (Nat.le_of_ble_eq_true rfl) (fun r9 => ?_)
      refine X_iload_n hC 1 rfl dX5_would_113 ?_
      refine X_icmp_ne hC 162 dX5_would_114 (by decide) (fun h10 => ?_) (fun h10 => ?_)
      · exact (L_X5_would_b162 G cls ad hi hC hz0 hz1 (f_X5_would_b95   n) ih σ v1 v3 v4 v5 v6 v7)
      · refine X_aload_n hC 0 rfl dX5_would_117 ?_
        refine X_iload hC 6 rfl dX5_would_118 ?_
        refine X_iconst (v := 1) hC (by decide) dX5_would_120 ?_
        refine X_callP (C := RX5) (T := TX5) (N := 16) (ci := 5) (rest := []) hC (c_X5_sheet _ G cls ad hi σ v7 (1 : Int32)) (gV tw_629 tw_631 ts_18 tw_7 tw_632) rfl (wM (k := 0) (by omega) cM_ob) rfl rfl okm_X5_sheet (by decide) dX5_would_121 rfl (Nat.le_of_ble_eq_true rfl) (fun r12 => ?_)
        refine X_istore (ls' := [(8, .int r12), (0, .ref (ad 0)), (1, .int v1), (3, .int v3), (4, .int v4), (5, .int v5), (6, .int v6), (7, .int v7)]) hC dX5_would_124 (by decide) rfl ?_
        refine X_iload hC 6 rfl dX5_would_126 ?_
        refine X_aload_n hC 1 rfl dX5_would_128 ?_
        refine X_iload hC 0 rfl dX5_would_129 ?_
        refine X_aload_n hC 1 rfl dX5_would_131 ?_
        refine X_iload hC 7 rfl dX5_would_132 ?_
        refine X_iconst (v := 2) hC (by decide) dX5_would_134 ?_
        refine X_callP (C := RX5) (T := TX5) (N := 16) (ci := 5) (rest := [.int r12, .ref (ad 0), .int v6]) hC (c_X5_sheet _ G cls ad hi σ v7 (2 : Int32)) (gV tw_629 tw_631 ts_18 tw_7 tw_632) rfl (wM (k := 0) (by omega) cM_ob) rfl rfl okm_X5_sheet (by decide) dX5_would_135 rfl (Nat.le_of_ble_eq_true rfl) (fun r13 => ?_)
        refine X_aload_n hC 1 rfl dX5_would_138 ?_
        refine X_iload hC 0 rfl dX5_would_139 ?_
        refine X_aload_n hC 1 rfl dX5_would_141 ?_
        refine X_iload hC 7 rfl dX5_would_142 ?_
        refine X_iconst (v := 2) hC (by decide) dX5_would_144 ?_
        refine X_callP (C := RX5) (T := TX5) (N := 16) (ci := 5) (rest := [.int r12, .ref (ad 0), .int r13, .int r12, .ref (ad 0), .int v6]) hC (c_X5_sheet _ G cls ad hi σ v7 (2 : Int32)) (gV tw_629 tw_631 ts_18 tw_7 tw_632) rfl (wM (k := 0) (by omega) cM_ob) rfl rfl okm_X5_sheet (by decide) dX5_would_145 rfl (Nat.le_of_ble_eq_true rfl) (fun r14 => ?_)
        refine X_iload_n hC 3 rfl dX5_would_148 ?_
        refine X_iload hC 4 rfl dX5_would_149 ?_
        refine X_iload hC 5 rfl dX5_would_151 ?_
        refine X_callS (C := RX5) (T := TX5) (N := 16) (ci := 5) (rest := [.int r13, .int r12, .ref (ad 0), .int v6]) hC (c_X5_answerBy _ G cls ad hi σ r12 r14 v3 v4 v5) (gV tw_609 tw_611 ts_14 tw_7 tw_612) rfl (wM (k := 0) (by omega) cM_ob) rfl rfl okm_X5_answerBy (by decide) dX5_would_153 rfl (Nat.le_of_ble_eq_true rfl) (fun q19 => X_lts fun σ16 => X_lt fun r15 => ?_)
        refine X_callP (C := RX5) (T := TX5) (N := 16) (ci := 5) (rest := [.int v6]) hC (c_X5_markOf _ G cls ad hi σ16 r12 r13 r15) (gV tw_617 tw_619 ts_16 tw_7 tw_620) rfl (wM (k := 0) (by omega) cM_ob) rfl rfl okm_X5_markOf (by decide) dX5_would_156 rfl (Nat.le_of_ble_eq_true rfl) (fun r17 => ?_)
        refine X_iadd hC dX5_would_159 ?_
        refine X_lt (fun x18 => ?_)
        refine X_istore (ls' := [(6, .int x18), (8, .int r12), (0, .ref (ad 0)), (1, .int v1), (3, .int v3), (4, .int v4), (5, .int v5), (7, .int v7)]) hC dX5_would_160 (by decide) rfl ?_
        exact X_sub [2, 3, 4, 5, 6, 0, 7] rfl (L_X5_would_b162 G cls ad hi hC hz0 hz1 (f_X5_would_b95   n) ih σ16 v1 v3 v4 v5 x18 v7)
set_option maxHeartbeats 4000000 in
set_option maxRecDepth 100000 in
theorem L_X5_would_b87 {Γ : Cx} (G : va_G) (cls : Cls) (ad : Nat → Nat) (hi : inj 6 ad) (hC : CX Γ (YM G cls ad) cX5_would RX5 9 (some .int) 4 101) (hz0 : Γ.2.2.2.2.2.1 = 0) (hz1 : Γ.2.2.2.2.2.2 = 0)     (σ : Sg) (v1 v3 v4 w0 : Int32) : WX Γ (YM G cls ad) (qf Γ (YM G cls ad) fiS) 9 87 [(0, .ref (ad 0)), (1, .int v1), (3, .int v3), (4, .int v4)] [.int w0] σ (f_X5_would_b87   σ v1 v3 v4 w0) := by
  unfold f_X5_would_b87
  refine X_istore (ls' := [(5, .int w0), (0, .ref (ad 0)), (1, .int v1), (3, .int v3), (4, .int v4)]) hC dX5_would_87 (by decide) rfl ?_
  refine X_iconst (v := 0) hC (by decide) dX5_would_89 ?_
  refine X_istore (ls' := [(6, .int (0 : Int32)), (5, .int w0), (0, .ref (ad 0)), (1, .int v1), (3, .int v3), (4, .int v4)]) hC dX5_would_90 (by decide) rfl ?_
  refine X_iconst (v := 0) hC (by decide) dX5_would_92 ?_
  refine X_istore (ls' := [(7, .int (0 : Int32)), (6, .int (0 : Int32)), (5, .int w0), (0, .ref (ad 0)), (1, .int v1), (3, .int v3), (4, .int v4)]) hC dX5_would_93 (by decide) rfl ?_
  exact X_sub [3, 4, 5, 6, 2, 1, 0] rfl (L_X5_would_b95 G cls ad hi hC hz0 hz1 fuel σ v1 v3 v4 w0 (0 : Int32) (0 : Int32))
set_option maxHeartbeats 4000000 in
set_option maxRecDepth 100000 in
theorem L_X5_would_b76 {Γ : Cx} (G : va_G) (cls : Cls) (ad : Nat → Nat) (hi : inj 6 ad) (hC : CX Γ (YM G cls ad) cX5_would RX5 9 (some .int) 4 101) (hz0 : Γ.2.2.2.2.2.1 = 0) (hz1 : Γ.2.2.2.2.2.2 = 0)     (σ : Sg) (v1 v3 v4 : Int32) : WX Γ (YM G cls ad) (qf Γ (YM G cls ad) fiS) 9 76 [(0, .ref (ad 0)), (1, .int v1), (3, .int v3), (4, .int v4)] [] σ (f_X5_would_b76   σ v1 v3 v4) := by
  unfold f_X5_would_b76
  refine X_bipush (v := 7) hC (by decide) dX5_would_76 ?_
  refine X_goto hC 87 dX5_would_78 (by decide) ?_
  exact (L_X5_would_b87 G cls ad hi hC hz0 hz1 σ v1 v3 v4 (7 : Int32))
set_option maxHeartbeats 4000000 in
set_option maxRecDepth 100000 in
theorem L_X5_would_b64 {Γ : Cx} (G : va_G) (cls : Cls) (ad : Nat → Nat) (hi : inj 6 ad) (hC : CX Γ (YM G cls ad) cX5_would RX5 9 (some .int) 4 101) (hz0 : Γ.2.2.2.2.2.1 = 0) (hz1 : Γ.2.2.2.2.2.2 = 0)     (σ : Sg) (v1 v2 v3 w0 : Int32) : WX Γ (YM G cls ad) (qf Γ (YM G cls ad) fiS) 9 64 [(0, .ref (ad 0)), (1, .int v1), (2, .int v2), (3, .int v3)] [.int w0] σ (f_X5_would_b64   σ v1 v2 v3 w0) := by
  unfold f_X5_would_b64
  refine X_istore (ls' := [(4, .int w0), (0, .ref (ad 0)), (1, .int v1), (2, .int v2), (3, .int v3)]) hC dX5_would_64 (by decide) rfl ?_
  refine X_iload_n hC 3 rfl dX5_would_66 ?_
  refine X_iconst (v := 3) hC (by decide) dX5_would_67 ?_
  refine X_icmp_eq hC 76 dX5_would_68 (by decide) (fun h7 => ?_) (fun h7 => ?_)
  · exact X_sub [1, 2, 4, 0] rfl (L_X5_would_b76 G cls ad hi hC hz0 hz1 σ v1 v3 w0)
  · refine X_iload_n hC 3 rfl dX5_would_71 ?_
    refine X_iconst (v := 4) hC (by decide) dX5_would_72 ?_
    refine X_icmp_ne hC 81 dX5_would_73 (by decide) (fun h20 => ?_) (fun h20 => ?_)
    · refine X_aload_n hC 1 rfl dX5_would_81 ?_
      refine X_iload_n hC 2 rfl dX5_would_82 ?_
      refine X_iconst (v := 2) hC (by decide) dX5_would_83 ?_
      refine X_callP (C := RX5) (T := TX5) (N := 16) (ci := 5) (rest := []) hC (c_X5_scholar _ G cls ad hi σ v1 (2 : Int32)) (gV tw_574 tw_576 ts_10 tw_7 tw_577) rfl (wM (k := 0) (by omega) cM_ob) rfl rfl okm_X5_scholar (by decide) dX5_would_84 rfl (Nat.le_of_ble_eq_true rfl) (fun r21 => ?_)
      exact X_sub [1, 2, 4, 0] rfl (L_X5_would_b87 G cls ad hi hC hz0 hz1 σ v1 v3 w0 r21)
    · exact X_sub [1, 2, 4, 0] rfl (L_X5_would_b76 G cls ad hi hC hz0 hz1 σ v1 v3 w0)
set_option maxHeartbeats 4000000 in
set_option maxRecDepth 100000 in
theorem L_X5_would_b54 {Γ : Cx} (G : va_G) (cls : Cls) (ad : Nat → Nat) (hi : inj 6 ad) (hC : CX Γ (YM G cls ad) cX5_would RX5 9 (some .int) 4 101) (hz0 : Γ.2.2.2.2.2.1 = 0) (hz1 : Γ.2.2.2.2.2.2 = 0)     (σ : Sg) (v1 v2 v3 : Int32) : WX Γ (YM G cls ad) (qf Γ (YM G cls ad) fiS) 9 54 [(0, .ref (ad 0)), (1, .int v1), (2, .int v2), (3, .int v3)] [] σ (f_X5_would_b54   σ v1 v2 v3) := by
  unfold f_X5_would_b54
  refine X_iconst (v := 0) hC (by decide) dX5_would_54 ?_
  refine X_goto hC 64 dX5_would_55 (by decide) ?_
  exact (L_X5_would_b64 G cls ad hi hC hz0 hz1 σ v1 v2 v3 (0 : Int32))
set_option maxHeartbeats 4000000 in
set_option maxRecDepth 100000 in
theorem L_X5_would_b43 {Γ : Cx} (G : va_G) (cls : Cls) (ad : Nat → Nat) (hi : inj 6 ad) (hC : CX Γ (YM G cls ad) cX5_would RX5 9 (some .int) 4 101) (hz0 : Γ.2.2.2.2.2.1 = 0) (hz1 : Γ.2.2.2.2.2.2 = 0)     (σ : Sg) (v1 v2 w0 : Int32) : WX Γ (YM G cls ad) (qf Γ (YM G cls ad) fiS) 9 43 [(0, .ref (ad 0)), (1, .int v1), (2, .int v2)] [.int w0] σ (f_X5_would_b43   σ v1 v2 w0) := by
  unfold f_X5_would_b43
  refine X_istore_n (ls' := [(3, .int w0), (0, .ref (ad 0)), (1, .int v1), (2, .int v2)]) hC dX5_would_43 (by decide) rfl ?_
  refine X_iload_n hC 3 rfl dX5_would_44 ?_
  refine X_iconst (v := 2) hC (by decide) dX5_would_45 ?_
  refine X_icmp_eq hC 54 dX5_would_46 (by decide) (fun h6 => ?_) (fun h6 => ?_)
  · exact X_sub [1, 2, 3, 0] rfl (L_X5_would_b54 G cls ad hi hC hz0 hz1 σ v1 v2 w0)
  · refine X_iload_n hC 3 rfl dX5_would_49 ?_
    refine X_iconst (v := 4) hC (by decide) dX5_would_50 ?_
    refine X_icmp_ne hC 58 dX5_would_51 (by decide) (fun h22 => ?_) (fun h22 => ?_)
    · refine X_aload_n hC 1 rfl dX5_would_58 ?_
      refine X_iload_n hC 2 rfl dX5_would_59 ?_
      refine X_iconst (v := 1) hC (by decide) dX5_would_60 ?_
      refine X_callP (C := RX5) (T := TX5) (N := 16) (ci := 5) (rest := []) hC (c_X5_scholar _ G cls ad hi σ v1 (1 : Int32)) (gV tw_574 tw_576 ts_10 tw_7 tw_577) rfl (wM (k := 0) (by omega) cM_ob) rfl rfl okm_X5_scholar (by decide) dX5_would_61 rfl (Nat.le_of_ble_eq_true rfl) (fun r23 => ?_)
      exact X_sub [1, 2, 3, 0] rfl (L_X5_would_b64 G cls ad hi hC hz0 hz1 σ v1 v2 w0 r23)
    · exact X_sub [1, 2, 3, 0] rfl (L_X5_would_b54 G cls ad hi hC hz0 hz1 σ v1 v2 w0)
set_option maxHeartbeats 4000000 in
set_option maxRecDepth 100000 in
theorem L_X5_would_b33 {Γ : Cx} (G : va_G) (cls : Cls) (ad : Nat → Nat) (hi : inj 6 ad) (hC : CX Γ (YM G cls ad) cX5_would RX5 9 (some .int) 4 101) (hz0 : Γ.2.2.2.2.2.1 = 0) (hz1 : Γ.2.2.2.2.2.2 = 0)     (σ : Sg) (v1 v2 : Int32) : WX Γ (YM G cls ad) (qf Γ (YM G cls ad) fiS) 9 33 [(0, .ref (ad 0)), (1, .int v1), (2, .int v2)] [] σ (f_X5_would_b33   σ v1 v2) := by
  unfold f_X5_would_b33
  refine X_iconst (v := 0) hC (by decide) dX5_would_33 ?_
  refine X_goto hC 43 dX5_would_34 (by decide) ?_
  exact (L_X5_would_b43 G cls ad hi hC hz0 hz1 σ v1 v2 (0 : Int32))
theorem okm_X5_would : okm yX5_would 2 = true := by decide +kernel
set_option maxHeartbeats 4000000 in
set_option maxRecDepth 100000 in
theorem c_X5_would (l : Launch) (G : va_G) (cls : Cls) (ad : Nat → Nat) (hi : inj 6 ad) (σ : Sg)   (p1 p2 : Int32) : MT l (YM G cls ad) yX5_would (.code yX5_would cX5_would 9 (some .int) :: gw) 4 101 [.ref (ad 0), .int p1, .int p2] fiS σ (f_X5_would σ  p1 p2) := by
  refine MT.of (own := RX5) (by decide) (YM_D hi) rfl (Nat.le_of_ble_eq_true rfl) fun Γ _ hz0 hz1 hC => ?_
  show WX Γ (YM G cls ad) (qf Γ (YM G cls ad) fiS) 9 0 [(0, .ref (ad 0)), (1, .int p1), (2, .int p2)] [] σ (f_X5_would σ  p1 p2)
  unfold f_X5_would
  refine X_aload_n hC 0 rfl dX5_would_0 ?_
  refine X_iload_n hC 1 rfl dX5_would_1 ?_
  refine X_callP (C := RX5) (T := TX5) (N := 16) (ci := 5) (rest := []) hC (c_X5_noScholar _ G cls ad hi σ p1) (gV tw_589 tw_591 ts_11 tw_7 tw_592) rfl (wM (k := 0) (by omega) cM_ob) rfl rfl okm_X5_noScholar (by decide) dX5_would_2 rfl (Nat.le_of_ble_eq_true rfl) (fun r1 => ?_)
  refine X_if_eq hC 11 dX5_would_5 (by decide) (fun h2 => ?_) (fun h2 => ?_)
  · refine X_iload_n hC 2 rfl dX5_would_11 ?_
    refine X_iconst (v := 0) hC (by decide) dX5_would_12 ?_
    refine X_iconst (v := 4) hC (by decide) dX5_would_13 ?_
    refine X_statP (rest := []) hC (c_X5_in _ G cls ad hi σ p2 (0 : Int32) (4 : Int32)) (gSt tw_538 tw_539 tw_7 tw_540) rfl okm_X5_in (by decide) dX5_would_14 rfl (Nat.le_of_ble_eq_true rfl) (fun r3 => ?_)
    refine X_if_ne hC 23 dX5_would_17 (by decide) (fun h4 => ?_) (fun h4 => ?_)
    · refine X_iload_n hC 2 rfl dX5_would_23 ?_
      refine X_iconst (v := 1) hC (by decide) dX5_would_24 ?_
      refine X_icmp_eq hC 33 dX5_would_25 (by decide) (fun h5 => ?_) (fun h5 => ?_)
      · exact (L_X5_would_b33 G cls ad hi hC hz0 hz1 σ p1 p2)
      · refine X_iload_n hC 2 rfl dX5_would_28 ?_
        refine X_iconst (v := 4) hC (by decide) dX5_would_29 ?_
        refine X_icmp_ne hC 37 dX5_would_30 (by decide) (fun h24 => ?_) (fun h24 => ?_)
        · refine X_aload_n hC 0 rfl dX5_would_37 ?_
          refine X_iload_n hC 1 rfl dX5_would_38 ?_
          refine X_iconst (v := 0) hC (by decide) dX5_would_39 ?_
          refine X_callP (C := RX5) (T := TX5) (N := 16) (ci := 5) (rest := []) hC (c_X5_scholar _ G cls ad hi σ p1 (0 : Int32)) (gV tw_574 tw_576 ts_10 tw_7 tw_577) rfl (wM (k := 0) (by omega) cM_ob) rfl rfl okm_X5_scholar (by decide) dX5_would_40 rfl (Nat.le_of_ble_eq_true rfl) (fun r25 => ?_)
          exact (L_X5_would_b43 G cls ad hi hC hz0 hz1 σ p1 p2 r25)
        · exact (L_X5_would_b33 G cls ad hi hC hz0 hz1 σ p1 p2)
    · refine X_ldc (v := -10000002) hC tw_541 dX5_would_20 ?_
      exact X_iret hC hz0 hz1 dX5_would_22 rfl
  · refine X_ldc (v := -10000001) hC tw_555 dX5_would_8 ?_
    exact X_iret hC hz0 hz1 dX5_would_10 rfl
theorem dX5_ranked_0 : decode cX5_ranked 0 = .ok (.iload_n 1, 1) := by decide +kernel
theorem dX5_ranked_1 : decode cX5_ranked 1 = .ok (.ifCond .ge 6, 3) := by decide +kernel
theorem dX5_ranked_4 : decode cX5_ranked 4 = .ok (.ldc 38, 2) := by decide +kernel
theorem dX5_ranked_6 : decode cX5_ranked 6 = .ok (.ireturn, 1) := by decide +kernel
theorem dX5_ranked_7 : decode cX5_ranked 7 = .ok (.iconst 0, 1) := by decide +kernel
theorem dX5_ranked_8 : decode cX5_ranked 8 = .ok (.istore_n 2, 1) := by decide +kernel
theorem dX5_ranked_9 : decode cX5_ranked 9 = .ok (.iload_n 2, 1) := by decide +kernel
theorem dX5_ranked_10 : decode cX5_ranked 10 = .ok (.aload_n 0, 1) := by decide +kernel
theorem dX5_ranked_11 : decode cX5_ranked 11 = .ok (.getfield 7, 3) := by decide +kernel
theorem dX5_ranked_14 : decode cX5_ranked 14 = .ok (.iconst 1, 1) := by decide +kernel
theorem dX5_ranked_15 : decode cX5_ranked 15 = .ok (.iaload, 1) := by decide +kernel
theorem dX5_ranked_16 : decode cX5_ranked 16 = .ok (.if_icmp .ge 20, 3) := by decide +kernel
theorem dX5_ranked_19 : decode cX5_ranked 19 = .ok (.aload_n 0, 1) := by decide +kernel
theorem dX5_ranked_20 : decode cX5_ranked 20 = .ok (.iload_n 2, 1) := by decide +kernel
theorem dX5_ranked_21 : decode cX5_ranked 21 = .ok (.invokevirtual 154, 3) := by decide +kernel
theorem dX5_ranked_24 : decode cX5_ranked 24 = .ok (.iload_n 1, 1) := by decide +kernel
theorem dX5_ranked_25 : decode cX5_ranked 25 = .ok (.if_icmp .ne 5, 3) := by decide +kernel
theorem dX5_ranked_28 : decode cX5_ranked 28 = .ok (.iload_n 2, 1) := by decide +kernel
theorem dX5_ranked_29 : decode cX5_ranked 29 = .ok (.ireturn, 1) := by decide +kernel
theorem dX5_ranked_30 : decode cX5_ranked 30 = .ok (.iinc 2 1, 3) := by decide +kernel
theorem dX5_ranked_33 : decode cX5_ranked 33 = .ok (.goto (-24), 3) := by decide +kernel
theorem dX5_ranked_36 : decode cX5_ranked 36 = .ok (.ldc 52, 2) := by decide +kernel
theorem dX5_ranked_38 : decode cX5_ranked 38 = .ok (.ireturn, 1) := by decide +kernel
def f_X5_ranked_b9 (σ : Sg)   : Nat → Int32 → Int32 → Option (Int32)
  | 0, _, _ => none
  | n + 1, v1, v2 => gd (inb (1 : Int32) 624) (if (σ.2 0 (ix (1 : Int32))) ≤ v2 then (some (-10000005 : Int32)) else ((f_X5_rankOf σ v2).bind fun r3 => if r3 = v1 then (some v2) else (lt (v2 + (1 : Int32)) fun x5 => (f_X5_ranked_b9 σ   n) v1 x5)))
def f_X5_ranked (σ : Sg)  (p1 : Int32) : Option (Int32) := if 0 ≤ p1 then (f_X5_ranked_b9 σ fuel p1 (0 : Int32)) else (some (-10000002 : Int32))
set_option maxHeartbeats 4000000 in
set_option maxRecDepth 100000 in
theorem L_X5_ranked_b9 {Γ : Cx} (G : va_G) (cls : Cls) (ad : Nat → Nat) (hi : inj 6 ad) (hC : CX Γ (YM G cls ad) cX5_ranked RX5 3 (some .int) 4 94) (hz0 : Γ.2.2.2.2.2.1 = 0) (hz1 : Γ.2.2.2.2.2.2 = 0) (σ : Sg)    : ∀ (n : Nat) (v1 v2 : Int32), WX Γ (YM G cls ad) (qf Γ (YM G cls ad) (fiP σ)) 3 9 [(0, .ref (ad 0)), (1, .int v1), (2, .int v2)] [] σ (f_X5_ranked_b9 σ   n v1 v2) := by
  intro n
  induction n with
  | zero => intro v1 v2; exact X_none
  | succ n ih =>
    intro v1 v2
    rw [f_X5_ranked_b9.eq_2]
    refine X_iload_n hC 2 rfl dX5_ranked_9 ?_
    refine X_aload_n hC 0 rfl dX5_ranked_10 ?_
    refine X_getf (C := RX5) (T := TX5) (N := 16) (ci := 5) hC 0 (wM (k := 0) (by omega) cM_ob) rfl hinX5 (by decide) tw_485 rfl rfl dX5_ranked_11 ?_
    refine X_iconst (v := 1) hC (by decide) dX5_ranked_14 ?_
    refine X_iald hC (wM (k := 1) (by omega) cM_now) (t0 := 0) rfl dX5_ranked_15 ?_
    refine X_icmp_ge hC 36 dX5_ranked_16 (by decide) (fun h2 => ?_) (fun h2 => ?_)
    · refine X_ldc (v := -10000005) hC tw_564 dX5_ranked_36 ?_
      exact X_iret hC hz0 hz1 dX5_ranked_38 rfl
    · refine X_aload_n hC 0 rfl dX5_ranked_19 ?_
      refine X_iload_n hC 2 rfl dX5_ranked_20 ?_
      refine X_callP (C := RX5) (T := TX5) (N := 16) (ci := 5) (rest := []) hC (c_X5_rankOf _ G cls ad hi σ v2) (gV tw_710 tw_712 ts_28 tw_7 tw_713) rfl (wM (k := 0) (by omega) cM_ob) rfl rfl okm_X5_rankOf (by decide) dX5_ranked_21 rfl (Nat.le_of_ble_eq_true rfl) (fun r3 => ?_)
      refine X_iload_n hC 1 rfl dX5_ranked_24 ?_
      refine X_icmp_ne hC 30 dX5_ranked_25 (by decide) (fun h4 => ?_) (fun h4 => ?_)
      · refine X_iinc (ls' := fun x5 => [(2, .int x5), (0, .ref (ad 0)), (1, .int v1)]) hC 2 dX5_ranked_30 rfl (by decide) (by decide) (fun _ => rfl) (fun x5 => ?_)
        refine X_goto hC 9 dX5_ranked_33 (by decide) ?_
        exact X_sub [1, 2, 0] rfl (ih v1 x5)
      · refine X_iload_n hC 2 rfl dX5_ranked_28 ?_
        exact X_iret hC hz0 hz1 dX5_ranked_29 rfl
theorem okm_X5_ranked : okm yX5_ranked 1 = true := by decide +kernel
set_option maxHeartbeats 4000000 in
set_option maxRecDepth 100000 in
theorem c_X5_ranked (l : Launch) (G : va_G) (cls : Cls) (ad : Nat → Nat) (hi : inj 6 ad) (σ : Sg)   (p1 : Int32) : MT l (YM G cls ad) yX5_ranked (.code yX5_ranked cX5_ranked 3 (some .int) :: gw) 4 94 [.ref (ad 0), .int p1] (fiP σ) σ (f_X5_ranked σ  p1) := by
  refine MT.of (own := RX5) (by decide) (YM_D hi) rfl (Nat.le_of_ble_eq_true rfl) fun Γ _ hz0 hz1 hC => ?_
  show WX Γ (YM G cls ad) (qf Γ (YM G cls ad) (fiP σ)) 3 0 [(0, .ref (ad 0)), (1, .int p1)] [] σ (f_X5_ranked σ  p1)
  unfold f_X5_ranked
  refine X_iload_n hC 1 rfl dX5_ranked_0 ?_
  refine X_if_ge hC 7 dX5_ranked_1 (by decide) (fun h1 => ?_) (fun h1 => ?_)
  · refine X_iconst (v := 0) hC (by decide) dX5_ranked_7 ?_
    refine X_istore_n (ls' := [(2, .int (0 : Int32)), (0, .ref (ad 0)), (1, .int p1)]) hC dX5_ranked_8 (by decide) rfl ?_
    exact X_sub [1, 2, 0] rfl (L_X5_ranked_b9 G cls ad hi hC hz0 hz1 σ fuel p1 (0 : Int32))
  · refine X_ldc (v := -10000002) hC tw_541 dX5_ranked_4 ?_
    exact X_iret hC hz0 hz1 dX5_ranked_6 rfl
theorem dX5_count_0 : decode cX5_count 0 = .ok (.iconst 0, 1) := by decide +kernel
theorem dX5_count_1 : decode cX5_count 1 = .ok (.istore_n 2, 1) := by decide +kernel
theorem dX5_count_2 : decode cX5_count 2 = .ok (.iconst 0, 1) := by decide +kernel
theorem dX5_count_3 : decode cX5_count 3 = .ok (.istore_n 3, 1) := by decide +kernel
theorem dX5_count_4 : decode cX5_count 4 = .ok (.iload_n 3, 1) := by decide +kernel
theorem dX5_count_5 : decode cX5_count 5 = .ok (.aload_n 0, 1) := by decide +kernel
theorem dX5_count_6 : decode cX5_count 6 = .ok (.getfield 7, 3) := by decide +kernel
theorem dX5_count_9 : decode cX5_count 9 = .ok (.iconst 2, 1) := by decide +kernel
theorem dX5_count_10 : decode cX5_count 10 = .ok (.iaload, 1) := by decide +kernel
theorem dX5_count_11 : decode cX5_count 11 = .ok (.if_icmp .ge 18, 3) := by decide +kernel
theorem dX5_count_14 : decode cX5_count 14 = .ok (.iload_n 2, 1) := by decide +kernel
theorem dX5_count_15 : decode cX5_count 15 = .ok (.aload_n 0, 1) := by decide +kernel
theorem dX5_count_16 : decode cX5_count 16 = .ok (.iload_n 3, 1) := by decide +kernel
theorem dX5_count_17 : decode cX5_count 17 = .ok (.iconst 4, 1) := by decide +kernel
theorem dX5_count_18 : decode cX5_count 18 = .ok (.invokevirtual 100, 3) := by decide +kernel
theorem dX5_count_21 : decode cX5_count 21 = .ok (.iadd, 1) := by decide +kernel
theorem dX5_count_22 : decode cX5_count 22 = .ok (.istore_n 2, 1) := by decide +kernel
theorem dX5_count_23 : decode cX5_count 23 = .ok (.iinc 3 1, 3) := by decide +kernel
theorem dX5_count_26 : decode cX5_count 26 = .ok (.goto (-22), 3) := by decide +kernel
theorem dX5_count_29 : decode cX5_count 29 = .ok (.iload_n 1, 1) := by decide +kernel
theorem dX5_count_30 : decode cX5_count 30 = .ok (.tableswitch 77 0 8 #[50, 50, 50, 57, 57, 57, 65, 67, 72], 50) := by decide +kernel
theorem dX5_count_80 : decode cX5_count 80 = .ok (.aload_n 0, 1) := by decide +kernel
theorem dX5_count_81 : decode cX5_count 81 = .ok (.getfield 7, 3) := by decide +kernel
theorem dX5_count_84 : decode cX5_count 84 = .ok (.iload_n 1, 1) := by decide +kernel
theorem dX5_count_85 : decode cX5_count 85 = .ok (.iaload, 1) := by decide +kernel
theorem dX5_count_86 : decode cX5_count 86 = .ok (.ireturn, 1) := by decide +kernel
theorem dX5_count_87 : decode cX5_count 87 = .ok (.aload_n 0, 1) := by decide +kernel
theorem dX5_count_88 : decode cX5_count 88 = .ok (.iload_n 1, 1) := by decide +kernel
theorem dX5_count_89 : decode cX5_count 89 = .ok (.iconst 2, 1) := by decide +kernel
theorem dX5_count_90 : decode cX5_count 90 = .ok (.isub, 1) := by decide +kernel
theorem dX5_count_91 : decode cX5_count 91 = .ok (.invokevirtual 106, 3) := by decide +kernel
theorem dX5_count_94 : decode cX5_count 94 = .ok (.ireturn, 1) := by decide +kernel
theorem dX5_count_95 : decode cX5_count 95 = .ok (.iload_n 2, 1) := by decide +kernel
theorem dX5_count_96 : decode cX5_count 96 = .ok (.ireturn, 1) := by decide +kernel
theorem dX5_count_97 : decode cX5_count 97 = .ok (.aload_n 0, 1) := by decide +kernel
theorem dX5_count_98 : decode cX5_count 98 = .ok (.getfield 26, 3) := by decide +kernel
theorem dX5_count_101 : decode cX5_count 101 = .ok (.ireturn, 1) := by decide +kernel
theorem dX5_count_102 : decode cX5_count 102 = .ok (.aload_n 0, 1) := by decide +kernel
theorem dX5_count_103 : decode cX5_count 103 = .ok (.getfield 121, 3) := by decide +kernel
theorem dX5_count_106 : decode cX5_count 106 = .ok (.ireturn, 1) := by decide +kernel
theorem dX5_count_107 : decode cX5_count 107 = .ok (.ldc 38, 2) := by decide +kernel
theorem dX5_count_109 : decode cX5_count 109 = .ok (.ireturn, 1) := by decide +kernel
def f_X5_count_b80 (σ : Sg)    (v1 : Int32) : Option (Int32) := gd (inb v1 624) (some (σ.2 0 (ix v1)))
def f_X5_count_b87 (σ : Sg)    (v1 : Int32) : Option (Int32) := (f_X5_inAppeal σ (v1 - (2 : Int32))).bind fun r6 => some r6
def f_X5_count_b4 (σ : Sg)   : Nat → Int32 → Int32 → Int32 → Option (Int32)
  | 0, _, _, _ => none
  | n + 1, v1, v2, v3 => gd (inb (2 : Int32) 624) (if (σ.2 0 (ix (2 : Int32))) ≤ v3 then (if v1 = 0 then (f_X5_count_b80 σ v1) else if v1 = 1 then (f_X5_count_b80 σ v1) else if v1 = 2 then (f_X5_count_b80 σ v1) else if v1 = 3 then (f_X5_count_b87 σ v1) else if v1 = 4 then (f_X5_count_b87 σ v1) else if v1 = 5 then (f_X5_count_b87 σ v1) else if v1 = 6 then (some v2) else if v1 = 7 then (some (σ.1 0)) else if v1 = 8 then (some (σ.1 8)) else (some (-10000002 : Int32))) else ((f_X5_sheet σ v3 (4 : Int32)).bind fun r12 => lt (v2 + r12) fun x13 => lt (v3 + (1 : Int32)) fun x14 => (f_X5_count_b4 σ   n) v1 x13 x14))
def f_X5_count (σ : Sg)  (p1 : Int32) : Option (Int32) := f_X5_count_b4 σ fuel p1 (0 : Int32) (0 : Int32)
set_option maxHeartbeats 4000000 in
set_option maxRecDepth 100000 in
theorem L_X5_count_b80 {Γ : Cx} (G : va_G) (cls : Cls) (ad : Nat → Nat) (hi : inj 6 ad) (hC : CX Γ (YM G cls ad) cX5_count RX5 4 (some .int) 2 45) (hz0 : Γ.2.2.2.2.2.1 = 0) (hz1 : Γ.2.2.2.2.2.2 = 0) (σ : Sg)     (v1 : Int32) : WX Γ (YM G cls ad) (qf Γ (YM G cls ad) (fiP σ)) 4 80 [(0, .ref (ad 0)), (1, .int v1)] [] σ (f_X5_count_b80 σ   v1) := by
  unfold f_X5_count_b80
  refine X_aload_n hC 0 rfl dX5_count_80 ?_
  refine X_getf (C := RX5) (T := TX5) (N := 16) (ci := 5) hC 0 (wM (k := 0) (by omega) cM_ob) rfl hinX5 (by decide) tw_485 rfl rfl dX5_count_81 ?_
  refine X_iload_n hC 1 rfl dX5_count_84 ?_
  refine X_iald hC (wM (k := 1) (by omega) cM_now) (t0 := 0) rfl dX5_count_85 ?_
  exact X_iret hC hz0 hz1 dX5_count_86 rfl
set_option maxHeartbeats 4000000 in
set_option maxRecDepth 100000 in
theorem L_X5_count_b87 {Γ : Cx} (G : va_G) (cls : Cls) (ad : Nat → Nat) (hi : inj 6 ad) (hC : CX Γ (YM G cls ad) cX5_count RX5 4 (some .int) 2 45) (hz0 : Γ.2.2.2.2.2.1 = 0) (hz1 : Γ.2.2.2.2.2.2 = 0) (σ : Sg)     (v1 : Int32) : WX Γ (YM G cls ad) (qf Γ (YM G cls ad) (fiP σ)) 4 87 [(0, .ref (ad 0)), (1, .int v1)] [] σ (f_X5_count_b87 σ   v1) := by
  unfold f_X5_count_b87
  refine X_aload_n hC 0 rfl dX5_count_87 ?_
  refine X_iload_n hC 1 rfl dX5_count_88 ?_
  refine X_iconst (v := 2) hC (by decide) dX5_count_89 ?_
  refine X_isub hC dX5_count_90 ?_
  refine X_callP (C := RX5) (T := TX5) (N := 16) (ci := 5) (rest := []) hC (c_X5_inAppeal _ G cls ad hi σ (v1 - (2 : Int32))) (gV tw_633 tw_635 ts_19 tw_7 tw_636) rfl (wM (k := 0) (by omega) cM_ob) rfl rfl okm_X5_inAppeal (by decide) dX5_count_91 rfl (Nat.le_of_ble_eq_true rfl) (fun r6 => ?_)
  exact X_iret hC hz0 hz1 dX5_count_94 rfl
set_option maxHeartbeats 4000000 in
set_option maxRecDepth 100000 in
theorem L_X5_count_b4 {Γ : Cx} (G : va_G) (cls : Cls) (ad : Nat → Nat) (hi : inj 6 ad) (hC : CX Γ (YM G cls ad) cX5_count RX5 4 (some .int) 2 45) (hz0 : Γ.2.2.2.2.2.1 = 0) (hz1 : Γ.2.2.2.2.2.2 = 0) (σ : Sg)    : ∀ (n : Nat) (v1 v2 v3 : Int32), WX Γ (YM G cls ad) (qf Γ (YM G cls ad) (fiP σ)) 4 4 [(0, .ref (ad 0)), (1, .int v1), (2, .int v2), (3, .int v3)] [] σ (f_X5_count_b4 σ   n v1 v2 v3) := by
  intro n
  induction n with
  | zero => intro v1 v2 v3; exact X_none
  | succ n ih =>
    intro v1 v2 v3
    rw [f_X5_count_b4.eq_2]
    refine X_iload_n hC 3 rfl dX5_count_4 ?_
    refine X_aload_n hC 0 rfl dX5_count_5 ?_
    refine X_getf (C := RX5) (T := TX5) (N := 16) (ci := 5) hC 0 (wM (k := 0) (by omega) cM_ob) rfl hinX5 (by decide) tw_485 rfl rfl dX5_count_6 ?_
    refine X_iconst (v := 2) hC (by decide) dX5_count_9 ?_
    refine X_iald hC (wM (k := 1) (by omega) cM_now) (t0 := 0) rfl dX5_count_10 ?_
    refine X_icmp_ge hC 29 dX5_count_11 (by decide) (fun h1 => ?_) (fun h1 => ?_)
    · refine X_iload_n hC 1 rfl dX5_count_29 ?_
      refine X_ite (fun h2 => ?_) (fun h2 => ?_)
      · refine X_tableIn (v := 0) hC 80 dX5_count_30 (by rw [h2]; decide) (by decide) (by decide) rfl (by decide) ?_
        exact X_sub [0, 1] rfl (L_X5_count_b80 G cls ad hi hC hz0 hz1 σ v1)
      refine X_ite (fun h3 => ?_) (fun h3 => ?_)
      · refine X_tableIn (v := 1) hC 80 dX5_count_30 (by rw [h3]; decide) (by decide) (by decide) rfl (by decide) ?_
        exact X_sub [0, 1] rfl (L_X5_count_b80 G cls ad hi hC hz0 hz1 σ v1)
      refine X_ite (fun h4 => ?_) (fun h4 => ?_)
      · refine X_tableIn (v := 2) hC 80 dX5_count_30 (by rw [h4]; decide) (by decide) (by decide) rfl (by decide) ?_
        exact X_sub [0, 1] rfl (L_X5_count_b80 G cls ad hi hC hz0 hz1 σ v1)
      refine X_ite (fun h5 => ?_) (fun h5 => ?_)
      · refine X_tableIn (v := 3) hC 87 dX5_count_30 (by rw [h5]; decide) (by decide) (by decide) rfl (by decide) ?_
        exact X_sub [0, 1] rfl (L_X5_count_b87 G cls ad hi hC hz0 hz1 σ v1)
      refine X_ite (fun h7 => ?_) (fun h7 => ?_)
      · refine X_tableIn (v := 4) hC 87 dX5_count_30 (by rw [h7]; decide) (by decide) (by decide) rfl (by decide) ?_
        exact X_sub [0, 1] rfl (L_X5_count_b87 G cls ad hi hC hz0 hz1 σ v1)
      refine X_ite (fun h8 => ?_) (fun h8 => ?_)
      · refine X_tableIn (v := 5) hC 87 dX5_count_30 (by rw [h8]; decide) (by decide) (by decide) rfl (by decide) ?_
        exact X_sub [0, 1] rfl (L_X5_count_b87 G cls ad hi hC hz0 hz1 σ v1)
      refine X_ite (fun h9 => ?_) (fun h9 => ?_)
      · refine X_tableIn (v := 6) hC 95 dX5_count_30 (by rw [h9]; decide) (by decide) (by decide) rfl (by decide) ?_
        refine X_iload_n hC 2 rfl dX5_count_95 ?_
        exact X_iret hC hz0 hz1 dX5_count_96 rfl
      refine X_ite (fun h10 => ?_) (fun h10 => ?_)
      · refine X_tableIn (v := 7) hC 97 dX5_count_30 (by rw [h10]; decide) (by decide) (by decide) rfl (by decide) ?_
        refine X_aload_n hC 0 rfl dX5_count_97 ?_
        refine X_getf (C := RX5) (T := TX5) (N := 16) (ci := 5) hC 2 (wM (k := 0) (by omega) cM_ob) rfl hinX5 (by decide) tw_487 rfl rfl dX5_count_98 ?_
        exact X_iret hC hz0 hz1 dX5_count_101 rfl
      refine X_ite (fun h11 => ?_) (fun h11 => ?_)
      · refine X_tableIn (v := 8) hC 102 dX5_count_30 (by rw [h11]; decide) (by decide) (by decide) rfl (by decide) ?_
        refine X_aload_n hC 0 rfl dX5_count_102 ?_
        refine X_getf (C := RX5) (T := TX5) (N := 16) (ci := 5) hC 11 (wM (k := 0) (by omega) cM_ob) rfl hinX5 (by decide) tw_496 rfl rfl dX5_count_103 ?_
        exact X_iret hC hz0 hz1 dX5_count_106 rfl
      refine X_tableOut hC 107 dX5_count_30 (by have q0 := lv_neT h2 (a := 0) (by decide); have q1 := lv_neT h3 (a := 1) (by decide); have q2 := lv_neT h4 (a := 2) (by decide); have q3 := lv_neT h5 (a := 3) (by decide); have q4 := lv_neT h7 (a := 4) (by decide); have q5 := lv_neT h8 (a := 5) (by decide); have q6 := lv_neT h9 (a := 6) (by decide); have q7 := lv_neT h10 (a := 7) (by decide); have q8 := lv_neT h11 (a := 8) (by decide); omega) (by decide) ?_
      refine X_ldc (v := -10000002) hC tw_541 dX5_count_107 ?_
      exact X_iret hC hz0 hz1 dX5_count_109 rfl
    · refine X_iload_n hC 2 rfl dX5_count_14 ?_
      refine X_aload_n hC 0 rfl dX5_count_15 ?_
      refine X_iload_n hC 3 rfl dX5_count_16 ?_
      refine X_iconst (v := 4) hC (by decide) dX5_count_17 ?_
      refine X_callP (C := RX5) (T := TX5) (N := 16) (ci := 5) (rest := [.int v2]) hC (c_X5_sheet _ G cls ad hi σ v3 (4 : Int32)) (gV tw_629 tw_631 ts_18 tw_7 tw_632) rfl (wM (k := 0) (by omega) cM_ob) rfl rfl okm_X5_sheet (by decide) dX5_count_18 rfl (Nat.le_of_ble_eq_true rfl) (fun r12 => ?_)
      refine X_iadd hC dX5_count_21 ?_
      refine X_lt (fun x13 => ?_)
      refine X_istore_n (ls' := [(2, .int x13), (0, .ref (ad 0)), (1, .int v1), (3, .int v3)]) hC dX5_count_22 (by decide) rfl ?_
      refine X_iinc (ls' := fun x14 => [(3, .int x14), (2, .int x13), (0, .ref (ad 0)), (1, .int v1)]) hC 3 dX5_count_23 rfl (by decide) (by decide) (fun _ => rfl) (fun x14 => ?_)
      refine X_goto hC 4 dX5_count_26 (by decide) ?_
      exact X_sub [2, 3, 1, 0] rfl (ih v1 x13 x14)
theorem okm_X5_count : okm yX5_count 1 = true := by decide +kernel
set_option maxHeartbeats 4000000 in
set_option maxRecDepth 100000 in
theorem c_X5_count (l : Launch) (G : va_G) (cls : Cls) (ad : Nat → Nat) (hi : inj 6 ad) (σ : Sg)   (p1 : Int32) : MT l (YM G cls ad) yX5_count (.code yX5_count cX5_count 4 (some .int) :: gw) 2 45 [.ref (ad 0), .int p1] (fiP σ) σ (f_X5_count σ  p1) := by
  refine MT.of (own := RX5) (by decide) (YM_D hi) rfl (Nat.le_of_ble_eq_true rfl) fun Γ _ hz0 hz1 hC => ?_
  show WX Γ (YM G cls ad) (qf Γ (YM G cls ad) (fiP σ)) 4 0 [(0, .ref (ad 0)), (1, .int p1)] [] σ (f_X5_count σ  p1)
  unfold f_X5_count
  refine X_iconst (v := 0) hC (by decide) dX5_count_0 ?_
  refine X_istore_n (ls' := [(2, .int (0 : Int32)), (0, .ref (ad 0)), (1, .int p1)]) hC dX5_count_1 (by decide) rfl ?_
  refine X_iconst (v := 0) hC (by decide) dX5_count_2 ?_
  refine X_istore_n (ls' := [(3, .int (0 : Int32)), (2, .int (0 : Int32)), (0, .ref (ad 0)), (1, .int p1)]) hC dX5_count_3 (by decide) rfl ?_
  exact X_sub [2, 3, 1, 0] rfl (L_X5_count_b4 G cls ad hi hC hz0 hz1 σ fuel p1 (0 : Int32) (0 : Int32))
