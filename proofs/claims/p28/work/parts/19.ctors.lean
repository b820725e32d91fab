theorem tw_14 : Cond.methodLink RX4 3 Lib.objectInit ∈ gw := gw_tab (i := 14) (by decide +kernel) (by rfl)
theorem tw_15 : Cond.instanceMethod Lib.objectInit ∈ gw := gw_tab (i := 15) (by decide +kernel) (by rfl)
theorem tw_16 : Cond.code Lib.objectInit ⟨#[0xb1]⟩ 1 none ∈ gw := gw_tab (i := 16) (by decide +kernel) (by rfl)
theorem tw_17 : Cond.classLink RX4 9 RX2 ∈ gw := gw_tab (i := 17) (by decide +kernel) (by rfl)
theorem tw_18 : Cond.instantiable RX2 3 ∈ gw := gw_tab (i := 18) (by decide +kernel) (by rfl)
theorem tw_20 : Cond.instanceMethod yX2_init ∈ gw := gw_tab (i := 20) (by decide +kernel) (by rfl)
theorem tw_21 : Cond.code yX2_init cX2_init 1 none ∈ gw := gw_tab (i := 21) (by decide +kernel) (by rfl)
theorem tw_22 : Cond.methodLink RX2 3 Lib.objectInit ∈ gw := gw_tab (i := 22) (by decide +kernel) (by rfl)
theorem tw_23 : Cond.classLink RX2 9 RX3 ∈ gw := gw_tab (i := 23) (by decide +kernel) (by rfl)
theorem tw_24 : Cond.instantiable RX3 4 ∈ gw := gw_tab (i := 24) (by decide +kernel) (by rfl)
theorem tw_25 : Cond.methodLink RX2 11 yX3_init ∈ gw := gw_tab (i := 25) (by decide +kernel) (by rfl)
theorem tw_26 : Cond.instanceMethod yX3_init ∈ gw := gw_tab (i := 26) (by decide +kernel) (by rfl)
theorem tw_27 : Cond.code yX3_init cX3_init 3 none ∈ gw := gw_tab (i := 27) (by decide +kernel) (by rfl)
theorem tw_28 : Cond.methodLink RX3 1 Lib.objectInit ∈ gw := gw_tab (i := 28) (by decide +kernel) (by rfl)
theorem tw_29 : Cond.methodLink RX3 16 Lib.Math.max.name ∈ gw := gw_tab (i := 29) (by decide +kernel) (by rfl)
theorem tw_45 : Cond.arrayClass .int ∈ gw := gw_tab (i := 45) (by decide +kernel) (by rfl)
theorem tw_59 : Cond.classLink RX4 19 RX0 ∈ gw := gw_tab (i := 59) (by decide +kernel) (by rfl)
theorem tw_60 : Cond.instantiable RX0 3 ∈ gw := gw_tab (i := 60) (by decide +kernel) (by rfl)
theorem tw_61 : Cond.methodLink RX4 21 yX0_init ∈ gw := gw_tab (i := 61) (by decide +kernel) (by rfl)
theorem tw_62 : Cond.instanceMethod yX0_init ∈ gw := gw_tab (i := 62) (by decide +kernel) (by rfl)
theorem tw_63 : Cond.code yX0_init cX0_init 2 none ∈ gw := gw_tab (i := 63) (by decide +kernel) (by rfl)
theorem tw_64 : Cond.methodLink RX0 3 Lib.objectInit ∈ gw := gw_tab (i := 64) (by decide +kernel) (by rfl)
theorem tw_65 : Cond.classLink RX0 9 RX2 ∈ gw := gw_tab (i := 65) (by decide +kernel) (by rfl)
theorem tw_78 : Cond.classLink RX4 26 RX1 ∈ gw := gw_tab (i := 78) (by decide +kernel) (by rfl)
theorem tw_79 : Cond.instantiable RX1 4 ∈ gw := gw_tab (i := 79) (by decide +kernel) (by rfl)
theorem tw_81 : Cond.instanceMethod yX1_init ∈ gw := gw_tab (i := 81) (by decide +kernel) (by rfl)
theorem tw_82 : Cond.code yX1_init cX1_init 1 none ∈ gw := gw_tab (i := 82) (by decide +kernel) (by rfl)
theorem tw_83 : Cond.methodLink RX1 3 Lib.objectInit ∈ gw := gw_tab (i := 83) (by decide +kernel) (by rfl)
theorem tw_84 : Cond.classLink RX1 15 RX3 ∈ gw := gw_tab (i := 84) (by decide +kernel) (by rfl)
theorem tw_85 : Cond.methodLink RX1 17 yX3_init ∈ gw := gw_tab (i := 85) (by decide +kernel) (by rfl)
theorem tw_99 : Cond.arrayClass .char ∈ gw := gw_tab (i := 99) (by decide +kernel) (by rfl)
theorem dX3_init_0 : decode cX3_init 0 = .ok (.aload_n 0, 1) := by decide +kernel
theorem dX3_init_1 : decode cX3_init 1 = .ok (.invokespecial 1, 3) := by decide +kernel
theorem dX3_init_4 : decode cX3_init 4 = .ok (.aload_n 0, 1) := by decide +kernel
theorem dX3_init_5 : decode cX3_init 5 = .ok (.iload_n 1, 1) := by decide +kernel
theorem dX3_init_6 : decode cX3_init 6 = .ok (.putfield 7, 3) := by decide +kernel
theorem dX3_init_9 : decode cX3_init 9 = .ok (.aload_n 0, 1) := by decide +kernel
theorem dX3_init_10 : decode cX3_init 10 = .ok (.iload_n 2, 1) := by decide +kernel
theorem dX3_init_11 : decode cX3_init 11 = .ok (.putfield 13, 3) := by decide +kernel
theorem dX3_init_14 : decode cX3_init 14 = .ok (.aload_n 0, 1) := by decide +kernel
theorem dX3_init_15 : decode cX3_init 15 = .ok (.iconst 0, 1) := by decide +kernel
theorem dX3_init_16 : decode cX3_init 16 = .ok (.iload_n 1, 1) := by decide +kernel
theorem dX3_init_17 : decode cX3_init 17 = .ok (.iload_n 2, 1) := by decide +kernel
theorem dX3_init_18 : decode cX3_init 18 = .ok (.imul, 1) := by decide +kernel
theorem dX3_init_19 : decode cX3_init 19 = .ok (.invokestatic 16, 3) := by decide +kernel
theorem dX3_init_22 : decode cX3_init 22 = .ok (.newarray .int, 2) := by decide +kernel
theorem dX3_init_24 : decode cX3_init 24 = .ok (.putfield 22, 3) := by decide +kernel
theorem dX3_init_27 : decode cX3_init 27 = .ok (.aload_n 0, 1) := by decide +kernel
theorem dX3_init_28 : decode cX3_init 28 = .ok (.iconst 0, 1) := by decide +kernel
theorem dX3_init_29 : decode cX3_init 29 = .ok (.putfield 26, 3) := by decide +kernel
theorem dX3_init_32 : decode cX3_init 32 = .ok (.return_, 1) := by decide +kernel
theorem okm_X3_init : okm yX3_init 2 = true := by decide +kernel
set_option maxHeartbeats 4000000 in
set_option maxRecDepth 100000 in
theorem n_X3_init (l : Launch) (G : va_G) (cls : Cls) (h0 : Nat) (lm cl : Int32) (N : Nat) (hv1 : inb (if (0 : Int32) < (lm * cl) then (lm * cl) else (0 : Int32)) (N + 1) = true) (hv2 : ix (if (0 : Int32) < (lm * cl) then (lm * cl) else (0 : Int32)) = N) (hv3 : N * 4 ≤ 536870912) : NT l G cls yX3_init (.code yX3_init cX3_init 3 none :: gw) 1 1 N 21 h0 (.inr (3, [.int 0, .int 0, .null, .int 0])) [.int lm, .int cl] (fun w => ∃ a1 : Nat, w = [(h0, .inr (3, [.int lm, .int cl, .ref a1, .int (0 : Int32)])), (a1, .inl (cls.1, N, .inl (fun _ => 0)))]) := by
  refine NT.of (own := RX3) (by decide) rfl (Nat.le_of_ble_eq_true rfl) fun Γ A _ hret hini hC => ?_
  have hini := hini rfl
  show WN Γ G A _ 3 0 [(0, .ref h0), (1, .int lm), (2, .int cl)] [] [(h0, .inr (3, [.int 0, .int 0, .null, .int 0]))] 0 0
  refine N_aload_n hC 0 rfl dX3_init_0 ?_
  refine N_objInit hC tw_28 tw_15 tw_16 (by decide) (Nat.le_of_ble_eq_true rfl) dX3_init_1 ?_
  refine N_aload_n hC 0 rfl dX3_init_4 ?_
  refine N_iload_n hC 1 rfl dX3_init_5 ?_
  refine N_putF (T := TX3) (N := 4) (ci := 3) (ty := .int) (q0 := 0) hC hini ([(h0, .inr (3, [.int lm, .int 0, .null, .int 0]))]) 0 rfl rfl hinX3 tyX3_ok nmX3 (by decide) tw_32 rfl rfl (by decide +kernel) rfl rfl (Nat.le_of_ble_eq_true rfl) rfl dX3_init_6 ?_
  refine N_aload_n hC 0 rfl dX3_init_9 ?_
  refine N_iload_n hC 2 rfl dX3_init_10 ?_
  refine N_putF (T := TX3) (N := 4) (ci := 3) (ty := .int) (q0 := 0) hC hini ([(h0, .inr (3, [.int lm, .int cl, .null, .int 0]))]) 1 rfl rfl hinX3 tyX3_ok nmX3 (by decide) tw_33 rfl rfl (by decide +kernel) rfl rfl (Nat.le_of_ble_eq_true rfl) rfl dX3_init_11 ?_
  refine N_aload_n hC 0 rfl dX3_init_14 ?_
  refine N_iconst (v := 0) hC (by decide) dX3_init_15 ?_
  refine N_iload_n hC 1 rfl dX3_init_16 ?_
  refine N_iload_n hC 2 rfl dX3_init_17 ?_
  refine N_imul hC dX3_init_18 ?_
  refine N_mmax hC tw_29 tw_30 tw_4 tw_31 (by decide) (Nat.le_of_ble_eq_true rfl) ⟨Nat.zero_le _, Nat.zero_le _⟩ dX3_init_19 ?_
  refine N_newi (N := N) hC tw_45 hv1 hv2 hv3 ⟨Nat.le_refl _, by omega⟩ dX3_init_22 (fun a1 => ?_)
  refine N_putF (T := TX3) (N := 4) (ci := 3) (ty := .array .int) (q0 := 0) hC hini ([(h0, .inr (3, [.int lm, .int cl, .ref a1, .int 0])), (a1, .inl (cls.1, N, .inl (fun _ => 0)))]) 2 rfl rfl hinX3 tyX3_ok nmX3 (by decide) tw_34 rfl rfl (by decide +kernel) rfl rfl (Nat.le_of_ble_eq_true rfl) rfl dX3_init_24 ?_
  refine N_aload_n hC 0 rfl dX3_init_27 ?_
  refine N_iconst (v := 0) hC (by decide) dX3_init_28 ?_
  refine N_putf (T := TX3) (N := 4) (ci := 3) (ty := .int) (q0 := 0) (C := RX3) hC ([(h0, .inr (3, [.int lm, .int cl, .ref a1, .int (0 : Int32)])), (a1, .inl (cls.1, N, .inl (fun _ => 0)))]) 3 rfl rfl hinX3 tyX3_ok nmX3 (by decide) tw_35 rfl rfl (by decide +kernel) rfl rfl (Nat.le_of_ble_eq_true rfl) rfl dX3_init_29 ?_
  refine N_eq rfl (show _ = 1 by omega) (show _ = N by omega) ?_
  exact N_vret hC hret dX3_init_32 ⟨a1, rfl⟩

theorem dX2_init_0 : decode cX2_init 0 = .ok (.aload_n 0, 1) := by decide +kernel
theorem dX2_init_1 : decode cX2_init 1 = .ok (.invokespecial 3, 3) := by decide +kernel
theorem dX2_init_4 : decode cX2_init 4 = .ok (.aload_n 0, 1) := by decide +kernel
theorem dX2_init_5 : decode cX2_init 5 = .ok (.new 9, 3) := by decide +kernel
theorem dX2_init_8 : decode cX2_init 8 = .ok (.dup, 1) := by decide +kernel
theorem dX2_init_9 : decode cX2_init 9 = .ok (.bipush 10, 2) := by decide +kernel
theorem dX2_init_11 : decode cX2_init 11 = .ok (.bipush 11, 2) := by decide +kernel
theorem dX2_init_13 : decode cX2_init 13 = .ok (.invokespecial 11, 3) := by decide +kernel
theorem dX2_init_16 : decode cX2_init 16 = .ok (.putfield 14, 3) := by decide +kernel
theorem dX2_init_19 : decode cX2_init 19 = .ok (.aload_n 0, 1) := by decide +kernel
theorem dX2_init_20 : decode cX2_init 20 = .ok (.new 9, 3) := by decide +kernel
theorem dX2_init_23 : decode cX2_init 23 = .ok (.dup, 1) := by decide +kernel
theorem dX2_init_24 : decode cX2_init 24 = .ok (.bipush 12, 2) := by decide +kernel
theorem dX2_init_26 : decode cX2_init 26 = .ok (.bipush 9, 2) := by decide +kernel
theorem dX2_init_28 : decode cX2_init 28 = .ok (.invokespecial 11, 3) := by decide +kernel
theorem dX2_init_31 : decode cX2_init 31 = .ok (.putfield 20, 3) := by decide +kernel
theorem dX2_init_34 : decode cX2_init 34 = .ok (.aload_n 0, 1) := by decide +kernel
theorem dX2_init_35 : decode cX2_init 35 = .ok (.new 9, 3) := by decide +kernel
theorem dX2_init_38 : decode cX2_init 38 = .ok (.dup, 1) := by decide +kernel
theorem dX2_init_39 : decode cX2_init 39 = .ok (.bipush 60, 2) := by decide +kernel
theorem dX2_init_41 : decode cX2_init 41 = .ok (.bipush 8, 2) := by decide +kernel
theorem dX2_init_43 : decode cX2_init 43 = .ok (.invokespecial 11, 3) := by decide +kernel
theorem dX2_init_46 : decode cX2_init 46 = .ok (.putfield 23, 3) := by decide +kernel
theorem dX2_init_49 : decode cX2_init 49 = .ok (.return_, 1) := by decide +kernel
theorem okm_X2_init : okm yX2_init 0 = true := by decide +kernel
set_option maxHeartbeats 4000000 in
set_option maxRecDepth 100000 in
theorem n_X2_init (l : Launch) (G : va_G) (cls : Cls) (h0 : Nat) : NT l G cls yX2_init (.code yX2_init cX2_init 1 none :: gw) 2 6 710 43 h0 (.inr (2, [.null, .null, .null])) [] (fun w => ∃ o1 u2 o3 u4 o5 u6 : Nat, w = [(h0, .inr (2, [.ref o1, .ref o3, .ref o5])), (o1, .inr (3, [.int (10 : Int32), .int (11 : Int32), .ref u2, .int (0 : Int32)])), (u2, .inl (cls.1, 110, .inl (fun _ => 0))), (o3, .inr (3, [.int (12 : Int32), .int (9 : Int32), .ref u4, .int (0 : Int32)])), (u4, .inl (cls.1, 108, .inl (fun _ => 0))), (o5, .inr (3, [.int (60 : Int32), .int (8 : Int32), .ref u6, .int (0 : Int32)])), (u6, .inl (cls.1, 480, .inl (fun _ => 0)))]) := by
  refine NT.of (own := RX2) (by decide) rfl (Nat.le_of_ble_eq_true rfl) fun Γ A _ hret hini hC => ?_
  have hini := hini rfl
  show WN Γ G A _ 1 0 [(0, .ref h0)] [] [(h0, .inr (2, [.null, .null, .null]))] 0 0
  refine N_aload_n hC 0 rfl dX2_init_0 ?_
  refine N_objInit hC tw_22 tw_15 tw_16 (by decide) (Nat.le_of_ble_eq_true rfl) dX2_init_1 ?_
  refine N_aload_n hC 0 rfl dX2_init_4 ?_
  refine N_new (T := TX3) (N := 4) (ci := 3) (ty := tyX3) (fs := [Value.int 0, .int 0, .null, .int 0]) hC hinX3 tyX3_ok tw_23 tw_24 tw_3 rfl (fun j hj => by rcases (show j = 0 ∨ j = 1 ∨ j = 2 ∨ j = 3 by omega) with rfl | rfl | rfl | rfl <;> rfl) ⟨by decide, by decide⟩ dX2_init_5 (fun o1 => ?_)
  refine N_dup hC rfl dX2_init_8 ?_
  refine N_bipush (v := 10) hC (by decide) dX2_init_9 ?_
  refine N_bipush (v := 11) hC (by decide) dX2_init_11 ?_
  refine N_call (as := [.int (10 : Int32), .int (11 : Int32)]) (rest := [.ref o1, .ref h0]) (wr := [(h0, .inr (2, [.null, .null, .null]))]) 1 [0] hC (n_X3_init _ G cls o1 10 11 110 (by decide) (by decide) (by decide)) rfl rfl (by decide) (by decide) tw_25 tw_26 tw_3 tw_27 rfl rfl okm_X3_init (by decide) ⟨by decide, by decide⟩ dX2_init_13 rfl (Nat.le_of_ble_eq_true rfl) (fun w hw => ?_)
  obtain ⟨u2, rfl⟩ := hw
  refine N_putF (T := TX2) (N := 3) (ci := 2) (ty := .object "VernierSchool$Table") (q0 := 0) hC hini ([(h0, .inr (2, [.ref o1, .null, .null])), (o1, .inr (3, [.int (10 : Int32), .int (11 : Int32), .ref u2, .int (0 : Int32)])), (u2, .inl (cls.1, 110, .inl (fun _ => 0)))]) 0 rfl rfl hinX2 tyX2_ok nmX2 (by decide) tw_46 rfl rfl (by decide +kernel) rfl rfl (Nat.le_of_ble_eq_true rfl) rfl dX2_init_16 ?_
  refine N_aload_n hC 0 rfl dX2_init_19 ?_
  refine N_new (T := TX3) (N := 4) (ci := 3) (ty := tyX3) (fs := [Value.int 0, .int 0, .null, .int 0]) hC hinX3 tyX3_ok tw_23 tw_24 tw_3 rfl (fun j hj => by rcases (show j = 0 ∨ j = 1 ∨ j = 2 ∨ j = 3 by omega) with rfl | rfl | rfl | rfl <;> rfl) ⟨by decide, by decide⟩ dX2_init_20 (fun o3 => ?_)
  refine N_dup hC rfl dX2_init_23 ?_
  refine N_bipush (v := 12) hC (by decide) dX2_init_24 ?_
  refine N_bipush (v := 9) hC (by decide) dX2_init_26 ?_
  refine N_call (as := [.int (12 : Int32), .int (9 : Int32)]) (rest := [.ref o3, .ref h0]) (wr := [(h0, .inr (2, [.ref o1, .null, .null])), (o1, .inr (3, [.int (10 : Int32), .int (11 : Int32), .ref u2, .int (0 : Int32)])), (u2, .inl (cls.1, 110, .inl (fun _ => 0)))]) 3 [0, 1, 2] hC (n_X3_init _ G cls o3 12 9 108 (by decide) (by decide) (by decide)) rfl rfl (by decide) (by decide) tw_25 tw_26 tw_3 tw_27 rfl rfl okm_X3_init (by decide) ⟨by decide, by decide⟩ dX2_init_28 rfl (Nat.le_of_ble_eq_true rfl) (fun w hw => ?_)
  obtain ⟨u4, rfl⟩ := hw
  refine N_putF (T := TX2) (N := 3) (ci := 2) (ty := .object "VernierSchool$Table") (q0 := 0) hC hini ([(h0, .inr (2, [.ref o1, .ref o3, .null])), (o1, .inr (3, [.int (10 : Int32), .int (11 : Int32), .ref u2, .int (0 : Int32)])), (u2, .inl (cls.1, 110, .inl (fun _ => 0))), (o3, .inr (3, [.int (12 : Int32), .int (9 : Int32), .ref u4, .int (0 : Int32)])), (u4, .inl (cls.1, 108, .inl (fun _ => 0)))]) 1 rfl rfl hinX2 tyX2_ok nmX2 (by decide) tw_48 rfl rfl (by decide +kernel) rfl rfl (Nat.le_of_ble_eq_true rfl) rfl dX2_init_31 ?_
  refine N_aload_n hC 0 rfl dX2_init_34 ?_
  refine N_new (T := TX3) (N := 4) (ci := 3) (ty := tyX3) (fs := [Value.int 0, .int 0, .null, .int 0]) hC hinX3 tyX3_ok tw_23 tw_24 tw_3 rfl (fun j hj => by rcases (show j = 0 ∨ j = 1 ∨ j = 2 ∨ j = 3 by omega) with rfl | rfl | rfl | rfl <;> rfl) ⟨by decide, by decide⟩ dX2_init_35 (fun o5 => ?_)
  refine N_dup hC rfl dX2_init_38 ?_
  refine N_bipush (v := 60) hC (by decide) dX2_init_39 ?_
  refine N_bipush (v := 8) hC (by decide) dX2_init_41 ?_
  refine N_call (as := [.int (60 : Int32), .int (8 : Int32)]) (rest := [.ref o5, .ref h0]) (wr := [(h0, .inr (2, [.ref o1, .ref o3, .null])), (o1, .inr (3, [.int (10 : Int32), .int (11 : Int32), .ref u2, .int (0 : Int32)])), (u2, .inl (cls.1, 110, .inl (fun _ => 0))), (o3, .inr (3, [.int (12 : Int32), .int (9 : Int32), .ref u4, .int (0 : Int32)])), (u4, .inl (cls.1, 108, .inl (fun _ => 0)))]) 5 [0, 1, 2, 3, 4] hC (n_X3_init _ G cls o5 60 8 480 (by decide) (by decide) (by decide)) rfl rfl (by decide) (by decide) tw_25 tw_26 tw_3 tw_27 rfl rfl okm_X3_init (by decide) ⟨by decide, by decide⟩ dX2_init_43 rfl (Nat.le_of_ble_eq_true rfl) (fun w hw => ?_)
  obtain ⟨u6, rfl⟩ := hw
  refine N_putF (T := TX2) (N := 3) (ci := 2) (ty := .object "VernierSchool$Table") (q0 := 0) hC hini ([(h0, .inr (2, [.ref o1, .ref o3, .ref o5])), (o1, .inr (3, [.int (10 : Int32), .int (11 : Int32), .ref u2, .int (0 : Int32)])), (u2, .inl (cls.1, 110, .inl (fun _ => 0))), (o3, .inr (3, [.int (12 : Int32), .int (9 : Int32), .ref u4, .int (0 : Int32)])), (u4, .inl (cls.1, 108, .inl (fun _ => 0))), (o5, .inr (3, [.int (60 : Int32), .int (8 : Int32), .ref u6, .int (0 : Int32)])), (u6, .inl (cls.1, 480, .inl (fun _ => 0)))]) 2 rfl rfl hinX2 tyX2_ok nmX2 (by decide) tw_50 rfl rfl (by decide +kernel) rfl rfl (Nat.le_of_ble_eq_true rfl) rfl dX2_init_46 ?_
  refine N_eq rfl (show _ = 6 by omega) (show _ = 710 by omega) ?_
  exact N_vret hC hret dX2_init_49 ⟨o1, u2, o3, u4, o5, u6, rfl⟩

theorem dX0_init_0 : decode cX0_init 0 = .ok (.aload_n 0, 1) := by decide +kernel
theorem dX0_init_1 : decode cX0_init 1 = .ok (.invokespecial 3, 3) := by decide +kernel
theorem dX0_init_4 : decode cX0_init 4 = .ok (.aload_n 0, 1) := by decide +kernel
theorem dX0_init_5 : decode cX0_init 5 = .ok (.iconst 4, 1) := by decide +kernel
theorem dX0_init_6 : decode cX0_init 6 = .ok (.anewarray 9, 3) := by decide +kernel
theorem dX0_init_9 : decode cX0_init 9 = .ok (.putfield 11, 3) := by decide +kernel
theorem dX0_init_12 : decode cX0_init 12 = .ok (.iconst 0, 1) := by decide +kernel
theorem dX0_init_13 : decode cX0_init 13 = .ok (.istore_n 1, 1) := by decide +kernel
theorem dX0_init_14 : decode cX0_init 14 = .ok (.iload_n 1, 1) := by decide +kernel
theorem dX0_init_15 : decode cX0_init 15 = .ok (.aload_n 0, 1) := by decide +kernel
theorem dX0_init_16 : decode cX0_init 16 = .ok (.getfield 11, 3) := by decide +kernel
theorem dX0_init_19 : decode cX0_init 19 = .ok (.arraylength, 1) := by decide +kernel
theorem dX0_init_20 : decode cX0_init 20 = .ok (.if_icmp .ge 22, 3) := by decide +kernel
theorem dX0_init_23 : decode cX0_init 23 = .ok (.aload_n 0, 1) := by decide +kernel
theorem dX0_init_24 : decode cX0_init 24 = .ok (.getfield 11, 3) := by decide +kernel
theorem dX0_init_27 : decode cX0_init 27 = .ok (.iload_n 1, 1) := by decide +kernel
theorem dX0_init_28 : decode cX0_init 28 = .ok (.new 9, 3) := by decide +kernel
theorem dX0_init_31 : decode cX0_init 31 = .ok (.dup, 1) := by decide +kernel
theorem dX0_init_32 : decode cX0_init 32 = .ok (.invokespecial 17, 3) := by decide +kernel
theorem dX0_init_35 : decode cX0_init 35 = .ok (.aastore, 1) := by decide +kernel
theorem dX0_init_36 : decode cX0_init 36 = .ok (.iinc 1 1, 3) := by decide +kernel
theorem dX0_init_39 : decode cX0_init 39 = .ok (.goto (-25), 3) := by decide +kernel
theorem dX0_init_42 : decode cX0_init 42 = .ok (.aload_n 0, 1) := by decide +kernel
theorem dX0_init_43 : decode cX0_init 43 = .ok (.iconst 0, 1) := by decide +kernel
theorem dX0_init_44 : decode cX0_init 44 = .ok (.putfield 18, 3) := by decide +kernel
theorem dX0_init_47 : decode cX0_init 47 = .ok (.aload_n 0, 1) := by decide +kernel
theorem dX0_init_48 : decode cX0_init 48 = .ok (.iconst 0, 1) := by decide +kernel
theorem dX0_init_49 : decode cX0_init 49 = .ok (.putfield 22, 3) := by decide +kernel
theorem dX0_init_52 : decode cX0_init 52 = .ok (.return_, 1) := by decide +kernel
theorem okm_X0_init : okm yX0_init 0 = true := by decide +kernel
set_option maxHeartbeats 4000000 in
set_option maxRecDepth 100000 in
theorem n_X0_init (l : Launch) (G : va_G) (cls : Cls) (h0 : Nat) : NT l G cls yX0_init (.code yX0_init cX0_init 2 none :: gw) 3 29 2856 63 h0 (.inr (0, [.null, .int 0, .int 0])) [] (fun w => ∃ a1 o2 u3 u4 u5 u6 u7 u8 o9 u10 u11 u12 u13 u14 u15 o16 u17 u18 u19 u20 u21 u22 o23 u24 u25 u26 u27 u28 u29 : Nat, w = [(h0, .inr (0, [.ref a1, .int (0 : Int32), .int (0 : Int32)])), (a1, .inl (cls.2.2, 4, .inr (.inr (.inr (.inr (va_up (va_up (va_up (va_up (fun _ => none) (ix (0 : Int32)) (some o2)) (ix (1 : Int32)) (some o9)) (ix (2 : Int32)) (some o16)) (ix (3 : Int32)) (some o23))))))), (o2, .inr (2, [.ref u3, .ref u5, .ref u7])), (u3, .inr (3, [.int (10 : Int32), .int (11 : Int32), .ref u4, .int (0 : Int32)])), (u4, .inl (cls.1, 110, .inl (fun _ => 0))), (u5, .inr (3, [.int (12 : Int32), .int (9 : Int32), .ref u6, .int (0 : Int32)])), (u6, .inl (cls.1, 108, .inl (fun _ => 0))), (u7, .inr (3, [.int (60 : Int32), .int (8 : Int32), .ref u8, .int (0 : Int32)])), (u8, .inl (cls.1, 480, .inl (fun _ => 0))), (o9, .inr (2, [.ref u10, .ref u12, .ref u14])), (u10, .inr (3, [.int (10 : Int32), .int (11 : Int32), .ref u11, .int (0 : Int32)])), (u11, .inl (cls.1, 110, .inl (fun _ => 0))), (u12, .inr (3, [.int (12 : Int32), .int (9 : Int32), .ref u13, .int (0 : Int32)])), (u13, .inl (cls.1, 108, .inl (fun _ => 0))), (u14, .inr (3, [.int (60 : Int32), .int (8 : Int32), .ref u15, .int (0 : Int32)])), (u15, .inl (cls.1, 480, .inl (fun _ => 0))), (o16, .inr (2, [.ref u17, .ref u19, .ref u21])), (u17, .inr (3, [.int (10 : Int32), .int (11 : Int32), .ref u18, .int (0 : Int32)])), (u18, .inl (cls.1, 110, .inl (fun _ => 0))), (u19, .inr (3, [.int (12 : Int32), .int (9 : Int32), .ref u20, .int (0 : Int32)])), (u20, .inl (cls.1, 108, .inl (fun _ => 0))), (u21, .inr (3, [.int (60 : Int32), .int (8 : Int32), .ref u22, .int (0 : Int32)])), (u22, .inl (cls.1, 480, .inl (fun _ => 0))), (o23, .inr (2, [.ref u24, .ref u26, .ref u28])), (u24, .inr (3, [.int (10 : Int32), .int (11 : Int32), .ref u25, .int (0 : Int32)])), (u25, .inl (cls.1, 110, .inl (fun _ => 0))), (u26, .inr (3, [.int (12 : Int32), .int (9 : Int32), .ref u27, .int (0 : Int32)])), (u27, .inl (cls.1, 108, .inl (fun _ => 0))), (u28, .inr (3, [.int (60 : Int32), .int (8 : Int32), .ref u29, .int (0 : Int32)])), (u29, .inl (cls.1, 480, .inl (fun _ => 0)))]) := by
  refine NT.of (own := RX0) (by decide) rfl (Nat.le_of_ble_eq_true rfl) fun Γ A _ hret hini hC => ?_
  have hini := hini rfl
  show WN Γ G A _ 2 0 [(0, .ref h0)] [] [(h0, .inr (0, [.null, .int 0, .int 0]))] 0 0
  refine N_aload_n hC 0 rfl dX0_init_0 ?_
  refine N_objInit hC tw_64 tw_15 tw_16 (by decide) (Nat.le_of_ble_eq_true rfl) dX0_init_1 ?_
  refine N_aload_n hC 0 rfl dX0_init_4 ?_
  refine N_iconst (v := 4) hC (by decide) dX0_init_5 ?_
  refine N_newq (N := 4) hC tw_65 (by decide) (by decide) (by decide) ⟨by decide, by decide⟩ dX0_init_6 (fun a1 => ?_)
  refine N_putF (T := TX0) (N := 3) (ci := 0) (ty := .array (.object "VernierSchool$State")) (q0 := 0) hC hini ([(h0, .inr (0, [.ref a1, .int 0, .int 0])), (a1, .inl (cls.2.2, 4, .inr (.inr (.inr (.inr (fun _ => none))))))]) 0 rfl rfl hinX0 tyX0_ok nmX0 (by decide) tw_68 rfl rfl (by decide +kernel) rfl rfl (Nat.le_of_ble_eq_true rfl) rfl dX0_init_9 ?_
  refine N_iconst (v := 0) hC (by decide) dX0_init_12 ?_
  refine N_istore_n (ls' := [(1, .int (0 : Int32)), (0, .ref h0)]) hC dX0_init_13 (by decide) rfl ?_
  refine N_iload_n hC 0 rfl dX0_init_14 ?_
  refine N_aload_n hC 1 rfl dX0_init_15 ?_
  refine N_getf (C := RX0) (T := TX0) (N := 3) (ci := 0) (q0 := 0) hC 0 rfl rfl hinX0 (by decide) tw_68 rfl rfl dX0_init_16 ?_
  refine N_alen (q0 := 1) (t0 := 2) (v := 4) hC rfl rfl rfl dX0_init_19 ?_
  refine N_icmp_ge hC 42 dX0_init_20 (by decide) (fun h => absurd h (by decide)) (fun _ => ?_)
  refine N_aload_n hC 1 rfl dX0_init_23 ?_
  refine N_getf (C := RX0) (T := TX0) (N := 3) (ci := 0) (q0 := 0) hC 0 rfl rfl hinX0 (by decide) tw_68 rfl rfl dX0_init_24 ?_
  refine N_iload_n hC 0 rfl dX0_init_27 ?_
  refine N_new (T := TX2) (N := 3) (ci := 2) (ty := tyX2) (fs := [Value.null, .null, .null]) hC hinX2 tyX2_ok tw_65 tw_18 tw_2 rfl (fun j hj => by rcases (show j = 0 ∨ j = 1 ∨ j = 2 by omega) with rfl | rfl | rfl <;> rfl) ⟨by decide, by decide⟩ dX0_init_28 (fun o2 => ?_)
  refine N_dup hC rfl dX0_init_31 ?_
  refine N_callN (as := []) (rest := [.ref o2, .int (0 : Int32), .ref a1]) (wr := [(h0, .inr (0, [.ref a1, .int 0, .int 0])), (a1, .inl (cls.2.2, 4, .inr (.inr (.inr (.inr (fun _ => none))))))]) 2 [0, 1] hC (n_X2_init _ G cls o2) rfl rfl (by decide) (by decide) (fun _ hn => hn.2.2.1) tw_20 tw_2 tw_21 rfl rfl okm_X2_init (by decide) ⟨by decide, by decide⟩ dX0_init_32 rfl (Nat.le_of_ble_eq_true rfl) (fun w hw => ?_)
  obtain ⟨u3, u4, u5, u6, u7, u8, rfl⟩ := hw
  refine N_aast (q0 := 1) (qk := 2) (ci := 2) hC ([(h0, .inr (0, [.ref a1, .int 0, .int 0])), (a1, .inl (cls.2.2, 4, .inr (.inr (.inr (.inr (va_up (fun _ => none) (ix (0 : Int32)) (some o2))))))), (o2, .inr (2, [.ref u3, .ref u5, .ref u7])), (u3, .inr (3, [.int (10 : Int32), .int (11 : Int32), .ref u4, .int (0 : Int32)])), (u4, .inl (cls.1, 110, .inl (fun _ => 0))), (u5, .inr (3, [.int (12 : Int32), .int (9 : Int32), .ref u6, .int (0 : Int32)])), (u6, .inl (cls.1, 108, .inl (fun _ => 0))), (u7, .inr (3, [.int (60 : Int32), .int (8 : Int32), .ref u8, .int (0 : Int32)])), (u8, .inl (cls.1, 480, .inl (fun _ => 0)))]) 2 rfl rfl rfl rfl (by decide) rfl dX0_init_35 ?_
  refine N_iinc (v := 1) (ls' := [(1, .int (1 : Int32)), (0, .ref h0)]) hC 0 dX0_init_36 rfl (by decide) (by decide) rfl ?_
  refine N_goto hC 14 dX0_init_39 (by decide) ?_
  refine N_iload_n hC 0 rfl dX0_init_14 ?_
  refine N_aload_n hC 1 rfl dX0_init_15 ?_
  refine N_getf (C := RX0) (T := TX0) (N := 3) (ci := 0) (q0 := 0) hC 0 rfl rfl hinX0 (by decide) tw_68 rfl rfl dX0_init_16 ?_
  refine N_alen (q0 := 1) (t0 := 2) (v := 4) hC rfl rfl rfl dX0_init_19 ?_
  refine N_icmp_ge hC 42 dX0_init_20 (by decide) (fun h => absurd h (by decide)) (fun _ => ?_)
  refine N_aload_n hC 1 rfl dX0_init_23 ?_
  refine N_getf (C := RX0) (T := TX0) (N := 3) (ci := 0) (q0 := 0) hC 0 rfl rfl hinX0 (by decide) tw_68 rfl rfl dX0_init_24 ?_
  refine N_iload_n hC 0 rfl dX0_init_27 ?_
  refine N_new (T := TX2) (N := 3) (ci := 2) (ty := tyX2) (fs := [Value.null, .null, .null]) hC hinX2 tyX2_ok tw_65 tw_18 tw_2 rfl (fun j hj => by rcases (show j = 0 ∨ j = 1 ∨ j = 2 by omega) with rfl | rfl | rfl <;> rfl) ⟨by decide, by decide⟩ dX0_init_28 (fun o9 => ?_)
  refine N_dup hC rfl dX0_init_31 ?_
  refine N_callN (as := []) (rest := [.ref o9, .int (1 : Int32), .ref a1]) (wr := [(h0, .inr (0, [.ref a1, .int 0, .int 0])), (a1, .inl (cls.2.2, 4, .inr (.inr (.inr (.inr (va_up (fun _ => none) (ix (0 : Int32)) (some o2))))))), (o2, .inr (2, [.ref u3, .ref u5, .ref u7])), (u3, .inr (3, [.int (10 : Int32), .int (11 : Int32), .ref u4, .int (0 : Int32)])), (u4, .inl (cls.1, 110, .inl (fun _ => 0))), (u5, .inr (3, [.int (12 : Int32), .int (9 : Int32), .ref u6, .int (0 : Int32)])), (u6, .inl (cls.1, 108, .inl (fun _ => 0))), (u7, .inr (3, [.int (60 : Int32), .int (8 : Int32), .ref u8, .int (0 : Int32)])), (u8, .inl (cls.1, 480, .inl (fun _ => 0)))]) 9 [0, 1, 2, 3, 4, 5, 6, 7, 8] hC (n_X2_init _ G cls o9) rfl rfl (by decide) (by decide) (fun _ hn => hn.2.2.1) tw_20 tw_2 tw_21 rfl rfl okm_X2_init (by decide) ⟨by decide, by decide⟩ dX0_init_32 rfl (Nat.le_of_ble_eq_true rfl) (fun w hw => ?_)
  obtain ⟨u10, u11, u12, u13, u14, u15, rfl⟩ := hw
  refine N_aast (q0 := 1) (qk := 9) (ci := 2) hC ([(h0, .inr (0, [.ref a1, .int 0, .int 0])), (a1, .inl (cls.2.2, 4, .inr (.inr (.inr (.inr (va_up (va_up (fun _ => none) (ix (0 : Int32)) (some o2)) (ix (1 : Int32)) (some o9))))))), (o2, .inr (2, [.ref u3, .ref u5, .ref u7])), (u3, .inr (3, [.int (10 : Int32), .int (11 : Int32), .ref u4, .int (0 : Int32)])), (u4, .inl (cls.1, 110, .inl (fun _ => 0))), (u5, .inr (3, [.int (12 : Int32), .int (9 : Int32), .ref u6, .int (0 : Int32)])), (u6, .inl (cls.1, 108, .inl (fun _ => 0))), (u7, .inr (3, [.int (60 : Int32), .int (8 : Int32), .ref u8, .int (0 : Int32)])), (u8, .inl (cls.1, 480, .inl (fun _ => 0))), (o9, .inr (2, [.ref u10, .ref u12, .ref u14])), (u10, .inr (3, [.int (10 : Int32), .int (11 : Int32), .ref u11, .int (0 : Int32)])), (u11, .inl (cls.1, 110, .inl (fun _ => 0))), (u12, .inr (3, [.int (12 : Int32), .int (9 : Int32), .ref u13, .int (0 : Int32)])), (u13, .inl (cls.1, 108, .inl (fun _ => 0))), (u14, .inr (3, [.int (60 : Int32), .int (8 : Int32), .ref u15, .int (0 : Int32)])), (u15, .inl (cls.1, 480, .inl (fun _ => 0)))]) 2 rfl rfl rfl rfl (by decide) rfl dX0_init_35 ?_
  refine N_iinc (v := 2) (ls' := [(1, .int (2 : Int32)), (0, .ref h0)]) hC 0 dX0_init_36 rfl (by decide) (by decide) rfl ?_
  refine N_goto hC 14 dX0_init_39 (by decide) ?_
  refine N_iload_n hC 0 rfl dX0_init_14 ?_
  refine N_aload_n hC 1 rfl dX0_init_15 ?_
  refine N_getf (C := RX0) (T := TX0) (N := 3) (ci := 0) (q0 := 0) hC 0 rfl rfl hinX0 (by decide) tw_68 rfl rfl dX0_init_16 ?_
  refine N_alen (q0 := 1) (t0 := 2) (v := 4) hC rfl rfl rfl dX0_init_19 ?_
  refine N_icmp_ge hC 42 dX0_init_20 (by decide) (fun h => absurd h (by decide)) (fun _ => ?_)
  refine N_aload_n hC 1 rfl dX0_init_23 ?_
  refine N_getf (C := RX0) (T := TX0) (N := 3) (ci := 0) (q0 := 0) hC 0 rfl rfl hinX0 (by decide) tw_68 rfl rfl dX0_init_24 ?_
  refine N_iload_n hC 0 rfl dX0_init_27 ?_
  refine N_new (T := TX2) (N := 3) (ci := 2) (ty := tyX2) (fs := [Value.null, .null, .null]) hC hinX2 tyX2_ok tw_65 tw_18 tw_2 rfl (fun j hj => by rcases (show j = 0 ∨ j = 1 ∨ j = 2 by omega) with rfl | rfl | rfl <;> rfl) ⟨by decide, by decide⟩ dX0_init_28 (fun o16 => ?_)
  refine N_dup hC rfl dX0_init_31 ?_
  refine N_callN (as := []) (rest := [.ref o16, .int (2 : Int32), .ref a1]) (wr := [(h0, .inr (0, [.ref a1, .int 0, .int 0])), (a1, .inl (cls.2.2, 4, .inr (.inr (.inr (.inr (va_up (va_up (fun _ => none) (ix (0 : Int32)) (some o2)) (ix (1 : Int32)) (some o9))))))), (o2, .inr (2, [.ref u3, .ref u5, .ref u7])), (u3, .inr (3, [.int (10 : Int32), .int (11 : Int32), .ref u4, .int (0 : Int32)])), (u4, .inl (cls.1, 110, .inl (fun _ => 0))), (u5, .inr (3, [.int (12 : Int32), .int (9 : Int32), .ref u6, .int (0 : Int32)])), (u6, .inl (cls.1, 108, .inl (fun _ => 0))), (u7, .inr (3, [.int (60 : Int32), .int (8 : Int32), .ref u8, .int (0 : Int32)])), (u8, .inl (cls.1, 480, .inl (fun _ => 0))), (o9, .inr (2, [.ref u10, .ref u12, .ref u14])), (u10, .inr (3, [.int (10 : Int32), .int (11 : Int32), .ref u11, .int (0 : Int32)])), (u11, .inl (cls.1, 110, .inl (fun _ => 0))), (u12, .inr (3, [.int (12 : Int32), .int (9 : Int32), .ref u13, .int (0 : Int32)])), (u13, .inl (cls.1, 108, .inl (fun _ => 0))), (u14, .inr (3, [.int (60 : Int32), .int (8 : Int32), .ref u15, .int (0 : Int32)])), (u15, .inl (cls.1, 480, .inl (fun _ => 0)))]) 16 [0, 1, 2, 3, 4, 5, 6, 7, 8, 9, 10, 11, 12, 13, 14, 15] hC (n_X2_init _ G cls o16) rfl rfl (by decide) (by decide) (fun _ hn => hn.2.2.1) tw_20 tw_2 tw_21 rfl rfl okm_X2_init (by decide) ⟨by decide, by decide⟩ dX0_init_32 rfl (Nat.le_of_ble_eq_true rfl) (fun w hw => ?_)
  obtain ⟨u17, u18, u19, u20, u21, u22, rfl⟩ := hw
  refine N_aast (q0 := 1) (qk := 16) (ci := 2) hC ([(h0, .inr (0, [.ref a1, .int 0, .int 0])), (a1, .inl (cls.2.2, 4, .inr (.inr (.inr (.inr (va_up (va_up (va_up (fun _ => none) (ix (0 : Int32)) (some o2)) (ix (1 : Int32)) (some o9)) (ix (2 : Int32)) (some o16))))))), (o2, .inr (2, [.ref u3, .ref u5, .ref u7])), (u3, .inr (3, [.int (10 : Int32), .int (11 : Int32), .ref u4, .int (0 : Int32)])), (u4, .inl (cls.1, 110, .inl (fun _ => 0))), (u5, .inr (3, [.int (12 : Int32), .int (9 : Int32), .ref u6, .int (0 : Int32)])), (u6, .inl (cls.1, 108, .inl (fun _ => 0))), (u7, .inr (3, [.int (60 : Int32), .int (8 : Int32), .ref u8, .int (0 : Int32)])), (u8, .inl (cls.1, 480, .inl (fun _ => 0))), (o9, .inr (2, [.ref u10, .ref u12, .ref u14])), (u10, .inr (3, [.int (10 : Int32), .int (11 : Int32), .ref u11, .int (0 : Int32)])), (u11, .inl (cls.1, 110, .inl (fun _ => 0))), (u12, .inr (3, [.int (12 : Int32), .int (9 : Int32), .ref u13, .int (0 : Int32)])), (u13, .inl (cls.1, 108, .inl (fun _ => 0))), (u14, .inr (3, [.int (60 : Int32), .int (8 : Int32), .ref u15, .int (0 : Int32)])), (u15, .inl (cls.1, 480, .inl (fun _ => 0))), (o16, .inr (2, [.ref u17, .ref u19, .ref u21])), (u17, .inr (3, [.int (10 : Int32), .int (11 : Int32), .ref u18, .int (0 : Int32)])), (u18, .inl (cls.1, 110, .inl (fun _ => 0))), (u19, .inr (3, [.int (12 : Int32), .int (9 : Int32), .ref u20, .int (0 : Int32)])), (u20, .inl (cls.1, 108, .inl (fun _ => 0))), (u21, .inr (3, [.int (60 : Int32), .int (8 : Int32), .ref u22, .int (0 : Int32)])), (u22, .inl (cls.1, 480, .inl (fun _ => 0)))]) 2 rfl rfl rfl rfl (by decide) rfl dX0_init_35 ?_
  refine N_iinc (v := 3) (ls' := [(1, .int (3 : Int32)), (0, .ref h0)]) hC 0 dX0_init_36 rfl (by decide) (by decide) rfl ?_
  refine N_goto hC 14 dX0_init_39 (by decide) ?_
  refine N_iload_n hC 0 rfl dX0_init_14 ?_
  refine N_aload_n hC 1 rfl dX0_init_15 ?_
  refine N_getf (C := RX0) (T := TX0) (N := 3) (ci := 0) (q0 := 0) hC 0 rfl rfl hinX0 (by decide) tw_68 rfl rfl dX0_init_16 ?_
  refine N_alen (q0 := 1) (t0 := 2) (v := 4) hC rfl rfl rfl dX0_init_19 ?_
  refine N_icmp_ge hC 42 dX0_init_20 (by decide) (fun h => absurd h (by decide)) (fun _ => ?_)
  refine N_aload_n hC 1 rfl dX0_init_23 ?_
  refine N_getf (C := RX0) (T := TX0) (N := 3) (ci := 0) (q0 := 0) hC 0 rfl rfl hinX0 (by decide) tw_68 rfl rfl dX0_init_24 ?_
  refine N_iload_n hC 0 rfl dX0_init_27 ?_
  refine N_new (T := TX2) (N := 3) (ci := 2) (ty := tyX2) (fs := [Value.null, .null, .null]) hC hinX2 tyX2_ok tw_65 tw_18 tw_2 rfl (fun j hj => by rcases (show j = 0 ∨ j = 1 ∨ j = 2 by omega) with rfl | rfl | rfl <;> rfl) ⟨by decide, by decide⟩ dX0_init_28 (fun o23 => ?_)
  refine N_dup hC rfl dX0_init_31 ?_
  refine N_callN (as := []) (rest := [.ref o23, .int (3 : Int32), .ref a1]) (wr := [(h0, .inr (0, [.ref a1, .int 0, .int 0])), (a1, .inl (cls.2.2, 4, .inr (.inr (.inr (.inr (va_up (va_up (va_up (fun _ => none) (ix (0 : Int32)) (some o2)) (ix (1 : Int32)) (some o9)) (ix (2 : Int32)) (some o16))))))), (o2, .inr (2, [.ref u3, .ref u5, .ref u7])), (u3, .inr (3, [.int (10 : Int32), .int (11 : Int32), .ref u4, .int (0 : Int32)])), (u4, .inl (cls.1, 110, .inl (fun _ => 0))), (u5, .inr (3, [.int (12 : Int32), .int (9 : Int32), .ref u6, .int (0 : Int32)])), (u6, .inl (cls.1, 108, .inl (fun _ => 0))), (u7, .inr (3, [.int (60 : Int32), .int (8 : Int32), .ref u8, .int (0 : Int32)])), (u8, .inl (cls.1, 480, .inl (fun _ => 0))), (o9, .inr (2, [.ref u10, .ref u12, .ref u14])), (u10, .inr (3, [.int (10 : Int32), .int (11 : Int32), .ref u11, .int (0 : Int32)])), (u11, .inl (cls.1, 110, .inl (fun _ => 0))), (u12, .inr (3, [.int (12 : Int32), .int (9 : Int32), .ref u13, .int (0 : Int32)])), (u13, .inl (cls.1, 108, .inl (fun _ => 0))), (u14, .inr (3, [.int (60 : Int32), .int (8 : Int32), .ref u15, .int (0 : Int32)])), (u15, .inl (cls.1, 480, .inl (fun _ => 0))), (o16, .inr (2, [.ref u17, .ref u19, .ref u21])), (u17, .inr (3, [.int (10 : Int32), .int (11 : Int32), .ref u18, .int (0 : Int32)])), (u18, .inl (cls.1, 110, .inl (fun _ => 0))), (u19, .inr (3, [.int (12 : Int32), .int (9 : Int32), .ref u20, .int (0 : Int32)])), (u20, .inl (cls.1, 108, .inl (fun _ => 0))), (u21, .inr (3, [.int (60 : Int32), .int (8 : Int32), .ref u22, .int (0 : Int32)])), (u22, .inl (cls.1, 480, .inl (fun _ => 0)))]) 23 [0, 1, 2, 3, 4, 5, 6, 7, 8, 9, 10, 11, 12, 13, 14, 15, 16, 17, 18, 19, 20, 21, 22] hC (n_X2_init _ G cls o23) rfl rfl (by decide) (by decide) (fun _ hn => hn.2.2.1) tw_20 tw_2 tw_21 rfl rfl okm_X2_init (by decide) ⟨by decide, by decide⟩ dX0_init_32 rfl (Nat.le_of_ble_eq_true rfl) (fun w hw => ?_)
  obtain ⟨u24, u25, u26, u27, u28, u29, rfl⟩ := hw
  refine N_aast (q0 := 1) (qk := 23) (ci := 2) hC ([(h0, .inr (0, [.ref a1, .int 0, .int 0])), (a1, .inl (cls.2.2, 4, .inr (.inr (.inr (.inr (va_up (va_up (va_up (va_up (fun _ => none) (ix (0 : Int32)) (some o2)) (ix (1 : Int32)) (some o9)) (ix (2 : Int32)) (some o16)) (ix (3 : Int32)) (some o23))))))), (o2, .inr (2, [.ref u3, .ref u5, .ref u7])), (u3, .inr (3, [.int (10 : Int32), .int (11 : Int32), .ref u4, .int (0 : Int32)])), (u4, .inl (cls.1, 110, .inl (fun _ => 0))), (u5, .inr (3, [.int (12 : Int32), .int (9 : Int32), .ref u6, .int (0 : Int32)])), (u6, .inl (cls.1, 108, .inl (fun _ => 0))), (u7, .inr (3, [.int (60 : Int32), .int (8 : Int32), .ref u8, .int (0 : Int32)])), (u8, .inl (cls.1, 480, .inl (fun _ => 0))), (o9, .inr (2, [.ref u10, .ref u12, .ref u14])), (u10, .inr (3, [.int (10 : Int32), .int (11 : Int32), .ref u11, .int (0 : Int32)])), (u11, .inl (cls.1, 110, .inl (fun _ => 0))), (u12, .inr (3, [.int (12 : Int32), .int (9 : Int32), .ref u13, .int (0 : Int32)])), (u13, .inl (cls.1, 108, .inl (fun _ => 0))), (u14, .inr (3, [.int (60 : Int32), .int (8 : Int32), .ref u15, .int (0 : Int32)])), (u15, .inl (cls.1, 480, .inl (fun _ => 0))), (o16, .inr (2, [.ref u17, .ref u19, .ref u21])), (u17, .inr (3, [.int (10 : Int32), .int (11 : Int32), .ref u18, .int (0 : Int32)])), (u18, .inl (cls.1, 110, .inl (fun _ => 0))), (u19, .inr (3, [.int (12 : Int32), .int (9 : Int32), .ref u20, .int (0 : Int32)])), (u20, .inl (cls.1, 108, .inl (fun _ => 0))), (u21, .inr (3, [.int (60 : Int32), .int (8 : Int32), .ref u22, .int (0 : Int32)])), (u22, .inl (cls.1, 480, .inl (fun _ => 0))), (o23, .inr (2, [.ref u24, .ref u26, .ref u28])), (u24, .inr (3, [.int (10 : Int32), .int (11 : Int32), .ref u25, .int (0 : Int32)])), (u25, .inl (cls.1, 110, .inl (fun _ => 0))), (u26, .inr (3, [.int (12 : Int32), .int (9 : Int32), .ref u27, .int (0 : Int32)])), (u27, .inl (cls.1, 108, .inl (fun _ => 0))), (u28, .inr (3, [.int (60 : Int32), .int (8 : Int32), .ref u29, .int (0 : Int32)])), (u29, .inl (cls.1, 480, .inl (fun _ => 0)))]) 2 rfl rfl rfl rfl (by decide) rfl dX0_init_35 ?_
  refine N_iinc (v := 4) (ls' := [(1, .int (4 : Int32)), (0, .ref h0)]) hC 0 dX0_init_36 rfl (by decide) (by decide) rfl ?_
  refine N_goto hC 14 dX0_init_39 (by decide) ?_
  refine N_iload_n hC 0 rfl dX0_init_14 ?_
  refine N_aload_n hC 1 rfl dX0_init_15 ?_
  refine N_getf (C := RX0) (T := TX0) (N := 3) (ci := 0) (q0 := 0) hC 0 rfl rfl hinX0 (by decide) tw_68 rfl rfl dX0_init_16 ?_
  refine N_alen (q0 := 1) (t0 := 2) (v := 4) hC rfl rfl rfl dX0_init_19 ?_
  refine N_icmp_ge hC 42 dX0_init_20 (by decide) (fun _ => ?_) (fun h => absurd (by decide) h)
  refine N_aload_n hC 1 rfl dX0_init_42 ?_
  refine N_iconst (v := 0) hC (by decide) dX0_init_43 ?_
  refine N_putf (T := TX0) (N := 3) (ci := 0) (ty := .int) (q0 := 0) (C := RX0) hC ([(h0, .inr (0, [.ref a1, .int (0 : Int32), .int 0])), (a1, .inl (cls.2.2, 4, .inr (.inr (.inr (.inr (va_up (va_up (va_up (va_up (fun _ => none) (ix (0 : Int32)) (some o2)) (ix (1 : Int32)) (some o9)) (ix (2 : Int32)) (some o16)) (ix (3 : Int32)) (some o23))))))), (o2, .inr (2, [.ref u3, .ref u5, .ref u7])), (u3, .inr (3, [.int (10 : Int32), .int (11 : Int32), .ref u4, .int (0 : Int32)])), (u4, .inl (cls.1, 110, .inl (fun _ => 0))), (u5, .inr (3, [.int (12 : Int32), .int (9 : Int32), .ref u6, .int (0 : Int32)])), (u6, .inl (cls.1, 108, .inl (fun _ => 0))), (u7, .inr (3, [.int (60 : Int32), .int (8 : Int32), .ref u8, .int (0 : Int32)])), (u8, .inl (cls.1, 480, .inl (fun _ => 0))), (o9, .inr (2, [.ref u10, .ref u12, .ref u14])), (u10, .inr (3, [.int (10 : Int32), .int (11 : Int32), .ref u11, .int (0 : Int32)])), (u11, .inl (cls.1, 110, .inl (fun _ => 0))), (u12, .inr (3, [.int (12 : Int32), .int (9 : Int32), .ref u13, .int (0 : Int32)])), (u13, .inl (cls.1, 108, .inl (fun _ => 0))), (u14, .inr (3, [.int (60 : Int32), .int (8 : Int32), .ref u15, .int (0 : Int32)])), (u15, .inl (cls.1, 480, .inl (fun _ => 0))), (o16, .inr (2, [.ref u17, .ref u19, .ref u21])), (u17, .inr (3, [.int (10 : Int32), .int (11 : Int32), .ref u18, .int (0 : Int32)])), (u18, .inl (cls.1, 110, .inl (fun _ => 0))), (u19, .inr (3, [.int (12 : Int32), .int (9 : Int32), .ref u20, .int (0 : Int32)])), (u20, .inl (cls.1, 108, .inl (fun _ => 0))), (u21, .inr (3, [.int (60 : Int32), .int (8 : Int32), .ref u22, .int (0 : Int32)])), (u22, .inl (cls.1, 480, .inl (fun _ => 0))), (o23, .inr (2, [.ref u24, .ref u26, .ref u28])), (u24, .inr (3, [.int (10 : Int32), .int (11 : Int32), .ref u25, .int (0 : Int32)])), (u25, .inl (cls.1, 110, .inl (fun _ => 0))), (u26, .inr (3, [.int (12 : Int32), .int (9 : Int32), .ref u27, .int (0 : Int32)])), (u27, .inl (cls.1, 108, .inl (fun _ => 0))), (u28, .inr (3, [.int (60 : Int32), .int (8 : Int32), .ref u29, .int (0 : Int32)])), (u29, .inl (cls.1, 480, .inl (fun _ => 0)))]) 1 rfl rfl hinX0 tyX0_ok nmX0 (by decide) tw_69 rfl rfl (by decide +kernel) rfl rfl (Nat.le_of_ble_eq_true rfl) rfl dX0_init_44 ?_
  refine N_aload_n hC 1 rfl dX0_init_47 ?_
  refine N_iconst (v := 0) hC (by decide) dX0_init_48 ?_
  refine N_putf (T := TX0) (N := 3) (ci := 0) (ty := .int) (q0 := 0) (C := RX0) hC ([(h0, .inr (0, [.ref a1, .int (0 : Int32), .int (0 : Int32)])), (a1, .inl (cls.2.2, 4, .inr (.inr (.inr (.inr (va_up (va_up (va_up (va_up (fun _ => none) (ix (0 : Int32)) (some o2)) (ix (1 : Int32)) (some o9)) (ix (2 : Int32)) (some o16)) (ix (3 : Int32)) (some o23))))))), (o2, .inr (2, [.ref u3, .ref u5, .ref u7])), (u3, .inr (3, [.int (10 : Int32), .int (11 : Int32), .ref u4, .int (0 : Int32)])), (u4, .inl (cls.1, 110, .inl (fun _ => 0))), (u5, .inr (3, [.int (12 : Int32), .int (9 : Int32), .ref u6, .int (0 : Int32)])), (u6, .inl (cls.1, 108, .inl (fun _ => 0))), (u7, .inr (3, [.int (60 : Int32), .int (8 : Int32), .ref u8, .int (0 : Int32)])), (u8, .inl (cls.1, 480, .inl (fun _ => 0))), (o9, .inr (2, [.ref u10, .ref u12, .ref u14])), (u10, .inr (3, [.int (10 : Int32), .int (11 : Int32), .ref u11, .int (0 : Int32)])), (u11, .inl (cls.1, 110, .inl (fun _ => 0))), (u12, .inr (3, [.int (12 : Int32), .int (9 : Int32), .ref u13, .int (0 : Int32)])), (u13, .inl (cls.1, 108, .inl (fun _ => 0))), (u14, .inr (3, [.int (60 : Int32), .int (8 : Int32), .ref u15, .int (0 : Int32)])), (u15, .inl (cls.1, 480, .inl (fun _ => 0))), (o16, .inr (2, [.ref u17, .ref u19, .ref u21])), (u17, .inr (3, [.int (10 : Int32), .int (11 : Int32), .ref u18, .int (0 : Int32)])), (u18, .inl (cls.1, 110, .inl (fun _ => 0))), (u19, .inr (3, [.int (12 : Int32), .int (9 : Int32), .ref u20, .int (0 : Int32)])), (u20, .inl (cls.1, 108, .inl (fun _ => 0))), (u21, .inr (3, [.int (60 : Int32), .int (8 : Int32), .ref u22, .int (0 : Int32)])), (u22, .inl (cls.1, 480, .inl (fun _ => 0))), (o23, .inr (2, [.ref u24, .ref u26, .ref u28])), (u24, .inr (3, [.int (10 : Int32), .int (11 : Int32), .ref u25, .int (0 : Int32)])), (u25, .inl (cls.1, 110, .inl (fun _ => 0))), (u26, .inr (3, [.int (12 : Int32), .int (9 : Int32), .ref u27, .int (0 : Int32)])), (u27, .inl (cls.1, 108, .inl (fun _ => 0))), (u28, .inr (3, [.int (60 : Int32), .int (8 : Int32), .ref u29, .int (0 : Int32)])), (u29, .inl (cls.1, 480, .inl (fun _ => 0)))]) 2 rfl rfl hinX0 tyX0_ok nmX0 (by decide) tw_70 rfl rfl (by decide +kernel) rfl rfl (Nat.le_of_ble_eq_true rfl) rfl dX0_init_49 ?_
  refine N_eq rfl (show _ = 29 by omega) (show _ = 2856 by omega) ?_
  exact N_vret hC hret dX0_init_52 ⟨a1, o2, u3, u4, u5, u6, u7, u8, o9, u10, u11, u12, u13, u14, u15, o16, u17, u18, u19, u20, u21, u22, o23, u24, u25, u26, u27, u28, u29, rfl⟩

theorem dX1_init_0 : decode cX1_init 0 = .ok (.aload_n 0, 1) := by decide +kernel
theorem dX1_init_1 : decode cX1_init 1 = .ok (.invokespecial 3, 3) := by decide +kernel
theorem dX1_init_4 : decode cX1_init 4 = .ok (.aload_n 0, 1) := by decide +kernel
theorem dX1_init_5 : decode cX1_init 5 = .ok (.bipush 60, 2) := by decide +kernel
theorem dX1_init_7 : decode cX1_init 7 = .ok (.newarray .char, 2) := by decide +kernel
theorem dX1_init_9 : decode cX1_init 9 = .ok (.putfield 9, 3) := by decide +kernel
theorem dX1_init_12 : decode cX1_init 12 = .ok (.aload_n 0, 1) := by decide +kernel
theorem dX1_init_13 : decode cX1_init 13 = .ok (.new 15, 3) := by decide +kernel
theorem dX1_init_16 : decode cX1_init 16 = .ok (.dup, 1) := by decide +kernel
theorem dX1_init_17 : decode cX1_init 17 = .ok (.bipush 11, 2) := by decide +kernel
theorem dX1_init_19 : decode cX1_init 19 = .ok (.iconst 3, 1) := by decide +kernel
theorem dX1_init_20 : decode cX1_init 20 = .ok (.invokespecial 17, 3) := by decide +kernel
theorem dX1_init_23 : decode cX1_init 23 = .ok (.putfield 20, 3) := by decide +kernel
theorem dX1_init_26 : decode cX1_init 26 = .ok (.return_, 1) := by decide +kernel
theorem okm_X1_init : okm yX1_init 0 = true := by decide +kernel
set_option maxHeartbeats 4000000 in
set_option maxRecDepth 100000 in
theorem n_X1_init (l : Launch) (G : va_G) (cls : Cls) (h0 : Nat) : NT l G cls yX1_init (.code yX1_init cX1_init 1 none :: gw) 2 3 97 43 h0 (.inr (1, [.null, .null, .int 0, .int 0])) [] (fun w => ∃ a1 o2 u3 : Nat, w = [(h0, .inr (1, [.ref a1, .ref o2, .int 0, .int 0])), (a1, .inl (cls.2.1, 60, .inl (fun _ => 0))), (o2, .inr (3, [.int (11 : Int32), .int (3 : Int32), .ref u3, .int (0 : Int32)])), (u3, .inl (cls.1, 33, .inl (fun _ => 0)))]) := by
  refine NT.of (own := RX1) (by decide) rfl (Nat.le_of_ble_eq_true rfl) fun Γ A _ hret hini hC => ?_
  have hini := hini rfl
  show WN Γ G A _ 1 0 [(0, .ref h0)] [] [(h0, .inr (1, [.null, .null, .int 0, .int 0]))] 0 0
  refine N_aload_n hC 0 rfl dX1_init_0 ?_
  refine N_objInit hC tw_83 tw_15 tw_16 (by decide) (Nat.le_of_ble_eq_true rfl) dX1_init_1 ?_
  refine N_aload_n hC 0 rfl dX1_init_4 ?_
  refine N_bipush (v := 60) hC (by decide) dX1_init_5 ?_
  refine N_newc (N := 60) hC tw_99 (by decide) (by decide) (by decide) ⟨by decide, by decide⟩ dX1_init_7 (fun a1 => ?_)
  refine N_putF (T := TX1) (N := 4) (ci := 1) (ty := .array .char) (q0 := 0) hC hini ([(h0, .inr (1, [.ref a1, .null, .int 0, .int 0])), (a1, .inl (cls.2.1, 60, .inl (fun _ => 0)))]) 0 rfl rfl hinX1 tyX1_ok nmX1 (by decide) tw_86 rfl rfl (by decide +kernel) rfl rfl (Nat.le_of_ble_eq_true rfl) rfl dX1_init_9 ?_
  refine N_aload_n hC 0 rfl dX1_init_12 ?_
  refine N_new (T := TX3) (N := 4) (ci := 3) (ty := tyX3) (fs := [Value.int 0, .int 0, .null, .int 0]) hC hinX3 tyX3_ok tw_84 tw_24 tw_3 rfl (fun j hj => by rcases (show j = 0 ∨ j = 1 ∨ j = 2 ∨ j = 3 by omega) with rfl | rfl | rfl | rfl <;> rfl) ⟨by decide, by decide⟩ dX1_init_13 (fun o2 => ?_)
  refine N_dup hC rfl dX1_init_16 ?_
  refine N_bipush (v := 11) hC (by decide) dX1_init_17 ?_
  refine N_iconst (v := 3) hC (by decide) dX1_init_19 ?_
  refine N_call (as := [.int (11 : Int32), .int (3 : Int32)]) (rest := [.ref o2, .ref h0]) (wr := [(h0, .inr (1, [.ref a1, .null, .int 0, .int 0])), (a1, .inl (cls.2.1, 60, .inl (fun _ => 0)))]) 2 [0, 1] hC (n_X3_init _ G cls o2 11 3 33 (by decide) (by decide) (by decide)) rfl rfl (by decide) (by decide) tw_85 tw_26 tw_3 tw_27 rfl rfl okm_X3_init (by decide) ⟨by decide, by decide⟩ dX1_init_20 rfl (Nat.le_of_ble_eq_true rfl) (fun w hw => ?_)
  obtain ⟨u3, rfl⟩ := hw
  refine N_putF (T := TX1) (N := 4) (ci := 1) (ty := .object "VernierSchool$Table") (q0 := 0) hC hini ([(h0, .inr (1, [.ref a1, .ref o2, .int 0, .int 0])), (a1, .inl (cls.2.1, 60, .inl (fun _ => 0))), (o2, .inr (3, [.int (11 : Int32), .int (3 : Int32), .ref u3, .int (0 : Int32)])), (u3, .inl (cls.1, 33, .inl (fun _ => 0)))]) 1 rfl rfl hinX1 tyX1_ok nmX1 (by decide) tw_87 rfl rfl (by decide +kernel) rfl rfl (Nat.le_of_ble_eq_true rfl) rfl dX1_init_23 ?_
  refine N_eq rfl (show _ = 3 by omega) (show _ = 97 by omega) ?_
  exact N_vret hC hret dX1_init_26 ⟨a1, o2, u3, rfl⟩

theorem dX4_init_0 : decode cX4_init 0 = .ok (.aload_n 0, 1) := by decide +kernel
theorem dX4_init_1 : decode cX4_init 1 = .ok (.invokespecial 3, 3) := by decide +kernel
theorem dX4_init_4 : decode cX4_init 4 = .ok (.aload_n 0, 1) := by decide +kernel
theorem dX4_init_5 : decode cX4_init 5 = .ok (.new 9, 3) := by decide +kernel
theorem dX4_init_8 : decode cX4_init 8 = .ok (.dup, 1) := by decide +kernel
theorem dX4_init_9 : decode cX4_init 9 = .ok (.invokespecial 11, 3) := by decide +kernel
theorem dX4_init_12 : decode cX4_init 12 = .ok (.putfield 12, 3) := by decide +kernel
theorem dX4_init_15 : decode cX4_init 15 = .ok (.aload_n 0, 1) := by decide +kernel
theorem dX4_init_16 : decode cX4_init 16 = .ok (.new 9, 3) := by decide +kernel
theorem dX4_init_19 : decode cX4_init 19 = .ok (.dup, 1) := by decide +kernel
theorem dX4_init_20 : decode cX4_init 20 = .ok (.invokespecial 11, 3) := by decide +kernel
theorem dX4_init_23 : decode cX4_init 23 = .ok (.putfield 16, 3) := by decide +kernel
theorem dX4_init_26 : decode cX4_init 26 = .ok (.aload_n 0, 1) := by decide +kernel
theorem dX4_init_27 : decode cX4_init 27 = .ok (.new 19, 3) := by decide +kernel
theorem dX4_init_30 : decode cX4_init 30 = .ok (.dup, 1) := by decide +kernel
theorem dX4_init_31 : decode cX4_init 31 = .ok (.invokespecial 21, 3) := by decide +kernel
theorem dX4_init_34 : decode cX4_init 34 = .ok (.putfield 22, 3) := by decide +kernel
theorem dX4_init_37 : decode cX4_init 37 = .ok (.aload_n 0, 1) := by decide +kernel
theorem dX4_init_38 : decode cX4_init 38 = .ok (.new 26, 3) := by decide +kernel
theorem dX4_init_41 : decode cX4_init 41 = .ok (.dup, 1) := by decide +kernel
theorem dX4_init_42 : decode cX4_init 42 = .ok (.invokespecial 28, 3) := by decide +kernel
theorem dX4_init_45 : decode cX4_init 45 = .ok (.putfield 29, 3) := by decide +kernel
theorem dX4_init_48 : decode cX4_init 48 = .ok (.aload_n 0, 1) := by decide +kernel
theorem dX4_init_49 : decode cX4_init 49 = .ok (.iconst 0, 1) := by decide +kernel
theorem dX4_init_50 : decode cX4_init 50 = .ok (.putfield 33, 3) := by decide +kernel
theorem dX4_init_53 : decode cX4_init 53 = .ok (.return_, 1) := by decide +kernel
theorem okm_X4_init : okm yX4_init 0 = true := by decide +kernel
set_option maxHeartbeats 4000000 in
set_option maxRecDepth 100000 in
theorem n_X4_init (l : Launch) (G : va_G) (cls : Cls) (h0 : Nat) : NT l G cls yX4_init (.code yX4_init cX4_init 1 none :: gw) 4 48 4386 84 h0 (.inr (4, [.null, .null, .null, .null, .int 0])) [] (fun w => ∃ o1 u2 u3 u4 u5 u6 u7 o8 u9 u10 u11 u12 u13 u14 o15 u16 u17 u18 u19 u20 u21 u22 u23 u24 u25 u26 u27 u28 u29 u30 u31 u32 u33 u34 u35 u36 u37 u38 u39 u40 u41 u42 u43 u44 o45 u46 u47 u48 : Nat, w = [(h0, .inr (4, [.ref o1, .ref o8, .ref o15, .ref o45, .int (0 : Int32)])), (o1, .inr (2, [.ref u2, .ref u4, .ref u6])), (u2, .inr (3, [.int (10 : Int32), .int (11 : Int32), .ref u3, .int (0 : Int32)])), (u3, .inl (cls.1, 110, .inl (fun _ => 0))), (u4, .inr (3, [.int (12 : Int32), .int (9 : Int32), .ref u5, .int (0 : Int32)])), (u5, .inl (cls.1, 108, .inl (fun _ => 0))), (u6, .inr (3, [.int (60 : Int32), .int (8 : Int32), .ref u7, .int (0 : Int32)])), (u7, .inl (cls.1, 480, .inl (fun _ => 0))), (o8, .inr (2, [.ref u9, .ref u11, .ref u13])), (u9, .inr (3, [.int (10 : Int32), .int (11 : Int32), .ref u10, .int (0 : Int32)])), (u10, .inl (cls.1, 110, .inl (fun _ => 0))), (u11, .inr (3, [.int (12 : Int32), .int (9 : Int32), .ref u12, .int (0 : Int32)])), (u12, .inl (cls.1, 108, .inl (fun _ => 0))), (u13, .inr (3, [.int (60 : Int32), .int (8 : Int32), .ref u14, .int (0 : Int32)])), (u14, .inl (cls.1, 480, .inl (fun _ => 0))), (o15, .inr (0, [.ref u16, .int (0 : Int32), .int (0 : Int32)])), (u16, .inl (cls.2.2, 4, .inr (.inr (.inr (.inr (va_up (va_up (va_up (va_up (fun _ => none) (ix (0 : Int32)) (some u17)) (ix (1 : Int32)) (some u24)) (ix (2 : Int32)) (some u31)) (ix (3 : Int32)) (some u38))))))), (u17, .inr (2, [.ref u18, .ref u20, .ref u22])), (u18, .inr (3, [.int (10 : Int32), .int (11 : Int32), .ref u19, .int (0 : Int32)])), (u19, .inl (cls.1, 110, .inl (fun _ => 0))), (u20, .inr (3, [.int (12 : Int32), .int (9 : Int32), .ref u21, .int (0 : Int32)])), (u21, .inl (cls.1, 108, .inl (fun _ => 0))), (u22, .inr (3, [.int (60 : Int32), .int (8 : Int32), .ref u23, .int (0 : Int32)])), (u23, .inl (cls.1, 480, .inl (fun _ => 0))), (u24, .inr (2, [.ref u25, .ref u27, .ref u29])), (u25, .inr (3, [.int (10 : Int32), .int (11 : Int32), .ref u26, .int (0 : Int32)])), (u26, .inl (cls.1, 110, .inl (fun _ => 0))), (u27, .inr (3, [.int (12 : Int32), .int (9 : Int32), .ref u28, .int (0 : Int32)])), (u28, .inl (cls.1, 108, .inl (fun _ => 0))), (u29, .inr (3, [.int (60 : Int32), .int (8 : Int32), .ref u30, .int (0 : Int32)])), (u30, .inl (cls.1, 480, .inl (fun _ => 0))), (u31, .inr (2, [.ref u32, .ref u34, .ref u36])), (u32, .inr (3, [.int (10 : Int32), .int (11 : Int32), .ref u33, .int (0 : Int32)])), (u33, .inl (cls.1, 110, .inl (fun _ => 0))), (u34, .inr (3, [.int (12 : Int32), .int (9 : Int32), .ref u35, .int (0 : Int32)])), (u35, .inl (cls.1, 108, .inl (fun _ => 0))), (u36, .inr (3, [.int (60 : Int32), .int (8 : Int32), .ref u37, .int (0 : Int32)])), (u37, .inl (cls.1, 480, .inl (fun _ => 0))), (u38, .inr (2, [.ref u39, .ref u41, .ref u43])), (u39, .inr (3, [.int (10 : Int32), .int (11 : Int32), .ref u40, .int (0 : Int32)])), (u40, .inl (cls.1, 110, .inl (fun _ => 0))), (u41, .inr (3, [.int (12 : Int32), .int (9 : Int32), .ref u42, .int (0 : Int32)])), (u42, .inl (cls.1, 108, .inl (fun _ => 0))), (u43, .inr (3, [.int (60 : Int32), .int (8 : Int32), .ref u44, .int (0 : Int32)])), (u44, .inl (cls.1, 480, .inl (fun _ => 0))), (o45, .inr (1, [.ref u46, .ref u47, .int 0, .int 0])), (u46, .inl (cls.2.1, 60, .inl (fun _ => 0))), (u47, .inr (3, [.int (11 : Int32), .int (3 : Int32), .ref u48, .int (0 : Int32)])), (u48, .inl (cls.1, 33, .inl (fun _ => 0)))]) := by
  refine NT.of (own := RX4) (by decide) rfl (Nat.le_of_ble_eq_true rfl) fun Γ A _ hret hini hC => ?_
  have hini := hini rfl
  show WN Γ G A _ 1 0 [(0, .ref h0)] [] [(h0, .inr (4, [.null, .null, .null, .null, .int 0]))] 0 0
  refine N_aload_n hC 0 rfl dX4_init_0 ?_
  refine N_objInit hC tw_14 tw_15 tw_16 (by decide) (Nat.le_of_ble_eq_true rfl) dX4_init_1 ?_
  refine N_aload_n hC 0 rfl dX4_init_4 ?_
  refine N_new (T := TX2) (N := 3) (ci := 2) (ty := tyX2) (fs := [Value.null, .null, .null]) hC hinX2 tyX2_ok tw_17 tw_18 tw_2 rfl (fun j hj => by rcases (show j = 0 ∨ j = 1 ∨ j = 2 by omega) with rfl | rfl | rfl <;> rfl) ⟨by decide, by decide⟩ dX4_init_5 (fun o1 => ?_)
  refine N_dup hC rfl dX4_init_8 ?_
  refine N_callN (as := []) (rest := [.ref o1, .ref h0]) (wr := [(h0, .inr (4, [.null, .null, .null, .null, .int 0]))]) 1 [0] hC (n_X2_init _ G cls o1) rfl rfl (by decide) (by decide) (fun _ hn => hn.1) tw_20 tw_2 tw_21 rfl rfl okm_X2_init (by decide) ⟨by decide, by decide⟩ dX4_init_9 rfl (Nat.le_of_ble_eq_true rfl) (fun w hw => ?_)
  obtain ⟨u2, u3, u4, u5, u6, u7, rfl⟩ := hw
  refine N_putF (T := TX4) (N := 5) (ci := 4) (ty := .object "VernierSchool$State") (q0 := 0) hC hini ([(h0, .inr (4, [.ref o1, .null, .null, .null, .int 0])), (o1, .inr (2, [.ref u2, .ref u4, .ref u6])), (u2, .inr (3, [.int (10 : Int32), .int (11 : Int32), .ref u3, .int (0 : Int32)])), (u3, .inl (cls.1, 110, .inl (fun _ => 0))), (u4, .inr (3, [.int (12 : Int32), .int (9 : Int32), .ref u5, .int (0 : Int32)])), (u5, .inl (cls.1, 108, .inl (fun _ => 0))), (u6, .inr (3, [.int (60 : Int32), .int (8 : Int32), .ref u7, .int (0 : Int32)])), (u7, .inl (cls.1, 480, .inl (fun _ => 0)))]) 0 rfl rfl hinX4 tyX4_ok nmX4 (by decide) tw_100 rfl rfl (by decide +kernel) rfl rfl (Nat.le_of_ble_eq_true rfl) rfl dX4_init_12 ?_
  refine N_aload_n hC 0 rfl dX4_init_15 ?_
  refine N_new (T := TX2) (N := 3) (ci := 2) (ty := tyX2) (fs := [Value.null, .null, .null]) hC hinX2 tyX2_ok tw_17 tw_18 tw_2 rfl (fun j hj => by rcases (show j = 0 ∨ j = 1 ∨ j = 2 by omega) with rfl | rfl | rfl <;> rfl) ⟨by decide, by decide⟩ dX4_init_16 (fun o8 => ?_)
  refine N_dup hC rfl dX4_init_19 ?_
  refine N_callN (as := []) (rest := [.ref o8, .ref h0]) (wr := [(h0, .inr (4, [.ref o1, .null, .null, .null, .int 0])), (o1, .inr (2, [.ref u2, .ref u4, .ref u6])), (u2, .inr (3, [.int (10 : Int32), .int (11 : Int32), .ref u3, .int (0 : Int32)])), (u3, .inl (cls.1, 110, .inl (fun _ => 0))), (u4, .inr (3, [.int (12 : Int32), .int (9 : Int32), .ref u5, .int (0 : Int32)])), (u5, .inl (cls.1, 108, .inl (fun _ => 0))), (u6, .inr (3, [.int (60 : Int32), .int (8 : Int32), .ref u7, .int (0 : Int32)])), (u7, .inl (cls.1, 480, .inl (fun _ => 0)))]) 8 [0, 1, 2, 3, 4, 5, 6, 7] hC (n_X2_init _ G cls o8) rfl rfl (by decide) (by decide) (fun _ hn => hn.1) tw_20 tw_2 tw_21 rfl rfl okm_X2_init (by decide) ⟨by decide, by decide⟩ dX4_init_20 rfl (Nat.le_of_ble_eq_true rfl) (fun w hw => ?_)
  obtain ⟨u9, u10, u11, u12, u13, u14, rfl⟩ := hw
  refine N_putF (T := TX4) (N := 5) (ci := 4) (ty := .object "VernierSchool$State") (q0 := 0) hC hini ([(h0, .inr (4, [.ref o1, .ref o8, .null, .null, .int 0])), (o1, .inr (2, [.ref u2, .ref u4, .ref u6])), (u2, .inr (3, [.int (10 : Int32), .int (11 : Int32), .ref u3, .int (0 : Int32)])), (u3, .inl (cls.1, 110, .inl (fun _ => 0))), (u4, .inr (3, [.int (12 : Int32), .int (9 : Int32), .ref u5, .int (0 : Int32)])), (u5, .inl (cls.1, 108, .inl (fun _ => 0))), (u6, .inr (3, [.int (60 : Int32), .int (8 : Int32), .ref u7, .int (0 : Int32)])), (u7, .inl (cls.1, 480, .inl (fun _ => 0))), (o8, .inr (2, [.ref u9, .ref u11, .ref u13])), (u9, .inr (3, [.int (10 : Int32), .int (11 : Int32), .ref u10, .int (0 : Int32)])), (u10, .inl (cls.1, 110, .inl (fun _ => 0))), (u11, .inr (3, [.int (12 : Int32), .int (9 : Int32), .ref u12, .int (0 : Int32)])), (u12, .inl (cls.1, 108, .inl (fun _ => 0))), (u13, .inr (3, [.int (60 : Int32), .int (8 : Int32), .ref u14, .int (0 : Int32)])), (u14, .inl (cls.1, 480, .inl (fun _ => 0)))]) 1 rfl rfl hinX4 tyX4_ok nmX4 (by decide) tw_101 rfl rfl (by decide +kernel) rfl rfl (Nat.le_of_ble_eq_true rfl) rfl dX4_init_23 ?_
  refine N_aload_n hC 0 rfl dX4_init_26 ?_
  refine N_new (T := TX0) (N := 3) (ci := 0) (ty := tyX0) (fs := [Value.null, .int 0, .int 0]) hC hinX0 tyX0_ok tw_59 tw_60 tw_5 rfl (fun j hj => by rcases (show j = 0 ∨ j = 1 ∨ j = 2 by omega) with rfl | rfl | rfl <;> rfl) ⟨by decide, by decide⟩ dX4_init_27 (fun o15 => ?_)
  refine N_dup hC rfl dX4_init_30 ?_
  refine N_call (as := []) (rest := [.ref o15, .ref h0]) (wr := [(h0, .inr (4, [.ref o1, .ref o8, .null, .null, .int 0])), (o1, .inr (2, [.ref u2, .ref u4, .ref u6])), (u2, .inr (3, [.int (10 : Int32), .int (11 : Int32), .ref u3, .int (0 : Int32)])), (u3, .inl (cls.1, 110, .inl (fun _ => 0))), (u4, .inr (3, [.int (12 : Int32), .int (9 : Int32), .ref u5, .int (0 : Int32)])), (u5, .inl (cls.1, 108, .inl (fun _ => 0))), (u6, .inr (3, [.int (60 : Int32), .int (8 : Int32), .ref u7, .int (0 : Int32)])), (u7, .inl (cls.1, 480, .inl (fun _ => 0))), (o8, .inr (2, [.ref u9, .ref u11, .ref u13])), (u9, .inr (3, [.int (10 : Int32), .int (11 : Int32), .ref u10, .int (0 : Int32)])), (u10, .inl (cls.1, 110, .inl (fun _ => 0))), (u11, .inr (3, [.int (12 : Int32), .int (9 : Int32), .ref u12, .int (0 : Int32)])), (u12, .inl (cls.1, 108, .inl (fun _ => 0))), (u13, .inr (3, [.int (60 : Int32), .int (8 : Int32), .ref u14, .int (0 : Int32)])), (u14, .inl (cls.1, 480, .inl (fun _ => 0)))]) 15 [0, 1, 2, 3, 4, 5, 6, 7, 8, 9, 10, 11, 12, 13, 14] hC (n_X0_init _ G cls o15) rfl rfl (by decide) (by decide) tw_61 tw_62 tw_5 tw_63 rfl rfl okm_X0_init (by decide) ⟨by decide, by decide⟩ dX4_init_31 rfl (Nat.le_of_ble_eq_true rfl) (fun w hw => ?_)
  obtain ⟨u16, u17, u18, u19, u20, u21, u22, u23, u24, u25, u26, u27, u28, u29, u30, u31, u32, u33, u34, u35, u36, u37, u38, u39, u40, u41, u42, u43, u44, rfl⟩ := hw
  refine N_putF (T := TX4) (N := 5) (ci := 4) (ty := .object "VernierSchool$History") (q0 := 0) hC hini ([(h0, .inr (4, [.ref o1, .ref o8, .ref o15, .null, .int 0])), (o1, .inr (2, [.ref u2, .ref u4, .ref u6])), (u2, .inr (3, [.int (10 : Int32), .int (11 : Int32), .ref u3, .int (0 : Int32)])), (u3, .inl (cls.1, 110, .inl (fun _ => 0))), (u4, .inr (3, [.int (12 : Int32), .int (9 : Int32), .ref u5, .int (0 : Int32)])), (u5, .inl (cls.1, 108, .inl (fun _ => 0))), (u6, .inr (3, [.int (60 : Int32), .int (8 : Int32), .ref u7, .int (0 : Int32)])), (u7, .inl (cls.1, 480, .inl (fun _ => 0))), (o8, .inr (2, [.ref u9, .ref u11, .ref u13])), (u9, .inr (3, [.int (10 : Int32), .int (11 : Int32), .ref u10, .int (0 : Int32)])), (u10, .inl (cls.1, 110, .inl (fun _ => 0))), (u11, .inr (3, [.int (12 : Int32), .int (9 : Int32), .ref u12, .int (0 : Int32)])), (u12, .inl (cls.1, 108, .inl (fun _ => 0))), (u13, .inr (3, [.int (60 : Int32), .int (8 : Int32), .ref u14, .int (0 : Int32)])), (u14, .inl (cls.1, 480, .inl (fun _ => 0))), (o15, .inr (0, [.ref u16, .int (0 : Int32), .int (0 : Int32)])), (u16, .inl (cls.2.2, 4, .inr (.inr (.inr (.inr (va_up (va_up (va_up (va_up (fun _ => none) (ix (0 : Int32)) (some u17)) (ix (1 : Int32)) (some u24)) (ix (2 : Int32)) (some u31)) (ix (3 : Int32)) (some u38))))))), (u17, .inr (2, [.ref u18, .ref u20, .ref u22])), (u18, .inr (3, [.int (10 : Int32), .int (11 : Int32), .ref u19, .int (0 : Int32)])), (u19, .inl (cls.1, 110, .inl (fun _ => 0))), (u20, .inr (3, [.int (12 : Int32), .int (9 : Int32), .ref u21, .int (0 : Int32)])), (u21, .inl (cls.1, 108, .inl (fun _ => 0))), (u22, .inr (3, [.int (60 : Int32), .int (8 : Int32), .ref u23, .int (0 : Int32)])), (u23, .inl (cls.1, 480, .inl (fun _ => 0))), (u24, .inr (2, [.ref u25, .ref u27, .ref u29])), (u25, .inr (3, [.int (10 : Int32), .int (11 : Int32), .ref u26, .int (0 : Int32)])), (u26, .inl (cls.1, 110, .inl (fun _ => 0))), (u27, .inr (3, [.int (12 : Int32), .int (9 : Int32), .ref u28, .int (0 : Int32)])), (u28, .inl (cls.1, 108, .inl (fun _ => 0))), (u29, .inr (3, [.int (60 : Int32), .int (8 : Int32), .ref u30, .int (0 : Int32)])), (u30, .inl (cls.1, 480, .inl (fun _ => 0))), (u31, .inr (2, [.ref u32, .ref u34, .ref u36])), (u32, .inr (3, [.int (10 : Int32), .int (11 : Int32), .ref u33, .int (0 : Int32)])), (u33, .inl (cls.1, 110, .inl (fun _ => 0))), (u34, .inr (3, [.int (12 : Int32), .int (9 : Int32), .ref u35, .int (0 : Int32)])), (u35, .inl (cls.1, 108, .inl (fun _ => 0))), (u36, .inr (3, [.int (60 : Int32), .int (8 : Int32), .ref u37, .int (0 : Int32)])), (u37, .inl (cls.1, 480, .inl (fun _ => 0))), (u38, .inr (2, [.ref u39, .ref u41, .ref u43])), (u39, .inr (3, [.int (10 : Int32), .int (11 : Int32), .ref u40, .int (0 : Int32)])), (u40, .inl (cls.1, 110, .inl (fun _ => 0))), (u41, .inr (3, [.int (12 : Int32), .int (9 : Int32), .ref u42, .int (0 : Int32)])), (u42, .inl (cls.1, 108, .inl (fun _ => 0))), (u43, .inr (3, [.int (60 : Int32), .int (8 : Int32), .ref u44, .int (0 : Int32)])), (u44, .inl (cls.1, 480, .inl (fun _ => 0)))]) 2 rfl rfl hinX4 tyX4_ok nmX4 (by decide) tw_102 rfl rfl (by decide +kernel) rfl rfl (Nat.le_of_ble_eq_true rfl) rfl dX4_init_34 ?_
  refine N_aload_n hC 0 rfl dX4_init_37 ?_
  refine N_new (T := TX1) (N := 4) (ci := 1) (ty := tyX1) (fs := [Value.null, .null, .int 0, .int 0]) hC hinX1 tyX1_ok tw_78 tw_79 tw_6 rfl (fun j hj => by rcases (show j = 0 ∨ j = 1 ∨ j = 2 ∨ j = 3 by omega) with rfl | rfl | rfl | rfl <;> rfl) ⟨by decide, by decide⟩ dX4_init_38 (fun o45 => ?_)
  refine N_dup hC rfl dX4_init_41 ?_
  refine N_callN (as := []) (rest := [.ref o45, .ref h0]) (wr := [(h0, .inr (4, [.ref o1, .ref o8, .ref o15, .null, .int 0])), (o1, .inr (2, [.ref u2, .ref u4, .ref u6])), (u2, .inr (3, [.int (10 : Int32), .int (11 : Int32), .ref u3, .int (0 : Int32)])), (u3, .inl (cls.1, 110, .inl (fun _ => 0))), (u4, .inr (3, [.int (12 : Int32), .int (9 : Int32), .ref u5, .int (0 : Int32)])), (u5, .inl (cls.1, 108, .inl (fun _ => 0))), (u6, .inr (3, [.int (60 : Int32), .int (8 : Int32), .ref u7, .int (0 : Int32)])), (u7, .inl (cls.1, 480, .inl (fun _ => 0))), (o8, .inr (2, [.ref u9, .ref u11, .ref u13])), (u9, .inr (3, [.int (10 : Int32), .int (11 : Int32), .ref u10, .int (0 : Int32)])), (u10, .inl (cls.1, 110, .inl (fun _ => 0))), (u11, .inr (3, [.int (12 : Int32), .int (9 : Int32), .ref u12, .int (0 : Int32)])), (u12, .inl (cls.1, 108, .inl (fun _ => 0))), (u13, .inr (3, [.int (60 : Int32), .int (8 : Int32), .ref u14, .int (0 : Int32)])), (u14, .inl (cls.1, 480, .inl (fun _ => 0))), (o15, .inr (0, [.ref u16, .int (0 : Int32), .int (0 : Int32)])), (u16, .inl (cls.2.2, 4, .inr (.inr (.inr (.inr (va_up (va_up (va_up (va_up (fun _ => none) (ix (0 : Int32)) (some u17)) (ix (1 : Int32)) (some u24)) (ix (2 : Int32)) (some u31)) (ix (3 : Int32)) (some u38))))))), (u17, .inr (2, [.ref u18, .ref u20, .ref u22])), (u18, .inr (3, [.int (10 : Int32), .int (11 : Int32), .ref u19, .int (0 : Int32)])), (u19, .inl (cls.1, 110, .inl (fun _ => 0))), (u20, .inr (3, [.int (12 : Int32), .int (9 : Int32), .ref u21, .int (0 : Int32)])), (u21, .inl (cls.1, 108, .inl (fun _ => 0))), (u22, .inr (3, [.int (60 : Int32), .int (8 : Int32), .ref u23, .int (0 : Int32)])), (u23, .inl (cls.1, 480, .inl (fun _ => 0))), (u24, .inr (2, [.ref u25, .ref u27, .ref u29])), (u25, .inr (3, [.int (10 : Int32), .int (11 : Int32), .ref u26, .int (0 : Int32)])), (u26, .inl (cls.1, 110, .inl (fun _ => 0))), (u27, .inr (3, [.int (12 : Int32), .int (9 : Int32), .ref u28, .int (0 : Int32)])), (u28, .inl (cls.1, 108, .inl (fun _ => 0))), (u29, .inr (3, [.int (60 : Int32), .int (8 : Int32), .ref u30, .int (0 : Int32)])), (u30, .inl (cls.1, 480, .inl (fun _ => 0))), (u31, .inr (2, [.ref u32, .ref u34, .ref u36])), (u32, .inr (3, [.int (10 : Int32), .int (11 : Int32), .ref u33, .int (0 : Int32)])), (u33, .inl (cls.1, 110, .inl (fun _ => 0))), (u34, .inr (3, [.int (12 : Int32), .int (9 : Int32), .ref u35, .int (0 : Int32)])), (u35, .inl (cls.1, 108, .inl (fun _ => 0))), (u36, .inr (3, [.int (60 : Int32), .int (8 : Int32), .ref u37, .int (0 : Int32)])), (u37, .inl (cls.1, 480, .inl (fun _ => 0))), (u38, .inr (2, [.ref u39, .ref u41, .ref u43])), (u39, .inr (3, [.int (10 : Int32), .int (11 : Int32), .ref u40, .int (0 : Int32)])), (u40, .inl (cls.1, 110, .inl (fun _ => 0))), (u41, .inr (3, [.int (12 : Int32), .int (9 : Int32), .ref u42, .int (0 : Int32)])), (u42, .inl (cls.1, 108, .inl (fun _ => 0))), (u43, .inr (3, [.int (60 : Int32), .int (8 : Int32), .ref u44, .int (0 : Int32)])), (u44, .inl (cls.1, 480, .inl (fun _ => 0)))]) 45 [0, 1, 2, 3, 4, 5, 6, 7, 8, 9, 10, 11, 12, 13, 14, 15, 16, 17, 18, 19, 20, 21, 22, 23, 24, 25, 26, 27, 28, 29, 30, 31, 32, 33, 34, 35, 36, 37, 38, 39, 40, 41, 42, 43, 44] hC (n_X1_init _ G cls o45) rfl rfl (by decide) (by decide) (fun _ hn => hn.2.1) tw_81 tw_6 tw_82 rfl rfl okm_X1_init (by decide) ⟨by decide, by decide⟩ dX4_init_42 rfl (Nat.le_of_ble_eq_true rfl) (fun w hw => ?_)
  obtain ⟨u46, u47, u48, rfl⟩ := hw
  refine N_putF (T := TX4) (N := 5) (ci := 4) (ty := .object "VernierSchool$PaperText") (q0 := 0) hC hini ([(h0, .inr (4, [.ref o1, .ref o8, .ref o15, .ref o45, .int 0])), (o1, .inr (2, [.ref u2, .ref u4, .ref u6])), (u2, .inr (3, [.int (10 : Int32), .int (11 : Int32), .ref u3, .int (0 : Int32)])), (u3, .inl (cls.1, 110, .inl (fun _ => 0))), (u4, .inr (3, [.int (12 : Int32), .int (9 : Int32), .ref u5, .int (0 : Int32)])), (u5, .inl (cls.1, 108, .inl (fun _ => 0))), (u6, .inr (3, [.int (60 : Int32), .int (8 : Int32), .ref u7, .int (0 : Int32)])), (u7, .inl (cls.1, 480, .inl (fun _ => 0))), (o8, .inr (2, [.ref u9, .ref u11, .ref u13])), (u9, .inr (3, [.int (10 : Int32), .int (11 : Int32), .ref u10, .int (0 : Int32)])), (u10, .inl (cls.1, 110, .inl (fun _ => 0))), (u11, .inr (3, [.int (12 : Int32), .int (9 : Int32), .ref u12, .int (0 : Int32)])), (u12, .inl (cls.1, 108, .inl (fun _ => 0))), (u13, .inr (3, [.int (60 : Int32), .int (8 : Int32), .ref u14, .int (0 : Int32)])), (u14, .inl (cls.1, 480, .inl (fun _ => 0))), (o15, .inr (0, [.ref u16, .int (0 : Int32), .int (0 : Int32)])), (u16, .inl (cls.2.2, 4, .inr (.inr (.inr (.inr (va_up (va_up (va_up (va_up (fun _ => none) (ix (0 : Int32)) (some u17)) (ix (1 : Int32)) (some u24)) (ix (2 : Int32)) (some u31)) (ix (3 : Int32)) (some u38))))))), (u17, .inr (2, [.ref u18, .ref u20, .ref u22])), (u18, .inr (3, [.int (10 : Int32), .int (11 : Int32), .ref u19, .int (0 : Int32)])), (u19, .inl (cls.1, 110, .inl (fun _ => 0))), (u20, .inr (3, [.int (12 : Int32), .int (9 : Int32), .ref u21, .int (0 : Int32)])), (u21, .inl (cls.1, 108, .inl (fun _ => 0))), (u22, .inr (3, [.int (60 : Int32), .int (8 : Int32), .ref u23, .int (0 : Int32)])), (u23, .inl (cls.1, 480, .inl (fun _ => 0))), (u24, .inr (2, [.ref u25, .ref u27, .ref u29])), (u25, .inr (3, [.int (10 : Int32), .int (11 : Int32), .ref u26, .int (0 : Int32)])), (u26, .inl (cls.1, 110, .inl (fun _ => 0))), (u27, .inr (3, [.int (12 : Int32), .int (9 : Int32), .ref u28, .int (0 : Int32)])), (u28, .inl (cls.1, 108, .inl (fun _ => 0))), (u29, .inr (3, [.int (60 : Int32), .int (8 : Int32), .ref u30, .int (0 : Int32)])), (u30, .inl (cls.1, 480, .inl (fun _ => 0))), (u31, .inr (2, [.ref u32, .ref u34, .ref u36])), (u32, .inr (3, [.int (10 : Int32), .int (11 : Int32), .ref u33, .int (0 : Int32)])), (u33, .inl (cls.1, 110, .inl (fun _ => 0))), (u34, .inr (3, [.int (12 : Int32), .int (9 : Int32), .ref u35, .int (0 : Int32)])), (u35, .inl (cls.1, 108, .inl (fun _ => 0))), (u36, .inr (3, [.int (60 : Int32), .int (8 : Int32), .ref u37, .int (0 : Int32)])), (u37, .inl (cls.1, 480, .inl (fun _ => 0))), (u38, .inr (2, [.ref u39, .ref u41, .ref u43])), (u39, .inr (3, [.int (10 : Int32), .int (11 : Int32), .ref u40, .int (0 : Int32)])), (u40, .inl (cls.1, 110, .inl (fun _ => 0))), (u41, .inr (3, [.int (12 : Int32), .int (9 : Int32), .ref u42, .int (0 : Int32)])), (u42, .inl (cls.1, 108, .inl (fun _ => 0))), (u43, .inr (3, [.int (60 : Int32), .int (8 : Int32), .ref u44, .int (0 : Int32)])), (u44, .inl (cls.1, 480, .inl (fun _ => 0))), (o45, .inr (1, [.ref u46, .ref u47, .int 0, .int 0])), (u46, .inl (cls.2.1, 60, .inl (fun _ => 0))), (u47, .inr (3, [.int (11 : Int32), .int (3 : Int32), .ref u48, .int (0 : Int32)])), (u48, .inl (cls.1, 33, .inl (fun _ => 0)))]) 3 rfl rfl hinX4 tyX4_ok nmX4 (by decide) tw_103 rfl rfl (by decide +kernel) rfl rfl (Nat.le_of_ble_eq_true rfl) rfl dX4_init_45 ?_
  refine N_aload_n hC 0 rfl dX4_init_48 ?_
  refine N_iconst (v := 0) hC (by decide) dX4_init_49 ?_
  refine N_putf (T := TX4) (N := 5) (ci := 4) (ty := .boolean) (q0 := 0) (C := RX4) hC ([(h0, .inr (4, [.ref o1, .ref o8, .ref o15, .ref o45, .int (0 : Int32)])), (o1, .inr (2, [.ref u2, .ref u4, .ref u6])), (u2, .inr (3, [.int (10 : Int32), .int (11 : Int32), .ref u3, .int (0 : Int32)])), (u3, .inl (cls.1, 110, .inl (fun _ => 0))), (u4, .inr (3, [.int (12 : Int32), .int (9 : Int32), .ref u5, .int (0 : Int32)])), (u5, .inl (cls.1, 108, .inl (fun _ => 0))), (u6, .inr (3, [.int (60 : Int32), .int (8 : Int32), .ref u7, .int (0 : Int32)])), (u7, .inl (cls.1, 480, .inl (fun _ => 0))), (o8, .inr (2, [.ref u9, .ref u11, .ref u13])), (u9, .inr (3, [.int (10 : Int32), .int (11 : Int32), .ref u10, .int (0 : Int32)])), (u10, .inl (cls.1, 110, .inl (fun _ => 0))), (u11, .inr (3, [.int (12 : Int32), .int (9 : Int32), .ref u12, .int (0 : Int32)])), (u12, .inl (cls.1, 108, .inl (fun _ => 0))), (u13, .inr (3, [.int (60 : Int32), .int (8 : Int32), .ref u14, .int (0 : Int32)])), (u14, .inl (cls.1, 480, .inl (fun _ => 0))), (o15, .inr (0, [.ref u16, .int (0 : Int32), .int (0 : Int32)])), (u16, .inl (cls.2.2, 4, .inr (.inr (.inr (.inr (va_up (va_up (va_up (va_up (fun _ => none) (ix (0 : Int32)) (some u17)) (ix (1 : Int32)) (some u24)) (ix (2 : Int32)) (some u31)) (ix (3 : Int32)) (some u38))))))), (u17, .inr (2, [.ref u18, .ref u20, .ref u22])), (u18, .inr (3, [.int (10 : Int32), .int (11 : Int32), .ref u19, .int (0 : Int32)])), (u19, .inl (cls.1, 110, .inl (fun _ => 0))), (u20, .inr (3, [.int (12 : Int32), .int (9 : Int32), .ref u21, .int (0 : Int32)])), (u21, .inl (cls.1, 108, .inl (fun _ => 0))), (u22, .inr (3, [.int (60 : Int32), .int (8 : Int32), .ref u23, .int (0 : Int32)])), (u23, .inl (cls.1, 480, .inl (fun _ => 0))), (u24, .inr (2, [.ref u25, .ref u27, .ref u29])), (u25, .inr (3, [.int (10 : Int32), .int (11 : Int32), .ref u26, .int (0 : Int32)])), (u26, .inl (cls.1, 110, .inl (fun _ => 0))), (u27, .inr (3, [.int (12 : Int32), .int (9 : Int32), .ref u28, .int (0 : Int32)])), (u28, .inl (cls.1, 108, .inl (fun _ => 0))), (u29, .inr (3, [.int (60 : Int32), .int (8 : Int32), .ref u30, .int (0 : Int32)])), (u30, .inl (cls.1, 480, .inl (fun _ => 0))), (u31, .inr (2, [.ref u32, .ref u34, .ref u36])), (u32, .inr (3, [.int (10 : Int32), .int (11 : Int32), .ref u33, .int (0 : Int32)])), (u33, .inl (cls.1, 110, .inl (fun _ => 0))), (u34, .inr (3, [.int (12 : Int32), .int (9 : Int32), .ref u35, .int (0 : Int32)])), (u35, .inl (cls.1, 108, .inl (fun _ => 0))), (u36, .inr (3, [.int (60 : Int32), .int (8 : Int32), .ref u37, .int (0 : Int32)])), (u37, .inl (cls.1, 480, .inl (fun _ => 0))), (u38, .inr (2, [.ref u39, .ref u41, .ref u43])), (u39, .inr (3, [.int (10 : Int32), .int (11 : Int32), .ref u40, .int (0 : Int32)])), (u40, .inl (cls.1, 110, .inl (fun _ => 0))), (u41, .inr (3, [.int (12 : Int32), .int (9 : Int32), .ref u42, .int (0 : Int32)])), (u42, .inl (cls.1, 108, .inl (fun _ => 0))), (u43, .inr (3, [.int (60 : Int32), .int (8 : Int32), .ref u44, .int (0 : Int32)])), (u44, .inl (cls.1, 480, .inl (fun _ => 0))), (o45, .inr (1, [.ref u46, .ref u47, .int 0, .int 0])), (u46, .inl (cls.2.1, 60, .inl (fun _ => 0))), (u47, .inr (3, [.int (11 : Int32), .int (3 : Int32), .ref u48, .int (0 : Int32)])), (u48, .inl (cls.1, 33, .inl (fun _ => 0)))]) 4 rfl rfl hinX4 tyX4_ok nmX4 (by decide) tw_104 rfl rfl (by decide +kernel) rfl rfl (Nat.le_of_ble_eq_true rfl) rfl dX4_init_50 ?_
  refine N_eq rfl (show _ = 48 by omega) (show _ = 4386 by omega) ?_
  exact N_vret hC hret dX4_init_53 ⟨o1, u2, u3, u4, u5, u6, u7, o8, u9, u10, u11, u12, u13, u14, o15, u16, u17, u18, u19, u20, u21, u22, u23, u24, u25, u26, u27, u28, u29, u30, u31, u32, u33, u34, u35, u36, u37, u38, u39, u40, u41, u42, u43, u44, o45, u46, u47, u48, rfl⟩
