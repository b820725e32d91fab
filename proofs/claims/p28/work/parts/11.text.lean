theorem dX1_length_0 : decode cX1_length 0 = .ok (.aload_n 0, 1) := by decide +kernel
theorem dX1_length_1 : decode cX1_length 1 = .ok (.getfield 24, 3) := by decide +kernel
theorem dX1_length_4 : decode cX1_length 4 = .ok (.ireturn, 1) := by decide +kernel
def f_X1_length (σ : Sg)   : Option (Int32) := some (σ.1 22)
theorem okm_X1_length : okm yX1_length 0 = true := by decide +kernel
set_option maxHeartbeats 4000000 in
set_option maxRecDepth 100000 in
theorem c_X1_length (l : Launch) (G : va_G) (cls : Cls) (ad : Nat → Nat) (hi : inj 49 ad) (σ : Sg)    : MT l (YX G cls ad) yX1_length (.code yX1_length cX1_length 1 (some .int) :: gw) 0 0 [.ref (ad 27)] (fiP σ) σ (f_X1_length σ  ) := by
  refine MT.of (own := RX1) (by decide) (YX_D hi) rfl (Nat.le_of_ble_eq_true rfl) fun Γ _ hz0 hz1 hC => ?_
  show WX Γ (YX G cls ad) (qf Γ (YX G cls ad) (fiP σ)) 1 0 [(0, .ref (ad 27))] [] σ (f_X1_length σ  )
  unfold f_X1_length
  refine X_aload_n hC 0 rfl dX1_length_0 ?_
  refine X_getf (C := RX1) (T := TX1) (N := 4) (ci := 1) hC 2 (wX (k := 27) (by omega) cX_pt) rfl hinX1 (by decide) tw_88 rfl rfl dX1_length_1 ?_
  exact X_iret hC hz0 hz1 dX1_length_4 rfl
theorem dX1_drafts_0 : decode cX1_drafts 0 = .ok (.aload_n 0, 1) := by decide +kernel
theorem dX1_drafts_1 : decode cX1_drafts 1 = .ok (.getfield 20, 3) := by decide +kernel
theorem dX1_drafts_4 : decode cX1_drafts 4 = .ok (.areturn, 1) := by decide +kernel
def f_X1_drafts (σ : Sg)   : Option (Nat) := some (18)
theorem okm_X1_drafts : okm yX1_drafts 0 = true := by decide +kernel
set_option maxHeartbeats 4000000 in
set_option maxRecDepth 100000 in
theorem c_X1_drafts (l : Launch) (G : va_G) (cls : Cls) (ad : Nat → Nat) (hi : inj 49 ad) (σ : Sg)    : MT l (YX G cls ad) yX1_drafts (.code yX1_drafts cX1_drafts 1 (some (.object "VernierSchool$Table")) :: gw) 0 0 [.ref (ad 27)] (fiR ad σ) σ (f_X1_drafts σ  ) := by
  refine MT.of (own := RX1) (by decide) (YX_D hi) rfl (Nat.le_of_ble_eq_true rfl) fun Γ _ hz0 hz1 hC => ?_
  show WX Γ (YX G cls ad) (qf Γ (YX G cls ad) (fiR ad σ)) 1 0 [(0, .ref (ad 27))] [] σ (f_X1_drafts σ  )
  unfold f_X1_drafts
  refine X_aload_n hC 0 rfl dX1_drafts_0 ?_
  refine X_getf (C := RX1) (T := TX1) (N := 4) (ci := 1) hC 1 (wX (k := 27) (by omega) cX_pt) rfl hinX1 (by decide) tw_87 rfl rfl dX1_drafts_1 ?_
  exact X_aret hC hz0 hz1 dX1_drafts_4 rfl
theorem dX1_characterHere_0 : decode cX1_characterHere 0 = .ok (.aload_n 0, 1) := by decide +kernel
theorem dX1_characterHere_1 : decode cX1_characterHere 1 = .ok (.getfield 31, 3) := by decide +kernel
theorem dX1_characterHere_4 : decode cX1_characterHere 4 = .ok (.ifCond .lt 38, 3) := by decide +kernel
theorem dX1_characterHere_7 : decode cX1_characterHere 7 = .ok (.aload_n 0, 1) := by decide +kernel
theorem dX1_characterHere_8 : decode cX1_characterHere 8 = .ok (.getfield 31, 3) := by decide +kernel
theorem dX1_characterHere_11 : decode cX1_characterHere 11 = .ok (.aload_n 0, 1) := by decide +kernel
theorem dX1_characterHere_12 : decode cX1_characterHere 12 = .ok (.getfield 24, 3) := by decide +kernel
theorem dX1_characterHere_15 : decode cX1_characterHere 15 = .ok (.if_icmp .ge 27, 3) := by decide +kernel
theorem dX1_characterHere_18 : decode cX1_characterHere 18 = .ok (.aload_n 0, 1) := by decide +kernel
theorem dX1_characterHere_19 : decode cX1_characterHere 19 = .ok (.getfield 31, 3) := by decide +kernel
theorem dX1_characterHere_22 : decode cX1_characterHere 22 = .ok (.aload_n 0, 1) := by decide +kernel
theorem dX1_characterHere_23 : decode cX1_characterHere 23 = .ok (.getfield 9, 3) := by decide +kernel
theorem dX1_characterHere_26 : decode cX1_characterHere 26 = .ok (.arraylength, 1) := by decide +kernel
theorem dX1_characterHere_27 : decode cX1_characterHere 27 = .ok (.if_icmp .ge 15, 3) := by decide +kernel
theorem dX1_characterHere_30 : decode cX1_characterHere 30 = .ok (.aload_n 0, 1) := by decide +kernel
theorem dX1_characterHere_31 : decode cX1_characterHere 31 = .ok (.getfield 9, 3) := by decide +kernel
theorem dX1_characterHere_34 : decode cX1_characterHere 34 = .ok (.aload_n 0, 1) := by decide +kernel
theorem dX1_characterHere_35 : decode cX1_characterHere 35 = .ok (.getfield 31, 3) := by decide +kernel
theorem dX1_characterHere_38 : decode cX1_characterHere 38 = .ok (.caload, 1) := by decide +kernel
theorem dX1_characterHere_39 : decode cX1_characterHere 39 = .ok (.goto 4, 3) := by decide +kernel
theorem dX1_characterHere_42 : decode cX1_characterHere 42 = .ok (.iconst 0, 1) := by decide +kernel
theorem dX1_characterHere_43 : decode cX1_characterHere 43 = .ok (.ireturn, 1) := by decide +kernel
def f_X1_characterHere (σ : Sg)   : Option (Int32) := if (σ.1 23) < 0 then (some (0 : Int32)) else (if (σ.1 22) ≤ (σ.1 23) then (some (0 : Int32)) else (if (60 : Int32) ≤ (σ.1 23) then (some (0 : Int32)) else (gd (inb (σ.1 23) 60) (gd (isch (σ.2 19 (ix (σ.1 23)))) (some (σ.2 19 (ix (σ.1 23))))))))
theorem okm_X1_characterHere : okm yX1_characterHere 0 = true := by decide +kernel
set_option maxHeartbeats 4000000 in
set_option maxRecDepth 100000 in
theorem c_X1_characterHere (l : Launch) (G : va_G) (cls : Cls) (ad : Nat → Nat) (hi : inj 49 ad) (σ : Sg)    : MT l (YX G cls ad) yX1_characterHere (.code yX1_characterHere cX1_characterHere 1 (some .char) :: gw) 0 0 [.ref (ad 27)] (fiP σ) σ (f_X1_characterHere σ  ) := by
  refine MT.of (own := RX1) (by decide) (YX_D hi) rfl (Nat.le_of_ble_eq_true rfl) fun Γ _ hz0 hz1 hC => ?_
  show WX Γ (YX G cls ad) (qf Γ (YX G cls ad) (fiP σ)) 1 0 [(0, .ref (ad 27))] [] σ (f_X1_characterHere σ  )
  unfold f_X1_characterHere
  refine X_aload_n hC 0 rfl dX1_characterHere_0 ?_
  refine X_getf (C := RX1) (T := TX1) (N := 4) (ci := 1) hC 3 (wX (k := 27) (by omega) cX_pt) rfl hinX1 (by decide) tw_89 rfl rfl dX1_characterHere_1 ?_
  refine X_if_lt hC 42 dX1_characterHere_4 (by decide) (fun h1 => ?_) (fun h1 => ?_)
  · refine X_iconst (v := 0) hC (by decide) dX1_characterHere_42 ?_
    exact X_zret hC hz0 hz1 rfl dX1_characterHere_43 rfl
  · refine X_aload_n hC 0 rfl dX1_characterHere_7 ?_
    refine X_getf (C := RX1) (T := TX1) (N := 4) (ci := 1) hC 3 (wX (k := 27) (by omega) cX_pt) rfl hinX1 (by decide) tw_89 rfl rfl dX1_characterHere_8 ?_
    refine X_aload_n hC 0 rfl dX1_characterHere_11 ?_
    refine X_getf (C := RX1) (T := TX1) (N := 4) (ci := 1) hC 2 (wX (k := 27) (by omega) cX_pt) rfl hinX1 (by decide) tw_88 rfl rfl dX1_characterHere_12 ?_
    refine X_icmp_ge hC 42 dX1_characterHere_15 (by decide) (fun h2 => ?_) (fun h2 => ?_)
    · refine X_iconst (v := 0) hC (by decide) dX1_characterHere_42 ?_
      exact X_zret hC hz0 hz1 rfl dX1_characterHere_43 rfl
    · refine X_aload_n hC 0 rfl dX1_characterHere_18 ?_
      refine X_getf (C := RX1) (T := TX1) (N := 4) (ci := 1) hC 3 (wX (k := 27) (by omega) cX_pt) rfl hinX1 (by decide) tw_89 rfl rfl dX1_characterHere_19 ?_
      refine X_aload_n hC 0 rfl dX1_characterHere_22 ?_
      refine X_getf (C := RX1) (T := TX1) (N := 4) (ci := 1) hC 0 (wX (k := 27) (by omega) cX_pt) rfl hinX1 (by decide) tw_86 rfl rfl dX1_characterHere_23 ?_
      refine X_alen hC (wX (k := 48) (by omega) cX_ch) (t0 := 1) (v := (60 : Int32)) rfl rfl dX1_characterHere_26 ?_
      refine X_icmp_ge hC 42 dX1_characterHere_27 (by decide) (fun h3 => ?_) (fun h3 => ?_)
      · refine X_iconst (v := 0) hC (by decide) dX1_characterHere_42 ?_
        exact X_zret hC hz0 hz1 rfl dX1_characterHere_43 rfl
      · refine X_aload_n hC 0 rfl dX1_characterHere_30 ?_
        refine X_getf (C := RX1) (T := TX1) (N := 4) (ci := 1) hC 0 (wX (k := 27) (by omega) cX_pt) rfl hinX1 (by decide) tw_86 rfl rfl dX1_characterHere_31 ?_
        refine X_aload_n hC 0 rfl dX1_characterHere_34 ?_
        refine X_getf (C := RX1) (T := TX1) (N := 4) (ci := 1) hC 3 (wX (k := 27) (by omega) cX_pt) rfl hinX1 (by decide) tw_89 rfl rfl dX1_characterHere_35 ?_
        refine X_cald hC (wX (k := 48) (by omega) cX_ch) (t0 := 1) rfl dX1_characterHere_38 ?_
        refine X_goto hC 43 dX1_characterHere_39 (by decide) ?_
        exact X_gd (fun h4 => X_zret hC hz0 hz1 (nch h4) dX1_characterHere_43 rfl)
theorem dX1_isDigitHere_0 : decode cX1_isDigitHere 0 = .ok (.aload_n 0, 1) := by decide +kernel
theorem dX1_isDigitHere_1 : decode cX1_isDigitHere 1 = .ok (.getfield 31, 3) := by decide +kernel
theorem dX1_isDigitHere_4 : decode cX1_isDigitHere 4 = .ok (.aload_n 0, 1) := by decide +kernel
theorem dX1_isDigitHere_5 : decode cX1_isDigitHere 5 = .ok (.getfield 24, 3) := by decide +kernel
theorem dX1_isDigitHere_8 : decode cX1_isDigitHere 8 = .ok (.if_icmp .ge 25, 3) := by decide +kernel
theorem dX1_isDigitHere_11 : decode cX1_isDigitHere 11 = .ok (.aload_n 0, 1) := by decide +kernel
theorem dX1_isDigitHere_12 : decode cX1_isDigitHere 12 = .ok (.invokevirtual 53, 3) := by decide +kernel
theorem dX1_isDigitHere_15 : decode cX1_isDigitHere 15 = .ok (.bipush 48, 2) := by decide +kernel
theorem dX1_isDigitHere_17 : decode cX1_isDigitHere 17 = .ok (.if_icmp .lt 16, 3) := by decide +kernel
theorem dX1_isDigitHere_20 : decode cX1_isDigitHere 20 = .ok (.aload_n 0, 1) := by decide +kernel
theorem dX1_isDigitHere_21 : decode cX1_isDigitHere 21 = .ok (.invokevirtual 53, 3) := by decide +kernel
theorem dX1_isDigitHere_24 : decode cX1_isDigitHere 24 = .ok (.bipush 57, 2) := by decide +kernel
theorem dX1_isDigitHere_26 : decode cX1_isDigitHere 26 = .ok (.if_icmp .gt 7, 3) := by decide +kernel
theorem dX1_isDigitHere_29 : decode cX1_isDigitHere 29 = .ok (.iconst 1, 1) := by decide +kernel
theorem dX1_isDigitHere_30 : decode cX1_isDigitHere 30 = .ok (.goto 4, 3) := by decide +kernel
theorem dX1_isDigitHere_33 : decode cX1_isDigitHere 33 = .ok (.iconst 0, 1) := by decide +kernel
theorem dX1_isDigitHere_34 : decode cX1_isDigitHere 34 = .ok (.ireturn, 1) := by decide +kernel
def f_X1_isDigitHere (σ : Sg)   : Option (Int32) := if (σ.1 22) ≤ (σ.1 23) then (some (0 : Int32)) else ((f_X1_characterHere σ).bind fun r2 => if r2 < (48 : Int32) then (some (0 : Int32)) else ((f_X1_characterHere σ).bind fun r4 => if (57 : Int32) < r4 then (some (0 : Int32)) else (some (1 : Int32))))
theorem okm_X1_isDigitHere : okm yX1_isDigitHere 0 = true := by decide +kernel
set_option maxHeartbeats 4000000 in
set_option maxRecDepth 100000 in
theorem c_X1_isDigitHere (l : Launch) (G : va_G) (cls : Cls) (ad : Nat → Nat) (hi : inj 49 ad) (σ : Sg)    : MT l (YX G cls ad) yX1_isDigitHere (.code yX1_isDigitHere cX1_isDigitHere 1 (some .boolean) :: gw) 1 20 [.ref (ad 27)] (fiP σ) σ (f_X1_isDigitHere σ  ) := by
  refine MT.of (own := RX1) (by decide) (YX_D hi) rfl (Nat.le_of_ble_eq_true rfl) fun Γ _ hz0 hz1 hC => ?_
  show WX Γ (YX G cls ad) (qf Γ (YX G cls ad) (fiP σ)) 1 0 [(0, .ref (ad 27))] [] σ (f_X1_isDigitHere σ  )
  unfold f_X1_isDigitHere
  refine X_aload_n hC 0 rfl dX1_isDigitHere_0 ?_
  refine X_getf (C := RX1) (T := TX1) (N := 4) (ci := 1) hC 3 (wX (k := 27) (by omega) cX_pt) rfl hinX1 (by decide) tw_89 rfl rfl dX1_isDigitHere_1 ?_
  refine X_aload_n hC 0 rfl dX1_isDigitHere_4 ?_
  refine X_getf (C := RX1) (T := TX1) (N := 4) (ci := 1) hC 2 (wX (k := 27) (by omega) cX_pt) rfl hinX1 (by decide) tw_88 rfl rfl dX1_isDigitHere_5 ?_
  refine X_icmp_ge hC 33 dX1_isDigitHere_8 (by decide) (fun h1 => ?_) (fun h1 => ?_)
  · refine X_iconst (v := 0) hC (by decide) dX1_isDigitHere_33 ?_
    exact X_zret hC hz0 hz1 rfl dX1_isDigitHere_34 rfl
  · refine X_aload_n hC 0 rfl dX1_isDigitHere_11 ?_
    refine X_callP (C := RX1) (T := TX1) (N := 4) (ci := 1) (rest := []) hC (c_X1_characterHere _ G cls ad hi σ) (gV tw_222 tw_224 ts_4 tw_6 tw_225) rfl (wX (k := 27) (by omega) cX_pt) rfl rfl okm_X1_characterHere (by decide) dX1_isDigitHere_12 rfl (Nat.le_of_ble_eq_true rfl) (fun r2 => ?_)
    refine X_bipush (v := 48) hC (by decide) dX1_isDigitHere_15 ?_
    refine X_icmp_lt hC 33 dX1_isDigitHere_17 (by decide) (fun h3 => ?_) (fun h3 => ?_)
    · refine X_iconst (v := 0) hC (by decide) dX1_isDigitHere_33 ?_
      exact X_zret hC hz0 hz1 rfl dX1_isDigitHere_34 rfl
    · refine X_aload_n hC 0 rfl dX1_isDigitHere_20 ?_
      refine X_callP (C := RX1) (T := TX1) (N := 4) (ci := 1) (rest := []) hC (c_X1_characterHere _ G cls ad hi σ) (gV tw_222 tw_224 ts_4 tw_6 tw_225) rfl (wX (k := 27) (by omega) cX_pt) rfl rfl okm_X1_characterHere (by decide) dX1_isDigitHere_21 rfl (Nat.le_of_ble_eq_true rfl) (fun r4 => ?_)
      refine X_bipush (v := 57) hC (by decide) dX1_isDigitHere_24 ?_
      refine X_icmp_gt hC 33 dX1_isDigitHere_26 (by decide) (fun h5 => ?_) (fun h5 => ?_)
      · refine X_iconst (v := 0) hC (by decide) dX1_isDigitHere_33 ?_
        exact X_zret hC hz0 hz1 rfl dX1_isDigitHere_34 rfl
      · refine X_iconst (v := 1) hC (by decide) dX1_isDigitHere_29 ?_
        refine X_goto hC 34 dX1_isDigitHere_30 (by decide) ?_
        exact X_zret hC hz0 hz1 rfl dX1_isDigitHere_34 rfl
theorem dX1_readNumber_0 : decode cX1_readNumber 0 = .ok (.iconst 0, 1) := by decide +kernel
theorem dX1_readNumber_1 : decode cX1_readNumber 1 = .ok (.istore 4, 2) := by decide +kernel
theorem dX1_readNumber_3 : decode cX1_readNumber 3 = .ok (.iconst 0, 1) := by decide +kernel
theorem dX1_readNumber_4 : decode cX1_readNumber 4 = .ok (.istore 5, 2) := by decide +kernel
theorem dX1_readNumber_6 : decode cX1_readNumber 6 = .ok (.iload 4, 2) := by decide +kernel
theorem dX1_readNumber_8 : decode cX1_readNumber 8 = .ok (.iload_n 1, 1) := by decide +kernel
theorem dX1_readNumber_9 : decode cX1_readNumber 9 = .ok (.if_icmp .ge 52, 3) := by decide +kernel
theorem dX1_readNumber_12 : decode cX1_readNumber 12 = .ok (.aload_n 0, 1) := by decide +kernel
theorem dX1_readNumber_13 : decode cX1_readNumber 13 = .ok (.invokevirtual 50, 3) := by decide +kernel
theorem dX1_readNumber_16 : decode cX1_readNumber 16 = .ok (.ifCond .eq 45, 3) := by decide +kernel
theorem dX1_readNumber_19 : decode cX1_readNumber 19 = .ok (.iload 4, 2) := by decide +kernel
theorem dX1_readNumber_21 : decode cX1_readNumber 21 = .ok (.iconst 1, 1) := by decide +kernel
theorem dX1_readNumber_22 : decode cX1_readNumber 22 = .ok (.if_icmp .ne 8, 3) := by decide +kernel
theorem dX1_readNumber_25 : decode cX1_readNumber 25 = .ok (.iload 5, 2) := by decide +kernel
theorem dX1_readNumber_27 : decode cX1_readNumber 27 = .ok (.ifCond .eq 34, 3) := by decide +kernel
theorem dX1_readNumber_30 : decode cX1_readNumber 30 = .ok (.iload 5, 2) := by decide +kernel
theorem dX1_readNumber_32 : decode cX1_readNumber 32 = .ok (.bipush 10, 2) := by decide +kernel
theorem dX1_readNumber_34 : decode cX1_readNumber 34 = .ok (.imul, 1) := by decide +kernel
theorem dX1_readNumber_35 : decode cX1_readNumber 35 = .ok (.aload_n 0, 1) := by decide +kernel
theorem dX1_readNumber_36 : decode cX1_readNumber 36 = .ok (.invokevirtual 53, 3) := by decide +kernel
theorem dX1_readNumber_39 : decode cX1_readNumber 39 = .ok (.bipush 48, 2) := by decide +kernel
theorem dX1_readNumber_41 : decode cX1_readNumber 41 = .ok (.isub, 1) := by decide +kernel
theorem dX1_readNumber_42 : decode cX1_readNumber 42 = .ok (.iadd, 1) := by decide +kernel
theorem dX1_readNumber_43 : decode cX1_readNumber 43 = .ok (.istore 5, 2) := by decide +kernel
theorem dX1_readNumber_45 : decode cX1_readNumber 45 = .ok (.aload_n 0, 1) := by decide +kernel
theorem dX1_readNumber_46 : decode cX1_readNumber 46 = .ok (.dup, 1) := by decide +kernel
theorem dX1_readNumber_47 : decode cX1_readNumber 47 = .ok (.getfield 31, 3) := by decide +kernel
theorem dX1_readNumber_50 : decode cX1_readNumber 50 = .ok (.iconst 1, 1) := by decide +kernel
theorem dX1_readNumber_51 : decode cX1_readNumber 51 = .ok (.iadd, 1) := by decide +kernel
theorem dX1_readNumber_52 : decode cX1_readNumber 52 = .ok (.putfield 31, 3) := by decide +kernel
theorem dX1_readNumber_55 : decode cX1_readNumber 55 = .ok (.iinc 4 1, 3) := by decide +kernel
theorem dX1_readNumber_58 : decode cX1_readNumber 58 = .ok (.goto (-52), 3) := by decide +kernel
theorem dX1_readNumber_61 : decode cX1_readNumber 61 = .ok (.aload_n 0, 1) := by decide +kernel
theorem dX1_readNumber_62 : decode cX1_readNumber 62 = .ok (.getfield 20, 3) := by decide +kernel
theorem dX1_readNumber_65 : decode cX1_readNumber 65 = .ok (.iload_n 2, 1) := by decide +kernel
theorem dX1_readNumber_66 : decode cX1_readNumber 66 = .ok (.iload_n 3, 1) := by decide +kernel
theorem dX1_readNumber_67 : decode cX1_readNumber 67 = .ok (.iload 5, 2) := by decide +kernel
theorem dX1_readNumber_69 : decode cX1_readNumber 69 = .ok (.invokevirtual 57, 3) := by decide +kernel
theorem dX1_readNumber_72 : decode cX1_readNumber 72 = .ok (.iload 4, 2) := by decide +kernel
theorem dX1_readNumber_74 : decode cX1_readNumber 74 = .ok (.ifCond .le 7, 3) := by decide +kernel
theorem dX1_readNumber_77 : decode cX1_readNumber 77 = .ok (.iconst 1, 1) := by decide +kernel
theorem dX1_readNumber_78 : decode cX1_readNumber 78 = .ok (.goto 4, 3) := by decide +kernel
theorem dX1_readNumber_81 : decode cX1_readNumber 81 = .ok (.iconst 0, 1) := by decide +kernel
theorem dX1_readNumber_82 : decode cX1_readNumber 82 = .ok (.ireturn, 1) := by decide +kernel
def f_X1_readNumber_b61    (σ : Sg) (v2 v3 v4 v5 : Int32) : Option (Int32 × Sg) := (f_X3_put σ 18 v2 v3 v5).bind fun σ2 => if v4 ≤ 0 then (some ((0 : Int32), σ2)) else (some ((1 : Int32), σ2))
def f_X1_readNumber_b30   (K6 : Sg → Int32 → Int32 → Int32 → Int32 → Int32 → Option (Int32 × Sg)) (σ : Sg) (v1 v2 v3 v4 v5 : Int32) : Option (Int32 × Sg) := (f_X1_characterHere σ).bind fun r7 => lt ((v5 * (10 : Int32)) + (r7 - (48 : Int32))) fun x8 => lts (s1 σ 23 ((σ.1 23) + (1 : Int32))) fun σ9 => lt (v4 + (1 : Int32)) fun x10 => K6 σ9 v1 v2 v3 x10 x8
def f_X1_readNumber_b6    : Nat → Sg → Int32 → Int32 → Int32 → Int32 → Int32 → Option (Int32 × Sg)
  | 0, _, _, _, _, _, _ => none
  | n + 1, σ, v1, v2, v3, v4, v5 => if v1 ≤ v4 then (f_X1_readNumber_b61 σ v2 v3 v4 v5) else ((f_X1_isDigitHere σ).bind fun r4 => if r4 = 0 then (f_X1_readNumber_b61 σ v2 v3 v4 v5) else (if v4 = (1 : Int32) then (if v5 = 0 then (f_X1_readNumber_b61 σ v2 v3 v4 v5) else (f_X1_readNumber_b30 (f_X1_readNumber_b6   n) σ v1 v2 v3 v4 v5)) else (f_X1_readNumber_b30 (f_X1_readNumber_b6   n) σ v1 v2 v3 v4 v5)))
def f_X1_readNumber (σ : Sg)  (p1 p2 p3 : Int32) : Option (Int32 × Sg) := f_X1_readNumber_b6 fuel σ p1 p2 p3 (0 : Int32) (0 : Int32)
set_option maxHeartbeats 4000000 in
set_option maxRecDepth 100000 in
theorem L_X1_readNumber_b61 {Γ : Cx} (G : va_G) (cls : Cls) (ad : Nat → Nat) (hi : inj 49 ad) (hC : CX Γ (YX G cls ad) cX1_readNumber RX1 6 (some .boolean) 2 45) (hz0 : Γ.2.2.2.2.2.1 = 0) (hz1 : Γ.2.2.2.2.2.2 = 0)     (σ : Sg) (v2 v3 v4 v5 : Int32) : WX Γ (YX G cls ad) (qf Γ (YX G cls ad) fiS) 6 61 [(0, .ref (ad 27)), (2, .int v2), (3, .int v3), (4, .int v4), (5, .int v5)] [] σ (f_X1_readNumber_b61   σ v2 v3 v4 v5) := by
  unfold f_X1_readNumber_b61
  refine X_aload_n hC 0 rfl dX1_readNumber_61 ?_
  refine X_getf (C := RX1) (T := TX1) (N := 4) (ci := 1) hC 1 (wX (k := 27) (by omega) cX_pt) rfl hinX1 (by decide) tw_87 rfl rfl dX1_readNumber_62 ?_
  refine X_iload_n hC 1 rfl dX1_readNumber_65 ?_
  refine X_iload_n hC 2 rfl dX1_readNumber_66 ?_
  refine X_iload hC 4 rfl dX1_readNumber_67 ?_
  refine X_callV (C := RX3) (T := TX3) (N := 4) (ci := 3) (rest := []) hC (c_X3_put _ G cls ad hi σ 18 (by omega) v2 v3 v5) (gV tw_226 tw_181 tw_182 tw_3 tw_183) rfl (wX (k := 18) (by omega) (cX_tab (by omega))) rfl rfl okm_X3_put (by decide) dX1_readNumber_69 rfl (Nat.le_of_ble_eq_true rfl) (fun σ2 => ?_)
  refine X_iload hC 3 rfl dX1_readNumber_72 ?_
  refine X_if_le hC 81 dX1_readNumber_74 (by decide) (fun h3 => ?_) (fun h3 => ?_)
  · refine X_iconst (v := 0) hC (by decide) dX1_readNumber_81 ?_
    exact X_zret hC hz0 hz1 rfl dX1_readNumber_82 rfl
  · refine X_iconst (v := 1) hC (by decide) dX1_readNumber_77 ?_
    refine X_goto hC 82 dX1_readNumber_78 (by decide) ?_
    exact X_zret hC hz0 hz1 rfl dX1_readNumber_82 rfl
set_option maxHeartbeats 4000000 in
set_option maxRecDepth 100000 in
theorem L_X1_readNumber_b30 {Γ : Cx} (G : va_G) (cls : Cls) (ad : Nat → Nat) (hi : inj 49 ad) (hC : CX Γ (YX G cls ad) cX1_readNumber RX1 6 (some .boolean) 2 45) (hz0 : Γ.2.2.2.2.2.1 = 0) (hz1 : Γ.2.2.2.2.2.2 = 0)    (K6 : Sg → Int32 → Int32 → Int32 → Int32 → Int32 → Option (Int32 × Sg)) (hK6 : ∀ (σ : Sg) (v1 v2 v3 v4 v5 : Int32), WX Γ (YX G cls ad) (qf Γ (YX G cls ad) fiS) 6 6 [(0, .ref (ad 27)), (1, .int v1), (2, .int v2), (3, .int v3), (4, .int v4), (5, .int v5)] [] σ (K6 σ v1 v2 v3 v4 v5)) (σ : Sg) (v1 v2 v3 v4 v5 : Int32) : WX Γ (YX G cls ad) (qf Γ (YX G cls ad) fiS) 6 30 [(0, .ref (ad 27)), (1, .int v1), (2, .int v2), (3, .int v3), (4, .int v4), (5, .int v5)] [] σ (f_X1_readNumber_b30  K6 σ v1 v2 v3 v4 v5) := by
  unfold f_X1_readNumber_b30
  refine X_iload hC 5 rfl dX1_readNumber_30 ?_
  refine X_bipush (v := 10) hC (by decide) dX1_readNumber_32 ?_
  refine X_imul hC dX1_readNumber_34 ?_
  refine X_aload_n hC 0 rfl dX1_readNumber_35 ?_
  refine X_callP (C := RX1) (T := TX1) (N := 4) (ci := 1) (rest := [.int (v5 * (10 : Int32))]) hC (c_X1_characterHere _ G cls ad hi σ) (gV tw_222 tw_224 ts_4 tw_6 tw_225) rfl (wX (k := 27) (by omega) cX_pt) rfl rfl okm_X1_characterHere (by decide) dX1_readNumber_36 rfl (Nat.le_of_ble_eq_true rfl) (fun r7 => ?_)
  refine X_bipush (v := 48) hC (by decide) dX1_readNumber_39 ?_
  refine X_isub hC dX1_readNumber_41 ?_
  refine X_iadd hC dX1_readNumber_42 ?_
  refine X_lt (fun x8 => ?_)
  refine X_istore (ls' := [(5, .int x8), (0, .ref (ad 27)), (1, .int v1), (2, .int v2), (3, .int v3), (4, .int v4)]) hC dX1_readNumber_43 (by decide) rfl ?_
  refine X_aload_n hC 1 rfl dX1_readNumber_45 ?_
  refine X_dup hC rfl dX1_readNumber_46 ?_
  refine X_getf (C := RX1) (T := TX1) (N := 4) (ci := 1) hC 3 (wX (k := 27) (by omega) cX_pt) rfl hinX1 (by decide) tw_89 rfl rfl dX1_readNumber_47 ?_
  refine X_iconst (v := 1) hC (by decide) dX1_readNumber_50 ?_
  refine X_iadd hC dX1_readNumber_51 ?_
  refine X_putf (C := RX1) (T := TX1) (N := 4) (ci := 1) (ty := .int) hC 3 (wX (k := 27) (by omega) cX_pt) rfl hinX1 tyX1_ok nmX1 (by decide) tw_89 rfl rfl (by decide +kernel) rfl rfl (Nat.le_of_ble_eq_true rfl) (sX_at _) dX1_readNumber_52 (X_lts fun σ9 => ?_)
  refine X_iinc (ls' := fun x10 => [(4, .int x10), (5, .int x8), (0, .ref (ad 27)), (1, .int v1), (2, .int v2), (3, .int v3)]) hC 5 dX1_readNumber_55 rfl (by decide) (by decide) (fun _ => rfl) (fun x10 => ?_)
  refine X_goto hC 6 dX1_readNumber_58 (by decide) ?_
  exact X_sub [2, 3, 4, 5, 0, 1] rfl (hK6 σ9 v1 v2 v3 x10 x8)
set_option maxHeartbeats 4000000 in
set_option maxRecDepth 100000 in
theorem L_X1_readNumber_b6 {Γ : Cx} (G : va_G) (cls : Cls) (ad : Nat → Nat) (hi : inj 49 ad) (hC : CX Γ (YX G cls ad) cX1_readNumber RX1 6 (some .boolean) 2 45) (hz0 : Γ.2.2.2.2.2.1 = 0) (hz1 : Γ.2.2.2.2.2.2 = 0)     : ∀ (n : Nat) (σ : Sg) (v1 v2 v3 v4 v5 : Int32), WX Γ (YX G cls ad) (qf Γ (YX G cls ad) fiS) 6 6 [(0, .ref (ad 27)), (1, .int v1), (2, .int v2), (3, .int v3), (4, .int v4), (5, .int v5)] [] σ (f_X1_readNumber_b6   n σ v1 v2 v3 v4 v5) := by
  intro n
  induction n with
  | zero => intro σ v1 v2 v3 v4 v5; exact X_none
  | succ n ih =>
    intro σ v1 v2 v3 v4 v5
    rw [f_X1_readNumber_b6.eq_2]
    refine X_iload hC 4 rfl dX1_readNumber_6 ?_
    refine X_iload_n hC 1 rfl dX1_readNumber_8 ?_
    refine X_icmp_ge hC 61 dX1_readNumber_9 (by decide) (fun h1 => ?_) (fun h1 => ?_)
    · exact X_sub [0, 2, 3, 4, 5] rfl (L_X1_readNumber_b61 G cls ad hi hC hz0 hz1 σ v2 v3 v4 v5)
    · refine X_aload_n hC 0 rfl dX1_readNumber_12 ?_
      refine X_callP (C := RX1) (T := TX1) (N := 4) (ci := 1) (rest := []) hC (c_X1_isDigitHere _ G cls ad hi σ) (gV tw_218 tw_220 ts_3 tw_6 tw_221) rfl (wX (k := 27) (by omega) cX_pt) rfl rfl okm_X1_isDigitHere (by decide) dX1_readNumber_13 rfl (Nat.le_of_ble_eq_true rfl) (fun r4 => ?_)
      refine X_if_eq hC 61 dX1_readNumber_16 (by decide) (fun h5 => ?_) (fun h5 => ?_)
      · exact X_sub [0, 2, 3, 4, 5] rfl (L_X1_readNumber_b61 G cls ad hi hC hz0 hz1 σ v2 v3 v4 v5)
      · refine X_iload hC 4 rfl dX1_readNumber_19 ?_
        refine X_iconst (v := 1) hC (by decide) dX1_readNumber_21 ?_
        refine X_icmp_ne hC 30 dX1_readNumber_22 (by decide) (fun h6 => ?_) (fun h6 => ?_)
        · exact (L_X1_readNumber_b30 G cls ad hi hC hz0 hz1 (f_X1_readNumber_b6   n) ih σ v1 v2 v3 v4 v5)
        · refine X_iload hC 5 rfl dX1_readNumber_25 ?_
          refine X_if_eq hC 61 dX1_readNumber_27 (by decide) (fun h11 => ?_) (fun h11 => ?_)
          · exact X_sub [0, 2, 3, 4, 5] rfl (L_X1_readNumber_b61 G cls ad hi hC hz0 hz1 σ v2 v3 v4 v5)
          · exact (L_X1_readNumber_b30 G cls ad hi hC hz0 hz1 (f_X1_readNumber_b6   n) ih σ v1 v2 v3 v4 v5)
theorem okm_X1_readNumber : okm yX1_readNumber 3 = true := by decide +kernel
set_option maxHeartbeats 4000000 in
set_option maxRecDepth 100000 in
theorem c_X1_readNumber (l : Launch) (G : va_G) (cls : Cls) (ad : Nat → Nat) (hi : inj 49 ad) (σ : Sg)   (p1 p2 p3 : Int32) : MT l (YX G cls ad) yX1_readNumber (.code yX1_readNumber cX1_readNumber 6 (some .boolean) :: gw) 2 45 [.ref (ad 27), .int p1, .int p2, .int p3] fiS σ (f_X1_readNumber σ  p1 p2 p3) := by
  refine MT.of (own := RX1) (by decide) (YX_D hi) rfl (Nat.le_of_ble_eq_true rfl) fun Γ _ hz0 hz1 hC => ?_
  show WX Γ (YX G cls ad) (qf Γ (YX G cls ad) fiS) 6 0 [(0, .ref (ad 27)), (1, .int p1), (2, .int p2), (3, .int p3)] [] σ (f_X1_readNumber σ  p1 p2 p3)
  unfold f_X1_readNumber
  refine X_iconst (v := 0) hC (by decide) dX1_readNumber_0 ?_
  refine X_istore (ls' := [(4, .int (0 : Int32)), (0, .ref (ad 27)), (1, .int p1), (2, .int p2), (3, .int p3)]) hC dX1_readNumber_1 (by decide) rfl ?_
  refine X_iconst (v := 0) hC (by decide) dX1_readNumber_3 ?_
  refine X_istore (ls' := [(5, .int (0 : Int32)), (4, .int (0 : Int32)), (0, .ref (ad 27)), (1, .int p1), (2, .int p2), (3, .int p3)]) hC dX1_readNumber_4 (by decide) rfl ?_
  exact X_sub [2, 3, 4, 5, 1, 0] rfl (L_X1_readNumber_b6 G cls ad hi hC hz0 hz1 fuel σ p1 p2 p3 (0 : Int32) (0 : Int32))
theorem dX1_readSign_0 : decode cX1_readSign 0 = .ok (.aload_n 0, 1) := by decide +kernel
theorem dX1_readSign_1 : decode cX1_readSign 1 = .ok (.getfield 31, 3) := by decide +kernel
theorem dX1_readSign_4 : decode cX1_readSign 4 = .ok (.aload_n 0, 1) := by decide +kernel
theorem dX1_readSign_5 : decode cX1_readSign 5 = .ok (.getfield 24, 3) := by decide +kernel
theorem dX1_readSign_8 : decode cX1_readSign 8 = .ok (.if_icmp .ge 11, 3) := by decide +kernel
theorem dX1_readSign_11 : decode cX1_readSign 11 = .ok (.aload_n 0, 1) := by decide +kernel
theorem dX1_readSign_12 : decode cX1_readSign 12 = .ok (.invokevirtual 53, 3) := by decide +kernel
theorem dX1_readSign_15 : decode cX1_readSign 15 = .ok (.iload_n 1, 1) := by decide +kernel
theorem dX1_readSign_16 : decode cX1_readSign 16 = .ok (.if_icmp .eq 5, 3) := by decide +kernel
theorem dX1_readSign_19 : decode cX1_readSign 19 = .ok (.iconst 0, 1) := by decide +kernel
theorem dX1_readSign_20 : decode cX1_readSign 20 = .ok (.ireturn, 1) := by decide +kernel
theorem dX1_readSign_21 : decode cX1_readSign 21 = .ok (.aload_n 0, 1) := by decide +kernel
theorem dX1_readSign_22 : decode cX1_readSign 22 = .ok (.dup, 1) := by decide +kernel
theorem dX1_readSign_23 : decode cX1_readSign 23 = .ok (.getfield 31, 3) := by decide +kernel
theorem dX1_readSign_26 : decode cX1_readSign 26 = .ok (.iconst 1, 1) := by decide +kernel
theorem dX1_readSign_27 : decode cX1_readSign 27 = .ok (.iadd, 1) := by decide +kernel
theorem dX1_readSign_28 : decode cX1_readSign 28 = .ok (.putfield 31, 3) := by decide +kernel
theorem dX1_readSign_31 : decode cX1_readSign 31 = .ok (.iconst 1, 1) := by decide +kernel
theorem dX1_readSign_32 : decode cX1_readSign 32 = .ok (.ireturn, 1) := by decide +kernel
def f_X1_readSign (σ : Sg)  (p1 : Int32) : Option (Int32 × Sg) := if (σ.1 22) ≤ (σ.1 23) then (some ((0 : Int32), σ)) else ((f_X1_characterHere σ).bind fun r2 => if r2 = p1 then (lts (s1 σ 23 ((σ.1 23) + (1 : Int32))) fun σ4 => some ((1 : Int32), σ4)) else (some ((0 : Int32), σ)))
theorem okm_X1_readSign : okm yX1_readSign 1 = true := by decide +kernel
set_option maxHeartbeats 4000000 in
set_option maxRecDepth 100000 in
theorem c_X1_readSign (l : Launch) (G : va_G) (cls : Cls) (ad : Nat → Nat) (hi : inj 49 ad) (σ : Sg)   (p1 : Int32) : MT l (YX G cls ad) yX1_readSign (.code yX1_readSign cX1_readSign 2 (some .boolean) :: gw) 1 20 [.ref (ad 27), .int p1] fiS σ (f_X1_readSign σ  p1) := by
  refine MT.of (own := RX1) (by decide) (YX_D hi) rfl (Nat.le_of_ble_eq_true rfl) fun Γ _ hz0 hz1 hC => ?_
  show WX Γ (YX G cls ad) (qf Γ (YX G cls ad) fiS) 2 0 [(0, .ref (ad 27)), (1, .int p1)] [] σ (f_X1_readSign σ  p1)
  unfold f_X1_readSign
  refine X_aload_n hC 0 rfl dX1_readSign_0 ?_
  refine X_getf (C := RX1) (T := TX1) (N := 4) (ci := 1) hC 3 (wX (k := 27) (by omega) cX_pt) rfl hinX1 (by decide) tw_89 rfl rfl dX1_readSign_1 ?_
  refine X_aload_n hC 0 rfl dX1_readSign_4 ?_
  refine X_getf (C := RX1) (T := TX1) (N := 4) (ci := 1) hC 2 (wX (k := 27) (by omega) cX_pt) rfl hinX1 (by decide) tw_88 rfl rfl dX1_readSign_5 ?_
  refine X_icmp_ge hC 19 dX1_readSign_8 (by decide) (fun h1 => ?_) (fun h1 => ?_)
  · refine X_iconst (v := 0) hC (by decide) dX1_readSign_19 ?_
    exact X_zret hC hz0 hz1 rfl dX1_readSign_20 rfl
  · refine X_aload_n hC 0 rfl dX1_readSign_11 ?_
    refine X_callP (C := RX1) (T := TX1) (N := 4) (ci := 1) (rest := []) hC (c_X1_characterHere _ G cls ad hi σ) (gV tw_222 tw_224 ts_4 tw_6 tw_225) rfl (wX (k := 27) (by omega) cX_pt) rfl rfl okm_X1_characterHere (by decide) dX1_readSign_12 rfl (Nat.le_of_ble_eq_true rfl) (fun r2 => ?_)
    refine X_iload_n hC 1 rfl dX1_readSign_15 ?_
    refine X_icmp_eq hC 21 dX1_readSign_16 (by decide) (fun h3 => ?_) (fun h3 => ?_)
    · refine X_aload_n hC 0 rfl dX1_readSign_21 ?_
      refine X_dup hC rfl dX1_readSign_22 ?_
      refine X_getf (C := RX1) (T := TX1) (N := 4) (ci := 1) hC 3 (wX (k := 27) (by omega) cX_pt) rfl hinX1 (by decide) tw_89 rfl rfl dX1_readSign_23 ?_
      refine X_iconst (v := 1) hC (by decide) dX1_readSign_26 ?_
      refine X_iadd hC dX1_readSign_27 ?_
      refine X_putf (C := RX1) (T := TX1) (N := 4) (ci := 1) (ty := .int) hC 3 (wX (k := 27) (by omega) cX_pt) rfl hinX1 tyX1_ok nmX1 (by decide) tw_89 rfl rfl (by decide +kernel) rfl rfl (Nat.le_of_ble_eq_true rfl) (sX_at _) dX1_readSign_28 (X_lts fun σ4 => ?_)
      refine X_iconst (v := 1) hC (by decide) dX1_readSign_31 ?_
      exact X_zret hC hz0 hz1 rfl dX1_readSign_32 rfl
    · refine X_iconst (v := 0) hC (by decide) dX1_readSign_19 ?_
      exact X_zret hC hz0 hz1 rfl dX1_readSign_20 rfl
theorem dX1_readDraft_0 : decode cX1_readDraft 0 = .ok (.aload_n 0, 1) := by decide +kernel
theorem dX1_readDraft_1 : decode cX1_readDraft 1 = .ok (.getfield 20, 3) := by decide +kernel
theorem dX1_readDraft_4 : decode cX1_readDraft 4 = .ok (.invokevirtual 42, 3) := by decide +kernel
theorem dX1_readDraft_7 : decode cX1_readDraft 7 = .ok (.istore_n 1, 1) := by decide +kernel
theorem dX1_readDraft_8 : decode cX1_readDraft 8 = .ok (.aload_n 0, 1) := by decide +kernel
theorem dX1_readDraft_9 : decode cX1_readDraft 9 = .ok (.iconst 2, 1) := by decide +kernel
theorem dX1_readDraft_10 : decode cX1_readDraft 10 = .ok (.iload_n 1, 1) := by decide +kernel
theorem dX1_readDraft_11 : decode cX1_readDraft 11 = .ok (.iconst 0, 1) := by decide +kernel
theorem dX1_readDraft_12 : decode cX1_readDraft 12 = .ok (.invokevirtual 46, 3) := by decide +kernel
theorem dX1_readDraft_15 : decode cX1_readDraft 15 = .ok (.ifCond .eq 46, 3) := by decide +kernel
theorem dX1_readDraft_18 : decode cX1_readDraft 18 = .ok (.aload_n 0, 1) := by decide +kernel
theorem dX1_readDraft_19 : decode cX1_readDraft 19 = .ok (.bipush 47, 2) := by decide +kernel
theorem dX1_readDraft_21 : decode cX1_readDraft 21 = .ok (.invokevirtual 38, 3) := by decide +kernel
theorem dX1_readDraft_24 : decode cX1_readDraft 24 = .ok (.ifCond .eq 37, 3) := by decide +kernel
theorem dX1_readDraft_27 : decode cX1_readDraft 27 = .ok (.aload_n 0, 1) := by decide +kernel
theorem dX1_readDraft_28 : decode cX1_readDraft 28 = .ok (.iconst 2, 1) := by decide +kernel
theorem dX1_readDraft_29 : decode cX1_readDraft 29 = .ok (.iload_n 1, 1) := by decide +kernel
theorem dX1_readDraft_30 : decode cX1_readDraft 30 = .ok (.iconst 1, 1) := by decide +kernel
theorem dX1_readDraft_31 : decode cX1_readDraft 31 = .ok (.invokevirtual 46, 3) := by decide +kernel
theorem dX1_readDraft_34 : decode cX1_readDraft 34 = .ok (.ifCond .eq 27, 3) := by decide +kernel
theorem dX1_readDraft_37 : decode cX1_readDraft 37 = .ok (.aload_n 0, 1) := by decide +kernel
theorem dX1_readDraft_38 : decode cX1_readDraft 38 = .ok (.bipush 64, 2) := by decide +kernel
theorem dX1_readDraft_40 : decode cX1_readDraft 40 = .ok (.invokevirtual 38, 3) := by decide +kernel
theorem dX1_readDraft_43 : decode cX1_readDraft 43 = .ok (.ifCond .eq 18, 3) := by decide +kernel
theorem dX1_readDraft_46 : decode cX1_readDraft 46 = .ok (.aload_n 0, 1) := by decide +kernel
theorem dX1_readDraft_47 : decode cX1_readDraft 47 = .ok (.bipush 6, 2) := by decide +kernel
theorem dX1_readDraft_49 : decode cX1_readDraft 49 = .ok (.iload_n 1, 1) := by decide +kernel
theorem dX1_readDraft_50 : decode cX1_readDraft 50 = .ok (.iconst 2, 1) := by decide +kernel
theorem dX1_readDraft_51 : decode cX1_readDraft 51 = .ok (.invokevirtual 46, 3) := by decide +kernel
theorem dX1_readDraft_54 : decode cX1_readDraft 54 = .ok (.ifCond .eq 7, 3) := by decide +kernel
theorem dX1_readDraft_57 : decode cX1_readDraft 57 = .ok (.iconst 1, 1) := by decide +kernel
theorem dX1_readDraft_58 : decode cX1_readDraft 58 = .ok (.goto 4, 3) := by decide +kernel
theorem dX1_readDraft_61 : decode cX1_readDraft 61 = .ok (.iconst 0, 1) := by decide +kernel
theorem dX1_readDraft_62 : decode cX1_readDraft 62 = .ok (.ireturn, 1) := by decide +kernel
def f_X1_readDraft (σ : Sg)   : Option (Int32 × Sg) := (f_X3_newRow σ 18).bind fun q23 => lts q23.2 fun σ2 => lt q23.1 fun r1 => (f_X1_readNumber σ2 (2 : Int32) r1 (0 : Int32)).bind fun q22 => lts q22.2 fun σ4 => lt q22.1 fun r3 => if r3 = 0 then (some ((0 : Int32), σ4)) else ((f_X1_readSign σ4 (47 : Int32)).bind fun q21 => lts q21.2 fun σ7 => lt q21.1 fun r6 => if r6 = 0 then (some ((0 : Int32), σ7)) else ((f_X1_readNumber σ7 (2 : Int32) r1 (1 : Int32)).bind fun q20 => lts q20.2 fun σ10 => lt q20.1 fun r9 => if r9 = 0 then (some ((0 : Int32), σ10)) else ((f_X1_readSign σ10 (64 : Int32)).bind fun q19 => lts q19.2 fun σ13 => lt q19.1 fun r12 => if r12 = 0 then (some ((0 : Int32), σ13)) else ((f_X1_readNumber σ13 (6 : Int32) r1 (2 : Int32)).bind fun q18 => lts q18.2 fun σ16 => lt q18.1 fun r15 => if r15 = 0 then (some ((0 : Int32), σ16)) else (some ((1 : Int32), σ16))))))
theorem okm_X1_readDraft : okm yX1_readDraft 0 = true := by decide +kernel
set_option maxHeartbeats 4000000 in
set_option maxRecDepth 100000 in
theorem c_X1_readDraft (l : Launch) (G : va_G) (cls : Cls) (ad : Nat → Nat) (hi : inj 49 ad) (σ : Sg)    : MT l (YX G cls ad) yX1_readDraft (.code yX1_readDraft cX1_readDraft 2 (some .boolean) :: gw) 3 70 [.ref (ad 27)] fiS σ (f_X1_readDraft σ  ) := by
  refine MT.of (own := RX1) (by decide) (YX_D hi) rfl (Nat.le_of_ble_eq_true rfl) fun Γ _ hz0 hz1 hC => ?_
  show WX Γ (YX G cls ad) (qf Γ (YX G cls ad) fiS) 2 0 [(0, .ref (ad 27))] [] σ (f_X1_readDraft σ  )
  unfold f_X1_readDraft
  refine X_aload_n hC 0 rfl dX1_readDraft_0 ?_
  refine X_getf (C := RX1) (T := TX1) (N := 4) (ci := 1) hC 1 (wX (k := 27) (by omega) cX_pt) rfl hinX1 (by decide) tw_87 rfl rfl dX1_readDraft_1 ?_
  refine X_callS (C := RX3) (T := TX3) (N := 4) (ci := 3) (rest := []) hC (c_X3_newRow _ G cls ad hi σ 18 (by omega)) (gV tw_206 tw_207 tw_208 tw_3 tw_209) rfl (wX (k := 18) (by omega) (cX_tab (by omega))) rfl rfl okm_X3_newRow (by decide) dX1_readDraft_4 rfl (Nat.le_of_ble_eq_true rfl) (fun q23 => X_lts fun σ2 => X_lt fun r1 => ?_)
  refine X_istore_n (ls' := [(1, .int r1), (0, .ref (ad 27))]) hC dX1_readDraft_7 (by decide) rfl ?_
  refine X_aload_n hC 1 rfl dX1_readDraft_8 ?_
  refine X_iconst (v := 2) hC (by decide) dX1_readDraft_9 ?_
  refine X_iload_n hC 0 rfl dX1_readDraft_10 ?_
  refine X_iconst (v := 0) hC (by decide) dX1_readDraft_11 ?_
  refine X_callS (C := RX1) (T := TX1) (N := 4) (ci := 1) (rest := []) hC (c_X1_readNumber _ G cls ad hi σ2 (2 : Int32) r1 (0 : Int32)) (gV tw_214 tw_216 ts_2 tw_6 tw_217) rfl (wX (k := 27) (by omega) cX_pt) rfl rfl okm_X1_readNumber (by decide) dX1_readDraft_12 rfl (Nat.le_of_ble_eq_true rfl) (fun q22 => X_lts fun σ4 => X_lt fun r3 => ?_)
  refine X_if_eq hC 61 dX1_readDraft_15 (by decide) (fun h5 => ?_) (fun h5 => ?_)
  · refine X_iconst (v := 0) hC (by decide) dX1_readDraft_61 ?_
    exact X_zret hC hz0 hz1 rfl dX1_readDraft_62 rfl
  · refine X_aload_n hC 1 rfl dX1_readDraft_18 ?_
    refine X_bipush (v := 47) hC (by decide) dX1_readDraft_19 ?_
    refine X_callS (C := RX1) (T := TX1) (N := 4) (ci := 1) (rest := []) hC (c_X1_readSign _ G cls ad hi σ4 (47 : Int32)) (gV tw_227 tw_229 ts_5 tw_6 tw_230) rfl (wX (k := 27) (by omega) cX_pt) rfl rfl okm_X1_readSign (by decide) dX1_readDraft_21 rfl (Nat.le_of_ble_eq_true rfl) (fun q21 => X_lts fun σ7 => X_lt fun r6 => ?_)
    refine X_if_eq hC 61 dX1_readDraft_24 (by decide) (fun h8 => ?_) (fun h8 => ?_)
    · refine X_iconst (v := 0) hC (by decide) dX1_readDraft_61 ?_
      exact X_zret hC hz0 hz1 rfl dX1_readDraft_62 rfl
    · refine X_aload_n hC 1 rfl dX1_readDraft_27 ?_
      refine X_iconst (v := 2) hC (by decide) dX1_readDraft_28 ?_
      refine X_iload_n hC 0 rfl dX1_readDraft_29 ?_
      refine X_iconst (v := 1) hC (by decide) dX1_readDraft_30 ?_
      refine X_callS (C := RX1) (T := TX1) (N := 4) (ci := 1) (rest := []) hC (c_X1_readNumber _ G cls ad hi σ7 (2 : Int32) r1 (1 : Int32)) (gV tw_214 tw_216 ts_2 tw_6 tw_217) rfl (wX (k := 27) (by omega) cX_pt) rfl rfl okm_X1_readNumber (by decide) dX1_readDraft_31 rfl (Nat.le_of_ble_eq_true rfl) (fun q20 => X_lts fun σ10 => X_lt fun r9 => ?_)
      refine X_if_eq hC 61 dX1_readDraft_34 (by decide) (fun h11 => ?_) (fun h11 => ?_)
      · refine X_iconst (v := 0) hC (by decide) dX1_readDraft_61 ?_
        exact X_zret hC hz0 hz1 rfl dX1_readDraft_62 rfl
      · refine X_aload_n hC 1 rfl dX1_readDraft_37 ?_
        refine X_bipush (v := 64) hC (by decide) dX1_readDraft_38 ?_
        refine X_callS (C := RX1) (T := TX1) (N := 4) (ci := 1) (rest := []) hC (c_X1_readSign _ G cls ad hi σ10 (64 : Int32)) (gV tw_227 tw_229 ts_5 tw_6 tw_230) rfl (wX (k := 27) (by omega) cX_pt) rfl rfl okm_X1_readSign (by decide) dX1_readDraft_40 rfl (Nat.le_of_ble_eq_true rfl) (fun q19 => X_lts fun σ13 => X_lt fun r12 => ?_)
        refine X_if_eq hC 61 dX1_readDraft_43 (by decide) (fun h14 => ?_) (fun h14 => ?_)
        · refine X_iconst (v := 0) hC (by decide) dX1_readDraft_61 ?_
          exact X_zret hC hz0 hz1 rfl dX1_readDraft_62 rfl
        · refine X_aload_n hC 1 rfl dX1_readDraft_46 ?_
          refine X_bipush (v := 6) hC (by decide) dX1_readDraft_47 ?_
          refine X_iload_n hC 0 rfl dX1_readDraft_49 ?_
          refine X_iconst (v := 2) hC (by decide) dX1_readDraft_50 ?_
          refine X_callS (C := RX1) (T := TX1) (N := 4) (ci := 1) (rest := []) hC (c_X1_readNumber _ G cls ad hi σ13 (6 : Int32) r1 (2 : Int32)) (gV tw_214 tw_216 ts_2 tw_6 tw_217) rfl (wX (k := 27) (by omega) cX_pt) rfl rfl okm_X1_readNumber (by decide) dX1_readDraft_51 rfl (Nat.le_of_ble_eq_true rfl) (fun q18 => X_lts fun σ16 => X_lt fun r15 => ?_)
          refine X_if_eq hC 61 dX1_readDraft_54 (by decide) (fun h17 => ?_) (fun h17 => ?_)
          · refine X_iconst (v := 0) hC (by decide) dX1_readDraft_61 ?_
            exact X_zret hC hz0 hz1 rfl dX1_readDraft_62 rfl
          · refine X_iconst (v := 1) hC (by decide) dX1_readDraft_57 ?_
            refine X_goto hC 62 dX1_readDraft_58 (by decide) ?_
            exact X_zret hC hz0 hz1 rfl dX1_readDraft_62 rfl
theorem dX1_readDrafts_0 : decode cX1_readDrafts 0 = .ok (.aload_n 0, 1) := by decide +kernel
theorem dX1_readDrafts_1 : decode cX1_readDrafts 1 = .ok (.getfield 20, 3) := by decide +kernel
theorem dX1_readDrafts_4 : decode cX1_readDrafts 4 = .ok (.invokevirtual 28, 3) := by decide +kernel
theorem dX1_readDrafts_7 : decode cX1_readDrafts 7 = .ok (.aload_n 0, 1) := by decide +kernel
theorem dX1_readDrafts_8 : decode cX1_readDrafts 8 = .ok (.iconst 0, 1) := by decide +kernel
theorem dX1_readDrafts_9 : decode cX1_readDrafts 9 = .ok (.putfield 31, 3) := by decide +kernel
theorem dX1_readDrafts_12 : decode cX1_readDrafts 12 = .ok (.iconst 0, 1) := by decide +kernel
theorem dX1_readDrafts_13 : decode cX1_readDrafts 13 = .ok (.istore_n 1, 1) := by decide +kernel
theorem dX1_readDrafts_14 : decode cX1_readDrafts 14 = .ok (.iload_n 1, 1) := by decide +kernel
theorem dX1_readDrafts_15 : decode cX1_readDrafts 15 = .ok (.bipush 11, 2) := by decide +kernel
theorem dX1_readDrafts_17 : decode cX1_readDrafts 17 = .ok (.if_icmp .ge 48, 3) := by decide +kernel
theorem dX1_readDrafts_20 : decode cX1_readDrafts 20 = .ok (.aload_n 0, 1) := by decide +kernel
theorem dX1_readDrafts_21 : decode cX1_readDrafts 21 = .ok (.invokevirtual 34, 3) := by decide +kernel
theorem dX1_readDrafts_24 : decode cX1_readDrafts 24 = .ok (.ifCond .ne 8, 3) := by decide +kernel
theorem dX1_readDrafts_27 : decode cX1_readDrafts 27 = .ok (.aload_n 0, 1) := by decide +kernel
theorem dX1_readDrafts_28 : decode cX1_readDrafts 28 = .ok (.getfield 31, 3) := by decide +kernel
theorem dX1_readDrafts_31 : decode cX1_readDrafts 31 = .ok (.ireturn, 1) := by decide +kernel
theorem dX1_readDrafts_32 : decode cX1_readDrafts 32 = .ok (.aload_n 0, 1) := by decide +kernel
theorem dX1_readDrafts_33 : decode cX1_readDrafts 33 = .ok (.getfield 31, 3) := by decide +kernel
theorem dX1_readDrafts_36 : decode cX1_readDrafts 36 = .ok (.aload_n 0, 1) := by decide +kernel
theorem dX1_readDrafts_37 : decode cX1_readDrafts 37 = .ok (.getfield 24, 3) := by decide +kernel
theorem dX1_readDrafts_40 : decode cX1_readDrafts 40 = .ok (.if_icmp .lt 5, 3) := by decide +kernel
theorem dX1_readDrafts_43 : decode cX1_readDrafts 43 = .ok (.iconst (-1), 1) := by decide +kernel
theorem dX1_readDrafts_44 : decode cX1_readDrafts 44 = .ok (.ireturn, 1) := by decide +kernel
theorem dX1_readDrafts_45 : decode cX1_readDrafts 45 = .ok (.aload_n 0, 1) := by decide +kernel
theorem dX1_readDrafts_46 : decode cX1_readDrafts 46 = .ok (.bipush 59, 2) := by decide +kernel
theorem dX1_readDrafts_48 : decode cX1_readDrafts 48 = .ok (.invokevirtual 38, 3) := by decide +kernel
theorem dX1_readDrafts_51 : decode cX1_readDrafts 51 = .ok (.ifCond .ne 8, 3) := by decide +kernel
theorem dX1_readDrafts_54 : decode cX1_readDrafts 54 = .ok (.aload_n 0, 1) := by decide +kernel
theorem dX1_readDrafts_55 : decode cX1_readDrafts 55 = .ok (.getfield 31, 3) := by decide +kernel
theorem dX1_readDrafts_58 : decode cX1_readDrafts 58 = .ok (.ireturn, 1) := by decide +kernel
theorem dX1_readDrafts_59 : decode cX1_readDrafts 59 = .ok (.iinc 1 1, 3) := by decide +kernel
theorem dX1_readDrafts_62 : decode cX1_readDrafts 62 = .ok (.goto (-48), 3) := by decide +kernel
theorem dX1_readDrafts_65 : decode cX1_readDrafts 65 = .ok (.aload_n 0, 1) := by decide +kernel
theorem dX1_readDrafts_66 : decode cX1_readDrafts 66 = .ok (.getfield 31, 3) := by decide +kernel
theorem dX1_readDrafts_69 : decode cX1_readDrafts 69 = .ok (.ireturn, 1) := by decide +kernel
def f_X1_readDrafts_b14    : Nat → Sg → Int32 → Option (Int32 × Sg)
  | 0, _, _ => none
  | n + 1, σ, v1 => if (11 : Int32) ≤ v1 then (some ((σ.1 23), σ)) else ((f_X1_readDraft σ).bind fun q13 => lts q13.2 fun σ5 => lt q13.1 fun r4 => if r4 = 0 then (some ((σ5.1 23), σ5)) else (if (σ5.1 23) < (σ5.1 22) then ((f_X1_readSign σ5 (59 : Int32)).bind fun q12 => lts q12.2 fun σ9 => lt q12.1 fun r8 => if r8 = 0 then (some ((σ9.1 23), σ9)) else (lt (v1 + (1 : Int32)) fun x11 => (f_X1_readDrafts_b14   n) σ9 x11)) else (some ((-1 : Int32), σ5))))
def f_X1_readDrafts (σ : Sg)   : Option (Int32 × Sg) := (f_X3_clear σ 18).bind fun σ1 => lts (s1 σ1 23 (0 : Int32)) fun σ2 => f_X1_readDrafts_b14 fuel σ2 (0 : Int32)
set_option maxHeartbeats 4000000 in
set_option maxRecDepth 100000 in
theorem L_X1_readDrafts_b14 {Γ : Cx} (G : va_G) (cls : Cls) (ad : Nat → Nat) (hi : inj 49 ad) (hC : CX Γ (YX G cls ad) cX1_readDrafts RX1 2 (some .int) 4 91) (hz0 : Γ.2.2.2.2.2.1 = 0) (hz1 : Γ.2.2.2.2.2.2 = 0)     : ∀ (n : Nat) (σ : Sg) (v1 : Int32), WX Γ (YX G cls ad) (qf Γ (YX G cls ad) fiS) 2 14 [(0, .ref (ad 27)), (1, .int v1)] [] σ (f_X1_readDrafts_b14   n σ v1) := by
  intro n
  induction n with
  | zero => intro σ v1; exact X_none
  | succ n ih =>
    intro σ v1
    rw [f_X1_readDrafts_b14.eq_2]
    refine X_iload_n hC 1 rfl dX1_readDrafts_14 ?_
    refine X_bipush (v := 11) hC (by decide) dX1_readDrafts_15 ?_
    refine X_icmp_ge hC 65 dX1_readDrafts_17 (by decide) (fun h3 => ?_) (fun h3 => ?_)
    · refine X_aload_n hC 0 rfl dX1_readDrafts_65 ?_
      refine X_getf (C := RX1) (T := TX1) (N := 4) (ci := 1) hC 3 (wX (k := 27) (by omega) cX_pt) rfl hinX1 (by decide) tw_89 rfl rfl dX1_readDrafts_66 ?_
      exact X_iret hC hz0 hz1 dX1_readDrafts_69 rfl
    · refine X_aload_n hC 0 rfl dX1_readDrafts_20 ?_
      refine X_callS (C := RX1) (T := TX1) (N := 4) (ci := 1) (rest := []) hC (c_X1_readDraft _ G cls ad hi σ) (gV tw_202 tw_204 ts_1 tw_6 tw_205) rfl (wX (k := 27) (by omega) cX_pt) rfl rfl okm_X1_readDraft (by decide) dX1_readDrafts_21 rfl (Nat.le_of_ble_eq_true rfl) (fun q13 => X_lts fun σ5 => X_lt fun r4 => ?_)
      refine X_if_ne hC 32 dX1_readDrafts_24 (by decide) (fun h6 => ?_) (fun h6 => ?_)
      · refine X_aload_n hC 0 rfl dX1_readDrafts_32 ?_
        refine X_getf (C := RX1) (T := TX1) (N := 4) (ci := 1) hC 3 (wX (k := 27) (by omega) cX_pt) rfl hinX1 (by decide) tw_89 rfl rfl dX1_readDrafts_33 ?_
        refine X_aload_n hC 0 rfl dX1_readDrafts_36 ?_
        refine X_getf (C := RX1) (T := TX1) (N := 4) (ci := 1) hC 2 (wX (k := 27) (by omega) cX_pt) rfl hinX1 (by decide) tw_88 rfl rfl dX1_readDrafts_37 ?_
        refine X_icmp_lt hC 45 dX1_readDrafts_40 (by decide) (fun h7 => ?_) (fun h7 => ?_)
        · refine X_aload_n hC 0 rfl dX1_readDrafts_45 ?_
          refine X_bipush (v := 59) hC (by decide) dX1_readDrafts_46 ?_
          refine X_callS (C := RX1) (T := TX1) (N := 4) (ci := 1) (rest := []) hC (c_X1_readSign _ G cls ad hi σ5 (59 : Int32)) (gV tw_227 tw_229 ts_5 tw_6 tw_230) rfl (wX (k := 27) (by omega) cX_pt) rfl rfl okm_X1_readSign (by decide) dX1_readDrafts_48 rfl (Nat.le_of_ble_eq_true rfl) (fun q12 => X_lts fun σ9 => X_lt fun r8 => ?_)
          refine X_if_ne hC 59 dX1_readDrafts_51 (by decide) (fun h10 => ?_) (fun h10 => ?_)
          · refine X_iinc (ls' := fun x11 => [(1, .int x11), (0, .ref (ad 27))]) hC 1 dX1_readDrafts_59 rfl (by decide) (by decide) (fun _ => rfl) (fun x11 => ?_)
            refine X_goto hC 14 dX1_readDrafts_62 (by decide) ?_
            exact X_sub [1, 0] rfl (ih σ9 x11)
          · refine X_aload_n hC 0 rfl dX1_readDrafts_54 ?_
            refine X_getf (C := RX1) (T := TX1) (N := 4) (ci := 1) hC 3 (wX (k := 27) (by omega) cX_pt) rfl hinX1 (by decide) tw_89 rfl rfl dX1_readDrafts_55 ?_
            exact X_iret hC hz0 hz1 dX1_readDrafts_58 rfl
        · refine X_iconst (v := -1) hC (by decide) dX1_readDrafts_43 ?_
          exact X_iret hC hz0 hz1 dX1_readDrafts_44 rfl
      · refine X_aload_n hC 0 rfl dX1_readDrafts_27 ?_
        refine X_getf (C := RX1) (T := TX1) (N := 4) (ci := 1) hC 3 (wX (k := 27) (by omega) cX_pt) rfl hinX1 (by decide) tw_89 rfl rfl dX1_readDrafts_28 ?_
        exact X_iret hC hz0 hz1 dX1_readDrafts_31 rfl
theorem okm_X1_readDrafts : okm yX1_readDrafts 0 = true := by decide +kernel
set_option maxHeartbeats 4000000 in
set_option maxRecDepth 100000 in
theorem c_X1_readDrafts (l : Launch) (G : va_G) (cls : Cls) (ad : Nat → Nat) (hi : inj 49 ad) (σ : Sg)    : MT l (YX G cls ad) yX1_readDrafts (.code yX1_readDrafts cX1_readDrafts 2 (some .int) :: gw) 4 91 [.ref (ad 27)] fiS σ (f_X1_readDrafts σ  ) := by
  refine MT.of (own := RX1) (by decide) (YX_D hi) rfl (Nat.le_of_ble_eq_true rfl) fun Γ _ hz0 hz1 hC => ?_
  show WX Γ (YX G cls ad) (qf Γ (YX G cls ad) fiS) 2 0 [(0, .ref (ad 27))] [] σ (f_X1_readDrafts σ  )
  unfold f_X1_readDrafts
  refine X_aload_n hC 0 rfl dX1_readDrafts_0 ?_
  refine X_getf (C := RX1) (T := TX1) (N := 4) (ci := 1) hC 1 (wX (k := 27) (by omega) cX_pt) rfl hinX1 (by decide) tw_87 rfl rfl dX1_readDrafts_1 ?_
  refine X_callV (C := RX3) (T := TX3) (N := 4) (ci := 3) (rest := []) hC (c_X3_clear _ G cls ad hi σ 18 (by omega)) (gV tw_198 tw_199 tw_200 tw_3 tw_201) rfl (wX (k := 18) (by omega) (cX_tab (by omega))) rfl rfl okm_X3_clear (by decide) dX1_readDrafts_4 rfl (Nat.le_of_ble_eq_true rfl) (fun σ1 => ?_)
  refine X_aload_n hC 0 rfl dX1_readDrafts_7 ?_
  refine X_iconst (v := 0) hC (by decide) dX1_readDrafts_8 ?_
  refine X_putf (C := RX1) (T := TX1) (N := 4) (ci := 1) (ty := .int) hC 3 (wX (k := 27) (by omega) cX_pt) rfl hinX1 tyX1_ok nmX1 (by decide) tw_89 rfl rfl (by decide +kernel) rfl rfl (Nat.le_of_ble_eq_true rfl) (sX_at _) dX1_readDrafts_9 (X_lts fun σ2 => ?_)
  refine X_iconst (v := 0) hC (by decide) dX1_readDrafts_12 ?_
  refine X_istore_n (ls' := [(1, .int (0 : Int32)), (0, .ref (ad 27))]) hC dX1_readDrafts_13 (by decide) rfl ?_
  exact X_sub [1, 0] rfl (L_X1_readDrafts_b14 G cls ad hi hC hz0 hz1 fuel σ2 (0 : Int32))
