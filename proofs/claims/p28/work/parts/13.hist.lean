theorem dX0_size_0 : decode cX0_size 0 = .ok (.aload_n 0, 1) := by decide +kernel
theorem dX0_size_1 : decode cX0_size 1 = .ok (.getfield 22, 3) := by decide +kernel
theorem dX0_size_4 : decode cX0_size 4 = .ok (.ireturn, 1) := by decide +kernel
def f_X0_size (σ : Sg)   : Option (Int32) := some (σ.1 20)
theorem okm_X0_size : okm yX0_size 0 = true := by decide +kernel
set_option maxHeartbeats 4000000 in
set_option maxRecDepth 100000 in
theorem c_X0_size (l : Launch) (G : va_G) (cls : Cls) (ad : Nat → Nat) (hi : inj 49 ad) (σ : Sg)    : MT l (YX G cls ad) yX0_size (.code yX0_size cX0_size 1 (some .int) :: gw) 0 0 [.ref (ad 26)] (fiP σ) σ (f_X0_size σ  ) := by
  refine MT.of (own := RX0) (by decide) (YX_D hi) rfl (Nat.le_of_ble_eq_true rfl) fun Γ _ hz0 hz1 hC => ?_
  show WX Γ (YX G cls ad) (qf Γ (YX G cls ad) (fiP σ)) 1 0 [(0, .ref (ad 26))] [] σ (f_X0_size σ  )
  unfold f_X0_size
  refine X_aload_n hC 0 rfl dX0_size_0 ?_
  refine X_getf (C := RX0) (T := TX0) (N := 3) (ci := 0) hC 2 (wX (k := 26) (by omega) cX_hi) rfl hinX0 (by decide) tw_70 rfl rfl dX0_size_1 ?_
  exact X_iret hC hz0 hz1 dX0_size_4 rfl
theorem dX0_stateAt_0 : decode cX0_stateAt 0 = .ok (.aload_n 0, 1) := by decide +kernel
theorem dX0_stateAt_1 : decode cX0_stateAt 1 = .ok (.getfield 18, 3) := by decide +kernel
theorem dX0_stateAt_4 : decode cX0_stateAt 4 = .ok (.iload_n 1, 1) := by decide +kernel
theorem dX0_stateAt_5 : decode cX0_stateAt 5 = .ok (.iadd, 1) := by decide +kernel
theorem dX0_stateAt_6 : decode cX0_stateAt 6 = .ok (.iconst 4, 1) := by decide +kernel
theorem dX0_stateAt_7 : decode cX0_stateAt 7 = .ok (.irem, 1) := by decide +kernel
theorem dX0_stateAt_8 : decode cX0_stateAt 8 = .ok (.istore_n 2, 1) := by decide +kernel
theorem dX0_stateAt_9 : decode cX0_stateAt 9 = .ok (.iload_n 2, 1) := by decide +kernel
theorem dX0_stateAt_10 : decode cX0_stateAt 10 = .ok (.ifCond .lt 21, 3) := by decide +kernel
theorem dX0_stateAt_13 : decode cX0_stateAt 13 = .ok (.iload_n 2, 1) := by decide +kernel
theorem dX0_stateAt_14 : decode cX0_stateAt 14 = .ok (.aload_n 0, 1) := by decide +kernel
theorem dX0_stateAt_15 : decode cX0_stateAt 15 = .ok (.getfield 11, 3) := by decide +kernel
theorem dX0_stateAt_18 : decode cX0_stateAt 18 = .ok (.arraylength, 1) := by decide +kernel
theorem dX0_stateAt_19 : decode cX0_stateAt 19 = .ok (.if_icmp .ge 12, 3) := by decide +kernel
theorem dX0_stateAt_22 : decode cX0_stateAt 22 = .ok (.aload_n 0, 1) := by decide +kernel
theorem dX0_stateAt_23 : decode cX0_stateAt 23 = .ok (.getfield 11, 3) := by decide +kernel
theorem dX0_stateAt_26 : decode cX0_stateAt 26 = .ok (.iload_n 2, 1) := by decide +kernel
theorem dX0_stateAt_27 : decode cX0_stateAt 27 = .ok (.aaload, 1) := by decide +kernel
theorem dX0_stateAt_28 : decode cX0_stateAt 28 = .ok (.goto 4, 3) := by decide +kernel
theorem dX0_stateAt_31 : decode cX0_stateAt 31 = .ok (.aconst_null, 1) := by decide +kernel
theorem dX0_stateAt_32 : decode cX0_stateAt 32 = .ok (.areturn, 1) := by decide +kernel
def f_X0_stateAt (σ : Sg)  (p1 : Int32) : Option (Nat) := gd ((4 : Int32) != 0) (lt (((σ.1 19) + p1) - ((σ.1 19) + p1) / (4 : Int32) * (4 : Int32)) fun x1 => if x1 < 0 then none else (if (4 : Int32) ≤ x1 then none else (gd (inb x1 4) (some (21 + ix x1)))))
theorem okm_X0_stateAt : okm yX0_stateAt 1 = true := by decide +kernel
set_option maxHeartbeats 4000000 in
set_option maxRecDepth 100000 in
theorem c_X0_stateAt (l : Launch) (G : va_G) (cls : Cls) (ad : Nat → Nat) (hi : inj 49 ad) (σ : Sg)   (p1 : Int32) : MT l (YX G cls ad) yX0_stateAt (.code yX0_stateAt cX0_stateAt 3 (some (.object "VernierSchool$State")) :: gw) 0 0 [.ref (ad 26), .int p1] (fiR ad σ) σ (f_X0_stateAt σ  p1) := by
  refine MT.of (own := RX0) (by decide) (YX_D hi) rfl (Nat.le_of_ble_eq_true rfl) fun Γ _ hz0 hz1 hC => ?_
  show WX Γ (YX G cls ad) (qf Γ (YX G cls ad) (fiR ad σ)) 3 0 [(0, .ref (ad 26)), (1, .int p1)] [] σ (f_X0_stateAt σ  p1)
  unfold f_X0_stateAt
  refine X_aload_n hC 0 rfl dX0_stateAt_0 ?_
  refine X_getf (C := RX0) (T := TX0) (N := 3) (ci := 0) hC 1 (wX (k := 26) (by omega) cX_hi) rfl hinX0 (by decide) tw_69 rfl rfl dX0_stateAt_1 ?_
  refine X_iload_n hC 1 rfl dX0_stateAt_4 ?_
  refine X_iadd hC dX0_stateAt_5 ?_
  refine X_iconst (v := 4) hC (by decide) dX0_stateAt_6 ?_
  refine X_irem hC dX0_stateAt_7 ?_
  refine X_lt (fun x1 => ?_)
  refine X_istore_n (ls' := [(2, .int x1), (0, .ref (ad 26)), (1, .int p1)]) hC dX0_stateAt_8 (by decide) rfl ?_
  refine X_iload_n hC 0 rfl dX0_stateAt_9 ?_
  refine X_if_lt hC 31 dX0_stateAt_10 (by decide) (fun h2 => ?_) (fun h2 => ?_)
  · exact X_none
  · refine X_iload_n hC 0 rfl dX0_stateAt_13 ?_
    refine X_aload_n hC 1 rfl dX0_stateAt_14 ?_
    refine X_getf (C := RX0) (T := TX0) (N := 3) (ci := 0) hC 0 (wX (k := 26) (by omega) cX_hi) rfl hinX0 (by decide) tw_68 rfl rfl dX0_stateAt_15 ?_
    refine X_alen hC (wX (k := 28) (by omega) cX_ar) (t0 := 2) (v := (4 : Int32)) rfl rfl dX0_stateAt_18 ?_
    refine X_icmp_ge hC 31 dX0_stateAt_19 (by decide) (fun h3 => ?_) (fun h3 => ?_)
    · exact X_none
    · refine X_aload_n hC 1 rfl dX0_stateAt_22 ?_
      refine X_getf (C := RX0) (T := TX0) (N := 3) (ci := 0) hC 0 (wX (k := 26) (by omega) cX_hi) rfl hinX0 (by decide) tw_68 rfl rfl dX0_stateAt_23 ?_
      refine X_iload_n hC 0 rfl dX0_stateAt_26 ?_
      refine X_aald hC (wX (k := 28) (by omega) cX_ar) (t0 := 2) rfl rfl dX0_stateAt_27 ?_
      refine X_goto hC 32 dX0_stateAt_28 (by decide) ?_
      exact X_aret hC hz0 hz1 dX0_stateAt_32 rfl
theorem dX0_push_0 : decode cX0_push 0 = .ok (.aload_n 0, 1) := by decide +kernel
theorem dX0_push_1 : decode cX0_push 1 = .ok (.aload_n 0, 1) := by decide +kernel
theorem dX0_push_2 : decode cX0_push 2 = .ok (.getfield 22, 3) := by decide +kernel
theorem dX0_push_5 : decode cX0_push 5 = .ok (.invokevirtual 25, 3) := by decide +kernel
theorem dX0_push_8 : decode cX0_push 8 = .ok (.astore_n 2, 1) := by decide +kernel
theorem dX0_push_9 : decode cX0_push 9 = .ok (.aload_n 2, 1) := by decide +kernel
theorem dX0_push_10 : decode cX0_push 10 = .ok (.ifnonnull 4, 3) := by decide +kernel
theorem dX0_push_13 : decode cX0_push 13 = .ok (.return_, 1) := by decide +kernel
theorem dX0_push_14 : decode cX0_push 14 = .ok (.aload_n 2, 1) := by decide +kernel
theorem dX0_push_15 : decode cX0_push 15 = .ok (.aload_n 1, 1) := by decide +kernel
theorem dX0_push_16 : decode cX0_push 16 = .ok (.invokevirtual 29, 3) := by decide +kernel
theorem dX0_push_19 : decode cX0_push 19 = .ok (.aload_n 0, 1) := by decide +kernel
theorem dX0_push_20 : decode cX0_push 20 = .ok (.getfield 22, 3) := by decide +kernel
theorem dX0_push_23 : decode cX0_push 23 = .ok (.iconst 4, 1) := by decide +kernel
theorem dX0_push_24 : decode cX0_push 24 = .ok (.if_icmp .ge 16, 3) := by decide +kernel
theorem dX0_push_27 : decode cX0_push 27 = .ok (.aload_n 0, 1) := by decide +kernel
theorem dX0_push_28 : decode cX0_push 28 = .ok (.dup, 1) := by decide +kernel
theorem dX0_push_29 : decode cX0_push 29 = .ok (.getfield 22, 3) := by decide +kernel
theorem dX0_push_32 : decode cX0_push 32 = .ok (.iconst 1, 1) := by decide +kernel
theorem dX0_push_33 : decode cX0_push 33 = .ok (.iadd, 1) := by decide +kernel
theorem dX0_push_34 : decode cX0_push 34 = .ok (.putfield 22, 3) := by decide +kernel
theorem dX0_push_37 : decode cX0_push 37 = .ok (.goto 15, 3) := by decide +kernel
theorem dX0_push_40 : decode cX0_push 40 = .ok (.aload_n 0, 1) := by decide +kernel
theorem dX0_push_41 : decode cX0_push 41 = .ok (.aload_n 0, 1) := by decide +kernel
theorem dX0_push_42 : decode cX0_push 42 = .ok (.getfield 18, 3) := by decide +kernel
theorem dX0_push_45 : decode cX0_push 45 = .ok (.iconst 1, 1) := by decide +kernel
theorem dX0_push_46 : decode cX0_push 46 = .ok (.iadd, 1) := by decide +kernel
theorem dX0_push_47 : decode cX0_push 47 = .ok (.iconst 4, 1) := by decide +kernel
theorem dX0_push_48 : decode cX0_push 48 = .ok (.irem, 1) := by decide +kernel
theorem dX0_push_49 : decode cX0_push 49 = .ok (.putfield 18, 3) := by decide +kernel
theorem dX0_push_52 : decode cX0_push 52 = .ok (.return_, 1) := by decide +kernel
def f_X0_push (σ : Sg)   : Option (Sg) := (f_X0_stateAt σ (σ.1 20)).bind fun c1 => gd (decide (19 ≤ c1 ∧ c1 < 25)) ((f_X2_copyFrom σ c1 19).bind fun σ3 => if (4 : Int32) ≤ (σ3.1 20) then (gd ((4 : Int32) != 0) (lts (s1 σ3 19 (((σ3.1 19) + (1 : Int32)) - ((σ3.1 19) + (1 : Int32)) / (4 : Int32) * (4 : Int32))) fun σ5 => some σ5)) else (lts (s1 σ3 20 ((σ3.1 20) + (1 : Int32))) fun σ6 => some σ6))
theorem okm_X0_push : okm yX0_push 1 = true := by decide +kernel
set_option maxHeartbeats 4000000 in
set_option maxRecDepth 100000 in
theorem c_X0_push (l : Launch) (G : va_G) (cls : Cls) (ad : Nat → Nat) (hi : inj 49 ad) (σ : Sg)    : MT l (YX G cls ad) yX0_push (.code yX0_push cX0_push 3 none :: gw) 3 68 [.ref (ad 26), .ref (ad 19)] fvS σ (f_X0_push σ  ) := by
  refine MT.of (own := RX0) (by decide) (YX_D hi) rfl (Nat.le_of_ble_eq_true rfl) fun Γ _ hz0 hz1 hC => ?_
  show WX Γ (YX G cls ad) (qf Γ (YX G cls ad) fvS) 3 0 [(0, .ref (ad 26)), (1, .ref (ad 19))] [] σ (f_X0_push σ  )
  unfold f_X0_push
  refine X_aload_n hC 0 rfl dX0_push_0 ?_
  refine X_aload_n hC 0 rfl dX0_push_1 ?_
  refine X_getf (C := RX0) (T := TX0) (N := 3) (ci := 0) hC 2 (wX (k := 26) (by omega) cX_hi) rfl hinX0 (by decide) tw_70 rfl rfl dX0_push_2 ?_
  refine X_callR (C := RX0) (T := TX0) (N := 3) (ci := 0) (rest := []) hC (c_X0_stateAt _ G cls ad hi σ (σ.1 20)) (gV tw_154 tw_156 ts_0 tw_5 tw_157) rfl (wX (k := 26) (by omega) cX_hi) rfl rfl okm_X0_stateAt (by decide) dX0_push_5 rfl (Nat.le_of_ble_eq_true rfl) (fun c1 => X_gd fun h2 => ?_)
  have h2 := of_decide_eq_true h2
  refine X_astore_n (ls' := [(2, .ref (ad c1)), (0, .ref (ad 26)), (1, .ref (ad 19))]) hC dX0_push_8 (by decide) rfl ?_
  refine X_aload_n hC 0 rfl dX0_push_9 ?_
  refine X_ifnonnull hC 14 dX0_push_10 (by decide) ?_
  refine X_aload_n hC 0 rfl dX0_push_14 ?_
  refine X_aload_n hC 2 rfl dX0_push_15 ?_
  refine X_callV (C := RX2) (T := TX2) (N := 3) (ci := 2) (rest := []) hC (c_X2_copyFrom _ G cls ad hi σ c1 19 (by omega) (by omega)) (gV tw_158 tw_159 tw_160 tw_2 tw_161) rfl (wX (k := c1) (by omega) (cX_stc (by omega) (by omega))) rfl rfl okm_X2_copyFrom (by decide) dX0_push_16 rfl (Nat.le_of_ble_eq_true rfl) (fun σ3 => ?_)
  refine X_aload_n hC 1 rfl dX0_push_19 ?_
  refine X_getf (C := RX0) (T := TX0) (N := 3) (ci := 0) hC 2 (wX (k := 26) (by omega) cX_hi) rfl hinX0 (by decide) tw_70 rfl rfl dX0_push_20 ?_
  refine X_iconst (v := 4) hC (by decide) dX0_push_23 ?_
  refine X_icmp_ge hC 40 dX0_push_24 (by decide) (fun h4 => ?_) (fun h4 => ?_)
  · refine X_aload_n hC 1 rfl dX0_push_40 ?_
    refine X_aload_n hC 1 rfl dX0_push_41 ?_
    refine X_getf (C := RX0) (T := TX0) (N := 3) (ci := 0) hC 1 (wX (k := 26) (by omega) cX_hi) rfl hinX0 (by decide) tw_69 rfl rfl dX0_push_42 ?_
    refine X_iconst (v := 1) hC (by decide) dX0_push_45 ?_
    refine X_iadd hC dX0_push_46 ?_
    refine X_iconst (v := 4) hC (by decide) dX0_push_47 ?_
    refine X_irem hC dX0_push_48 ?_
    refine X_putf (C := RX0) (T := TX0) (N := 3) (ci := 0) (ty := .int) hC 1 (wX (k := 26) (by omega) cX_hi) rfl hinX0 tyX0_ok nmX0 (by decide) tw_69 rfl rfl (by decide +kernel) rfl rfl (Nat.le_of_ble_eq_true rfl) (sX_oldest _) dX0_push_49 (X_lts fun σ5 => ?_)
    exact X_vret hC hz0 hz1 dX0_push_52 rfl
  · refine X_aload_n hC 1 rfl dX0_push_27 ?_
    refine X_dup hC rfl dX0_push_28 ?_
    refine X_getf (C := RX0) (T := TX0) (N := 3) (ci := 0) hC 2 (wX (k := 26) (by omega) cX_hi) rfl hinX0 (by decide) tw_70 rfl rfl dX0_push_29 ?_
    refine X_iconst (v := 1) hC (by decide) dX0_push_32 ?_
    refine X_iadd hC dX0_push_33 ?_
    refine X_putf (C := RX0) (T := TX0) (N := 3) (ci := 0) (ty := .int) hC 2 (wX (k := 26) (by omega) cX_hi) rfl hinX0 tyX0_ok nmX0 (by decide) tw_70 rfl rfl (by decide +kernel) rfl rfl (Nat.le_of_ble_eq_true rfl) (sX_size _) dX0_push_34 (X_lts fun σ6 => ?_)
    refine X_goto hC 52 dX0_push_37 (by decide) ?_
    exact X_vret hC hz0 hz1 dX0_push_52 rfl
theorem dX0_pop_0 : decode cX0_pop 0 = .ok (.aload_n 0, 1) := by decide +kernel
theorem dX0_pop_1 : decode cX0_pop 1 = .ok (.getfield 22, 3) := by decide +kernel
theorem dX0_pop_4 : decode cX0_pop 4 = .ok (.ifCond .eq 7, 3) := by decide +kernel
theorem dX0_pop_7 : decode cX0_pop 7 = .ok (.aload_n 1, 1) := by decide +kernel
theorem dX0_pop_8 : decode cX0_pop 8 = .ok (.ifnonnull 4, 3) := by decide +kernel
theorem dX0_pop_11 : decode cX0_pop 11 = .ok (.return_, 1) := by decide +kernel
theorem dX0_pop_12 : decode cX0_pop 12 = .ok (.aload_n 0, 1) := by decide +kernel
theorem dX0_pop_13 : decode cX0_pop 13 = .ok (.dup, 1) := by decide +kernel
theorem dX0_pop_14 : decode cX0_pop 14 = .ok (.getfield 22, 3) := by decide +kernel
theorem dX0_pop_17 : decode cX0_pop 17 = .ok (.iconst 1, 1) := by decide +kernel
theorem dX0_pop_18 : decode cX0_pop 18 = .ok (.isub, 1) := by decide +kernel
theorem dX0_pop_19 : decode cX0_pop 19 = .ok (.putfield 22, 3) := by decide +kernel
theorem dX0_pop_22 : decode cX0_pop 22 = .ok (.aload_n 1, 1) := by decide +kernel
theorem dX0_pop_23 : decode cX0_pop 23 = .ok (.aload_n 0, 1) := by decide +kernel
theorem dX0_pop_24 : decode cX0_pop 24 = .ok (.aload_n 0, 1) := by decide +kernel
theorem dX0_pop_25 : decode cX0_pop 25 = .ok (.getfield 22, 3) := by decide +kernel
theorem dX0_pop_28 : decode cX0_pop 28 = .ok (.invokevirtual 25, 3) := by decide +kernel
theorem dX0_pop_31 : decode cX0_pop 31 = .ok (.invokevirtual 29, 3) := by decide +kernel
theorem dX0_pop_34 : decode cX0_pop 34 = .ok (.return_, 1) := by decide +kernel
def f_X0_pop (σ : Sg)   : Option (Sg) := if (σ.1 20) = 0 then (some σ) else (lts (s1 σ 20 ((σ.1 20) - (1 : Int32))) fun σ2 => (f_X0_stateAt σ2 (σ2.1 20)).bind fun c3 => gd (decide (19 ≤ c3 ∧ c3 < 25)) ((f_X2_copyFrom σ2 19 c3).bind fun σ5 => some σ5))
theorem okm_X0_pop : okm yX0_pop 1 = true := by decide +kernel
set_option maxHeartbeats 4000000 in
set_option maxRecDepth 100000 in
theorem c_X0_pop (l : Launch) (G : va_G) (cls : Cls) (ad : Nat → Nat) (hi : inj 49 ad) (σ : Sg)    : MT l (YX G cls ad) yX0_pop (.code yX0_pop cX0_pop 2 none :: gw) 3 68 [.ref (ad 26), .ref (ad 19)] fvS σ (f_X0_pop σ  ) := by
  refine MT.of (own := RX0) (by decide) (YX_D hi) rfl (Nat.le_of_ble_eq_true rfl) fun Γ _ hz0 hz1 hC => ?_
  show WX Γ (YX G cls ad) (qf Γ (YX G cls ad) fvS) 2 0 [(0, .ref (ad 26)), (1, .ref (ad 19))] [] σ (f_X0_pop σ  )
  unfold f_X0_pop
  refine X_aload_n hC 0 rfl dX0_pop_0 ?_
  refine X_getf (C := RX0) (T := TX0) (N := 3) (ci := 0) hC 2 (wX (k := 26) (by omega) cX_hi) rfl hinX0 (by decide) tw_70 rfl rfl dX0_pop_1 ?_
  refine X_if_eq hC 11 dX0_pop_4 (by decide) (fun h1 => ?_) (fun h1 => ?_)
  · exact X_vret hC hz0 hz1 dX0_pop_11 rfl
  · refine X_aload_n hC 1 rfl dX0_pop_7 ?_
    refine X_ifnonnull hC 12 dX0_pop_8 (by decide) ?_
    refine X_aload_n hC 0 rfl dX0_pop_12 ?_
    refine X_dup hC rfl dX0_pop_13 ?_
    refine X_getf (C := RX0) (T := TX0) (N := 3) (ci := 0) hC 2 (wX (k := 26) (by omega) cX_hi) rfl hinX0 (by decide) tw_70 rfl rfl dX0_pop_14 ?_
    refine X_iconst (v := 1) hC (by decide) dX0_pop_17 ?_
    refine X_isub hC dX0_pop_18 ?_
    refine X_putf (C := RX0) (T := TX0) (N := 3) (ci := 0) (ty := .int) hC 2 (wX (k := 26) (by omega) cX_hi) rfl hinX0 tyX0_ok nmX0 (by decide) tw_70 rfl rfl (by decide +kernel) rfl rfl (Nat.le_of_ble_eq_true rfl) (sX_size _) dX0_pop_19 (X_lts fun σ2 => ?_)
    refine X_aload_n hC 1 rfl dX0_pop_22 ?_
    refine X_aload_n hC 0 rfl dX0_pop_23 ?_
    refine X_aload_n hC 0 rfl dX0_pop_24 ?_
    refine X_getf (C := RX0) (T := TX0) (N := 3) (ci := 0) hC 2 (wX (k := 26) (by omega) cX_hi) rfl hinX0 (by decide) tw_70 rfl rfl dX0_pop_25 ?_
    refine X_callR (C := RX0) (T := TX0) (N := 3) (ci := 0) (rest := [.ref (ad 19)]) hC (c_X0_stateAt _ G cls ad hi σ2 (σ2.1 20)) (gV tw_154 tw_156 ts_0 tw_5 tw_157) rfl (wX (k := 26) (by omega) cX_hi) rfl rfl okm_X0_stateAt (by decide) dX0_pop_28 rfl (Nat.le_of_ble_eq_true rfl) (fun c3 => X_gd fun h4 => ?_)
    have h4 := of_decide_eq_true h4
    refine X_callV (C := RX2) (T := TX2) (N := 3) (ci := 2) (rest := []) hC (c_X2_copyFrom _ G cls ad hi σ2 19 c3 (by omega) (by omega)) (gV tw_158 tw_159 tw_160 tw_2 tw_161) rfl (wX (k := 19) (by omega) cX_now) rfl rfl okm_X2_copyFrom (by decide) dX0_pop_31 rfl (Nat.le_of_ble_eq_true rfl) (fun σ5 => ?_)
    exact X_vret hC hz0 hz1 dX0_pop_34 rfl
