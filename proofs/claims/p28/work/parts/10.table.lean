theorem dX3_copyFrom_0 : decode cX3_copyFrom 0 = .ok (.aload_n 1, 1) := by decide +kernel
theorem dX3_copyFrom_1 : decode cX3_copyFrom 1 = .ok (.ifnonnull 4, 3) := by decide +kernel
theorem dX3_copyFrom_4 : decode cX3_copyFrom 4 = .ok (.return_, 1) := by decide +kernel
theorem dX3_copyFrom_5 : decode cX3_copyFrom 5 = .ok (.aload_n 1, 1) := by decide +kernel
theorem dX3_copyFrom_6 : decode cX3_copyFrom 6 = .ok (.getfield 22, 3) := by decide +kernel
theorem dX3_copyFrom_9 : decode cX3_copyFrom 9 = .ok (.iconst 0, 1) := by decide +kernel
theorem dX3_copyFrom_10 : decode cX3_copyFrom 10 = .ok (.aload_n 0, 1) := by decide +kernel
theorem dX3_copyFrom_11 : decode cX3_copyFrom 11 = .ok (.getfield 22, 3) := by decide +kernel
theorem dX3_copyFrom_14 : decode cX3_copyFrom 14 = .ok (.iconst 0, 1) := by decide +kernel
theorem dX3_copyFrom_15 : decode cX3_copyFrom 15 = .ok (.aload_n 0, 1) := by decide +kernel
theorem dX3_copyFrom_16 : decode cX3_copyFrom 16 = .ok (.getfield 22, 3) := by decide +kernel
theorem dX3_copyFrom_19 : decode cX3_copyFrom 19 = .ok (.arraylength, 1) := by decide +kernel
theorem dX3_copyFrom_20 : decode cX3_copyFrom 20 = .ok (.aload_n 1, 1) := by decide +kernel
theorem dX3_copyFrom_21 : decode cX3_copyFrom 21 = .ok (.getfield 22, 3) := by decide +kernel
theorem dX3_copyFrom_24 : decode cX3_copyFrom 24 = .ok (.arraylength, 1) := by decide +kernel
theorem dX3_copyFrom_25 : decode cX3_copyFrom 25 = .ok (.invokestatic 44, 3) := by decide +kernel
theorem dX3_copyFrom_28 : decode cX3_copyFrom 28 = .ok (.invokestatic 47, 3) := by decide +kernel
theorem dX3_copyFrom_31 : decode cX3_copyFrom 31 = .ok (.aload_n 0, 1) := by decide +kernel
theorem dX3_copyFrom_32 : decode cX3_copyFrom 32 = .ok (.aload_n 0, 1) := by decide +kernel
theorem dX3_copyFrom_33 : decode cX3_copyFrom 33 = .ok (.getfield 7, 3) := by decide +kernel
theorem dX3_copyFrom_36 : decode cX3_copyFrom 36 = .ok (.aload_n 1, 1) := by decide +kernel
theorem dX3_copyFrom_37 : decode cX3_copyFrom 37 = .ok (.getfield 26, 3) := by decide +kernel
theorem dX3_copyFrom_40 : decode cX3_copyFrom 40 = .ok (.invokestatic 44, 3) := by decide +kernel
theorem dX3_copyFrom_43 : decode cX3_copyFrom 43 = .ok (.putfield 26, 3) := by decide +kernel
theorem dX3_copyFrom_46 : decode cX3_copyFrom 46 = .ok (.return_, 1) := by decide +kernel
def f_X3_copyFrom (σ : Sg) (t u : Nat)  : Option (Sg) := lt (if (Int32.ofNat (tsz u)) < (Int32.ofNat (tsz t)) then (Int32.ofNat (tsz u)) else (Int32.ofNat (tsz t))) fun x1 => gd (cpy_ok (0 : Int32) (0 : Int32) x1 (tsz u) (tsz t)) (lts (s2 σ t (va_cpy (σ.2 u) (σ.2 t) (ix (0 : Int32)) (ix (0 : Int32)) (ix x1))) fun σ2 => lt (if (σ2.1 u) < (tlim t) then (σ2.1 u) else (tlim t)) fun x3 => lts (s1 σ2 t x3) fun σ4 => some σ4)
theorem okm_X3_copyFrom : okm yX3_copyFrom 1 = true := by decide +kernel
set_option maxHeartbeats 4000000 in
set_option maxRecDepth 100000 in
theorem c_X3_copyFrom (l : Launch) (G : va_G) (cls : Cls) (ad : Nat → Nat) (hi : inj 49 ad) (σ : Sg) (t u : Nat) (ht : t < 19) (hu : u < 19)  : MT l (YX G cls ad) yX3_copyFrom (.code yX3_copyFrom cX3_copyFrom 2 none :: gw) 1 26 [.ref (ad t), .ref (ad u)] fvS σ (f_X3_copyFrom σ t u ) := by
  refine MT.of (own := RX3) (by decide) (YX_D hi) rfl (Nat.le_of_ble_eq_true rfl) fun Γ _ hz0 hz1 hC => ?_
  show WX Γ (YX G cls ad) (qf Γ (YX G cls ad) fvS) 2 0 [(0, .ref (ad t)), (1, .ref (ad u))] [] σ (f_X3_copyFrom σ t u )
  unfold f_X3_copyFrom
  refine X_aload_n hC 1 rfl dX3_copyFrom_0 ?_
  refine X_ifnonnull hC 5 dX3_copyFrom_1 (by decide) ?_
  refine X_aload_n hC 1 rfl dX3_copyFrom_5 ?_
  refine X_getf (C := RX3) (T := TX3) (N := 4) (ci := 3) hC 2 (wX (k := u) (by omega) (cX_tab (by omega))) rfl hinX3 (by decide) tw_34 rfl rfl dX3_copyFrom_6 ?_
  refine X_iconst (v := 0) hC (by decide) dX3_copyFrom_9 ?_
  refine X_aload_n hC 0 rfl dX3_copyFrom_10 ?_
  refine X_getf (C := RX3) (T := TX3) (N := 4) (ci := 3) hC 2 (wX (k := t) (by omega) (cX_tab (by omega))) rfl hinX3 (by decide) tw_34 rfl rfl dX3_copyFrom_11 ?_
  refine X_iconst (v := 0) hC (by decide) dX3_copyFrom_14 ?_
  refine X_aload_n hC 0 rfl dX3_copyFrom_15 ?_
  refine X_getf (C := RX3) (T := TX3) (N := 4) (ci := 3) hC 2 (wX (k := t) (by omega) (cX_tab (by omega))) rfl hinX3 (by decide) tw_34 rfl rfl dX3_copyFrom_16 ?_
  refine X_alen hC (wX (k := 29 + t) (by omega) (cX_row (t := t) (by omega))) (t0 := 0) (v := (Int32.ofNat (tsz t))) rfl rfl dX3_copyFrom_19 ?_
  refine X_aload_n hC 1 rfl dX3_copyFrom_20 ?_
  refine X_getf (C := RX3) (T := TX3) (N := 4) (ci := 3) hC 2 (wX (k := u) (by omega) (cX_tab (by omega))) rfl hinX3 (by decide) tw_34 rfl rfl dX3_copyFrom_21 ?_
  refine X_alen hC (wX (k := 29 + u) (by omega) (cX_row (t := u) (by omega))) (t0 := 0) (v := (Int32.ofNat (tsz u))) rfl rfl dX3_copyFrom_24 ?_
  refine X_mmin hC tw_166 tw_167 tw_4 tw_168 (by decide) (Nat.le_of_ble_eq_true rfl) dX3_copyFrom_25 (X_lt fun x1 => ?_)
  refine X_copyi hC tw_169 tw_171 tw_170 tw_7 (wX (k := 29 + u) (by omega) (cX_row (t := u) (by omega))) (wX (k := 29 + t) (by omega) (cX_row (t := t) (by omega))) (t0 := 0) rfl (by decide) (Nat.le_of_ble_eq_true rfl) (sX_row (by omega) _) dX3_copyFrom_28 (X_lts fun σ2 => ?_)
  refine X_aload_n hC 0 rfl dX3_copyFrom_31 ?_
  refine X_aload_n hC 0 rfl dX3_copyFrom_32 ?_
  refine X_getf (C := RX3) (T := TX3) (N := 4) (ci := 3) hC 0 (wX (k := t) (by omega) (cX_tab (by omega))) rfl hinX3 (by decide) tw_32 rfl rfl dX3_copyFrom_33 ?_
  refine X_aload_n hC 1 rfl dX3_copyFrom_36 ?_
  refine X_getf (C := RX3) (T := TX3) (N := 4) (ci := 3) hC 3 (wX (k := u) (by omega) (cX_tab (by omega))) rfl hinX3 (by decide) tw_35 rfl rfl dX3_copyFrom_37 ?_
  refine X_mmin hC tw_166 tw_167 tw_4 tw_168 (by decide) (Nat.le_of_ble_eq_true rfl) dX3_copyFrom_40 (X_lt fun x3 => ?_)
  refine X_putf (C := RX3) (T := TX3) (N := 4) (ci := 3) (ty := .int) hC 3 (wX (k := t) (by omega) (cX_tab (by omega))) rfl hinX3 tyX3_ok nmX3 (by decide) tw_35 rfl rfl (by decide +kernel) rfl rfl (Nat.le_of_ble_eq_true rfl) (sX_rows (by omega) _) dX3_copyFrom_43 (X_lts fun σ4 => ?_)
  exact X_vret hC hz0 hz1 dX3_copyFrom_46 rfl
theorem dX3_clear_0 : decode cX3_clear 0 = .ok (.aload_n 0, 1) := by decide +kernel
theorem dX3_clear_1 : decode cX3_clear 1 = .ok (.iconst 0, 1) := by decide +kernel
theorem dX3_clear_2 : decode cX3_clear 2 = .ok (.putfield 26, 3) := by decide +kernel
theorem dX3_clear_5 : decode cX3_clear 5 = .ok (.return_, 1) := by decide +kernel
def f_X3_clear (σ : Sg) (t : Nat)  : Option (Sg) := lts (s1 σ t (0 : Int32)) fun σ1 => some σ1
theorem okm_X3_clear : okm yX3_clear 0 = true := by decide +kernel
set_option maxHeartbeats 4000000 in
set_option maxRecDepth 100000 in
theorem c_X3_clear (l : Launch) (G : va_G) (cls : Cls) (ad : Nat → Nat) (hi : inj 49 ad) (σ : Sg) (t : Nat) (ht : t < 19)  : MT l (YX G cls ad) yX3_clear (.code yX3_clear cX3_clear 1 none :: gw) 0 0 [.ref (ad t)] fvS σ (f_X3_clear σ t ) := by
  refine MT.of (own := RX3) (by decide) (YX_D hi) rfl (Nat.le_of_ble_eq_true rfl) fun Γ _ hz0 hz1 hC => ?_
  show WX Γ (YX G cls ad) (qf Γ (YX G cls ad) fvS) 1 0 [(0, .ref (ad t))] [] σ (f_X3_clear σ t )
  unfold f_X3_clear
  refine X_aload_n hC 0 rfl dX3_clear_0 ?_
  refine X_iconst (v := 0) hC (by decide) dX3_clear_1 ?_
  refine X_putf (C := RX3) (T := TX3) (N := 4) (ci := 3) (ty := .int) hC 3 (wX (k := t) (by omega) (cX_tab (by omega))) rfl hinX3 tyX3_ok nmX3 (by decide) tw_35 rfl rfl (by decide +kernel) rfl rfl (Nat.le_of_ble_eq_true rfl) (sX_rows (by omega) _) dX3_clear_2 (X_lts fun σ1 => ?_)
  exact X_vret hC hz0 hz1 dX3_clear_5 rfl
theorem dX3_isFull_0 : decode cX3_isFull 0 = .ok (.aload_n 0, 1) := by decide +kernel
theorem dX3_isFull_1 : decode cX3_isFull 1 = .ok (.getfield 26, 3) := by decide +kernel
theorem dX3_isFull_4 : decode cX3_isFull 4 = .ok (.aload_n 0, 1) := by decide +kernel
theorem dX3_isFull_5 : decode cX3_isFull 5 = .ok (.getfield 7, 3) := by decide +kernel
theorem dX3_isFull_8 : decode cX3_isFull 8 = .ok (.if_icmp .lt 7, 3) := by decide +kernel
theorem dX3_isFull_11 : decode cX3_isFull 11 = .ok (.iconst 1, 1) := by decide +kernel
theorem dX3_isFull_12 : decode cX3_isFull 12 = .ok (.goto 4, 3) := by decide +kernel
theorem dX3_isFull_15 : decode cX3_isFull 15 = .ok (.iconst 0, 1) := by decide +kernel
theorem dX3_isFull_16 : decode cX3_isFull 16 = .ok (.ireturn, 1) := by decide +kernel
def f_X3_isFull (σ : Sg) (t : Nat)  : Option (Int32) := if (σ.1 t) < (tlim t) then (some (0 : Int32)) else (some (1 : Int32))
theorem okm_X3_isFull : okm yX3_isFull 0 = true := by decide +kernel
set_option maxHeartbeats 4000000 in
set_option maxRecDepth 100000 in
theorem c_X3_isFull (l : Launch) (G : va_G) (cls : Cls) (ad : Nat → Nat) (hi : inj 49 ad) (σ : Sg) (t : Nat) (ht : t < 19)  : MT l (YX G cls ad) yX3_isFull (.code yX3_isFull cX3_isFull 1 (some .boolean) :: gw) 0 0 [.ref (ad t)] (fiP σ) σ (f_X3_isFull σ t ) := by
  refine MT.of (own := RX3) (by decide) (YX_D hi) rfl (Nat.le_of_ble_eq_true rfl) fun Γ _ hz0 hz1 hC => ?_
  show WX Γ (YX G cls ad) (qf Γ (YX G cls ad) (fiP σ)) 1 0 [(0, .ref (ad t))] [] σ (f_X3_isFull σ t )
  unfold f_X3_isFull
  refine X_aload_n hC 0 rfl dX3_isFull_0 ?_
  refine X_getf (C := RX3) (T := TX3) (N := 4) (ci := 3) hC 3 (wX (k := t) (by omega) (cX_tab (by omega))) rfl hinX3 (by decide) tw_35 rfl rfl dX3_isFull_1 ?_
  refine X_aload_n hC 0 rfl dX3_isFull_4 ?_
  refine X_getf (C := RX3) (T := TX3) (N := 4) (ci := 3) hC 0 (wX (k := t) (by omega) (cX_tab (by omega))) rfl hinX3 (by decide) tw_32 rfl rfl dX3_isFull_5 ?_
  refine X_icmp_lt hC 15 dX3_isFull_8 (by decide) (fun h1 => ?_) (fun h1 => ?_)
  · refine X_iconst (v := 0) hC (by decide) dX3_isFull_15 ?_
    exact X_zret hC hz0 hz1 rfl dX3_isFull_16 rfl
  · refine X_iconst (v := 1) hC (by decide) dX3_isFull_11 ?_
    refine X_goto hC 16 dX3_isFull_12 (by decide) ?_
    exact X_zret hC hz0 hz1 rfl dX3_isFull_16 rfl
theorem dX3_lacks_0 : decode cX3_lacks 0 = .ok (.iload_n 1, 1) := by decide +kernel
theorem dX3_lacks_1 : decode cX3_lacks 1 = .ok (.ifCond .lt 11, 3) := by decide +kernel
theorem dX3_lacks_4 : decode cX3_lacks 4 = .ok (.iload_n 1, 1) := by decide +kernel
theorem dX3_lacks_5 : decode cX3_lacks 5 = .ok (.aload_n 0, 1) := by decide +kernel
theorem dX3_lacks_6 : decode cX3_lacks 6 = .ok (.getfield 26, 3) := by decide +kernel
theorem dX3_lacks_9 : decode cX3_lacks 9 = .ok (.if_icmp .lt 7, 3) := by decide +kernel
theorem dX3_lacks_12 : decode cX3_lacks 12 = .ok (.iconst 1, 1) := by decide +kernel
theorem dX3_lacks_13 : decode cX3_lacks 13 = .ok (.goto 4, 3) := by decide +kernel
theorem dX3_lacks_16 : decode cX3_lacks 16 = .ok (.iconst 0, 1) := by decide +kernel
theorem dX3_lacks_17 : decode cX3_lacks 17 = .ok (.ireturn, 1) := by decide +kernel
def f_X3_lacks_b12 (σ : Sg) (t : Nat)    : Option (Int32) := some (1 : Int32)
def f_X3_lacks (σ : Sg) (t : Nat) (p1 : Int32) : Option (Int32) := if p1 < 0 then (f_X3_lacks_b12 σ t) else (if p1 < (σ.1 t) then (some (0 : Int32)) else (f_X3_lacks_b12 σ t))
set_option maxHeartbeats 4000000 in
set_option maxRecDepth 100000 in
theorem L_X3_lacks_b12 {Γ : Cx} (G : va_G) (cls : Cls) (ad : Nat → Nat) (hi : inj 49 ad) (hC : CX Γ (YX G cls ad) cX3_lacks RX3 2 (some .boolean) 0 0) (hz0 : Γ.2.2.2.2.2.1 = 0) (hz1 : Γ.2.2.2.2.2.2 = 0) (σ : Sg) (t : Nat) (ht : t < 19)    : WX Γ (YX G cls ad) (qf Γ (YX G cls ad) (fiP σ)) 2 12 [] [] σ (f_X3_lacks_b12 σ t  ) := by
  unfold f_X3_lacks_b12
  refine X_iconst (v := 1) hC (by decide) dX3_lacks_12 ?_
  refine X_goto hC 17 dX3_lacks_13 (by decide) ?_
  exact X_zret hC hz0 hz1 rfl dX3_lacks_17 rfl
theorem okm_X3_lacks : okm yX3_lacks 1 = true := by decide +kernel
set_option maxHeartbeats 4000000 in
set_option maxRecDepth 100000 in
theorem c_X3_lacks (l : Launch) (G : va_G) (cls : Cls) (ad : Nat → Nat) (hi : inj 49 ad) (σ : Sg) (t : Nat) (ht : t < 19) (p1 : Int32) : MT l (YX G cls ad) yX3_lacks (.code yX3_lacks cX3_lacks 2 (some .boolean) :: gw) 0 0 [.ref (ad t), .int p1] (fiP σ) σ (f_X3_lacks σ t p1) := by
  refine MT.of (own := RX3) (by decide) (YX_D hi) rfl (Nat.le_of_ble_eq_true rfl) fun Γ _ hz0 hz1 hC => ?_
  show WX Γ (YX G cls ad) (qf Γ (YX G cls ad) (fiP σ)) 2 0 [(0, .ref (ad t)), (1, .int p1)] [] σ (f_X3_lacks σ t p1)
  unfold f_X3_lacks
  refine X_iload_n hC 1 rfl dX3_lacks_0 ?_
  refine X_if_lt hC 12 dX3_lacks_1 (by decide) (fun h1 => ?_) (fun h1 => ?_)
  · exact X_sub [] rfl (L_X3_lacks_b12 G cls ad hi hC hz0 hz1 σ t ht)
  · refine X_iload_n hC 1 rfl dX3_lacks_4 ?_
    refine X_aload_n hC 0 rfl dX3_lacks_5 ?_
    refine X_getf (C := RX3) (T := TX3) (N := 4) (ci := 3) hC 3 (wX (k := t) (by omega) (cX_tab (by omega))) rfl hinX3 (by decide) tw_35 rfl rfl dX3_lacks_6 ?_
    refine X_icmp_lt hC 16 dX3_lacks_9 (by decide) (fun h2 => ?_) (fun h2 => ?_)
    · refine X_iconst (v := 0) hC (by decide) dX3_lacks_16 ?_
      exact X_zret hC hz0 hz1 rfl dX3_lacks_17 rfl
    · exact X_sub [] rfl (L_X3_lacks_b12 G cls ad hi hC hz0 hz1 σ t ht)
theorem dX3_put_0 : decode cX3_put 0 = .ok (.aload_n 0, 1) := by decide +kernel
theorem dX3_put_1 : decode cX3_put 1 = .ok (.iload_n 1, 1) := by decide +kernel
theorem dX3_put_2 : decode cX3_put 2 = .ok (.invokevirtual 29, 3) := by decide +kernel
theorem dX3_put_5 : decode cX3_put 5 = .ok (.ifCond .ne 15, 3) := by decide +kernel
theorem dX3_put_8 : decode cX3_put 8 = .ok (.iload_n 2, 1) := by decide +kernel
theorem dX3_put_9 : decode cX3_put 9 = .ok (.ifCond .lt 11, 3) := by decide +kernel
theorem dX3_put_12 : decode cX3_put 12 = .ok (.iload_n 2, 1) := by decide +kernel
theorem dX3_put_13 : decode cX3_put 13 = .ok (.aload_n 0, 1) := by decide +kernel
theorem dX3_put_14 : decode cX3_put 14 = .ok (.getfield 13, 3) := by decide +kernel
theorem dX3_put_17 : decode cX3_put 17 = .ok (.if_icmp .lt 4, 3) := by decide +kernel
theorem dX3_put_20 : decode cX3_put 20 = .ok (.return_, 1) := by decide +kernel
theorem dX3_put_21 : decode cX3_put 21 = .ok (.iload_n 1, 1) := by decide +kernel
theorem dX3_put_22 : decode cX3_put 22 = .ok (.aload_n 0, 1) := by decide +kernel
theorem dX3_put_23 : decode cX3_put 23 = .ok (.getfield 13, 3) := by decide +kernel
theorem dX3_put_26 : decode cX3_put 26 = .ok (.imul, 1) := by decide +kernel
theorem dX3_put_27 : decode cX3_put 27 = .ok (.iload_n 2, 1) := by decide +kernel
theorem dX3_put_28 : decode cX3_put 28 = .ok (.iadd, 1) := by decide +kernel
theorem dX3_put_29 : decode cX3_put 29 = .ok (.istore 4, 2) := by decide +kernel
theorem dX3_put_31 : decode cX3_put 31 = .ok (.iload 4, 2) := by decide +kernel
theorem dX3_put_33 : decode cX3_put 33 = .ok (.ifCond .lt 21, 3) := by decide +kernel
theorem dX3_put_36 : decode cX3_put 36 = .ok (.iload 4, 2) := by decide +kernel
theorem dX3_put_38 : decode cX3_put 38 = .ok (.aload_n 0, 1) := by decide +kernel
theorem dX3_put_39 : decode cX3_put 39 = .ok (.getfield 22, 3) := by decide +kernel
theorem dX3_put_42 : decode cX3_put 42 = .ok (.arraylength, 1) := by decide +kernel
theorem dX3_put_43 : decode cX3_put 43 = .ok (.if_icmp .ge 11, 3) := by decide +kernel
theorem dX3_put_46 : decode cX3_put 46 = .ok (.aload_n 0, 1) := by decide +kernel
theorem dX3_put_47 : decode cX3_put 47 = .ok (.getfield 22, 3) := by decide +kernel
theorem dX3_put_50 : decode cX3_put 50 = .ok (.iload 4, 2) := by decide +kernel
theorem dX3_put_52 : decode cX3_put 52 = .ok (.iload_n 3, 1) := by decide +kernel
theorem dX3_put_53 : decode cX3_put 53 = .ok (.iastore, 1) := by decide +kernel
theorem dX3_put_54 : decode cX3_put 54 = .ok (.return_, 1) := by decide +kernel
def f_X3_put (σ : Sg) (t : Nat) (p1 p2 p3 : Int32) : Option (Sg) := (f_X3_lacks σ t p1).bind fun r1 => if r1 = 0 then (if p2 < 0 then (some σ) else (if p2 < (tcol t) then (lt ((p1 * (tcol t)) + p2) fun x5 => if x5 < 0 then (some σ) else (if (Int32.ofNat (tsz t)) ≤ x5 then (some σ) else (gd (inb x5 (tsz t)) (lts (s2 σ t (upd (σ.2 t) (ix x5) p3)) fun σ8 => some σ8)))) else (some σ))) else (some σ)
theorem okm_X3_put : okm yX3_put 3 = true := by decide +kernel
set_option maxHeartbeats 4000000 in
set_option maxRecDepth 100000 in
theorem c_X3_put (l : Launch) (G : va_G) (cls : Cls) (ad : Nat → Nat) (hi : inj 49 ad) (σ : Sg) (t : Nat) (ht : t < 19) (p1 p2 p3 : Int32) : MT l (YX G cls ad) yX3_put (.code yX3_put cX3_put 5 none :: gw) 1 21 [.ref (ad t), .int p1, .int p2, .int p3] fvS σ (f_X3_put σ t p1 p2 p3) := by
  refine MT.of (own := RX3) (by decide) (YX_D hi) rfl (Nat.le_of_ble_eq_true rfl) fun Γ _ hz0 hz1 hC => ?_
  show WX Γ (YX G cls ad) (qf Γ (YX G cls ad) fvS) 5 0 [(0, .ref (ad t)), (1, .int p1), (2, .int p2), (3, .int p3)] [] σ (f_X3_put σ t p1 p2 p3)
  unfold f_X3_put
  refine X_aload_n hC 0 rfl dX3_put_0 ?_
  refine X_iload_n hC 1 rfl dX3_put_1 ?_
  refine X_callP (C := RX3) (T := TX3) (N := 4) (ci := 3) (rest := []) hC (c_X3_lacks _ G cls ad hi σ t (by omega) p1) (gV tw_136 tw_137 tw_138 tw_3 tw_139) rfl (wX (k := t) (by omega) (cX_tab (by omega))) rfl rfl okm_X3_lacks (by decide) dX3_put_2 rfl (Nat.le_of_ble_eq_true rfl) (fun r1 => ?_)
  refine X_if_ne hC 20 dX3_put_5 (by decide) (fun h2 => ?_) (fun h2 => ?_)
  · exact X_vret hC hz0 hz1 dX3_put_20 rfl
  · refine X_iload_n hC 2 rfl dX3_put_8 ?_
    refine X_if_lt hC 20 dX3_put_9 (by decide) (fun h3 => ?_) (fun h3 => ?_)
    · exact X_vret hC hz0 hz1 dX3_put_20 rfl
    · refine X_iload_n hC 2 rfl dX3_put_12 ?_
      refine X_aload_n hC 0 rfl dX3_put_13 ?_
      refine X_getf (C := RX3) (T := TX3) (N := 4) (ci := 3) hC 1 (wX (k := t) (by omega) (cX_tab (by omega))) rfl hinX3 (by decide) tw_33 rfl rfl dX3_put_14 ?_
      refine X_icmp_lt hC 21 dX3_put_17 (by decide) (fun h4 => ?_) (fun h4 => ?_)
      · refine X_iload_n hC 1 rfl dX3_put_21 ?_
        refine X_aload_n hC 0 rfl dX3_put_22 ?_
        refine X_getf (C := RX3) (T := TX3) (N := 4) (ci := 3) hC 1 (wX (k := t) (by omega) (cX_tab (by omega))) rfl hinX3 (by decide) tw_33 rfl rfl dX3_put_23 ?_
        refine X_imul hC dX3_put_26 ?_
        refine X_iload_n hC 2 rfl dX3_put_27 ?_
        refine X_iadd hC dX3_put_28 ?_
        refine X_lt (fun x5 => ?_)
        refine X_istore (ls' := [(4, .int x5), (0, .ref (ad t)), (1, .int p1), (2, .int p2), (3, .int p3)]) hC dX3_put_29 (by decide) rfl ?_
        refine X_iload hC 0 rfl dX3_put_31 ?_
        refine X_if_lt hC 54 dX3_put_33 (by decide) (fun h6 => ?_) (fun h6 => ?_)
        · exact X_vret hC hz0 hz1 dX3_put_54 rfl
        · refine X_iload hC 0 rfl dX3_put_36 ?_
          refine X_aload_n hC 1 rfl dX3_put_38 ?_
          refine X_getf (C := RX3) (T := TX3) (N := 4) (ci := 3) hC 2 (wX (k := t) (by omega) (cX_tab (by omega))) rfl hinX3 (by decide) tw_34 rfl rfl dX3_put_39 ?_
          refine X_alen hC (wX (k := 29 + t) (by omega) (cX_row (t := t) (by omega))) (t0 := 0) (v := (Int32.ofNat (tsz t))) rfl rfl dX3_put_42 ?_
          refine X_icmp_ge hC 54 dX3_put_43 (by decide) (fun h7 => ?_) (fun h7 => ?_)
          · exact X_vret hC hz0 hz1 dX3_put_54 rfl
          · refine X_aload_n hC 1 rfl dX3_put_46 ?_
            refine X_getf (C := RX3) (T := TX3) (N := 4) (ci := 3) hC 2 (wX (k := t) (by omega) (cX_tab (by omega))) rfl hinX3 (by decide) tw_34 rfl rfl dX3_put_47 ?_
            refine X_iload hC 0 rfl dX3_put_50 ?_
            refine X_iload_n hC 4 rfl dX3_put_52 ?_
            refine X_iast hC (wX (k := 29 + t) (by omega) (cX_row (t := t) (by omega))) (t0 := 0) rfl (sX_row (by omega) _) dX3_put_53 (X_lts fun σ8 => ?_)
            exact X_vret hC hz0 hz1 dX3_put_54 rfl
      · exact X_vret hC hz0 hz1 dX3_put_20 rfl
theorem dX3_newRow_0 : decode cX3_newRow 0 = .ok (.aload_n 0, 1) := by decide +kernel
theorem dX3_newRow_1 : decode cX3_newRow 1 = .ok (.invokevirtual 40, 3) := by decide +kernel
theorem dX3_newRow_4 : decode cX3_newRow 4 = .ok (.ifCond .eq 8, 3) := by decide +kernel
theorem dX3_newRow_7 : decode cX3_newRow 7 = .ok (.aload_n 0, 1) := by decide +kernel
theorem dX3_newRow_8 : decode cX3_newRow 8 = .ok (.getfield 7, 3) := by decide +kernel
theorem dX3_newRow_11 : decode cX3_newRow 11 = .ok (.ireturn, 1) := by decide +kernel
theorem dX3_newRow_12 : decode cX3_newRow 12 = .ok (.aload_n 0, 1) := by decide +kernel
theorem dX3_newRow_13 : decode cX3_newRow 13 = .ok (.getfield 26, 3) := by decide +kernel
theorem dX3_newRow_16 : decode cX3_newRow 16 = .ok (.istore_n 1, 1) := by decide +kernel
theorem dX3_newRow_17 : decode cX3_newRow 17 = .ok (.aload_n 0, 1) := by decide +kernel
theorem dX3_newRow_18 : decode cX3_newRow 18 = .ok (.dup, 1) := by decide +kernel
theorem dX3_newRow_19 : decode cX3_newRow 19 = .ok (.getfield 26, 3) := by decide +kernel
theorem dX3_newRow_22 : decode cX3_newRow 22 = .ok (.iconst 1, 1) := by decide +kernel
theorem dX3_newRow_23 : decode cX3_newRow 23 = .ok (.iadd, 1) := by decide +kernel
theorem dX3_newRow_24 : decode cX3_newRow 24 = .ok (.putfield 26, 3) := by decide +kernel
theorem dX3_newRow_27 : decode cX3_newRow 27 = .ok (.iconst 0, 1) := by decide +kernel
theorem dX3_newRow_28 : decode cX3_newRow 28 = .ok (.istore_n 2, 1) := by decide +kernel
theorem dX3_newRow_29 : decode cX3_newRow 29 = .ok (.iload_n 2, 1) := by decide +kernel
theorem dX3_newRow_30 : decode cX3_newRow 30 = .ok (.aload_n 0, 1) := by decide +kernel
theorem dX3_newRow_31 : decode cX3_newRow 31 = .ok (.getfield 13, 3) := by decide +kernel
theorem dX3_newRow_34 : decode cX3_newRow 34 = .ok (.if_icmp .ge 16, 3) := by decide +kernel
theorem dX3_newRow_37 : decode cX3_newRow 37 = .ok (.aload_n 0, 1) := by decide +kernel
theorem dX3_newRow_38 : decode cX3_newRow 38 = .ok (.iload_n 1, 1) := by decide +kernel
theorem dX3_newRow_39 : decode cX3_newRow 39 = .ok (.iload_n 2, 1) := by decide +kernel
theorem dX3_newRow_40 : decode cX3_newRow 40 = .ok (.iconst 0, 1) := by decide +kernel
theorem dX3_newRow_41 : decode cX3_newRow 41 = .ok (.invokevirtual 36, 3) := by decide +kernel
theorem dX3_newRow_44 : decode cX3_newRow 44 = .ok (.iinc 2 1, 3) := by decide +kernel
theorem dX3_newRow_47 : decode cX3_newRow 47 = .ok (.goto (-18), 3) := by decide +kernel
theorem dX3_newRow_50 : decode cX3_newRow 50 = .ok (.iload_n 1, 1) := by decide +kernel
theorem dX3_newRow_51 : decode cX3_newRow 51 = .ok (.ireturn, 1) := by decide +kernel
def f_X3_newRow_b29  (t : Nat)  : Nat → Sg → Int32 → Int32 → Option (Int32 × Sg)
  | 0, _, _, _ => none
  | n + 1, σ, v1, v2 => if (tcol t) ≤ v2 then (some (v1, σ)) else ((f_X3_put σ t v1 v2 (0 : Int32)).bind fun σ6 => lt (v2 + (1 : Int32)) fun x7 => (f_X3_newRow_b29 t  n) σ6 v1 x7)
def f_X3_newRow (σ : Sg) (t : Nat)  : Option (Int32 × Sg) := (f_X3_isFull σ t).bind fun r1 => if r1 = 0 then (lt (σ.1 t) fun x3 => lts (s1 σ t ((σ.1 t) + (1 : Int32))) fun σ4 => f_X3_newRow_b29 t fuel σ4 x3 (0 : Int32)) else (some ((tlim t), σ))
set_option maxHeartbeats 4000000 in
set_option maxRecDepth 100000 in
theorem L_X3_newRow_b29 {Γ : Cx} (G : va_G) (cls : Cls) (ad : Nat → Nat) (hi : inj 49 ad) (hC : CX Γ (YX G cls ad) cX3_newRow RX3 3 (some .int) 2 45) (hz0 : Γ.2.2.2.2.2.1 = 0) (hz1 : Γ.2.2.2.2.2.2 = 0)  (t : Nat) (ht : t < 19)  : ∀ (n : Nat) (σ : Sg) (v1 v2 : Int32), WX Γ (YX G cls ad) (qf Γ (YX G cls ad) fiS) 3 29 [(0, .ref (ad t)), (1, .int v1), (2, .int v2)] [] σ (f_X3_newRow_b29 t  n σ v1 v2) := by
  intro n
  induction n with
  | zero => intro σ v1 v2; exact X_none
  | succ n ih =>
    intro σ v1 v2
    rw [f_X3_newRow_b29.eq_2]
    refine X_iload_n hC 2 rfl dX3_newRow_29 ?_
    refine X_aload_n hC 0 rfl dX3_newRow_30 ?_
    refine X_getf (C := RX3) (T := TX3) (N := 4) (ci := 3) hC 1 (wX (k := t) (by omega) (cX_tab (by omega))) rfl hinX3 (by decide) tw_33 rfl rfl dX3_newRow_31 ?_
    refine X_icmp_ge hC 50 dX3_newRow_34 (by decide) (fun h5 => ?_) (fun h5 => ?_)
    · refine X_iload_n hC 1 rfl dX3_newRow_50 ?_
      exact X_iret hC hz0 hz1 dX3_newRow_51 rfl
    · refine X_aload_n hC 0 rfl dX3_newRow_37 ?_
      refine X_iload_n hC 1 rfl dX3_newRow_38 ?_
      refine X_iload_n hC 2 rfl dX3_newRow_39 ?_
      refine X_iconst (v := 0) hC (by decide) dX3_newRow_40 ?_
      refine X_callV (C := RX3) (T := TX3) (N := 4) (ci := 3) (rest := []) hC (c_X3_put _ G cls ad hi σ t (by omega) v1 v2 (0 : Int32)) (gV tw_189 tw_181 tw_182 tw_3 tw_183) rfl (wX (k := t) (by omega) (cX_tab (by omega))) rfl rfl okm_X3_put (by decide) dX3_newRow_41 rfl (Nat.le_of_ble_eq_true rfl) (fun σ6 => ?_)
      refine X_iinc (ls' := fun x7 => [(2, .int x7), (0, .ref (ad t)), (1, .int v1)]) hC 2 dX3_newRow_44 rfl (by decide) (by decide) (fun _ => rfl) (fun x7 => ?_)
      refine X_goto hC 29 dX3_newRow_47 (by decide) ?_
      exact X_sub [1, 2, 0] rfl (ih σ6 v1 x7)
theorem okm_X3_newRow : okm yX3_newRow 0 = true := by decide +kernel
set_option maxHeartbeats 4000000 in
set_option maxRecDepth 100000 in
theorem c_X3_newRow (l : Launch) (G : va_G) (cls : Cls) (ad : Nat → Nat) (hi : inj 49 ad) (σ : Sg) (t : Nat) (ht : t < 19)  : MT l (YX G cls ad) yX3_newRow (.code yX3_newRow cX3_newRow 3 (some .int) :: gw) 2 45 [.ref (ad t)] fiS σ (f_X3_newRow σ t ) := by
  refine MT.of (own := RX3) (by decide) (YX_D hi) rfl (Nat.le_of_ble_eq_true rfl) fun Γ _ hz0 hz1 hC => ?_
  show WX Γ (YX G cls ad) (qf Γ (YX G cls ad) fiS) 3 0 [(0, .ref (ad t))] [] σ (f_X3_newRow σ t )
  unfold f_X3_newRow
  refine X_aload_n hC 0 rfl dX3_newRow_0 ?_
  refine X_callP (C := RX3) (T := TX3) (N := 4) (ci := 3) (rest := []) hC (c_X3_isFull _ G cls ad hi σ t (by omega)) (gV tw_210 tw_211 tw_212 tw_3 tw_213) rfl (wX (k := t) (by omega) (cX_tab (by omega))) rfl rfl okm_X3_isFull (by decide) dX3_newRow_1 rfl (Nat.le_of_ble_eq_true rfl) (fun r1 => ?_)
  refine X_if_eq hC 12 dX3_newRow_4 (by decide) (fun h2 => ?_) (fun h2 => ?_)
  · refine X_aload_n hC 0 rfl dX3_newRow_12 ?_
    refine X_getf (C := RX3) (T := TX3) (N := 4) (ci := 3) hC 3 (wX (k := t) (by omega) (cX_tab (by omega))) rfl hinX3 (by decide) tw_35 rfl rfl dX3_newRow_13 ?_
    refine X_lt (fun x3 => ?_)
    refine X_istore_n (ls' := [(1, .int x3), (0, .ref (ad t))]) hC dX3_newRow_16 (by decide) rfl ?_
    refine X_aload_n hC 1 rfl dX3_newRow_17 ?_
    refine X_dup hC rfl dX3_newRow_18 ?_
    refine X_getf (C := RX3) (T := TX3) (N := 4) (ci := 3) hC 3 (wX (k := t) (by omega) (cX_tab (by omega))) rfl hinX3 (by decide) tw_35 rfl rfl dX3_newRow_19 ?_
    refine X_iconst (v := 1) hC (by decide) dX3_newRow_22 ?_
    refine X_iadd hC dX3_newRow_23 ?_
    refine X_putf (C := RX3) (T := TX3) (N := 4) (ci := 3) (ty := .int) hC 3 (wX (k := t) (by omega) (cX_tab (by omega))) rfl hinX3 tyX3_ok nmX3 (by decide) tw_35 rfl rfl (by decide +kernel) rfl rfl (Nat.le_of_ble_eq_true rfl) (sX_rows (by omega) _) dX3_newRow_24 (X_lts fun σ4 => ?_)
    refine X_iconst (v := 0) hC (by decide) dX3_newRow_27 ?_
    refine X_istore_n (ls' := [(2, .int (0 : Int32)), (1, .int x3), (0, .ref (ad t))]) hC dX3_newRow_28 (by decide) rfl ?_
    exact X_sub [2, 1, 0] rfl (L_X3_newRow_b29 G cls ad hi hC hz0 hz1 t ht fuel σ4 x3 (0 : Int32))
  · refine X_aload_n hC 0 rfl dX3_newRow_7 ?_
    refine X_getf (C := RX3) (T := TX3) (N := 4) (ci := 3) hC 0 (wX (k := t) (by omega) (cX_tab (by omega))) rfl hinX3 (by decide) tw_32 rfl rfl dX3_newRow_8 ?_
    exact X_iret hC hz0 hz1 dX3_newRow_11 rfl
theorem dX3_cell_0 : decode cX3_cell 0 = .ok (.aload_n 0, 1) := by decide +kernel
theorem dX3_cell_1 : decode cX3_cell 1 = .ok (.iload_n 1, 1) := by decide +kernel
theorem dX3_cell_2 : decode cX3_cell 2 = .ok (.invokevirtual 29, 3) := by decide +kernel
theorem dX3_cell_5 : decode cX3_cell 5 = .ok (.ifCond .ne 15, 3) := by decide +kernel
theorem dX3_cell_8 : decode cX3_cell 8 = .ok (.iload_n 2, 1) := by decide +kernel
theorem dX3_cell_9 : decode cX3_cell 9 = .ok (.ifCond .lt 11, 3) := by decide +kernel
theorem dX3_cell_12 : decode cX3_cell 12 = .ok (.iload_n 2, 1) := by decide +kernel
theorem dX3_cell_13 : decode cX3_cell 13 = .ok (.aload_n 0, 1) := by decide +kernel
theorem dX3_cell_14 : decode cX3_cell 14 = .ok (.getfield 13, 3) := by decide +kernel
theorem dX3_cell_17 : decode cX3_cell 17 = .ok (.if_icmp .lt 5, 3) := by decide +kernel
theorem dX3_cell_20 : decode cX3_cell 20 = .ok (.iconst 0, 1) := by decide +kernel
theorem dX3_cell_21 : decode cX3_cell 21 = .ok (.ireturn, 1) := by decide +kernel
theorem dX3_cell_22 : decode cX3_cell 22 = .ok (.iload_n 1, 1) := by decide +kernel
theorem dX3_cell_23 : decode cX3_cell 23 = .ok (.aload_n 0, 1) := by decide +kernel
theorem dX3_cell_24 : decode cX3_cell 24 = .ok (.getfield 13, 3) := by decide +kernel
theorem dX3_cell_27 : decode cX3_cell 27 = .ok (.imul, 1) := by decide +kernel
theorem dX3_cell_28 : decode cX3_cell 28 = .ok (.iload_n 2, 1) := by decide +kernel
theorem dX3_cell_29 : decode cX3_cell 29 = .ok (.iadd, 1) := by decide +kernel
theorem dX3_cell_30 : decode cX3_cell 30 = .ok (.istore_n 3, 1) := by decide +kernel
theorem dX3_cell_31 : decode cX3_cell 31 = .ok (.iload_n 3, 1) := by decide +kernel
theorem dX3_cell_32 : decode cX3_cell 32 = .ok (.ifCond .lt 21, 3) := by decide +kernel
theorem dX3_cell_35 : decode cX3_cell 35 = .ok (.iload_n 3, 1) := by decide +kernel
theorem dX3_cell_36 : decode cX3_cell 36 = .ok (.aload_n 0, 1) := by decide +kernel
theorem dX3_cell_37 : decode cX3_cell 37 = .ok (.getfield 22, 3) := by decide +kernel
theorem dX3_cell_40 : decode cX3_cell 40 = .ok (.arraylength, 1) := by decide +kernel
theorem dX3_cell_41 : decode cX3_cell 41 = .ok (.if_icmp .ge 12, 3) := by decide +kernel
theorem dX3_cell_44 : decode cX3_cell 44 = .ok (.aload_n 0, 1) := by decide +kernel
theorem dX3_cell_45 : decode cX3_cell 45 = .ok (.getfield 22, 3) := by decide +kernel
theorem dX3_cell_48 : decode cX3_cell 48 = .ok (.iload_n 3, 1) := by decide +kernel
theorem dX3_cell_49 : decode cX3_cell 49 = .ok (.iaload, 1) := by decide +kernel
theorem dX3_cell_50 : decode cX3_cell 50 = .ok (.goto 4, 3) := by decide +kernel
theorem dX3_cell_53 : decode cX3_cell 53 = .ok (.iconst 0, 1) := by decide +kernel
theorem dX3_cell_54 : decode cX3_cell 54 = .ok (.ireturn, 1) := by decide +kernel
def f_X3_cell (σ : Sg) (t : Nat) (p1 p2 : Int32) : Option (Int32) := (f_X3_lacks σ t p1).bind fun r1 => if r1 = 0 then (if p2 < 0 then (some (0 : Int32)) else (if p2 < (tcol t) then (lt ((p1 * (tcol t)) + p2) fun x5 => if x5 < 0 then (some (0 : Int32)) else (if (Int32.ofNat (tsz t)) ≤ x5 then (some (0 : Int32)) else (gd (inb x5 (tsz t)) (some (σ.2 t (ix x5)))))) else (some (0 : Int32)))) else (some (0 : Int32))
theorem okm_X3_cell : okm yX3_cell 2 = true := by decide +kernel
set_option maxHeartbeats 4000000 in
set_option maxRecDepth 100000 in
theorem c_X3_cell (l : Launch) (G : va_G) (cls : Cls) (ad : Nat → Nat) (hi : inj 49 ad) (σ : Sg) (t : Nat) (ht : t < 19) (p1 p2 : Int32) : MT l (YX G cls ad) yX3_cell (.code yX3_cell cX3_cell 4 (some .int) :: gw) 1 21 [.ref (ad t), .int p1, .int p2] (fiP σ) σ (f_X3_cell σ t p1 p2) := by
  refine MT.of (own := RX3) (by decide) (YX_D hi) rfl (Nat.le_of_ble_eq_true rfl) fun Γ _ hz0 hz1 hC => ?_
  show WX Γ (YX G cls ad) (qf Γ (YX G cls ad) (fiP σ)) 4 0 [(0, .ref (ad t)), (1, .int p1), (2, .int p2)] [] σ (f_X3_cell σ t p1 p2)
  unfold f_X3_cell
  refine X_aload_n hC 0 rfl dX3_cell_0 ?_
  refine X_iload_n hC 1 rfl dX3_cell_1 ?_
  refine X_callP (C := RX3) (T := TX3) (N := 4) (ci := 3) (rest := []) hC (c_X3_lacks _ G cls ad hi σ t (by omega) p1) (gV tw_136 tw_137 tw_138 tw_3 tw_139) rfl (wX (k := t) (by omega) (cX_tab (by omega))) rfl rfl okm_X3_lacks (by decide) dX3_cell_2 rfl (Nat.le_of_ble_eq_true rfl) (fun r1 => ?_)
  refine X_if_ne hC 20 dX3_cell_5 (by decide) (fun h2 => ?_) (fun h2 => ?_)
  · refine X_iconst (v := 0) hC (by decide) dX3_cell_20 ?_
    exact X_iret hC hz0 hz1 dX3_cell_21 rfl
  · refine X_iload_n hC 2 rfl dX3_cell_8 ?_
    refine X_if_lt hC 20 dX3_cell_9 (by decide) (fun h3 => ?_) (fun h3 => ?_)
    · refine X_iconst (v := 0) hC (by decide) dX3_cell_20 ?_
      exact X_iret hC hz0 hz1 dX3_cell_21 rfl
    · refine X_iload_n hC 2 rfl dX3_cell_12 ?_
      refine X_aload_n hC 0 rfl dX3_cell_13 ?_
      refine X_getf (C := RX3) (T := TX3) (N := 4) (ci := 3) hC 1 (wX (k := t) (by omega) (cX_tab (by omega))) rfl hinX3 (by decide) tw_33 rfl rfl dX3_cell_14 ?_
      refine X_icmp_lt hC 22 dX3_cell_17 (by decide) (fun h4 => ?_) (fun h4 => ?_)
      · refine X_iload_n hC 1 rfl dX3_cell_22 ?_
        refine X_aload_n hC 0 rfl dX3_cell_23 ?_
        refine X_getf (C := RX3) (T := TX3) (N := 4) (ci := 3) hC 1 (wX (k := t) (by omega) (cX_tab (by omega))) rfl hinX3 (by decide) tw_33 rfl rfl dX3_cell_24 ?_
        refine X_imul hC dX3_cell_27 ?_
        refine X_iload_n hC 2 rfl dX3_cell_28 ?_
        refine X_iadd hC dX3_cell_29 ?_
        refine X_lt (fun x5 => ?_)
        refine X_istore_n (ls' := [(3, .int x5), (0, .ref (ad t)), (1, .int p1), (2, .int p2)]) hC dX3_cell_30 (by decide) rfl ?_
        refine X_iload_n hC 0 rfl dX3_cell_31 ?_
        refine X_if_lt hC 53 dX3_cell_32 (by decide) (fun h6 => ?_) (fun h6 => ?_)
        · refine X_iconst (v := 0) hC (by decide) dX3_cell_53 ?_
          exact X_iret hC hz0 hz1 dX3_cell_54 rfl
        · refine X_iload_n hC 0 rfl dX3_cell_35 ?_
          refine X_aload_n hC 1 rfl dX3_cell_36 ?_
          refine X_getf (C := RX3) (T := TX3) (N := 4) (ci := 3) hC 2 (wX (k := t) (by omega) (cX_tab (by omega))) rfl hinX3 (by decide) tw_34 rfl rfl dX3_cell_37 ?_
          refine X_alen hC (wX (k := 29 + t) (by omega) (cX_row (t := t) (by omega))) (t0 := 0) (v := (Int32.ofNat (tsz t))) rfl rfl dX3_cell_40 ?_
          refine X_icmp_ge hC 53 dX3_cell_41 (by decide) (fun h7 => ?_) (fun h7 => ?_)
          · refine X_iconst (v := 0) hC (by decide) dX3_cell_53 ?_
            exact X_iret hC hz0 hz1 dX3_cell_54 rfl
          · refine X_aload_n hC 1 rfl dX3_cell_44 ?_
            refine X_getf (C := RX3) (T := TX3) (N := 4) (ci := 3) hC 2 (wX (k := t) (by omega) (cX_tab (by omega))) rfl hinX3 (by decide) tw_34 rfl rfl dX3_cell_45 ?_
            refine X_iload_n hC 0 rfl dX3_cell_48 ?_
            refine X_iald hC (wX (k := 29 + t) (by omega) (cX_row (t := t) (by omega))) (t0 := 0) rfl dX3_cell_49 ?_
            refine X_goto hC 54 dX3_cell_50 (by decide) ?_
            exact X_iret hC hz0 hz1 dX3_cell_54 rfl
      · refine X_iconst (v := 0) hC (by decide) dX3_cell_20 ?_
        exact X_iret hC hz0 hz1 dX3_cell_21 rfl
theorem dX3_size_0 : decode cX3_size 0 = .ok (.aload_n 0, 1) := by decide +kernel
theorem dX3_size_1 : decode cX3_size 1 = .ok (.getfield 26, 3) := by decide +kernel
theorem dX3_size_4 : decode cX3_size 4 = .ok (.ireturn, 1) := by decide +kernel
def f_X3_size (σ : Sg) (t : Nat)  : Option (Int32) := some (σ.1 t)
theorem okm_X3_size : okm yX3_size 0 = true := by decide +kernel
set_option maxHeartbeats 4000000 in
set_option maxRecDepth 100000 in
theorem c_X3_size (l : Launch) (G : va_G) (cls : Cls) (ad : Nat → Nat) (hi : inj 49 ad) (σ : Sg) (t : Nat) (ht : t < 19)  : MT l (YX G cls ad) yX3_size (.code yX3_size cX3_size 1 (some .int) :: gw) 0 0 [.ref (ad t)] (fiP σ) σ (f_X3_size σ t ) := by
  refine MT.of (own := RX3) (by decide) (YX_D hi) rfl (Nat.le_of_ble_eq_true rfl) fun Γ _ hz0 hz1 hC => ?_
  show WX Γ (YX G cls ad) (qf Γ (YX G cls ad) (fiP σ)) 1 0 [(0, .ref (ad t))] [] σ (f_X3_size σ t )
  unfold f_X3_size
  refine X_aload_n hC 0 rfl dX3_size_0 ?_
  refine X_getf (C := RX3) (T := TX3) (N := 4) (ci := 3) hC 3 (wX (k := t) (by omega) (cX_tab (by omega))) rfl hinX3 (by decide) tw_35 rfl rfl dX3_size_1 ?_
  exact X_iret hC hz0 hz1 dX3_size_4 rfl
theorem dX3_increase_0 : decode cX3_increase 0 = .ok (.aload_n 0, 1) := by decide +kernel
theorem dX3_increase_1 : decode cX3_increase 1 = .ok (.iload_n 1, 1) := by decide +kernel
theorem dX3_increase_2 : decode cX3_increase 2 = .ok (.iload_n 2, 1) := by decide +kernel
theorem dX3_increase_3 : decode cX3_increase 3 = .ok (.aload_n 0, 1) := by decide +kernel
theorem dX3_increase_4 : decode cX3_increase 4 = .ok (.iload_n 1, 1) := by decide +kernel
theorem dX3_increase_5 : decode cX3_increase 5 = .ok (.iload_n 2, 1) := by decide +kernel
theorem dX3_increase_6 : decode cX3_increase 6 = .ok (.invokevirtual 33, 3) := by decide +kernel
theorem dX3_increase_9 : decode cX3_increase 9 = .ok (.iload_n 3, 1) := by decide +kernel
theorem dX3_increase_10 : decode cX3_increase 10 = .ok (.iadd, 1) := by decide +kernel
theorem dX3_increase_11 : decode cX3_increase 11 = .ok (.invokevirtual 36, 3) := by decide +kernel
theorem dX3_increase_14 : decode cX3_increase 14 = .ok (.return_, 1) := by decide +kernel
def f_X3_increase (σ : Sg) (t : Nat) (p1 p2 p3 : Int32) : Option (Sg) := (f_X3_cell σ t p1 p2).bind fun r1 => (f_X3_put σ t p1 p2 (r1 + p3)).bind fun σ2 => some σ2
theorem okm_X3_increase : okm yX3_increase 3 = true := by decide +kernel
set_option maxHeartbeats 4000000 in
set_option maxRecDepth 100000 in
theorem c_X3_increase (l : Launch) (G : va_G) (cls : Cls) (ad : Nat → Nat) (hi : inj 49 ad) (σ : Sg) (t : Nat) (ht : t < 19) (p1 p2 p3 : Int32) : MT l (YX G cls ad) yX3_increase (.code yX3_increase cX3_increase 4 none :: gw) 2 45 [.ref (ad t), .int p1, .int p2, .int p3] fvS σ (f_X3_increase σ t p1 p2 p3) := by
  refine MT.of (own := RX3) (by decide) (YX_D hi) rfl (Nat.le_of_ble_eq_true rfl) fun Γ _ hz0 hz1 hC => ?_
  show WX Γ (YX G cls ad) (qf Γ (YX G cls ad) fvS) 4 0 [(0, .ref (ad t)), (1, .int p1), (2, .int p2), (3, .int p3)] [] σ (f_X3_increase σ t p1 p2 p3)
  unfold f_X3_increase
  refine X_aload_n hC 0 rfl dX3_increase_0 ?_
  refine X_iload_n hC 1 rfl dX3_increase_1 ?_
  refine X_iload_n hC 2 rfl dX3_increase_2 ?_
  refine X_aload_n hC 0 rfl dX3_increase_3 ?_
  refine X_iload_n hC 1 rfl dX3_increase_4 ?_
  refine X_iload_n hC 2 rfl dX3_increase_5 ?_
  refine X_callP (C := RX3) (T := TX3) (N := 4) (ci := 3) (rest := [.int p2, .int p1, .ref (ad t)]) hC (c_X3_cell _ G cls ad hi σ t (by omega) p1 p2) (gV tw_188 tw_133 tw_134 tw_3 tw_135) rfl (wX (k := t) (by omega) (cX_tab (by omega))) rfl rfl okm_X3_cell (by decide) dX3_increase_6 rfl (Nat.le_of_ble_eq_true rfl) (fun r1 => ?_)
  refine X_iload_n hC 3 rfl dX3_increase_9 ?_
  refine X_iadd hC dX3_increase_10 ?_
  refine X_callV (C := RX3) (T := TX3) (N := 4) (ci := 3) (rest := []) hC (c_X3_put _ G cls ad hi σ t (by omega) p1 p2 (r1 + p3)) (gV tw_189 tw_181 tw_182 tw_3 tw_183) rfl (wX (k := t) (by omega) (cX_tab (by omega))) rfl rfl okm_X3_put (by decide) dX3_increase_11 rfl (Nat.le_of_ble_eq_true rfl) (fun σ2 => ?_)
  exact X_vret hC hz0 hz1 dX3_increase_14 rfl
theorem dX3_hasRoomFor_0 : decode cX3_hasRoomFor 0 = .ok (.iload_n 1, 1) := by decide +kernel
theorem dX3_hasRoomFor_1 : decode cX3_hasRoomFor 1 = .ok (.aload_n 0, 1) := by decide +kernel
theorem dX3_hasRoomFor_2 : decode cX3_hasRoomFor 2 = .ok (.getfield 7, 3) := by decide +kernel
theorem dX3_hasRoomFor_5 : decode cX3_hasRoomFor 5 = .ok (.aload_n 0, 1) := by decide +kernel
theorem dX3_hasRoomFor_6 : decode cX3_hasRoomFor 6 = .ok (.getfield 26, 3) := by decide +kernel
theorem dX3_hasRoomFor_9 : decode cX3_hasRoomFor 9 = .ok (.isub, 1) := by decide +kernel
theorem dX3_hasRoomFor_10 : decode cX3_hasRoomFor 10 = .ok (.if_icmp .gt 7, 3) := by decide +kernel
theorem dX3_hasRoomFor_13 : decode cX3_hasRoomFor 13 = .ok (.iconst 1, 1) := by decide +kernel
theorem dX3_hasRoomFor_14 : decode cX3_hasRoomFor 14 = .ok (.goto 4, 3) := by decide +kernel
theorem dX3_hasRoomFor_17 : decode cX3_hasRoomFor 17 = .ok (.iconst 0, 1) := by decide +kernel
theorem dX3_hasRoomFor_18 : decode cX3_hasRoomFor 18 = .ok (.ireturn, 1) := by decide +kernel
def f_X3_hasRoomFor (σ : Sg) (t : Nat) (p1 : Int32) : Option (Int32) := if ((tlim t) - (σ.1 t)) < p1 then (some (0 : Int32)) else (some (1 : Int32))
theorem okm_X3_hasRoomFor : okm yX3_hasRoomFor 1 = true := by decide +kernel
set_option maxHeartbeats 4000000 in
set_option maxRecDepth 100000 in
theorem c_X3_hasRoomFor (l : Launch) (G : va_G) (cls : Cls) (ad : Nat → Nat) (hi : inj 49 ad) (σ : Sg) (t : Nat) (ht : t < 19) (p1 : Int32) : MT l (YX G cls ad) yX3_hasRoomFor (.code yX3_hasRoomFor cX3_hasRoomFor 2 (some .boolean) :: gw) 0 0 [.ref (ad t), .int p1] (fiP σ) σ (f_X3_hasRoomFor σ t p1) := by
  refine MT.of (own := RX3) (by decide) (YX_D hi) rfl (Nat.le_of_ble_eq_true rfl) fun Γ _ hz0 hz1 hC => ?_
  show WX Γ (YX G cls ad) (qf Γ (YX G cls ad) (fiP σ)) 2 0 [(0, .ref (ad t)), (1, .int p1)] [] σ (f_X3_hasRoomFor σ t p1)
  unfold f_X3_hasRoomFor
  refine X_iload_n hC 1 rfl dX3_hasRoomFor_0 ?_
  refine X_aload_n hC 0 rfl dX3_hasRoomFor_1 ?_
  refine X_getf (C := RX3) (T := TX3) (N := 4) (ci := 3) hC 0 (wX (k := t) (by omega) (cX_tab (by omega))) rfl hinX3 (by decide) tw_32 rfl rfl dX3_hasRoomFor_2 ?_
  refine X_aload_n hC 0 rfl dX3_hasRoomFor_5 ?_
  refine X_getf (C := RX3) (T := TX3) (N := 4) (ci := 3) hC 3 (wX (k := t) (by omega) (cX_tab (by omega))) rfl hinX3 (by decide) tw_35 rfl rfl dX3_hasRoomFor_6 ?_
  refine X_isub hC dX3_hasRoomFor_9 ?_
  refine X_icmp_gt hC 17 dX3_hasRoomFor_10 (by decide) (fun h1 => ?_) (fun h1 => ?_)
  · refine X_iconst (v := 0) hC (by decide) dX3_hasRoomFor_17 ?_
    exact X_zret hC hz0 hz1 rfl dX3_hasRoomFor_18 rfl
  · refine X_iconst (v := 1) hC (by decide) dX3_hasRoomFor_13 ?_
    refine X_goto hC 18 dX3_hasRoomFor_14 (by decide) ?_
    exact X_zret hC hz0 hz1 rfl dX3_hasRoomFor_18 rfl
theorem dX3_rowsWith_0 : decode cX3_rowsWith 0 = .ok (.iconst 0, 1) := by decide +kernel
theorem dX3_rowsWith_1 : decode cX3_rowsWith 1 = .ok (.istore_n 3, 1) := by decide +kernel
theorem dX3_rowsWith_2 : decode cX3_rowsWith 2 = .ok (.iconst 0, 1) := by decide +kernel
theorem dX3_rowsWith_3 : decode cX3_rowsWith 3 = .ok (.istore 4, 2) := by decide +kernel
theorem dX3_rowsWith_5 : decode cX3_rowsWith 5 = .ok (.iload 4, 2) := by decide +kernel
theorem dX3_rowsWith_7 : decode cX3_rowsWith 7 = .ok (.aload_n 0, 1) := by decide +kernel
theorem dX3_rowsWith_8 : decode cX3_rowsWith 8 = .ok (.getfield 26, 3) := by decide +kernel
theorem dX3_rowsWith_11 : decode cX3_rowsWith 11 = .ok (.if_icmp .ge 23, 3) := by decide +kernel
theorem dX3_rowsWith_14 : decode cX3_rowsWith 14 = .ok (.aload_n 0, 1) := by decide +kernel
theorem dX3_rowsWith_15 : decode cX3_rowsWith 15 = .ok (.iload 4, 2) := by decide +kernel
theorem dX3_rowsWith_17 : decode cX3_rowsWith 17 = .ok (.iload_n 1, 1) := by decide +kernel
theorem dX3_rowsWith_18 : decode cX3_rowsWith 18 = .ok (.invokevirtual 33, 3) := by decide +kernel
theorem dX3_rowsWith_21 : decode cX3_rowsWith 21 = .ok (.iload_n 2, 1) := by decide +kernel
theorem dX3_rowsWith_22 : decode cX3_rowsWith 22 = .ok (.if_icmp .ne 6, 3) := by decide +kernel
theorem dX3_rowsWith_25 : decode cX3_rowsWith 25 = .ok (.iinc 3 1, 3) := by decide +kernel
theorem dX3_rowsWith_28 : decode cX3_rowsWith 28 = .ok (.iinc 4 1, 3) := by decide +kernel
theorem dX3_rowsWith_31 : decode cX3_rowsWith 31 = .ok (.goto (-26), 3) := by decide +kernel
theorem dX3_rowsWith_34 : decode cX3_rowsWith 34 = .ok (.iload_n 3, 1) := by decide +kernel
theorem dX3_rowsWith_35 : decode cX3_rowsWith 35 = .ok (.ireturn, 1) := by decide +kernel
def f_X3_rowsWith_b28 (σ : Sg) (t : Nat) (K5 : Int32 → Int32 → Int32 → Int32 → Option (Int32))  (v1 v2 v3 v4 : Int32) : Option (Int32) := lt (v4 + (1 : Int32)) fun x4 => K5 v1 v2 v3 x4
def f_X3_rowsWith_b5 (σ : Sg) (t : Nat)  : Nat → Int32 → Int32 → Int32 → Int32 → Option (Int32)
  | 0, _, _, _, _ => none
  | n + 1, v1, v2, v3, v4 => if (σ.1 t) ≤ v4 then (some v3) else ((f_X3_cell σ t v4 v1).bind fun r2 => if r2 = v2 then (lt (v3 + (1 : Int32)) fun x5 => f_X3_rowsWith_b28 σ t (f_X3_rowsWith_b5 σ t  n) v1 v2 x5 v4) else (f_X3_rowsWith_b28 σ t (f_X3_rowsWith_b5 σ t  n) v1 v2 v3 v4))
def f_X3_rowsWith (σ : Sg) (t : Nat) (p1 p2 : Int32) : Option (Int32) := f_X3_rowsWith_b5 σ t fuel p1 p2 (0 : Int32) (0 : Int32)
set_option maxHeartbeats 4000000 in
set_option maxRecDepth 100000 in
theorem L_X3_rowsWith_b28 {Γ : Cx} (G : va_G) (cls : Cls) (ad : Nat → Nat) (hi : inj 49 ad) (hC : CX Γ (YX G cls ad) cX3_rowsWith RX3 5 (some .int) 2 44) (hz0 : Γ.2.2.2.2.2.1 = 0) (hz1 : Γ.2.2.2.2.2.2 = 0) (σ : Sg) (t : Nat) (ht : t < 19) (K5 : Int32 → Int32 → Int32 → Int32 → Option (Int32)) (hK5 : ∀ (v1 v2 v3 v4 : Int32), WX Γ (YX G cls ad) (qf Γ (YX G cls ad) (fiP σ)) 5 5 [(0, .ref (ad t)), (1, .int v1), (2, .int v2), (3, .int v3), (4, .int v4)] [] σ (K5 v1 v2 v3 v4))  (v1 v2 v3 v4 : Int32) : WX Γ (YX G cls ad) (qf Γ (YX G cls ad) (fiP σ)) 5 28 [(0, .ref (ad t)), (1, .int v1), (2, .int v2), (3, .int v3), (4, .int v4)] [] σ (f_X3_rowsWith_b28 σ t K5 v1 v2 v3 v4) := by
  unfold f_X3_rowsWith_b28
  refine X_iinc (ls' := fun x4 => [(4, .int x4), (0, .ref (ad t)), (1, .int v1), (2, .int v2), (3, .int v3)]) hC 4 dX3_rowsWith_28 rfl (by decide) (by decide) (fun _ => rfl) (fun x4 => ?_)
  refine X_goto hC 5 dX3_rowsWith_31 (by decide) ?_
  exact X_sub [1, 2, 3, 4, 0] rfl (hK5 v1 v2 v3 x4)
set_option maxHeartbeats 4000000 in
set_option maxRecDepth 100000 in
theorem L_X3_rowsWith_b5 {Γ : Cx} (G : va_G) (cls : Cls) (ad : Nat → Nat) (hi : inj 49 ad) (hC : CX Γ (YX G cls ad) cX3_rowsWith RX3 5 (some .int) 2 44) (hz0 : Γ.2.2.2.2.2.1 = 0) (hz1 : Γ.2.2.2.2.2.2 = 0) (σ : Sg) (t : Nat) (ht : t < 19)  : ∀ (n : Nat) (v1 v2 v3 v4 : Int32), WX Γ (YX G cls ad) (qf Γ (YX G cls ad) (fiP σ)) 5 5 [(0, .ref (ad t)), (1, .int v1), (2, .int v2), (3, .int v3), (4, .int v4)] [] σ (f_X3_rowsWith_b5 σ t  n v1 v2 v3 v4) := by
  intro n
  induction n with
  | zero => intro v1 v2 v3 v4; exact X_none
  | succ n ih =>
    intro v1 v2 v3 v4
    rw [f_X3_rowsWith_b5.eq_2]
    refine X_iload hC 4 rfl dX3_rowsWith_5 ?_
    refine X_aload_n hC 0 rfl dX3_rowsWith_7 ?_
    refine X_getf (C := RX3) (T := TX3) (N := 4) (ci := 3) hC 3 (wX (k := t) (by omega) (cX_tab (by omega))) rfl hinX3 (by decide) tw_35 rfl rfl dX3_rowsWith_8 ?_
    refine X_icmp_ge hC 34 dX3_rowsWith_11 (by decide) (fun h1 => ?_) (fun h1 => ?_)
    · refine X_iload_n hC 3 rfl dX3_rowsWith_34 ?_
      exact X_iret hC hz0 hz1 dX3_rowsWith_35 rfl
    · refine X_aload_n hC 0 rfl dX3_rowsWith_14 ?_
      refine X_iload hC 4 rfl dX3_rowsWith_15 ?_
      refine X_iload_n hC 1 rfl dX3_rowsWith_17 ?_
      refine X_callP (C := RX3) (T := TX3) (N := 4) (ci := 3) (rest := []) hC (c_X3_cell _ G cls ad hi σ t (by omega) v4 v1) (gV tw_188 tw_133 tw_134 tw_3 tw_135) rfl (wX (k := t) (by omega) (cX_tab (by omega))) rfl rfl okm_X3_cell (by decide) dX3_rowsWith_18 rfl (Nat.le_of_ble_eq_true rfl) (fun r2 => ?_)
      refine X_iload_n hC 2 rfl dX3_rowsWith_21 ?_
      refine X_icmp_ne hC 28 dX3_rowsWith_22 (by decide) (fun h3 => ?_) (fun h3 => ?_)
      · exact (L_X3_rowsWith_b28 G cls ad hi hC hz0 hz1 σ t ht (f_X3_rowsWith_b5 σ t  n) ih v1 v2 v3 v4)
      · refine X_iinc (ls' := fun x5 => [(3, .int x5), (0, .ref (ad t)), (1, .int v1), (2, .int v2), (4, .int v4)]) hC 3 dX3_rowsWith_25 rfl (by decide) (by decide) (fun _ => rfl) (fun x5 => ?_)
        exact X_sub [1, 2, 3, 0, 4] rfl (L_X3_rowsWith_b28 G cls ad hi hC hz0 hz1 σ t ht (f_X3_rowsWith_b5 σ t  n) ih v1 v2 x5 v4)
theorem okm_X3_rowsWith : okm yX3_rowsWith 2 = true := by decide +kernel
set_option maxHeartbeats 4000000 in
set_option maxRecDepth 100000 in
theorem c_X3_rowsWith (l : Launch) (G : va_G) (cls : Cls) (ad : Nat → Nat) (hi : inj 49 ad) (σ : Sg) (t : Nat) (ht : t < 19) (p1 p2 : Int32) : MT l (YX G cls ad) yX3_rowsWith (.code yX3_rowsWith cX3_rowsWith 5 (some .int) :: gw) 2 44 [.ref (ad t), .int p1, .int p2] (fiP σ) σ (f_X3_rowsWith σ t p1 p2) := by
  refine MT.of (own := RX3) (by decide) (YX_D hi) rfl (Nat.le_of_ble_eq_true rfl) fun Γ _ hz0 hz1 hC => ?_
  show WX Γ (YX G cls ad) (qf Γ (YX G cls ad) (fiP σ)) 5 0 [(0, .ref (ad t)), (1, .int p1), (2, .int p2)] [] σ (f_X3_rowsWith σ t p1 p2)
  unfold f_X3_rowsWith
  refine X_iconst (v := 0) hC (by decide) dX3_rowsWith_0 ?_
  refine X_istore_n (ls' := [(3, .int (0 : Int32)), (0, .ref (ad t)), (1, .int p1), (2, .int p2)]) hC dX3_rowsWith_1 (by decide) rfl ?_
  refine X_iconst (v := 0) hC (by decide) dX3_rowsWith_2 ?_
  refine X_istore (ls' := [(4, .int (0 : Int32)), (3, .int (0 : Int32)), (0, .ref (ad t)), (1, .int p1), (2, .int p2)]) hC dX3_rowsWith_3 (by decide) rfl ?_
  exact X_sub [2, 3, 4, 1, 0] rfl (L_X3_rowsWith_b5 G cls ad hi hC hz0 hz1 σ t ht fuel p1 p2 (0 : Int32) (0 : Int32))
theorem dX3_sumOf_0 : decode cX3_sumOf 0 = .ok (.iconst 0, 1) := by decide +kernel
theorem dX3_sumOf_1 : decode cX3_sumOf 1 = .ok (.istore_n 2, 1) := by decide +kernel
theorem dX3_sumOf_2 : decode cX3_sumOf 2 = .ok (.iconst 0, 1) := by decide +kernel
theorem dX3_sumOf_3 : decode cX3_sumOf 3 = .ok (.istore_n 3, 1) := by decide +kernel
theorem dX3_sumOf_4 : decode cX3_sumOf 4 = .ok (.iload_n 3, 1) := by decide +kernel
theorem dX3_sumOf_5 : decode cX3_sumOf 5 = .ok (.aload_n 0, 1) := by decide +kernel
theorem dX3_sumOf_6 : decode cX3_sumOf 6 = .ok (.getfield 26, 3) := by decide +kernel
theorem dX3_sumOf_9 : decode cX3_sumOf 9 = .ok (.if_icmp .ge 18, 3) := by decide +kernel
theorem dX3_sumOf_12 : decode cX3_sumOf 12 = .ok (.iload_n 2, 1) := by decide +kernel
theorem dX3_sumOf_13 : decode cX3_sumOf 13 = .ok (.aload_n 0, 1) := by decide +kernel
theorem dX3_sumOf_14 : decode cX3_sumOf 14 = .ok (.iload_n 3, 1) := by decide +kernel
theorem dX3_sumOf_15 : decode cX3_sumOf 15 = .ok (.iload_n 1, 1) := by decide +kernel
theorem dX3_sumOf_16 : decode cX3_sumOf 16 = .ok (.invokevirtual 33, 3) := by decide +kernel
theorem dX3_sumOf_19 : decode cX3_sumOf 19 = .ok (.iadd, 1) := by decide +kernel
theorem dX3_sumOf_20 : decode cX3_sumOf 20 = .ok (.istore_n 2, 1) := by decide +kernel
theorem dX3_sumOf_21 : decode cX3_sumOf 21 = .ok (.iinc 3 1, 3) := by decide +kernel
theorem dX3_sumOf_24 : decode cX3_sumOf 24 = .ok (.goto (-20), 3) := by decide +kernel
theorem dX3_sumOf_27 : decode cX3_sumOf 27 = .ok (.iload_n 2, 1) := by decide +kernel
theorem dX3_sumOf_28 : decode cX3_sumOf 28 = .ok (.ireturn, 1) := by decide +kernel
def f_X3_sumOf_b4 (σ : Sg) (t : Nat)  : Nat → Int32 → Int32 → Int32 → Option (Int32)
  | 0, _, _, _ => none
  | n + 1, v1, v2, v3 => if (σ.1 t) ≤ v3 then (some v2) else ((f_X3_cell σ t v3 v1).bind fun r2 => lt (v2 + r2) fun x3 => lt (v3 + (1 : Int32)) fun x4 => (f_X3_sumOf_b4 σ t  n) v1 x3 x4)
def f_X3_sumOf (σ : Sg) (t : Nat) (p1 : Int32) : Option (Int32) := f_X3_sumOf_b4 σ t fuel p1 (0 : Int32) (0 : Int32)
set_option maxHeartbeats 4000000 in
set_option maxRecDepth 100000 in
theorem L_X3_sumOf_b4 {Γ : Cx} (G : va_G) (cls : Cls) (ad : Nat → Nat) (hi : inj 49 ad) (hC : CX Γ (YX G cls ad) cX3_sumOf RX3 4 (some .int) 2 44) (hz0 : Γ.2.2.2.2.2.1 = 0) (hz1 : Γ.2.2.2.2.2.2 = 0) (σ : Sg) (t : Nat) (ht : t < 19)  : ∀ (n : Nat) (v1 v2 v3 : Int32), WX Γ (YX G cls ad) (qf Γ (YX G cls ad) (fiP σ)) 4 4 [(0, .ref (ad t)), (1, .int v1), (2, .int v2), (3, .int v3)] [] σ (f_X3_sumOf_b4 σ t  n v1 v2 v3) := by
  intro n
  induction n with
  | zero => intro v1 v2 v3; exact X_none
  | succ n ih =>
    intro v1 v2 v3
    rw [f_X3_sumOf_b4.eq_2]
    refine X_iload_n hC 3 rfl dX3_sumOf_4 ?_
    refine X_aload_n hC 0 rfl dX3_sumOf_5 ?_
    refine X_getf (C := RX3) (T := TX3) (N := 4) (ci := 3) hC 3 (wX (k := t) (by omega) (cX_tab (by omega))) rfl hinX3 (by decide) tw_35 rfl rfl dX3_sumOf_6 ?_
    refine X_icmp_ge hC 27 dX3_sumOf_9 (by decide) (fun h1 => ?_) (fun h1 => ?_)
    · refine X_iload_n hC 2 rfl dX3_sumOf_27 ?_
      exact X_iret hC hz0 hz1 dX3_sumOf_28 rfl
    · refine X_iload_n hC 2 rfl dX3_sumOf_12 ?_
      refine X_aload_n hC 0 rfl dX3_sumOf_13 ?_
      refine X_iload_n hC 3 rfl dX3_sumOf_14 ?_
      refine X_iload_n hC 1 rfl dX3_sumOf_15 ?_
      refine X_callP (C := RX3) (T := TX3) (N := 4) (ci := 3) (rest := [.int v2]) hC (c_X3_cell _ G cls ad hi σ t (by omega) v3 v1) (gV tw_188 tw_133 tw_134 tw_3 tw_135) rfl (wX (k := t) (by omega) (cX_tab (by omega))) rfl rfl okm_X3_cell (by decide) dX3_sumOf_16 rfl (Nat.le_of_ble_eq_true rfl) (fun r2 => ?_)
      refine X_iadd hC dX3_sumOf_19 ?_
      refine X_lt (fun x3 => ?_)
      refine X_istore_n (ls' := [(2, .int x3), (0, .ref (ad t)), (1, .int v1), (3, .int v3)]) hC dX3_sumOf_20 (by decide) rfl ?_
      refine X_iinc (ls' := fun x4 => [(3, .int x4), (2, .int x3), (0, .ref (ad t)), (1, .int v1)]) hC 3 dX3_sumOf_21 rfl (by decide) (by decide) (fun _ => rfl) (fun x4 => ?_)
      refine X_goto hC 4 dX3_sumOf_24 (by decide) ?_
      exact X_sub [2, 3, 1, 0] rfl (ih v1 x3 x4)
theorem okm_X3_sumOf : okm yX3_sumOf 1 = true := by decide +kernel
set_option maxHeartbeats 4000000 in
set_option maxRecDepth 100000 in
theorem c_X3_sumOf (l : Launch) (G : va_G) (cls : Cls) (ad : Nat → Nat) (hi : inj 49 ad) (σ : Sg) (t : Nat) (ht : t < 19) (p1 : Int32) : MT l (YX G cls ad) yX3_sumOf (.code yX3_sumOf cX3_sumOf 4 (some .int) :: gw) 2 44 [.ref (ad t), .int p1] (fiP σ) σ (f_X3_sumOf σ t p1) := by
  refine MT.of (own := RX3) (by decide) (YX_D hi) rfl (Nat.le_of_ble_eq_true rfl) fun Γ _ hz0 hz1 hC => ?_
  show WX Γ (YX G cls ad) (qf Γ (YX G cls ad) (fiP σ)) 4 0 [(0, .ref (ad t)), (1, .int p1)] [] σ (f_X3_sumOf σ t p1)
  unfold f_X3_sumOf
  refine X_iconst (v := 0) hC (by decide) dX3_sumOf_0 ?_
  refine X_istore_n (ls' := [(2, .int (0 : Int32)), (0, .ref (ad t)), (1, .int p1)]) hC dX3_sumOf_1 (by decide) rfl ?_
  refine X_iconst (v := 0) hC (by decide) dX3_sumOf_2 ?_
  refine X_istore_n (ls' := [(3, .int (0 : Int32)), (2, .int (0 : Int32)), (0, .ref (ad t)), (1, .int p1)]) hC dX3_sumOf_3 (by decide) rfl ?_
  exact X_sub [2, 3, 1, 0] rfl (L_X3_sumOf_b4 G cls ad hi hC hz0 hz1 σ t ht fuel p1 (0 : Int32) (0 : Int32))
