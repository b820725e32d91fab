theorem dX5_in_0 : decode cX5_in 0 = .ok (.iload_n 0, 1) := by decide +kernel
theorem dX5_in_1 : decode cX5_in 1 = .ok (.iload_n 1, 1) := by decide +kernel
theorem dX5_in_2 : decode cX5_in 2 = .ok (.if_icmp .lt 12, 3) := by decide +kernel
theorem dX5_in_5 : decode cX5_in 5 = .ok (.iload_n 0, 1) := by decide +kernel
theorem dX5_in_6 : decode cX5_in 6 = .ok (.iload_n 2, 1) := by decide +kernel
theorem dX5_in_7 : decode cX5_in 7 = .ok (.if_icmp .gt 7, 3) := by decide +kernel
theorem dX5_in_10 : decode cX5_in 10 = .ok (.iconst 1, 1) := by decide +kernel
theorem dX5_in_11 : decode cX5_in 11 = .ok (.goto 4, 3) := by decide +kernel
theorem dX5_in_14 : decode cX5_in 14 = .ok (.iconst 0, 1) := by decide +kernel
theorem dX5_in_15 : decode cX5_in 15 = .ok (.ireturn, 1) := by decide +kernel
def f_X5_in (σ : Sg)  (p0 p1 p2 : Int32) : Option (Int32) := if p0 < p1 then (some (0 : Int32)) else (if p2 < p0 then (some (0 : Int32)) else (some (1 : Int32)))
theorem okm_X5_in : okm yX5_in 3 = true := by decide +kernel
set_option maxHeartbeats 4000000 in
set_option maxRecDepth 100000 in
theorem c_X5_in (l : Launch) (G : va_G) (cls : Cls) (ad : Nat → Nat) (hi : inj 6 ad) (σ : Sg)   (p0 p1 p2 : Int32) : MT l (YM G cls ad) yX5_in (.code yX5_in cX5_in 3 (some .boolean) :: gw) 0 0 [.int p0, .int p1, .int p2] (fiP σ) σ (f_X5_in σ  p0 p1 p2) := by
  refine MT.of (own := RX5) (by decide) (YM_D hi) rfl (Nat.le_of_ble_eq_true rfl) fun Γ _ hz0 hz1 hC => ?_
  show WX Γ (YM G cls ad) (qf Γ (YM G cls ad) (fiP σ)) 3 0 [(0, .int p0), (1, .int p1), (2, .int p2)] [] σ (f_X5_in σ  p0 p1 p2)
  unfold f_X5_in
  refine X_iload_n hC 0 rfl dX5_in_0 ?_
  refine X_iload_n hC 1 rfl dX5_in_1 ?_
  refine X_icmp_lt hC 14 dX5_in_2 (by decide) (fun h1 => ?_) (fun h1 => ?_)
  · refine X_iconst (v := 0) hC (by decide) dX5_in_14 ?_
    exact X_zret hC hz0 hz1 rfl dX5_in_15 rfl
  · refine X_iload_n hC 0 rfl dX5_in_5 ?_
    refine X_iload_n hC 2 rfl dX5_in_6 ?_
    refine X_icmp_gt hC 14 dX5_in_7 (by decide) (fun h2 => ?_) (fun h2 => ?_)
    · refine X_iconst (v := 0) hC (by decide) dX5_in_14 ?_
      exact X_zret hC hz0 hz1 rfl dX5_in_15 rfl
    · refine X_iconst (v := 1) hC (by decide) dX5_in_10 ?_
      refine X_goto hC 15 dX5_in_11 (by decide) ?_
      exact X_zret hC hz0 hz1 rfl dX5_in_15 rfl
theorem dX5_record_0 : decode cX5_record 0 = .ok (.aload_n 0, 1) := by decide +kernel
theorem dX5_record_1 : decode cX5_record 1 = .ok (.getfield 26, 3) := by decide +kernel
theorem dX5_record_4 : decode cX5_record 4 = .ok (.iconst 4, 1) := by decide +kernel
theorem dX5_record_5 : decode cX5_record 5 = .ok (.if_icmp .ne 44, 3) := by decide +kernel
theorem dX5_record_8 : decode cX5_record 8 = .ok (.iconst 0, 1) := by decide +kernel
theorem dX5_record_9 : decode cX5_record 9 = .ok (.istore_n 1, 1) := by decide +kernel
theorem dX5_record_10 : decode cX5_record 10 = .ok (.iload_n 1, 1) := by decide +kernel
theorem dX5_record_11 : decode cX5_record 11 = .ok (.sipush 1872, 3) := by decide +kernel
theorem dX5_record_14 : decode cX5_record 14 = .ok (.if_icmp .ge 25, 3) := by decide +kernel
theorem dX5_record_17 : decode cX5_record 17 = .ok (.aload_n 0, 1) := by decide +kernel
theorem dX5_record_18 : decode cX5_record 18 = .ok (.getfield 13, 3) := by decide +kernel
theorem dX5_record_21 : decode cX5_record 21 = .ok (.iload_n 1, 1) := by decide +kernel
theorem dX5_record_22 : decode cX5_record 22 = .ok (.aload_n 0, 1) := by decide +kernel
theorem dX5_record_23 : decode cX5_record 23 = .ok (.getfield 13, 3) := by decide +kernel
theorem dX5_record_26 : decode cX5_record 26 = .ok (.iload_n 1, 1) := by decide +kernel
theorem dX5_record_27 : decode cX5_record 27 = .ok (.sipush 624, 3) := by decide +kernel
theorem dX5_record_30 : decode cX5_record 30 = .ok (.iadd, 1) := by decide +kernel
theorem dX5_record_31 : decode cX5_record 31 = .ok (.iaload, 1) := by decide +kernel
theorem dX5_record_32 : decode cX5_record 32 = .ok (.iastore, 1) := by decide +kernel
theorem dX5_record_33 : decode cX5_record 33 = .ok (.iinc 1 1, 3) := by decide +kernel
theorem dX5_record_36 : decode cX5_record 36 = .ok (.goto (-26), 3) := by decide +kernel
theorem dX5_record_39 : decode cX5_record 39 = .ok (.aload_n 0, 1) := by decide +kernel
theorem dX5_record_40 : decode cX5_record 40 = .ok (.dup, 1) := by decide +kernel
theorem dX5_record_41 : decode cX5_record 41 = .ok (.getfield 26, 3) := by decide +kernel
theorem dX5_record_44 : decode cX5_record 44 = .ok (.iconst 1, 1) := by decide +kernel
theorem dX5_record_45 : decode cX5_record 45 = .ok (.isub, 1) := by decide +kernel
theorem dX5_record_46 : decode cX5_record 46 = .ok (.putfield 26, 3) := by decide +kernel
theorem dX5_record_49 : decode cX5_record 49 = .ok (.iconst 0, 1) := by decide +kernel
theorem dX5_record_50 : decode cX5_record 50 = .ok (.istore_n 1, 1) := by decide +kernel
theorem dX5_record_51 : decode cX5_record 51 = .ok (.iload_n 1, 1) := by decide +kernel
theorem dX5_record_52 : decode cX5_record 52 = .ok (.sipush 624, 3) := by decide +kernel
theorem dX5_record_55 : decode cX5_record 55 = .ok (.if_icmp .ge 30, 3) := by decide +kernel
theorem dX5_record_58 : decode cX5_record 58 = .ok (.aload_n 0, 1) := by decide +kernel
theorem dX5_record_59 : decode cX5_record 59 = .ok (.getfield 13, 3) := by decide +kernel
theorem dX5_record_62 : decode cX5_record 62 = .ok (.sipush 624, 3) := by decide +kernel
theorem dX5_record_65 : decode cX5_record 65 = .ok (.aload_n 0, 1) := by decide +kernel
theorem dX5_record_66 : decode cX5_record 66 = .ok (.getfield 26, 3) := by decide +kernel
theorem dX5_record_69 : decode cX5_record 69 = .ok (.imul, 1) := by decide +kernel
theorem dX5_record_70 : decode cX5_record 70 = .ok (.iload_n 1, 1) := by decide +kernel
theorem dX5_record_71 : decode cX5_record 71 = .ok (.iadd, 1) := by decide +kernel
theorem dX5_record_72 : decode cX5_record 72 = .ok (.aload_n 0, 1) := by decide +kernel
theorem dX5_record_73 : decode cX5_record 73 = .ok (.getfield 7, 3) := by decide +kernel
theorem dX5_record_76 : decode cX5_record 76 = .ok (.iload_n 1, 1) := by decide +kernel
theorem dX5_record_77 : decode cX5_record 77 = .ok (.iaload, 1) := by decide +kernel
theorem dX5_record_78 : decode cX5_record 78 = .ok (.iastore, 1) := by decide +kernel
theorem dX5_record_79 : decode cX5_record 79 = .ok (.iinc 1 1, 3) := by decide +kernel
theorem dX5_record_82 : decode cX5_record 82 = .ok (.goto (-31), 3) := by decide +kernel
theorem dX5_record_85 : decode cX5_record 85 = .ok (.aload_n 0, 1) := by decide +kernel
theorem dX5_record_86 : decode cX5_record 86 = .ok (.dup, 1) := by decide +kernel
theorem dX5_record_87 : decode cX5_record 87 = .ok (.getfield 26, 3) := by decide +kernel
theorem dX5_record_90 : decode cX5_record 90 = .ok (.iconst 1, 1) := by decide +kernel
theorem dX5_record_91 : decode cX5_record 91 = .ok (.iadd, 1) := by decide +kernel
theorem dX5_record_92 : decode cX5_record 92 = .ok (.putfield 26, 3) := by decide +kernel
theorem dX5_record_95 : decode cX5_record 95 = .ok (.return_, 1) := by decide +kernel
def f_X5_record_b51    : Nat → Sg → Int32 → Option (Sg)
  | 0, _, _ => none
  | n + 1, σ, v1 => if (624 : Int32) ≤ v1 then (lts (s1 σ 0 ((σ.1 0) + (1 : Int32))) fun σ3 => some σ3) else (gd (inb v1 624) (gd (inb (((624 : Int32) * (σ.1 0)) + v1) 2496) (lts (s2 σ 1 (upd (σ.2 1) (ix (((624 : Int32) * (σ.1 0)) + v1)) (σ.2 0 (ix v1)))) fun σ4 => lt (v1 + (1 : Int32)) fun x5 => (f_X5_record_b51   n) σ4 x5)))
def f_X5_record_b49    (σ : Sg)  : Option (Sg) := f_X5_record_b51 fuel σ (0 : Int32)
def f_X5_record_b10    : Nat → Sg → Int32 → Option (Sg)
  | 0, _, _ => none
  | n + 1, σ, v1 => if (1872 : Int32) ≤ v1 then (lts (s1 σ 0 ((σ.1 0) - (1 : Int32))) fun σ7 => f_X5_record_b49 σ7) else (gd (inb (v1 + (624 : Int32)) 2496) (gd (inb v1 2496) (lts (s2 σ 1 (upd (σ.2 1) (ix v1) (σ.2 1 (ix (v1 + (624 : Int32)))))) fun σ8 => lt (v1 + (1 : Int32)) fun x9 => (f_X5_record_b10   n) σ8 x9)))
def f_X5_record (σ : Sg)   : Option (Sg) := if (σ.1 0) = (4 : Int32) then (f_X5_record_b10 fuel σ (0 : Int32)) else (f_X5_record_b49 σ)
set_option maxHeartbeats 4000000 in
set_option maxRecDepth 100000 in
theorem L_X5_record_b51 {Γ : Cx} (G : va_G) (cls : Cls) (ad : Nat → Nat) (hi : inj 6 ad) (hC : CX Γ (YM G cls ad) cX5_record RX5 2 none 0 0) (hz0 : Γ.2.2.2.2.2.1 = 0) (hz1 : Γ.2.2.2.2.2.2 = 0)     : ∀ (n : Nat) (σ : Sg) (v1 : Int32), WX Γ (YM G cls ad) (qf Γ (YM G cls ad) fvS) 2 51 [(0, .ref (ad 0)), (1, .int v1)] [] σ (f_X5_record_b51   n σ v1) := by
  intro n
  induction n with
  | zero => intro σ v1; exact X_none
  | succ n ih =>
    intro σ v1
    rw [f_X5_record_b51.eq_2]
    refine X_iload_n hC 1 rfl dX5_record_51 ?_
    refine X_sipush (v := 624) hC (by decide) dX5_record_52 ?_
    refine X_icmp_ge hC 85 dX5_record_55 (by decide) (fun h2 => ?_) (fun h2 => ?_)
    · refine X_aload_n hC 0 rfl dX5_record_85 ?_
      refine X_dup hC rfl dX5_record_86 ?_
      refine X_getf (C := RX5) (T := TX5) (N := 16) (ci := 5) hC 2 (wM (k := 0) (by omega) cM_ob) rfl hinX5 (by decide) tw_487 rfl rfl dX5_record_87 ?_
      refine X_iconst (v := 1) hC (by decide) dX5_record_90 ?_
      refine X_iadd hC dX5_record_91 ?_
      refine X_putf (C := RX5) (T := TX5) (N := 16) (ci := 5) (ty := .int) hC 2 (wM (k := 0) (by omega) cM_ob) rfl hinX5 tyX5_ok nmX5 (by decide) tw_487 rfl rfl (by decide +kernel) rfl rfl (Nat.le_of_ble_eq_true rfl) (sM_kept _) dX5_record_92 (X_lts fun σ3 => ?_)
      exact X_vret hC hz0 hz1 dX5_record_95 rfl
    · refine X_aload_n hC 0 rfl dX5_record_58 ?_
      refine X_getf (C := RX5) (T := TX5) (N := 16) (ci := 5) hC 1 (wM (k := 0) (by omega) cM_ob) rfl hinX5 (by decide) tw_486 rfl rfl dX5_record_59 ?_
      refine X_sipush (v := 624) hC (by decide) dX5_record_62 ?_
      refine X_aload_n hC 0 rfl dX5_record_65 ?_
      refine X_getf (C := RX5) (T := TX5) (N := 16) (ci := 5) hC 2 (wM (k := 0) (by omega) cM_ob) rfl hinX5 (by decide) tw_487 rfl rfl dX5_record_66 ?_
      refine X_imul hC dX5_record_69 ?_
      refine X_iload_n hC 1 rfl dX5_record_70 ?_
      refine X_iadd hC dX5_record_71 ?_
      refine X_aload_n hC 0 rfl dX5_record_72 ?_
      refine X_getf (C := RX5) (T := TX5) (N := 16) (ci := 5) hC 0 (wM (k := 0) (by omega) cM_ob) rfl hinX5 (by decide) tw_485 rfl rfl dX5_record_73 ?_
      refine X_iload_n hC 1 rfl dX5_record_76 ?_
      refine X_iald hC (wM (k := 1) (by omega) cM_now) (t0 := 0) rfl dX5_record_77 ?_
      refine X_iast hC (wM (k := 2) (by omega) cM_history) (t0 := 0) rfl (aM_history _) dX5_record_78 (X_lts fun σ4 => ?_)
      refine X_iinc (ls' := fun x5 => [(1, .int x5), (0, .ref (ad 0))]) hC 1 dX5_record_79 rfl (by decide) (by decide) (fun _ => rfl) (fun x5 => ?_)
      refine X_goto hC 51 dX5_record_82 (by decide) ?_
      exact X_sub [1, 0] rfl (ih σ4 x5)
set_option maxHeartbeats 4000000 in
set_option maxRecDepth 100000 in
theorem L_X5_record_b49 {Γ : Cx} (G : va_G) (cls : Cls) (ad : Nat → Nat) (hi : inj 6 ad) (hC : CX Γ (YM G cls ad) cX5_record RX5 2 none 0 0) (hz0 : Γ.2.2.2.2.2.1 = 0) (hz1 : Γ.2.2.2.2.2.2 = 0)     (σ : Sg)  : WX Γ (YM G cls ad) (qf Γ (YM G cls ad) fvS) 2 49 [(0, .ref (ad 0))] [] σ (f_X5_record_b49   σ) := by
  unfold f_X5_record_b49
  refine X_iconst (v := 0) hC (by decide) dX5_record_49 ?_
  refine X_istore_n (ls' := [(1, .int (0 : Int32)), (0, .ref (ad 0))]) hC dX5_record_50 (by decide) rfl ?_
  exact X_sub [1, 0] rfl (L_X5_record_b51 G cls ad hi hC hz0 hz1 fuel σ (0 : Int32))
set_option maxHeartbeats 4000000 in
set_option maxRecDepth 100000 in
theorem L_X5_record_b10 {Γ : Cx} (G : va_G) (cls : Cls) (ad : Nat → Nat) (hi : inj 6 ad) (hC : CX Γ (YM G cls ad) cX5_record RX5 2 none 0 0) (hz0 : Γ.2.2.2.2.2.1 = 0) (hz1 : Γ.2.2.2.2.2.2 = 0)     : ∀ (n : Nat) (σ : Sg) (v1 : Int32), WX Γ (YM G cls ad) (qf Γ (YM G cls ad) fvS) 2 10 [(0, .ref (ad 0)), (1, .int v1)] [] σ (f_X5_record_b10   n σ v1) := by
  intro n
  induction n with
  | zero => intro σ v1; exact X_none
  | succ n ih =>
    intro σ v1
    rw [f_X5_record_b10.eq_2]
    refine X_iload_n hC 1 rfl dX5_record_10 ?_
    refine X_sipush (v := 1872) hC (by decide) dX5_record_11 ?_
    refine X_icmp_ge hC 39 dX5_record_14 (by decide) (fun h6 => ?_) (fun h6 => ?_)
    · refine X_aload_n hC 0 rfl dX5_record_39 ?_
      refine X_dup hC rfl dX5_record_40 ?_
      refine X_getf (C := RX5) (T := TX5) (N := 16) (ci := 5) hC 2 (wM (k := 0) (by omega) cM_ob) rfl hinX5 (by decide) tw_487 rfl rfl dX5_record_41 ?_
      refine X_iconst (v := 1) hC (by decide) dX5_record_44 ?_
      refine X_isub hC dX5_record_45 ?_
      refine X_putf (C := RX5) (T := TX5) (N := 16) (ci := 5) (ty := .int) hC 2 (wM (k := 0) (by omega) cM_ob) rfl hinX5 tyX5_ok nmX5 (by decide) tw_487 rfl rfl (by decide +kernel) rfl rfl (Nat.le_of_ble_eq_true rfl) (sM_kept _) dX5_record_46 (X_lts fun σ7 => ?_)
      exact X_sub [0] rfl (L_X5_record_b49 G cls ad hi hC hz0 hz1 σ7)
    · refine X_aload_n hC 0 rfl dX5_record_17 ?_
      refine X_getf (C := RX5) (T := TX5) (N := 16) (ci := 5) hC 1 (wM (k := 0) (by omega) cM_ob) rfl hinX5 (by decide) tw_486 rfl rfl dX5_record_18 ?_
      refine X_iload_n hC 1 rfl dX5_record_21 ?_
      refine X_aload_n hC 0 rfl dX5_record_22 ?_
      refine X_getf (C := RX5) (T := TX5) (N := 16) (ci := 5) hC 1 (wM (k := 0) (by omega) cM_ob) rfl hinX5 (by decide) tw_486 rfl rfl dX5_record_23 ?_
      refine X_iload_n hC 1 rfl dX5_record_26 ?_
      refine X_sipush (v := 624) hC (by decide) dX5_record_27 ?_
      refine X_iadd hC dX5_record_30 ?_
      refine X_iald hC (wM (k := 2) (by omega) cM_history) (t0 := 0) rfl dX5_record_31 ?_
      refine X_iast hC (wM (k := 2) (by omega) cM_history) (t0 := 0) rfl (aM_history _) dX5_record_32 (X_lts fun σ8 => ?_)
      refine X_iinc (ls' := fun x9 => [(1, .int x9), (0, .ref (ad 0))]) hC 1 dX5_record_33 rfl (by decide) (by decide) (fun _ => rfl) (fun x9 => ?_)
      refine X_goto hC 10 dX5_record_36 (by decide) ?_
      exact X_sub [1, 0] rfl (ih σ8 x9)
theorem okm_X5_record : okm yX5_record 0 = true := by decide +kernel
set_option maxHeartbeats 4000000 in
set_option maxRecDepth 100000 in
theorem c_X5_record (l : Launch) (G : va_G) (cls : Cls) (ad : Nat → Nat) (hi : inj 6 ad) (σ : Sg)    : MT l (YM G cls ad) yX5_record (.code yX5_record cX5_record 2 none :: gw) 0 0 [.ref (ad 0)] fvS σ (f_X5_record σ  ) := by
  refine MT.of (own := RX5) (by decide) (YM_D hi) rfl (Nat.le_of_ble_eq_true rfl) fun Γ _ hz0 hz1 hC => ?_
  show WX Γ (YM G cls ad) (qf Γ (YM G cls ad) fvS) 2 0 [(0, .ref (ad 0))] [] σ (f_X5_record σ  )
  unfold f_X5_record
  refine X_aload_n hC 0 rfl dX5_record_0 ?_
  refine X_getf (C := RX5) (T := TX5) (N := 16) (ci := 5) hC 2 (wM (k := 0) (by omega) cM_ob) rfl hinX5 (by decide) tw_487 rfl rfl dX5_record_1 ?_
  refine X_iconst (v := 4) hC (by decide) dX5_record_4 ?_
  refine X_icmp_ne hC 49 dX5_record_5 (by decide) (fun h1 => ?_) (fun h1 => ?_)
  · exact (L_X5_record_b49 G cls ad hi hC hz0 hz1 σ)
  · refine X_iconst (v := 0) hC (by decide) dX5_record_8 ?_
    refine X_istore_n (ls' := [(1, .int (0 : Int32)), (0, .ref (ad 0))]) hC dX5_record_9 (by decide) rfl ?_
    exact X_sub [1, 0] rfl (L_X5_record_b10 G cls ad hi hC hz0 hz1 fuel σ (0 : Int32))
theorem dX5_noTool_0 : decode cX5_noTool 0 = .ok (.iload_n 1, 1) := by decide +kernel
theorem dX5_noTool_1 : decode cX5_noTool 1 = .ok (.iconst 0, 1) := by decide +kernel
theorem dX5_noTool_2 : decode cX5_noTool 2 = .ok (.aload_n 0, 1) := by decide +kernel
theorem dX5_noTool_3 : decode cX5_noTool 3 = .ok (.getfield 7, 3) := by decide +kernel
theorem dX5_noTool_6 : decode cX5_noTool 6 = .ok (.iconst 0, 1) := by decide +kernel
theorem dX5_noTool_7 : decode cX5_noTool 7 = .ok (.iaload, 1) := by decide +kernel
theorem dX5_noTool_8 : decode cX5_noTool 8 = .ok (.iconst 1, 1) := by decide +kernel
theorem dX5_noTool_9 : decode cX5_noTool 9 = .ok (.isub, 1) := by decide +kernel
theorem dX5_noTool_10 : decode cX5_noTool 10 = .ok (.invokestatic 30, 3) := by decide +kernel
theorem dX5_noTool_13 : decode cX5_noTool 13 = .ok (.ifCond .ne 7, 3) := by decide +kernel
theorem dX5_noTool_16 : decode cX5_noTool 16 = .ok (.iconst 1, 1) := by decide +kernel
theorem dX5_noTool_17 : decode cX5_noTool 17 = .ok (.goto 4, 3) := by decide +kernel
theorem dX5_noTool_20 : decode cX5_noTool 20 = .ok (.iconst 0, 1) := by decide +kernel
theorem dX5_noTool_21 : decode cX5_noTool 21 = .ok (.ireturn, 1) := by decide +kernel
def f_X5_noTool (σ : Sg)  (p1 : Int32) : Option (Int32) := gd (inb (0 : Int32) 624) ((f_X5_in σ p1 (0 : Int32) ((σ.2 0 (ix (0 : Int32))) - (1 : Int32))).bind fun r1 => if r1 = 0 then (some (1 : Int32)) else (some (0 : Int32)))
theorem okm_X5_noTool : okm yX5_noTool 1 = true := by decide +kernel
set_option maxHeartbeats 4000000 in
set_option maxRecDepth 100000 in
theorem c_X5_noTool (l : Launch) (G : va_G) (cls : Cls) (ad : Nat → Nat) (hi : inj 6 ad) (σ : Sg)   (p1 : Int32) : MT l (YM G cls ad) yX5_noTool (.code yX5_noTool cX5_noTool 2 (some .boolean) :: gw) 1 22 [.ref (ad 0), .int p1] (fiP σ) σ (f_X5_noTool σ  p1) := by
  refine MT.of (own := RX5) (by decide) (YM_D hi) rfl (Nat.le_of_ble_eq_true rfl) fun Γ _ hz0 hz1 hC => ?_
  show WX Γ (YM G cls ad) (qf Γ (YM G cls ad) (fiP σ)) 2 0 [(0, .ref (ad 0)), (1, .int p1)] [] σ (f_X5_noTool σ  p1)
  unfold f_X5_noTool
  refine X_iload_n hC 1 rfl dX5_noTool_0 ?_
  refine X_iconst (v := 0) hC (by decide) dX5_noTool_1 ?_
  refine X_aload_n hC 0 rfl dX5_noTool_2 ?_
  refine X_getf (C := RX5) (T := TX5) (N := 16) (ci := 5) hC 0 (wM (k := 0) (by omega) cM_ob) rfl hinX5 (by decide) tw_485 rfl rfl dX5_noTool_3 ?_
  refine X_iconst (v := 0) hC (by decide) dX5_noTool_6 ?_
  refine X_iald hC (wM (k := 1) (by omega) cM_now) (t0 := 0) rfl dX5_noTool_7 ?_
  refine X_iconst (v := 1) hC (by decide) dX5_noTool_8 ?_
  refine X_isub hC dX5_noTool_9 ?_
  refine X_statP (rest := []) hC (c_X5_in _ G cls ad hi σ p1 (0 : Int32) ((σ.2 0 (ix (0 : Int32))) - (1 : Int32))) (gSt tw_538 tw_539 tw_7 tw_540) rfl okm_X5_in (by decide) dX5_noTool_10 rfl (Nat.le_of_ble_eq_true rfl) (fun r1 => ?_)
  refine X_if_ne hC 20 dX5_noTool_13 (by decide) (fun h2 => ?_) (fun h2 => ?_)
  · refine X_iconst (v := 0) hC (by decide) dX5_noTool_20 ?_
    exact X_zret hC hz0 hz1 rfl dX5_noTool_21 rfl
  · refine X_iconst (v := 1) hC (by decide) dX5_noTool_16 ?_
    refine X_goto hC 21 dX5_noTool_17 (by decide) ?_
    exact X_zret hC hz0 hz1 rfl dX5_noTool_21 rfl
theorem dX5_noScholar_0 : decode cX5_noScholar 0 = .ok (.iload_n 1, 1) := by decide +kernel
theorem dX5_noScholar_1 : decode cX5_noScholar 1 = .ok (.iconst 0, 1) := by decide +kernel
theorem dX5_noScholar_2 : decode cX5_noScholar 2 = .ok (.aload_n 0, 1) := by decide +kernel
theorem dX5_noScholar_3 : decode cX5_noScholar 3 = .ok (.getfield 7, 3) := by decide +kernel
theorem dX5_noScholar_6 : decode cX5_noScholar 6 = .ok (.iconst 1, 1) := by decide +kernel
theorem dX5_noScholar_7 : decode cX5_noScholar 7 = .ok (.iaload, 1) := by decide +kernel
theorem dX5_noScholar_8 : decode cX5_noScholar 8 = .ok (.iconst 1, 1) := by decide +kernel
theorem dX5_noScholar_9 : decode cX5_noScholar 9 = .ok (.isub, 1) := by decide +kernel
theorem dX5_noScholar_10 : decode cX5_noScholar 10 = .ok (.invokestatic 30, 3) := by decide +kernel
theorem dX5_noScholar_13 : decode cX5_noScholar 13 = .ok (.ifCond .ne 7, 3) := by decide +kernel
theorem dX5_noScholar_16 : decode cX5_noScholar 16 = .ok (.iconst 1, 1) := by decide +kernel
theorem dX5_noScholar_17 : decode cX5_noScholar 17 = .ok (.goto 4, 3) := by decide +kernel
theorem dX5_noScholar_20 : decode cX5_noScholar 20 = .ok (.iconst 0, 1) := by decide +kernel
theorem dX5_noScholar_21 : decode cX5_noScholar 21 = .ok (.ireturn, 1) := by decide +kernel
def f_X5_noScholar (σ : Sg)  (p1 : Int32) : Option (Int32) := gd (inb (1 : Int32) 624) ((f_X5_in σ p1 (0 : Int32) ((σ.2 0 (ix (1 : Int32))) - (1 : Int32))).bind fun r1 => if r1 = 0 then (some (1 : Int32)) else (some (0 : Int32)))
theorem okm_X5_noScholar : okm yX5_noScholar 1 = true := by decide +kernel
set_option maxHeartbeats 4000000 in
set_option maxRecDepth 100000 in
theorem c_X5_noScholar (l : Launch) (G : va_G) (cls : Cls) (ad : Nat → Nat) (hi : inj 6 ad) (σ : Sg)   (p1 : Int32) : MT l (YM G cls ad) yX5_noScholar (.code yX5_noScholar cX5_noScholar 2 (some .boolean) :: gw) 1 22 [.ref (ad 0), .int p1] (fiP σ) σ (f_X5_noScholar σ  p1) := by
  refine MT.of (own := RX5) (by decide) (YM_D hi) rfl (Nat.le_of_ble_eq_true rfl) fun Γ _ hz0 hz1 hC => ?_
  show WX Γ (YM G cls ad) (qf Γ (YM G cls ad) (fiP σ)) 2 0 [(0, .ref (ad 0)), (1, .int p1)] [] σ (f_X5_noScholar σ  p1)
  unfold f_X5_noScholar
  refine X_iload_n hC 1 rfl dX5_noScholar_0 ?_
  refine X_iconst (v := 0) hC (by decide) dX5_noScholar_1 ?_
  refine X_aload_n hC 0 rfl dX5_noScholar_2 ?_
  refine X_getf (C := RX5) (T := TX5) (N := 16) (ci := 5) hC 0 (wM (k := 0) (by omega) cM_ob) rfl hinX5 (by decide) tw_485 rfl rfl dX5_noScholar_3 ?_
  refine X_iconst (v := 1) hC (by decide) dX5_noScholar_6 ?_
  refine X_iald hC (wM (k := 1) (by omega) cM_now) (t0 := 0) rfl dX5_noScholar_7 ?_
  refine X_iconst (v := 1) hC (by decide) dX5_noScholar_8 ?_
  refine X_isub hC dX5_noScholar_9 ?_
  refine X_statP (rest := []) hC (c_X5_in _ G cls ad hi σ p1 (0 : Int32) ((σ.2 0 (ix (1 : Int32))) - (1 : Int32))) (gSt tw_538 tw_539 tw_7 tw_540) rfl okm_X5_in (by decide) dX5_noScholar_10 rfl (Nat.le_of_ble_eq_true rfl) (fun r1 => ?_)
  refine X_if_ne hC 20 dX5_noScholar_13 (by decide) (fun h2 => ?_) (fun h2 => ?_)
  · refine X_iconst (v := 0) hC (by decide) dX5_noScholar_20 ?_
    exact X_zret hC hz0 hz1 rfl dX5_noScholar_21 rfl
  · refine X_iconst (v := 1) hC (by decide) dX5_noScholar_16 ?_
    refine X_goto hC 21 dX5_noScholar_17 (by decide) ?_
    exact X_zret hC hz0 hz1 rfl dX5_noScholar_21 rfl
theorem dX5_noPaper_0 : decode cX5_noPaper 0 = .ok (.iload_n 1, 1) := by decide +kernel
theorem dX5_noPaper_1 : decode cX5_noPaper 1 = .ok (.iconst 0, 1) := by decide +kernel
theorem dX5_noPaper_2 : decode cX5_noPaper 2 = .ok (.aload_n 0, 1) := by decide +kernel
theorem dX5_noPaper_3 : decode cX5_noPaper 3 = .ok (.getfield 7, 3) := by decide +kernel
theorem dX5_noPaper_6 : decode cX5_noPaper 6 = .ok (.iconst 2, 1) := by decide +kernel
theorem dX5_noPaper_7 : decode cX5_noPaper 7 = .ok (.iaload, 1) := by decide +kernel
theorem dX5_noPaper_8 : decode cX5_noPaper 8 = .ok (.iconst 1, 1) := by decide +kernel
theorem dX5_noPaper_9 : decode cX5_noPaper 9 = .ok (.isub, 1) := by decide +kernel
theorem dX5_noPaper_10 : decode cX5_noPaper 10 = .ok (.invokestatic 30, 3) := by decide +kernel
theorem dX5_noPaper_13 : decode cX5_noPaper 13 = .ok (.ifCond .ne 7, 3) := by decide +kernel
theorem dX5_noPaper_16 : decode cX5_noPaper 16 = .ok (.iconst 1, 1) := by decide +kernel
theorem dX5_noPaper_17 : decode cX5_noPaper 17 = .ok (.goto 4, 3) := by decide +kernel
theorem dX5_noPaper_20 : decode cX5_noPaper 20 = .ok (.iconst 0, 1) := by decide +kernel
theorem dX5_noPaper_21 : decode cX5_noPaper 21 = .ok (.ireturn, 1) := by decide +kernel
def f_X5_noPaper (σ : Sg)  (p1 : Int32) : Option (Int32) := gd (inb (2 : Int32) 624) ((f_X5_in σ p1 (0 : Int32) ((σ.2 0 (ix (2 : Int32))) - (1 : Int32))).bind fun r1 => if r1 = 0 then (some (1 : Int32)) else (some (0 : Int32)))
theorem okm_X5_noPaper : okm yX5_noPaper 1 = true := by decide +kernel
set_option maxHeartbeats 4000000 in
set_option maxRecDepth 100000 in
theorem c_X5_noPaper (l : Launch) (G : va_G) (cls : Cls) (ad : Nat → Nat) (hi : inj 6 ad) (σ : Sg)   (p1 : Int32) : MT l (YM G cls ad) yX5_noPaper (.code yX5_noPaper cX5_noPaper 2 (some .boolean) :: gw) 1 22 [.ref (ad 0), .int p1] (fiP σ) σ (f_X5_noPaper σ  p1) := by
  refine MT.of (own := RX5) (by decide) (YM_D hi) rfl (Nat.le_of_ble_eq_true rfl) fun Γ _ hz0 hz1 hC => ?_
  show WX Γ (YM G cls ad) (qf Γ (YM G cls ad) (fiP σ)) 2 0 [(0, .ref (ad 0)), (1, .int p1)] [] σ (f_X5_noPaper σ  p1)
  unfold f_X5_noPaper
  refine X_iload_n hC 1 rfl dX5_noPaper_0 ?_
  refine X_iconst (v := 0) hC (by decide) dX5_noPaper_1 ?_
  refine X_aload_n hC 0 rfl dX5_noPaper_2 ?_
  refine X_getf (C := RX5) (T := TX5) (N := 16) (ci := 5) hC 0 (wM (k := 0) (by omega) cM_ob) rfl hinX5 (by decide) tw_485 rfl rfl dX5_noPaper_3 ?_
  refine X_iconst (v := 2) hC (by decide) dX5_noPaper_6 ?_
  refine X_iald hC (wM (k := 1) (by omega) cM_now) (t0 := 0) rfl dX5_noPaper_7 ?_
  refine X_iconst (v := 1) hC (by decide) dX5_noPaper_8 ?_
  refine X_isub hC dX5_noPaper_9 ?_
  refine X_statP (rest := []) hC (c_X5_in _ G cls ad hi σ p1 (0 : Int32) ((σ.2 0 (ix (2 : Int32))) - (1 : Int32))) (gSt tw_538 tw_539 tw_7 tw_540) rfl okm_X5_in (by decide) dX5_noPaper_10 rfl (Nat.le_of_ble_eq_true rfl) (fun r1 => ?_)
  refine X_if_ne hC 20 dX5_noPaper_13 (by decide) (fun h2 => ?_) (fun h2 => ?_)
  · refine X_iconst (v := 0) hC (by decide) dX5_noPaper_20 ?_
    exact X_zret hC hz0 hz1 rfl dX5_noPaper_21 rfl
  · refine X_iconst (v := 1) hC (by decide) dX5_noPaper_16 ?_
    refine X_goto hC 21 dX5_noPaper_17 (by decide) ?_
    exact X_zret hC hz0 hz1 rfl dX5_noPaper_21 rfl
theorem dX5_tool_0 : decode cX5_tool 0 = .ok (.aload_n 0, 1) := by decide +kernel
theorem dX5_tool_1 : decode cX5_tool 1 = .ok (.getfield 7, 3) := by decide +kernel
theorem dX5_tool_4 : decode cX5_tool 4 = .ok (.iconst 4, 1) := by decide +kernel
theorem dX5_tool_5 : decode cX5_tool 5 = .ok (.bipush 8, 2) := by decide +kernel
theorem dX5_tool_7 : decode cX5_tool 7 = .ok (.iload_n 1, 1) := by decide +kernel
theorem dX5_tool_8 : decode cX5_tool 8 = .ok (.imul, 1) := by decide +kernel
theorem dX5_tool_9 : decode cX5_tool 9 = .ok (.iadd, 1) := by decide +kernel
theorem dX5_tool_10 : decode cX5_tool 10 = .ok (.iload_n 2, 1) := by decide +kernel
theorem dX5_tool_11 : decode cX5_tool 11 = .ok (.iadd, 1) := by decide +kernel
theorem dX5_tool_12 : decode cX5_tool 12 = .ok (.iaload, 1) := by decide +kernel
theorem dX5_tool_13 : decode cX5_tool 13 = .ok (.ireturn, 1) := by decide +kernel
def f_X5_tool (σ : Sg)  (p1 p2 : Int32) : Option (Int32) := gd (inb (((4 : Int32) + ((8 : Int32) * p1)) + p2) 624) (some (σ.2 0 (ix (((4 : Int32) + ((8 : Int32) * p1)) + p2))))
theorem okm_X5_tool : okm yX5_tool 2 = true := by decide +kernel
set_option maxHeartbeats 4000000 in
set_option maxRecDepth 100000 in
theorem c_X5_tool (l : Launch) (G : va_G) (cls : Cls) (ad : Nat → Nat) (hi : inj 6 ad) (σ : Sg)   (p1 p2 : Int32) : MT l (YM G cls ad) yX5_tool (.code yX5_tool cX5_tool 3 (some .int) :: gw) 0 0 [.ref (ad 0), .int p1, .int p2] (fiP σ) σ (f_X5_tool σ  p1 p2) := by
  refine MT.of (own := RX5) (by decide) (YM_D hi) rfl (Nat.le_of_ble_eq_true rfl) fun Γ _ hz0 hz1 hC => ?_
  show WX Γ (YM G cls ad) (qf Γ (YM G cls ad) (fiP σ)) 3 0 [(0, .ref (ad 0)), (1, .int p1), (2, .int p2)] [] σ (f_X5_tool σ  p1 p2)
  unfold f_X5_tool
  refine X_aload_n hC 0 rfl dX5_tool_0 ?_
  refine X_getf (C := RX5) (T := TX5) (N := 16) (ci := 5) hC 0 (wM (k := 0) (by omega) cM_ob) rfl hinX5 (by decide) tw_485 rfl rfl dX5_tool_1 ?_
  refine X_iconst (v := 4) hC (by decide) dX5_tool_4 ?_
  refine X_bipush (v := 8) hC (by decide) dX5_tool_5 ?_
  refine X_iload_n hC 1 rfl dX5_tool_7 ?_
  refine X_imul hC dX5_tool_8 ?_
  refine X_iadd hC dX5_tool_9 ?_
  refine X_iload_n hC 2 rfl dX5_tool_10 ?_
  refine X_iadd hC dX5_tool_11 ?_
  refine X_iald hC (wM (k := 1) (by omega) cM_now) (t0 := 0) rfl dX5_tool_12 ?_
  exact X_iret hC hz0 hz1 dX5_tool_13 rfl
theorem dX5_scholar_0 : decode cX5_scholar 0 = .ok (.aload_n 0, 1) := by decide +kernel
theorem dX5_scholar_1 : decode cX5_scholar 1 = .ok (.getfield 7, 3) := by decide +kernel
theorem dX5_scholar_4 : decode cX5_scholar 4 = .ok (.bipush 84, 2) := by decide +kernel
theorem dX5_scholar_6 : decode cX5_scholar 6 = .ok (.iconst 5, 1) := by decide +kernel
theorem dX5_scholar_7 : decode cX5_scholar 7 = .ok (.iload_n 1, 1) := by decide +kernel
theorem dX5_scholar_8 : decode cX5_scholar 8 = .ok (.imul, 1) := by decide +kernel
theorem dX5_scholar_9 : decode cX5_scholar 9 = .ok (.iadd, 1) := by decide +kernel
theorem dX5_scholar_10 : decode cX5_scholar 10 = .ok (.iload_n 2, 1) := by decide +kernel
theorem dX5_scholar_11 : decode cX5_scholar 11 = .ok (.iadd, 1) := by decide +kernel
theorem dX5_scholar_12 : decode cX5_scholar 12 = .ok (.iaload, 1) := by decide +kernel
theorem dX5_scholar_13 : decode cX5_scholar 13 = .ok (.ireturn, 1) := by decide +kernel
def f_X5_scholar (σ : Sg)  (p1 p2 : Int32) : Option (Int32) := gd (inb (((84 : Int32) + ((5 : Int32) * p1)) + p2) 624) (some (σ.2 0 (ix (((84 : Int32) + ((5 : Int32) * p1)) + p2))))
theorem okm_X5_scholar : okm yX5_scholar 2 = true := by decide +kernel
set_option maxHeartbeats 4000000 in
set_option maxRecDepth 100000 in
theorem c_X5_scholar (l : Launch) (G : va_G) (cls : Cls) (ad : Nat → Nat) (hi : inj 6 ad) (σ : Sg)   (p1 p2 : Int32) : MT l (YM G cls ad) yX5_scholar (.code yX5_scholar cX5_scholar 3 (some .int) :: gw) 0 0 [.ref (ad 0), .int p1, .int p2] (fiP σ) σ (f_X5_scholar σ  p1 p2) := by
  refine MT.of (own := RX5) (by decide) (YM_D hi) rfl (Nat.le_of_ble_eq_true rfl) fun Γ _ hz0 hz1 hC => ?_
  show WX Γ (YM G cls ad) (qf Γ (YM G cls ad) (fiP σ)) 3 0 [(0, .ref (ad 0)), (1, .int p1), (2, .int p2)] [] σ (f_X5_scholar σ  p1 p2)
  unfold f_X5_scholar
  refine X_aload_n hC 0 rfl dX5_scholar_0 ?_
  refine X_getf (C := RX5) (T := TX5) (N := 16) (ci := 5) hC 0 (wM (k := 0) (by omega) cM_ob) rfl hinX5 (by decide) tw_485 rfl rfl dX5_scholar_1 ?_
  refine X_bipush (v := 84) hC (by decide) dX5_scholar_4 ?_
  refine X_iconst (v := 5) hC (by decide) dX5_scholar_6 ?_
  refine X_iload_n hC 1 rfl dX5_scholar_7 ?_
  refine X_imul hC dX5_scholar_8 ?_
  refine X_iadd hC dX5_scholar_9 ?_
  refine X_iload_n hC 2 rfl dX5_scholar_10 ?_
  refine X_iadd hC dX5_scholar_11 ?_
  refine X_iald hC (wM (k := 1) (by omega) cM_now) (t0 := 0) rfl dX5_scholar_12 ?_
  exact X_iret hC hz0 hz1 dX5_scholar_13 rfl
theorem dX5_sheet_0 : decode cX5_sheet 0 = .ok (.aload_n 0, 1) := by decide +kernel
theorem dX5_sheet_1 : decode cX5_sheet 1 = .ok (.getfield 7, 3) := by decide +kernel
theorem dX5_sheet_4 : decode cX5_sheet 4 = .ok (.sipush 144, 3) := by decide +kernel
theorem dX5_sheet_7 : decode cX5_sheet 7 = .ok (.bipush 8, 2) := by decide +kernel
theorem dX5_sheet_9 : decode cX5_sheet 9 = .ok (.iload_n 1, 1) := by decide +kernel
theorem dX5_sheet_10 : decode cX5_sheet 10 = .ok (.imul, 1) := by decide +kernel
theorem dX5_sheet_11 : decode cX5_sheet 11 = .ok (.iadd, 1) := by decide +kernel
theorem dX5_sheet_12 : decode cX5_sheet 12 = .ok (.iload_n 2, 1) := by decide +kernel
theorem dX5_sheet_13 : decode cX5_sheet 13 = .ok (.iadd, 1) := by decide +kernel
theorem dX5_sheet_14 : decode cX5_sheet 14 = .ok (.iaload, 1) := by decide +kernel
theorem dX5_sheet_15 : decode cX5_sheet 15 = .ok (.ireturn, 1) := by decide +kernel
def f_X5_sheet (σ : Sg)  (p1 p2 : Int32) : Option (Int32) := gd (inb (((144 : Int32) + ((8 : Int32) * p1)) + p2) 624) (some (σ.2 0 (ix (((144 : Int32) + ((8 : Int32) * p1)) + p2))))
theorem okm_X5_sheet : okm yX5_sheet 2 = true := by decide +kernel
set_option maxHeartbeats 4000000 in
set_option maxRecDepth 100000 in
theorem c_X5_sheet (l : Launch) (G : va_G) (cls : Cls) (ad : Nat → Nat) (hi : inj 6 ad) (σ : Sg)   (p1 p2 : Int32) : MT l (YM G cls ad) yX5_sheet (.code yX5_sheet cX5_sheet 3 (some .int) :: gw) 0 0 [.ref (ad 0), .int p1, .int p2] (fiP σ) σ (f_X5_sheet σ  p1 p2) := by
  refine MT.of (own := RX5) (by decide) (YM_D hi) rfl (Nat.le_of_ble_eq_true rfl) fun Γ _ hz0 hz1 hC => ?_
  show WX Γ (YM G cls ad) (qf Γ (YM G cls ad) (fiP σ)) 3 0 [(0, .ref (ad 0)), (1, .int p1), (2, .int p2)] [] σ (f_X5_sheet σ  p1 p2)
  unfold f_X5_sheet
  refine X_aload_n hC 0 rfl dX5_sheet_0 ?_
  refine X_getf (C := RX5) (T := TX5) (N := 16) (ci := 5) hC 0 (wM (k := 0) (by omega) cM_ob) rfl hinX5 (by decide) tw_485 rfl rfl dX5_sheet_1 ?_
  refine X_sipush (v := 144) hC (by decide) dX5_sheet_4 ?_
  refine X_bipush (v := 8) hC (by decide) dX5_sheet_7 ?_
  refine X_iload_n hC 1 rfl dX5_sheet_9 ?_
  refine X_imul hC dX5_sheet_10 ?_
  refine X_iadd hC dX5_sheet_11 ?_
  refine X_iload_n hC 2 rfl dX5_sheet_12 ?_
  refine X_iadd hC dX5_sheet_13 ?_
  refine X_iald hC (wM (k := 1) (by omega) cM_now) (t0 := 0) rfl dX5_sheet_14 ?_
  exact X_iret hC hz0 hz1 dX5_sheet_15 rfl
theorem dX5_wide_0 : decode cX5_wide 0 = .ok (.aload_n 0, 1) := by decide +kernel
theorem dX5_wide_1 : decode cX5_wide 1 = .ok (.iload_n 1, 1) := by decide +kernel
theorem dX5_wide_2 : decode cX5_wide 2 = .ok (.iconst 0, 1) := by decide +kernel
theorem dX5_wide_3 : decode cX5_wide 3 = .ok (.invokevirtual 34, 3) := by decide +kernel
theorem dX5_wide_6 : decode cX5_wide 6 = .ok (.aload_n 0, 1) := by decide +kernel
theorem dX5_wide_7 : decode cX5_wide 7 = .ok (.iload_n 1, 1) := by decide +kernel
theorem dX5_wide_8 : decode cX5_wide 8 = .ok (.iconst 1, 1) := by decide +kernel
theorem dX5_wide_9 : decode cX5_wide 9 = .ok (.invokevirtual 34, 3) := by decide +kernel
theorem dX5_wide_12 : decode cX5_wide 12 = .ok (.imul, 1) := by decide +kernel
theorem dX5_wide_13 : decode cX5_wide 13 = .ok (.ireturn, 1) := by decide +kernel
def f_X5_wide (σ : Sg)  (p1 : Int32) : Option (Int32) := (f_X5_tool σ p1 (0 : Int32)).bind fun r1 => (f_X5_tool σ p1 (1 : Int32)).bind fun r2 => some (r1 * r2)
theorem okm_X5_wide : okm yX5_wide 1 = true := by decide +kernel
set_option maxHeartbeats 4000000 in
set_option maxRecDepth 100000 in
theorem c_X5_wide (l : Launch) (G : va_G) (cls : Cls) (ad : Nat → Nat) (hi : inj 6 ad) (σ : Sg)   (p1 : Int32) : MT l (YM G cls ad) yX5_wide (.code yX5_wide cX5_wide 2 (some .int) :: gw) 1 22 [.ref (ad 0), .int p1] (fiP σ) σ (f_X5_wide σ  p1) := by
  refine MT.of (own := RX5) (by decide) (YM_D hi) rfl (Nat.le_of_ble_eq_true rfl) fun Γ _ hz0 hz1 hC => ?_
  show WX Γ (YM G cls ad) (qf Γ (YM G cls ad) (fiP σ)) 2 0 [(0, .ref (ad 0)), (1, .int p1)] [] σ (f_X5_wide σ  p1)
  unfold f_X5_wide
  refine X_aload_n hC 0 rfl dX5_wide_0 ?_
  refine X_iload_n hC 1 rfl dX5_wide_1 ?_
  refine X_iconst (v := 0) hC (by decide) dX5_wide_2 ?_
  refine X_callP (C := RX5) (T := TX5) (N := 16) (ci := 5) (rest := []) hC (c_X5_tool _ G cls ad hi σ p1 (0 : Int32)) (gV tw_560 tw_562 ts_9 tw_7 tw_563) rfl (wM (k := 0) (by omega) cM_ob) rfl rfl okm_X5_tool (by decide) dX5_wide_3 rfl (Nat.le_of_ble_eq_true rfl) (fun r1 => ?_)
  refine X_aload_n hC 0 rfl dX5_wide_6 ?_
  refine X_iload_n hC 1 rfl dX5_wide_7 ?_
  refine X_iconst (v := 1) hC (by decide) dX5_wide_8 ?_
  refine X_callP (C := RX5) (T := TX5) (N := 16) (ci := 5) (rest := [.int r1]) hC (c_X5_tool _ G cls ad hi σ p1 (1 : Int32)) (gV tw_560 tw_562 ts_9 tw_7 tw_563) rfl (wM (k := 0) (by omega) cM_ob) rfl rfl okm_X5_tool (by decide) dX5_wide_9 rfl (Nat.le_of_ble_eq_true rfl) (fun r2 => ?_)
  refine X_imul hC dX5_wide_12 ?_
  exact X_iret hC hz0 hz1 dX5_wide_13 rfl
theorem dX5_addInstrument_0 : decode cX5_addInstrument 0 = .ok (.iload_n 1, 1) := by decide +kernel
theorem dX5_addInstrument_1 : decode cX5_addInstrument 1 = .ok (.iconst 2, 1) := by decide +kernel
theorem dX5_addInstrument_2 : decode cX5_addInstrument 2 = .ok (.bipush 50, 2) := by decide +kernel
theorem dX5_addInstrument_4 : decode cX5_addInstrument 4 = .ok (.invokestatic 30, 3) := by decide +kernel
theorem dX5_addInstrument_7 : decode cX5_addInstrument 7 = .ok (.ifCond .eq 24, 3) := by decide +kernel
theorem dX5_addInstrument_10 : decode cX5_addInstrument 10 = .ok (.iload_n 2, 1) := by decide +kernel
theorem dX5_addInstrument_11 : decode cX5_addInstrument 11 = .ok (.iconst 1, 1) := by decide +kernel
theorem dX5_addInstrument_12 : decode cX5_addInstrument 12 = .ok (.bipush 50, 2) := by decide +kernel
theorem dX5_addInstrument_14 : decode cX5_addInstrument 14 = .ok (.invokestatic 30, 3) := by decide +kernel
theorem dX5_addInstrument_17 : decode cX5_addInstrument 17 = .ok (.ifCond .eq 14, 3) := by decide +kernel
theorem dX5_addInstrument_20 : decode cX5_addInstrument 20 = .ok (.iload_n 3, 1) := by decide +kernel
theorem dX5_addInstrument_21 : decode cX5_addInstrument 21 = .ok (.iconst 2, 1) := by decide +kernel
theorem dX5_addInstrument_22 : decode cX5_addInstrument 22 = .ok (.sipush 200, 3) := by decide +kernel
theorem dX5_addInstrument_25 : decode cX5_addInstrument 25 = .ok (.invokestatic 30, 3) := by decide +kernel
theorem dX5_addInstrument_28 : decode cX5_addInstrument 28 = .ok (.ifCond .ne 6, 3) := by decide +kernel
theorem dX5_addInstrument_31 : decode cX5_addInstrument 31 = .ok (.ldc 38, 2) := by decide +kernel
theorem dX5_addInstrument_33 : decode cX5_addInstrument 33 = .ok (.ireturn, 1) := by decide +kernel
theorem dX5_addInstrument_34 : decode cX5_addInstrument 34 = .ok (.aload_n 0, 1) := by decide +kernel
theorem dX5_addInstrument_35 : decode cX5_addInstrument 35 = .ok (.getfield 7, 3) := by decide +kernel
theorem dX5_addInstrument_38 : decode cX5_addInstrument 38 = .ok (.iconst 0, 1) := by decide +kernel
theorem dX5_addInstrument_39 : decode cX5_addInstrument 39 = .ok (.iaload, 1) := by decide +kernel
theorem dX5_addInstrument_40 : decode cX5_addInstrument 40 = .ok (.bipush 10, 2) := by decide +kernel
theorem dX5_addInstrument_42 : decode cX5_addInstrument 42 = .ok (.if_icmp .ne 6, 3) := by decide +kernel
theorem dX5_addInstrument_45 : decode cX5_addInstrument 45 = .ok (.ldc 39, 2) := by decide +kernel
theorem dX5_addInstrument_47 : decode cX5_addInstrument 47 = .ok (.ireturn, 1) := by decide +kernel
theorem dX5_addInstrument_48 : decode cX5_addInstrument 48 = .ok (.aload_n 0, 1) := by decide +kernel
theorem dX5_addInstrument_49 : decode cX5_addInstrument 49 = .ok (.invokevirtual 40, 3) := by decide +kernel
theorem dX5_addInstrument_52 : decode cX5_addInstrument 52 = .ok (.iconst 4, 1) := by decide +kernel
theorem dX5_addInstrument_53 : decode cX5_addInstrument 53 = .ok (.bipush 8, 2) := by decide +kernel
theorem dX5_addInstrument_55 : decode cX5_addInstrument 55 = .ok (.aload_n 0, 1) := by decide +kernel
theorem dX5_addInstrument_56 : decode cX5_addInstrument 56 = .ok (.getfield 7, 3) := by decide +kernel
theorem dX5_addInstrument_59 : decode cX5_addInstrument 59 = .ok (.iconst 0, 1) := by decide +kernel
theorem dX5_addInstrument_60 : decode cX5_addInstrument 60 = .ok (.iaload, 1) := by decide +kernel
theorem dX5_addInstrument_61 : decode cX5_addInstrument 61 = .ok (.imul, 1) := by decide +kernel
theorem dX5_addInstrument_62 : decode cX5_addInstrument 62 = .ok (.iadd, 1) := by decide +kernel
theorem dX5_addInstrument_63 : decode cX5_addInstrument 63 = .ok (.istore 5, 2) := by decide +kernel
theorem dX5_addInstrument_65 : decode cX5_addInstrument 65 = .ok (.aload_n 0, 1) := by decide +kernel
theorem dX5_addInstrument_66 : decode cX5_addInstrument 66 = .ok (.getfield 7, 3) := by decide +kernel
theorem dX5_addInstrument_69 : decode cX5_addInstrument 69 = .ok (.iload 5, 2) := by decide +kernel
theorem dX5_addInstrument_71 : decode cX5_addInstrument 71 = .ok (.iconst 0, 1) := by decide +kernel
theorem dX5_addInstrument_72 : decode cX5_addInstrument 72 = .ok (.iadd, 1) := by decide +kernel
theorem dX5_addInstrument_73 : decode cX5_addInstrument 73 = .ok (.iload_n 1, 1) := by decide +kernel
theorem dX5_addInstrument_74 : decode cX5_addInstrument 74 = .ok (.iastore, 1) := by decide +kernel
theorem dX5_addInstrument_75 : decode cX5_addInstrument 75 = .ok (.aload_n 0, 1) := by decide +kernel
theorem dX5_addInstrument_76 : decode cX5_addInstrument 76 = .ok (.getfield 7, 3) := by decide +kernel
theorem dX5_addInstrument_79 : decode cX5_addInstrument 79 = .ok (.iload 5, 2) := by decide +kernel
theorem dX5_addInstrument_81 : decode cX5_addInstrument 81 = .ok (.iconst 1, 1) := by decide +kernel
theorem dX5_addInstrument_82 : decode cX5_addInstrument 82 = .ok (.iadd, 1) := by decide +kernel
theorem dX5_addInstrument_83 : decode cX5_addInstrument 83 = .ok (.iload_n 2, 1) := by decide +kernel
theorem dX5_addInstrument_84 : decode cX5_addInstrument 84 = .ok (.iastore, 1) := by decide +kernel
theorem dX5_addInstrument_85 : decode cX5_addInstrument 85 = .ok (.aload_n 0, 1) := by decide +kernel
theorem dX5_addInstrument_86 : decode cX5_addInstrument 86 = .ok (.getfield 7, 3) := by decide +kernel
theorem dX5_addInstrument_89 : decode cX5_addInstrument 89 = .ok (.iload 5, 2) := by decide +kernel
theorem dX5_addInstrument_91 : decode cX5_addInstrument 91 = .ok (.iconst 2, 1) := by decide +kernel
theorem dX5_addInstrument_92 : decode cX5_addInstrument 92 = .ok (.iadd, 1) := by decide +kernel
theorem dX5_addInstrument_93 : decode cX5_addInstrument 93 = .ok (.iload_n 3, 1) := by decide +kernel
theorem dX5_addInstrument_94 : decode cX5_addInstrument 94 = .ok (.iastore, 1) := by decide +kernel
theorem dX5_addInstrument_95 : decode cX5_addInstrument 95 = .ok (.aload_n 0, 1) := by decide +kernel
theorem dX5_addInstrument_96 : decode cX5_addInstrument 96 = .ok (.getfield 7, 3) := by decide +kernel
theorem dX5_addInstrument_99 : decode cX5_addInstrument 99 = .ok (.iload 5, 2) := by decide +kernel
theorem dX5_addInstrument_101 : decode cX5_addInstrument 101 = .ok (.iconst 3, 1) := by decide +kernel
theorem dX5_addInstrument_102 : decode cX5_addInstrument 102 = .ok (.iadd, 1) := by decide +kernel
theorem dX5_addInstrument_103 : decode cX5_addInstrument 103 = .ok (.iload 4, 2) := by decide +kernel
theorem dX5_addInstrument_105 : decode cX5_addInstrument 105 = .ok (.ifCond .eq 7, 3) := by decide +kernel
theorem dX5_addInstrument_108 : decode cX5_addInstrument 108 = .ok (.iconst 1, 1) := by decide +kernel
theorem dX5_addInstrument_109 : decode cX5_addInstrument 109 = .ok (.goto 4, 3) := by decide +kernel
theorem dX5_addInstrument_112 : decode cX5_addInstrument 112 = .ok (.iconst 0, 1) := by decide +kernel
theorem dX5_addInstrument_113 : decode cX5_addInstrument 113 = .ok (.iastore, 1) := by decide +kernel
theorem dX5_addInstrument_114 : decode cX5_addInstrument 114 = .ok (.aload_n 0, 1) := by decide +kernel
theorem dX5_addInstrument_115 : decode cX5_addInstrument 115 = .ok (.getfield 7, 3) := by decide +kernel
theorem dX5_addInstrument_118 : decode cX5_addInstrument 118 = .ok (.iconst 0, 1) := by decide +kernel
theorem dX5_addInstrument_119 : decode cX5_addInstrument 119 = .ok (.dup2, 1) := by decide +kernel
theorem dX5_addInstrument_120 : decode cX5_addInstrument 120 = .ok (.iaload, 1) := by decide +kernel
theorem dX5_addInstrument_121 : decode cX5_addInstrument 121 = .ok (.iconst 1, 1) := by decide +kernel
theorem dX5_addInstrument_122 : decode cX5_addInstrument 122 = .ok (.iadd, 1) := by decide +kernel
theorem dX5_addInstrument_123 : decode cX5_addInstrument 123 = .ok (.iastore, 1) := by decide +kernel
theorem dX5_addInstrument_124 : decode cX5_addInstrument 124 = .ok (.aload_n 0, 1) := by decide +kernel
theorem dX5_addInstrument_125 : decode cX5_addInstrument 125 = .ok (.getfield 7, 3) := by decide +kernel
theorem dX5_addInstrument_128 : decode cX5_addInstrument 128 = .ok (.iconst 0, 1) := by decide +kernel
theorem dX5_addInstrument_129 : decode cX5_addInstrument 129 = .ok (.iaload, 1) := by decide +kernel
theorem dX5_addInstrument_130 : decode cX5_addInstrument 130 = .ok (.iconst 1, 1) := by decide +kernel
theorem dX5_addInstrument_131 : decode cX5_addInstrument 131 = .ok (.isub, 1) := by decide +kernel
theorem dX5_addInstrument_132 : decode cX5_addInstrument 132 = .ok (.ireturn, 1) := by decide +kernel
def f_X5_addInstrument_b113    (σ : Sg) (w0 w1 : Int32) : Option (Int32 × Sg) := gd (inb w1 624) (lts (s2 σ 0 (upd (σ.2 0) (ix w1) w0)) fun σ14 => gd (inb (0 : Int32) 624) (gd (inb (0 : Int32) 624) (lts (s2 σ14 0 (upd (σ14.2 0) (ix (0 : Int32)) ((σ14.2 0 (ix (0 : Int32))) + (1 : Int32)))) fun σ15 => gd (inb (0 : Int32) 624) (some (((σ15.2 0 (ix (0 : Int32))) - (1 : Int32)), σ15)))))
def f_X5_addInstrument (σ : Sg)  (p1 p2 p3 p4 : Int32) : Option (Int32 × Sg) := (f_X5_in σ p1 (2 : Int32) (50 : Int32)).bind fun r1 => if r1 = 0 then (some ((-10000002 : Int32), σ)) else ((f_X5_in σ p2 (1 : Int32) (50 : Int32)).bind fun r3 => if r3 = 0 then (some ((-10000002 : Int32), σ)) else ((f_X5_in σ p3 (2 : Int32) (200 : Int32)).bind fun r5 => if r5 = 0 then (some ((-10000002 : Int32), σ)) else (gd (inb (0 : Int32) 624) (if (σ.2 0 (ix (0 : Int32))) = (10 : Int32) then (some ((-10000003 : Int32), σ)) else ((f_X5_record σ).bind fun σ8 => gd (inb (0 : Int32) 624) (lt ((4 : Int32) + ((8 : Int32) * (σ8.2 0 (ix (0 : Int32))))) fun x9 => gd (inb (x9 + (0 : Int32)) 624) (lts (s2 σ8 0 (upd (σ8.2 0) (ix (x9 + (0 : Int32))) p1)) fun σ10 => gd (inb (x9 + (1 : Int32)) 624) (lts (s2 σ10 0 (upd (σ10.2 0) (ix (x9 + (1 : Int32))) p2)) fun σ11 => gd (inb (x9 + (2 : Int32)) 624) (lts (s2 σ11 0 (upd (σ11.2 0) (ix (x9 + (2 : Int32))) p3)) fun σ12 => if p4 = 0 then (f_X5_addInstrument_b113 σ12 (0 : Int32) (x9 + (3 : Int32))) else (f_X5_addInstrument_b113 σ12 (1 : Int32) (x9 + (3 : Int32))))))))))))
set_option maxHeartbeats 4000000 in
set_option maxRecDepth 100000 in
theorem L_X5_addInstrument_b113 {Γ : Cx} (G : va_G) (cls : Cls) (ad : Nat → Nat) (hi : inj 6 ad) (hC : CX Γ (YM G cls ad) cX5_addInstrument RX5 6 (some .int) 1 22) (hz0 : Γ.2.2.2.2.2.1 = 0) (hz1 : Γ.2.2.2.2.2.2 = 0)     (σ : Sg) (w0 w1 : Int32) : WX Γ (YM G cls ad) (qf Γ (YM G cls ad) fiS) 6 113 [(0, .ref (ad 0))] [.int w0, .int w1, .ref (ad 1)] σ (f_X5_addInstrument_b113   σ w0 w1) := by
  unfold f_X5_addInstrument_b113
  refine X_iast hC (wM (k := 1) (by omega) cM_now) (t0 := 0) rfl (aM_now _) dX5_addInstrument_113 (X_lts fun σ14 => ?_)
  refine X_aload_n hC 0 rfl dX5_addInstrument_114 ?_
  refine X_getf (C := RX5) (T := TX5) (N := 16) (ci := 5) hC 0 (wM (k := 0) (by omega) cM_ob) rfl hinX5 (by decide) tw_485 rfl rfl dX5_addInstrument_115 ?_
  refine X_iconst (v := 0) hC (by decide) dX5_addInstrument_118 ?_
  refine X_dup2 hC rfl rfl dX5_addInstrument_119 ?_
  refine X_iald hC (wM (k := 1) (by omega) cM_now) (t0 := 0) rfl dX5_addInstrument_120 ?_
  refine X_iconst (v := 1) hC (by decide) dX5_addInstrument_121 ?_
  refine X_iadd hC dX5_addInstrument_122 ?_
  refine X_iast hC (wM (k := 1) (by omega) cM_now) (t0 := 0) rfl (aM_now _) dX5_addInstrument_123 (X_lts fun σ15 => ?_)
  refine X_aload_n hC 0 rfl dX5_addInstrument_124 ?_
  refine X_getf (C := RX5) (T := TX5) (N := 16) (ci := 5) hC 0 (wM (k := 0) (by omega) cM_ob) rfl hinX5 (by decide) tw_485 rfl rfl dX5_addInstrument_125 ?_
  refine X_iconst (v := 0) hC (by decide) dX5_addInstrument_128 ?_
  refine X_iald hC (wM (k := 1) (by omega) cM_now) (t0 := 0) rfl dX5_addInstrument_129 ?_
  refine X_iconst (v := 1) hC (by decide) dX5_addInstrument_130 ?_
  refine X_isub hC dX5_addInstrument_131 ?_
  exact X_iret hC hz0 hz1 dX5_addInstrument_132 rfl
theorem okm_X5_addInstrument : okm yX5_addInstrument 4 = true := by decide +kernel
set_option maxHeartbeats 4000000 in
set_option maxRecDepth 100000 in
theorem c_X5_addInstrument (l : Launch) (G : va_G) (cls : Cls) (ad : Nat → Nat) (hi : inj 6 ad) (σ : Sg)   (p1 p2 p3 p4 : Int32) : MT l (YM G cls ad) yX5_addInstrument (.code yX5_addInstrument cX5_addInstrument 6 (some .int) :: gw) 1 22 [.ref (ad 0), .int p1, .int p2, .int p3, .int p4] fiS σ (f_X5_addInstrument σ  p1 p2 p3 p4) := by
  refine MT.of (own := RX5) (by decide) (YM_D hi) rfl (Nat.le_of_ble_eq_true rfl) fun Γ _ hz0 hz1 hC => ?_
  show WX Γ (YM G cls ad) (qf Γ (YM G cls ad) fiS) 6 0 [(0, .ref (ad 0)), (1, .int p1), (2, .int p2), (3, .int p3), (4, .int p4)] [] σ (f_X5_addInstrument σ  p1 p2 p3 p4)
  unfold f_X5_addInstrument
  refine X_iload_n hC 1 rfl dX5_addInstrument_0 ?_
  refine X_iconst (v := 2) hC (by decide) dX5_addInstrument_1 ?_
  refine X_bipush (v := 50) hC (by decide) dX5_addInstrument_2 ?_
  refine X_statP (rest := []) hC (c_X5_in _ G cls ad hi σ p1 (2 : Int32) (50 : Int32)) (gSt tw_538 tw_539 tw_7 tw_540) rfl okm_X5_in (by decide) dX5_addInstrument_4 rfl (Nat.le_of_ble_eq_true rfl) (fun r1 => ?_)
  refine X_if_eq hC 31 dX5_addInstrument_7 (by decide) (fun h2 => ?_) (fun h2 => ?_)
  · refine X_ldc (v := -10000002) hC tw_541 dX5_addInstrument_31 ?_
    exact X_iret hC hz0 hz1 dX5_addInstrument_33 rfl
  · refine X_iload_n hC 2 rfl dX5_addInstrument_10 ?_
    refine X_iconst (v := 1) hC (by decide) dX5_addInstrument_11 ?_
    refine X_bipush (v := 50) hC (by decide) dX5_addInstrument_12 ?_
    refine X_statP (rest := []) hC (c_X5_in _ G cls ad hi σ p2 (1 : Int32) (50 : Int32)) (gSt tw_538 tw_539 tw_7 tw_540) rfl okm_X5_in (by decide) dX5_addInstrument_14 rfl (Nat.le_of_ble_eq_true rfl) (fun r3 => ?_)
    refine X_if_eq hC 31 dX5_addInstrument_17 (by decide) (fun h4 => ?_) (fun h4 => ?_)
    · refine X_ldc (v := -10000002) hC tw_541 dX5_addInstrument_31 ?_
      exact X_iret hC hz0 hz1 dX5_addInstrument_33 rfl
    · refine X_iload_n hC 3 rfl dX5_addInstrument_20 ?_
      refine X_iconst (v := 2) hC (by decide) dX5_addInstrument_21 ?_
      refine X_sipush (v := 200) hC (by decide) dX5_addInstrument_22 ?_
      refine X_statP (rest := []) hC (c_X5_in _ G cls ad hi σ p3 (2 : Int32) (200 : Int32)) (gSt tw_538 tw_539 tw_7 tw_540) rfl okm_X5_in (by decide) dX5_addInstrument_25 rfl (Nat.le_of_ble_eq_true rfl) (fun r5 => ?_)
      refine X_if_ne hC 34 dX5_addInstrument_28 (by decide) (fun h6 => ?_) (fun h6 => ?_)
      · refine X_aload_n hC 0 rfl dX5_addInstrument_34 ?_
        refine X_getf (C := RX5) (T := TX5) (N := 16) (ci := 5) hC 0 (wM (k := 0) (by omega) cM_ob) rfl hinX5 (by decide) tw_485 rfl rfl dX5_addInstrument_35 ?_
        refine X_iconst (v := 0) hC (by decide) dX5_addInstrument_38 ?_
        refine X_iald hC (wM (k := 1) (by omega) cM_now) (t0 := 0) rfl dX5_addInstrument_39 ?_
        refine X_bipush (v := 10) hC (by decide) dX5_addInstrument_40 ?_
        refine X_icmp_ne hC 48 dX5_addInstrument_42 (by decide) (fun h7 => ?_) (fun h7 => ?_)
        · refine X_aload_n hC 0 rfl dX5_addInstrument_48 ?_
          refine X_callV (C := RX5) (T := TX5) (N := 16) (ci := 5) (rest := []) hC (c_X5_record _ G cls ad hi σ) (gV tw_543 tw_545 ts_6 tw_7 tw_546) rfl (wM (k := 0) (by omega) cM_ob) rfl rfl okm_X5_record (by decide) dX5_addInstrument_49 rfl (Nat.le_of_ble_eq_true rfl) (fun σ8 => ?_)
          refine X_iconst (v := 4) hC (by decide) dX5_addInstrument_52 ?_
          refine X_bipush (v := 8) hC (by decide) dX5_addInstrument_53 ?_
          refine X_aload_n hC 0 rfl dX5_addInstrument_55 ?_
          refine X_getf (C := RX5) (T := TX5) (N := 16) (ci := 5) hC 0 (wM (k := 0) (by omega) cM_ob) rfl hinX5 (by decide) tw_485 rfl rfl dX5_addInstrument_56 ?_
          refine X_iconst (v := 0) hC (by decide) dX5_addInstrument_59 ?_
          refine X_iald hC (wM (k := 1) (by omega) cM_now) (t0 := 0) rfl dX5_addInstrument_60 ?_
          refine X_imul hC dX5_addInstrument_61 ?_
          refine X_iadd hC dX5_addInstrument_62 ?_
          refine X_lt (fun x9 => ?_)
          refine X_istore (ls' := [(5, .int x9), (0, .ref (ad 0)), (1, .int p1), (2, .int p2), (3, .int p3), (4, .int p4)]) hC dX5_addInstrument_63 (by decide) rfl ?_
          refine X_aload_n hC 1 rfl dX5_addInstrument_65 ?_
          refine X_getf (C := RX5) (T := TX5) (N := 16) (ci := 5) hC 0 (wM (k := 0) (by omega) cM_ob) rfl hinX5 (by decide) tw_485 rfl rfl dX5_addInstrument_66 ?_
          refine X_iload hC 0 rfl dX5_addInstrument_69 ?_
          refine X_iconst (v := 0) hC (by decide) dX5_addInstrument_71 ?_
          refine X_iadd hC dX5_addInstrument_72 ?_
          refine X_iload_n hC 2 rfl dX5_addInstrument_73 ?_
          refine X_iast hC (wM (k := 1) (by omega) cM_now) (t0 := 0) rfl (aM_now _) dX5_addInstrument_74 (X_lts fun σ10 => ?_)
          refine X_aload_n hC 1 rfl dX5_addInstrument_75 ?_
          refine X_getf (C := RX5) (T := TX5) (N := 16) (ci := 5) hC 0 (wM (k := 0) (by omega) cM_ob) rfl hinX5 (by decide) tw_485 rfl rfl dX5_addInstrument_76 ?_
          refine X_iload hC 0 rfl dX5_addInstrument_79 ?_
          refine X_iconst (v := 1) hC (by decide) dX5_addInstrument_81 ?_
          refine X_iadd hC dX5_addInstrument_82 ?_
          refine X_iload_n hC 3 rfl dX5_addInstrument_83 ?_
          refine X_iast hC (wM (k := 1) (by omega) cM_now) (t0 := 0) rfl (aM_now _) dX5_addInstrument_84 (X_lts fun σ11 => ?_)
          refine X_aload_n hC 1 rfl dX5_addInstrument_85 ?_
          refine X_getf (C := RX5) (T := TX5) (N := 16) (ci := 5) hC 0 (wM (k := 0) (by omega) cM_ob) rfl hinX5 (by decide) tw_485 rfl rfl dX5_addInstrument_86 ?_
          refine X_iload hC 0 rfl dX5_addInstrument_89 ?_
          refine X_iconst (v := 2) hC (by decide) dX5_addInstrument_91 ?_
          refine X_iadd hC dX5_addInstrument_92 ?_
          refine X_iload_n hC 4 rfl dX5_addInstrument_93 ?_
          refine X_iast hC (wM (k := 1) (by omega) cM_now) (t0 := 0) rfl (aM_now _) dX5_addInstrument_94 (X_lts fun σ12 => ?_)
          refine X_aload_n hC 1 rfl dX5_addInstrument_95 ?_
          refine X_getf (C := RX5) (T := TX5) (N := 16) (ci := 5) hC 0 (wM (k := 0) (by omega) cM_ob) rfl hinX5 (by decide) tw_485 rfl rfl dX5_addInstrument_96 ?_
          refine X_iload hC 0 rfl dX5_addInstrument_99 ?_
          refine X_iconst (v := 3) hC (by decide) dX5_addInstrument_101 ?_
          refine X_iadd hC dX5_addInstrument_102 ?_
          refine X_iload hC 5 rfl dX5_addInstrument_103 ?_
          refine X_if_eq hC 112 dX5_addInstrument_105 (by decide) (fun h13 => ?_) (fun h13 => ?_)
          · refine X_iconst (v := 0) hC (by decide) dX5_addInstrument_112 ?_
            exact X_sub [1] rfl (L_X5_addInstrument_b113 G cls ad hi hC hz0 hz1 σ12 (0 : Int32) (x9 + (3 : Int32)))
          · refine X_iconst (v := 1) hC (by decide) dX5_addInstrument_108 ?_
            refine X_goto hC 113 dX5_addInstrument_109 (by decide) ?_
            exact X_sub [1] rfl (L_X5_addInstrument_b113 G cls ad hi hC hz0 hz1 σ12 (1 : Int32) (x9 + (3 : Int32)))
        · refine X_ldc (v := -10000003) hC tw_542 dX5_addInstrument_45 ?_
          exact X_iret hC hz0 hz1 dX5_addInstrument_47 rfl
      · refine X_ldc (v := -10000002) hC tw_541 dX5_addInstrument_31 ?_
        exact X_iret hC hz0 hz1 dX5_addInstrument_33 rfl
theorem dX5_adjust_0 : decode cX5_adjust 0 = .ok (.aload_n 0, 1) := by decide +kernel
theorem dX5_adjust_1 : decode cX5_adjust 1 = .ok (.iload_n 1, 1) := by decide +kernel
theorem dX5_adjust_2 : decode cX5_adjust 2 = .ok (.invokevirtual 43, 3) := by decide +kernel
theorem dX5_adjust_5 : decode cX5_adjust 5 = .ok (.ifCond .eq 6, 3) := by decide +kernel
theorem dX5_adjust_8 : decode cX5_adjust 8 = .ok (.ldc 47, 2) := by decide +kernel
theorem dX5_adjust_10 : decode cX5_adjust 10 = .ok (.ireturn, 1) := by decide +kernel
theorem dX5_adjust_11 : decode cX5_adjust 11 = .ok (.iload_n 2, 1) := by decide +kernel
theorem dX5_adjust_12 : decode cX5_adjust 12 = .ok (.aload_n 0, 1) := by decide +kernel
theorem dX5_adjust_13 : decode cX5_adjust 13 = .ok (.iload_n 1, 1) := by decide +kernel
theorem dX5_adjust_14 : decode cX5_adjust 14 = .ok (.invokevirtual 48, 3) := by decide +kernel
theorem dX5_adjust_17 : decode cX5_adjust 17 = .ok (.ineg, 1) := by decide +kernel
theorem dX5_adjust_18 : decode cX5_adjust 18 = .ok (.aload_n 0, 1) := by decide +kernel
theorem dX5_adjust_19 : decode cX5_adjust 19 = .ok (.iload_n 1, 1) := by decide +kernel
theorem dX5_adjust_20 : decode cX5_adjust 20 = .ok (.invokevirtual 48, 3) := by decide +kernel
theorem dX5_adjust_23 : decode cX5_adjust 23 = .ok (.invokestatic 30, 3) := by decide +kernel
theorem dX5_adjust_26 : decode cX5_adjust 26 = .ok (.ifCond .eq 13, 3) := by decide +kernel
theorem dX5_adjust_29 : decode cX5_adjust 29 = .ok (.iload_n 3, 1) := by decide +kernel
theorem dX5_adjust_30 : decode cX5_adjust 30 = .ok (.iconst 0, 1) := by decide +kernel
theorem dX5_adjust_31 : decode cX5_adjust 31 = .ok (.bipush 20, 2) := by decide +kernel
theorem dX5_adjust_33 : decode cX5_adjust 33 = .ok (.invokestatic 30, 3) := by decide +kernel
theorem dX5_adjust_36 : decode cX5_adjust 36 = .ok (.ifCond .ne 6, 3) := by decide +kernel
theorem dX5_adjust_39 : decode cX5_adjust 39 = .ok (.ldc 38, 2) := by decide +kernel
theorem dX5_adjust_41 : decode cX5_adjust 41 = .ok (.ireturn, 1) := by decide +kernel
theorem dX5_adjust_42 : decode cX5_adjust 42 = .ok (.aload_n 0, 1) := by decide +kernel
theorem dX5_adjust_43 : decode cX5_adjust 43 = .ok (.iload_n 1, 1) := by decide +kernel
theorem dX5_adjust_44 : decode cX5_adjust 44 = .ok (.iconst 4, 1) := by decide +kernel
theorem dX5_adjust_45 : decode cX5_adjust 45 = .ok (.invokevirtual 34, 3) := by decide +kernel
theorem dX5_adjust_48 : decode cX5_adjust 48 = .ok (.istore 4, 2) := by decide +kernel
theorem dX5_adjust_50 : decode cX5_adjust 50 = .ok (.iload 4, 2) := by decide +kernel
theorem dX5_adjust_52 : decode cX5_adjust 52 = .ok (.iload_n 2, 1) := by decide +kernel
theorem dX5_adjust_53 : decode cX5_adjust 53 = .ok (.if_icmp .ne 16, 3) := by decide +kernel
theorem dX5_adjust_56 : decode cX5_adjust 56 = .ok (.aload_n 0, 1) := by decide +kernel
theorem dX5_adjust_57 : decode cX5_adjust 57 = .ok (.iload_n 1, 1) := by decide +kernel
theorem dX5_adjust_58 : decode cX5_adjust 58 = .ok (.iconst 5, 1) := by decide +kernel
theorem dX5_adjust_59 : decode cX5_adjust 59 = .ok (.invokevirtual 34, 3) := by decide +kernel
theorem dX5_adjust_62 : decode cX5_adjust 62 = .ok (.iload_n 3, 1) := by decide +kernel
theorem dX5_adjust_63 : decode cX5_adjust 63 = .ok (.if_icmp .ne 6, 3) := by decide +kernel
theorem dX5_adjust_66 : decode cX5_adjust 66 = .ok (.ldc 52, 2) := by decide +kernel
theorem dX5_adjust_68 : decode cX5_adjust 68 = .ok (.ireturn, 1) := by decide +kernel
theorem dX5_adjust_69 : decode cX5_adjust 69 = .ok (.aload_n 0, 1) := by decide +kernel
theorem dX5_adjust_70 : decode cX5_adjust 70 = .ok (.invokevirtual 40, 3) := by decide +kernel
theorem dX5_adjust_73 : decode cX5_adjust 73 = .ok (.aload_n 0, 1) := by decide +kernel
theorem dX5_adjust_74 : decode cX5_adjust 74 = .ok (.getfield 7, 3) := by decide +kernel
theorem dX5_adjust_77 : decode cX5_adjust 77 = .ok (.iconst 4, 1) := by decide +kernel
theorem dX5_adjust_78 : decode cX5_adjust 78 = .ok (.bipush 8, 2) := by decide +kernel
theorem dX5_adjust_80 : decode cX5_adjust 80 = .ok (.iload_n 1, 1) := by decide +kernel
theorem dX5_adjust_81 : decode cX5_adjust 81 = .ok (.imul, 1) := by decide +kernel
theorem dX5_adjust_82 : decode cX5_adjust 82 = .ok (.iadd, 1) := by decide +kernel
theorem dX5_adjust_83 : decode cX5_adjust 83 = .ok (.iconst 4, 1) := by decide +kernel
theorem dX5_adjust_84 : decode cX5_adjust 84 = .ok (.iadd, 1) := by decide +kernel
theorem dX5_adjust_85 : decode cX5_adjust 85 = .ok (.iload_n 2, 1) := by decide +kernel
theorem dX5_adjust_86 : decode cX5_adjust 86 = .ok (.iastore, 1) := by decide +kernel
theorem dX5_adjust_87 : decode cX5_adjust 87 = .ok (.aload_n 0, 1) := by decide +kernel
theorem dX5_adjust_88 : decode cX5_adjust 88 = .ok (.getfield 7, 3) := by decide +kernel
theorem dX5_adjust_91 : decode cX5_adjust 91 = .ok (.iconst 4, 1) := by decide +kernel
theorem dX5_adjust_92 : decode cX5_adjust 92 = .ok (.bipush 8, 2) := by decide +kernel
theorem dX5_adjust_94 : decode cX5_adjust 94 = .ok (.iload_n 1, 1) := by decide +kernel
theorem dX5_adjust_95 : decode cX5_adjust 95 = .ok (.imul, 1) := by decide +kernel
theorem dX5_adjust_96 : decode cX5_adjust 96 = .ok (.iadd, 1) := by decide +kernel
theorem dX5_adjust_97 : decode cX5_adjust 97 = .ok (.iconst 5, 1) := by decide +kernel
theorem dX5_adjust_98 : decode cX5_adjust 98 = .ok (.iadd, 1) := by decide +kernel
theorem dX5_adjust_99 : decode cX5_adjust 99 = .ok (.iload_n 3, 1) := by decide +kernel
theorem dX5_adjust_100 : decode cX5_adjust 100 = .ok (.iastore, 1) := by decide +kernel
theorem dX5_adjust_101 : decode cX5_adjust 101 = .ok (.iload 4, 2) := by decide +kernel
theorem dX5_adjust_103 : decode cX5_adjust 103 = .ok (.ireturn, 1) := by decide +kernel
def f_X5_adjust_b69    (σ : Sg) (v1 v2 v3 v4 : Int32) : Option (Int32 × Sg) := (f_X5_record σ).bind fun σ11 => gd (inb (((4 : Int32) + ((8 : Int32) * v1)) + (4 : Int32)) 624) (lts (s2 σ11 0 (upd (σ11.2 0) (ix (((4 : Int32) + ((8 : Int32) * v1)) + (4 : Int32))) v2)) fun σ12 => gd (inb (((4 : Int32) + ((8 : Int32) * v1)) + (5 : Int32)) 624) (lts (s2 σ12 0 (upd (σ12.2 0) (ix (((4 : Int32) + ((8 : Int32) * v1)) + (5 : Int32))) v3)) fun σ13 => some (v4, σ13)))
def f_X5_adjust (σ : Sg)  (p1 p2 p3 : Int32) : Option (Int32 × Sg) := (f_X5_noTool σ p1).bind fun r1 => if r1 = 0 then ((f_X5_wide σ p1).bind fun r3 => (f_X5_wide σ p1).bind fun r4 => (f_X5_in σ p2 (-r3) r4).bind fun r5 => if r5 = 0 then (some ((-10000002 : Int32), σ)) else ((f_X5_in σ p3 (0 : Int32) (20 : Int32)).bind fun r7 => if r7 = 0 then (some ((-10000002 : Int32), σ)) else ((f_X5_tool σ p1 (4 : Int32)).bind fun r9 => if r9 = p2 then ((f_X5_tool σ p1 (5 : Int32)).bind fun r14 => if r14 = p3 then (some ((-10000005 : Int32), σ)) else (f_X5_adjust_b69 σ p1 p2 p3 r9)) else (f_X5_adjust_b69 σ p1 p2 p3 r9)))) else (some ((-10000001 : Int32), σ))
set_option maxHeartbeats 4000000 in
set_option maxRecDepth 100000 in
theorem L_X5_adjust_b69 {Γ : Cx} (G : va_G) (cls : Cls) (ad : Nat → Nat) (hi : inj 6 ad) (hC : CX Γ (YM G cls ad) cX5_adjust RX5 5 (some .int) 2 43) (hz0 : Γ.2.2.2.2.2.1 = 0) (hz1 : Γ.2.2.2.2.2.2 = 0)     (σ : Sg) (v1 v2 v3 v4 : Int32) : WX Γ (YM G cls ad) (qf Γ (YM G cls ad) fiS) 5 69 [(0, .ref (ad 0)), (1, .int v1), (2, .int v2), (3, .int v3), (4, .int v4)] [] σ (f_X5_adjust_b69   σ v1 v2 v3 v4) := by
  unfold f_X5_adjust_b69
  refine X_aload_n hC 0 rfl dX5_adjust_69 ?_
  refine X_callV (C := RX5) (T := TX5) (N := 16) (ci := 5) (rest := []) hC (c_X5_record _ G cls ad hi σ) (gV tw_543 tw_545 ts_6 tw_7 tw_546) rfl (wM (k := 0) (by omega) cM_ob) rfl rfl okm_X5_record (by decide) dX5_adjust_70 rfl (Nat.le_of_ble_eq_true rfl) (fun σ11 => ?_)
  refine X_aload_n hC 0 rfl dX5_adjust_73 ?_
  refine X_getf (C := RX5) (T := TX5) (N := 16) (ci := 5) hC 0 (wM (k := 0) (by omega) cM_ob) rfl hinX5 (by decide) tw_485 rfl rfl dX5_adjust_74 ?_
  refine X_iconst (v := 4) hC (by decide) dX5_adjust_77 ?_
  refine X_bipush (v := 8) hC (by decide) dX5_adjust_78 ?_
  refine X_iload_n hC 1 rfl dX5_adjust_80 ?_
  refine X_imul hC dX5_adjust_81 ?_
  refine X_iadd hC dX5_adjust_82 ?_
  refine X_iconst (v := 4) hC (by decide) dX5_adjust_83 ?_
  refine X_iadd hC dX5_adjust_84 ?_
  refine X_iload_n hC 2 rfl dX5_adjust_85 ?_
  refine X_iast hC (wM (k := 1) (by omega) cM_now) (t0 := 0) rfl (aM_now _) dX5_adjust_86 (X_lts fun σ12 => ?_)
  refine X_aload_n hC 0 rfl dX5_adjust_87 ?_
  refine X_getf (C := RX5) (T := TX5) (N := 16) (ci := 5) hC 0 (wM (k := 0) (by omega) cM_ob) rfl hinX5 (by decide) tw_485 rfl rfl dX5_adjust_88 ?_
  refine X_iconst (v := 4) hC (by decide) dX5_adjust_91 ?_
  refine X_bipush (v := 8) hC (by decide) dX5_adjust_92 ?_
  refine X_iload_n hC 1 rfl dX5_adjust_94 ?_
  refine X_imul hC dX5_adjust_95 ?_
  refine X_iadd hC dX5_adjust_96 ?_
  refine X_iconst (v := 5) hC (by decide) dX5_adjust_97 ?_
  refine X_iadd hC dX5_adjust_98 ?_
  refine X_iload_n hC 3 rfl dX5_adjust_99 ?_
  refine X_iast hC (wM (k := 1) (by omega) cM_now) (t0 := 0) rfl (aM_now _) dX5_adjust_100 (X_lts fun σ13 => ?_)
  refine X_iload hC 4 rfl dX5_adjust_101 ?_
  exact X_iret hC hz0 hz1 dX5_adjust_103 rfl
theorem okm_X5_adjust : okm yX5_adjust 3 = true := by decide +kernel
set_option maxHeartbeats 4000000 in
set_option maxRecDepth 100000 in
theorem c_X5_adjust (l : Launch) (G : va_G) (cls : Cls) (ad : Nat → Nat) (hi : inj 6 ad) (σ : Sg)   (p1 p2 p3 : Int32) : MT l (YM G cls ad) yX5_adjust (.code yX5_adjust cX5_adjust 5 (some .int) :: gw) 2 43 [.ref (ad 0), .int p1, .int p2, .int p3] fiS σ (f_X5_adjust σ  p1 p2 p3) := by
  refine MT.of (own := RX5) (by decide) (YM_D hi) rfl (Nat.le_of_ble_eq_true rfl) fun Γ _ hz0 hz1 hC => ?_
  show WX Γ (YM G cls ad) (qf Γ (YM G cls ad) fiS) 5 0 [(0, .ref (ad 0)), (1, .int p1), (2, .int p2), (3, .int p3)] [] σ (f_X5_adjust σ  p1 p2 p3)
  unfold f_X5_adjust
  refine X_aload_n hC 0 rfl dX5_adjust_0 ?_
  refine X_iload_n hC 1 rfl dX5_adjust_1 ?_
  refine X_callP (C := RX5) (T := TX5) (N := 16) (ci := 5) (rest := []) hC (c_X5_noTool _ G cls ad hi σ p1) (gV tw_551 tw_553 ts_7 tw_7 tw_554) rfl (wM (k := 0) (by omega) cM_ob) rfl rfl okm_X5_noTool (by decide) dX5_adjust_2 rfl (Nat.le_of_ble_eq_true rfl) (fun r1 => ?_)
  refine X_if_eq hC 11 dX5_adjust_5 (by decide) (fun h2 => ?_) (fun h2 => ?_)
  · refine X_iload_n hC 2 rfl dX5_adjust_11 ?_
    refine X_aload_n hC 0 rfl dX5_adjust_12 ?_
    refine X_iload_n hC 1 rfl dX5_adjust_13 ?_
    refine X_callP (C := RX5) (T := TX5) (N := 16) (ci := 5) (rest := [.int p2]) hC (c_X5_wide _ G cls ad hi σ p1) (gV tw_556 tw_558 ts_8 tw_7 tw_559) rfl (wM (k := 0) (by omega) cM_ob) rfl rfl okm_X5_wide (by decide) dX5_adjust_14 rfl (Nat.le_of_ble_eq_true rfl) (fun r3 => ?_)
    refine X_ineg hC dX5_adjust_17 ?_
    refine X_aload_n hC 0 rfl dX5_adjust_18 ?_
    refine X_iload_n hC 1 rfl dX5_adjust_19 ?_
    refine X_callP (C := RX5) (T := TX5) (N := 16) (ci := 5) (rest := [.int (-r3), .int p2]) hC (c_X5_wide _ G cls ad hi σ p1) (gV tw_556 tw_558 ts_8 tw_7 tw_559) rfl (wM (k := 0) (by omega) cM_ob) rfl rfl okm_X5_wide (by decide) dX5_adjust_20 rfl (Nat.le_of_ble_eq_true rfl) (fun r4 => ?_)
    refine X_statP (rest := []) hC (c_X5_in _ G cls ad hi σ p2 (-r3) r4) (gSt tw_538 tw_539 tw_7 tw_540) rfl okm_X5_in (by decide) dX5_adjust_23 rfl (Nat.le_of_ble_eq_true rfl) (fun r5 => ?_)
    refine X_if_eq hC 39 dX5_adjust_26 (by decide) (fun h6 => ?_) (fun h6 => ?_)
    · refine X_ldc (v := -10000002) hC tw_541 dX5_adjust_39 ?_
      exact X_iret hC hz0 hz1 dX5_adjust_41 rfl
    · refine X_iload_n hC 3 rfl dX5_adjust_29 ?_
      refine X_iconst (v := 0) hC (by decide) dX5_adjust_30 ?_
      refine X_bipush (v := 20) hC (by decide) dX5_adjust_31 ?_
      refine X_statP (rest := []) hC (c_X5_in _ G cls ad hi σ p3 (0 : Int32) (20 : Int32)) (gSt tw_538 tw_539 tw_7 tw_540) rfl okm_X5_in (by decide) dX5_adjust_33 rfl (Nat.le_of_ble_eq_true rfl) (fun r7 => ?_)
      refine X_if_ne hC 42 dX5_adjust_36 (by decide) (fun h8 => ?_) (fun h8 => ?_)
      · refine X_aload_n hC 0 rfl dX5_adjust_42 ?_
        refine X_iload_n hC 1 rfl dX5_adjust_43 ?_
        refine X_iconst (v := 4) hC (by decide) dX5_adjust_44 ?_
        refine X_callP (C := RX5) (T := TX5) (N := 16) (ci := 5) (rest := []) hC (c_X5_tool _ G cls ad hi σ p1 (4 : Int32)) (gV tw_560 tw_562 ts_9 tw_7 tw_563) rfl (wM (k := 0) (by omega) cM_ob) rfl rfl okm_X5_tool (by decide) dX5_adjust_45 rfl (Nat.le_of_ble_eq_true rfl) (fun r9 => ?_)
        refine X_istore (ls' := [(4, .int r9), (0, .ref (ad 0)), (1, .int p1), (2, .int p2), (3, .int p3)]) hC dX5_adjust_48 (by decide) rfl ?_
        refine X_iload hC 0 rfl dX5_adjust_50 ?_
        refine X_iload_n hC 3 rfl dX5_adjust_52 ?_
        refine X_icmp_ne hC 69 dX5_adjust_53 (by decide) (fun h10 => ?_) (fun h10 => ?_)
        · exact X_sub [1, 2, 3, 4, 0] rfl (L_X5_adjust_b69 G cls ad hi hC hz0 hz1 σ p1 p2 p3 r9)
        · refine X_aload_n hC 1 rfl dX5_adjust_56 ?_
          refine X_iload_n hC 2 rfl dX5_adjust_57 ?_
          refine X_iconst (v := 5) hC (by decide) dX5_adjust_58 ?_
          refine X_callP (C := RX5) (T := TX5) (N := 16) (ci := 5) (rest := []) hC (c_X5_tool _ G cls ad hi σ p1 (5 : Int32)) (gV tw_560 tw_562 ts_9 tw_7 tw_563) rfl (wM (k := 0) (by omega) cM_ob) rfl rfl okm_X5_tool (by decide) dX5_adjust_59 rfl (Nat.le_of_ble_eq_true rfl) (fun r14 => ?_)
          refine X_iload_n hC 4 rfl dX5_adjust_62 ?_
          refine X_icmp_ne hC 69 dX5_adjust_63 (by decide) (fun h15 => ?_) (fun h15 => ?_)
          · exact X_sub [1, 2, 3, 4, 0] rfl (L_X5_adjust_b69 G cls ad hi hC hz0 hz1 σ p1 p2 p3 r9)
          · refine X_ldc (v := -10000005) hC tw_564 dX5_adjust_66 ?_
            exact X_iret hC hz0 hz1 dX5_adjust_68 rfl
      · refine X_ldc (v := -10000002) hC tw_541 dX5_adjust_39 ?_
        exact X_iret hC hz0 hz1 dX5_adjust_41 rfl
  · refine X_ldc (v := -10000001) hC tw_555 dX5_adjust_8 ?_
    exact X_iret hC hz0 hz1 dX5_adjust_10 rfl
theorem dX5_setTrap_0 : decode cX5_setTrap 0 = .ok (.aload_n 0, 1) := by decide +kernel
theorem dX5_setTrap_1 : decode cX5_setTrap 1 = .ok (.iload_n 1, 1) := by decide +kernel
theorem dX5_setTrap_2 : decode cX5_setTrap 2 = .ok (.invokevirtual 43, 3) := by decide +kernel
theorem dX5_setTrap_5 : decode cX5_setTrap 5 = .ok (.ifCond .eq 6, 3) := by decide +kernel
theorem dX5_setTrap_8 : decode cX5_setTrap 8 = .ok (.ldc 47, 2) := by decide +kernel
theorem dX5_setTrap_10 : decode cX5_setTrap 10 = .ok (.ireturn, 1) := by decide +kernel
theorem dX5_setTrap_11 : decode cX5_setTrap 11 = .ok (.iload_n 2, 1) := by decide +kernel
theorem dX5_setTrap_12 : decode cX5_setTrap 12 = .ok (.iconst 0, 1) := by decide +kernel
theorem dX5_setTrap_13 : decode cX5_setTrap 13 = .ok (.iconst 3, 1) := by decide +kernel
theorem dX5_setTrap_14 : decode cX5_setTrap 14 = .ok (.invokestatic 30, 3) := by decide +kernel
theorem dX5_setTrap_17 : decode cX5_setTrap 17 = .ok (.ifCond .ne 6, 3) := by decide +kernel
theorem dX5_setTrap_20 : decode cX5_setTrap 20 = .ok (.ldc 38, 2) := by decide +kernel
theorem dX5_setTrap_22 : decode cX5_setTrap 22 = .ok (.ireturn, 1) := by decide +kernel
theorem dX5_setTrap_23 : decode cX5_setTrap 23 = .ok (.aload_n 0, 1) := by decide +kernel
theorem dX5_setTrap_24 : decode cX5_setTrap 24 = .ok (.iload_n 1, 1) := by decide +kernel
theorem dX5_setTrap_25 : decode cX5_setTrap 25 = .ok (.bipush 6, 2) := by decide +kernel
theorem dX5_setTrap_27 : decode cX5_setTrap 27 = .ok (.invokevirtual 34, 3) := by decide +kernel
theorem dX5_setTrap_30 : decode cX5_setTrap 30 = .ok (.istore_n 3, 1) := by decide +kernel
theorem dX5_setTrap_31 : decode cX5_setTrap 31 = .ok (.iload_n 3, 1) := by decide +kernel
theorem dX5_setTrap_32 : decode cX5_setTrap 32 = .ok (.iload_n 2, 1) := by decide +kernel
theorem dX5_setTrap_33 : decode cX5_setTrap 33 = .ok (.if_icmp .ne 6, 3) := by decide +kernel
theorem dX5_setTrap_36 : decode cX5_setTrap 36 = .ok (.ldc 52, 2) := by decide +kernel
theorem dX5_setTrap_38 : decode cX5_setTrap 38 = .ok (.ireturn, 1) := by decide +kernel
theorem dX5_setTrap_39 : decode cX5_setTrap 39 = .ok (.aload_n 0, 1) := by decide +kernel
theorem dX5_setTrap_40 : decode cX5_setTrap 40 = .ok (.invokevirtual 40, 3) := by decide +kernel
theorem dX5_setTrap_43 : decode cX5_setTrap 43 = .ok (.aload_n 0, 1) := by decide +kernel
theorem dX5_setTrap_44 : decode cX5_setTrap 44 = .ok (.getfield 7, 3) := by decide +kernel
theorem dX5_setTrap_47 : decode cX5_setTrap 47 = .ok (.iconst 4, 1) := by decide +kernel
theorem dX5_setTrap_48 : decode cX5_setTrap 48 = .ok (.bipush 8, 2) := by decide +kernel
theorem dX5_setTrap_50 : decode cX5_setTrap 50 = .ok (.iload_n 1, 1) := by decide +kernel
theorem dX5_setTrap_51 : decode cX5_setTrap 51 = .ok (.imul, 1) := by decide +kernel
theorem dX5_setTrap_52 : decode cX5_setTrap 52 = .ok (.iadd, 1) := by decide +kernel
theorem dX5_setTrap_53 : decode cX5_setTrap 53 = .ok (.bipush 6, 2) := by decide +kernel
theorem dX5_setTrap_55 : decode cX5_setTrap 55 = .ok (.iadd, 1) := by decide +kernel
theorem dX5_setTrap_56 : decode cX5_setTrap 56 = .ok (.iload_n 2, 1) := by decide +kernel
theorem dX5_setTrap_57 : decode cX5_setTrap 57 = .ok (.iastore, 1) := by decide +kernel
theorem dX5_setTrap_58 : decode cX5_setTrap 58 = .ok (.aload_n 0, 1) := by decide +kernel
theorem dX5_setTrap_59 : decode cX5_setTrap 59 = .ok (.getfield 7, 3) := by decide +kernel
theorem dX5_setTrap_62 : decode cX5_setTrap 62 = .ok (.iconst 4, 1) := by decide +kernel
theorem dX5_setTrap_63 : decode cX5_setTrap 63 = .ok (.bipush 8, 2) := by decide +kernel
theorem dX5_setTrap_65 : decode cX5_setTrap 65 = .ok (.iload_n 1, 1) := by decide +kernel
theorem dX5_setTrap_66 : decode cX5_setTrap 66 = .ok (.imul, 1) := by decide +kernel
theorem dX5_setTrap_67 : decode cX5_setTrap 67 = .ok (.iadd, 1) := by decide +kernel
theorem dX5_setTrap_68 : decode cX5_setTrap 68 = .ok (.bipush 7, 2) := by decide +kernel
theorem dX5_setTrap_70 : decode cX5_setTrap 70 = .ok (.iadd, 1) := by decide +kernel
theorem dX5_setTrap_71 : decode cX5_setTrap 71 = .ok (.iconst 0, 1) := by decide +kernel
theorem dX5_setTrap_72 : decode cX5_setTrap 72 = .ok (.iastore, 1) := by decide +kernel
theorem dX5_setTrap_73 : decode cX5_setTrap 73 = .ok (.iload_n 3, 1) := by decide +kernel
theorem dX5_setTrap_74 : decode cX5_setTrap 74 = .ok (.ireturn, 1) := by decide +kernel
def f_X5_setTrap (σ : Sg)  (p1 p2 : Int32) : Option (Int32 × Sg) := (f_X5_noTool σ p1).bind fun r1 => if r1 = 0 then ((f_X5_in σ p2 (0 : Int32) (3 : Int32)).bind fun r3 => if r3 = 0 then (some ((-10000002 : Int32), σ)) else ((f_X5_tool σ p1 (6 : Int32)).bind fun r5 => if r5 = p2 then (some ((-10000005 : Int32), σ)) else ((f_X5_record σ).bind fun σ7 => gd (inb (((4 : Int32) + ((8 : Int32) * p1)) + (6 : Int32)) 624) (lts (s2 σ7 0 (upd (σ7.2 0) (ix (((4 : Int32) + ((8 : Int32) * p1)) + (6 : Int32))) p2)) fun σ8 => gd (inb (((4 : Int32) + ((8 : Int32) * p1)) + (7 : Int32)) 624) (lts (s2 σ8 0 (upd (σ8.2 0) (ix (((4 : Int32) + ((8 : Int32) * p1)) + (7 : Int32))) (0 : Int32))) fun σ9 => some (r5, σ9)))))) else (some ((-10000001 : Int32), σ))
theorem okm_X5_setTrap : okm yX5_setTrap 2 = true := by decide +kernel
set_option maxHeartbeats 4000000 in
set_option maxRecDepth 100000 in
theorem c_X5_setTrap (l : Launch) (G : va_G) (cls : Cls) (ad : Nat → Nat) (hi : inj 6 ad) (σ : Sg)   (p1 p2 : Int32) : MT l (YM G cls ad) yX5_setTrap (.code yX5_setTrap cX5_setTrap 4 (some .int) :: gw) 2 43 [.ref (ad 0), .int p1, .int p2] fiS σ (f_X5_setTrap σ  p1 p2) := by
  refine MT.of (own := RX5) (by decide) (YM_D hi) rfl (Nat.le_of_ble_eq_true rfl) fun Γ _ hz0 hz1 hC => ?_
  show WX Γ (YM G cls ad) (qf Γ (YM G cls ad) fiS) 4 0 [(0, .ref (ad 0)), (1, .int p1), (2, .int p2)] [] σ (f_X5_setTrap σ  p1 p2)
  unfold f_X5_setTrap
  refine X_aload_n hC 0 rfl dX5_setTrap_0 ?_
  refine X_iload_n hC 1 rfl dX5_setTrap_1 ?_
  refine X_callP (C := RX5) (T := TX5) (N := 16) (ci := 5) (rest := []) hC (c_X5_noTool _ G cls ad hi σ p1) (gV tw_551 tw_553 ts_7 tw_7 tw_554) rfl (wM (k := 0) (by omega) cM_ob) rfl rfl okm_X5_noTool (by decide) dX5_setTrap_2 rfl (Nat.le_of_ble_eq_true rfl) (fun r1 => ?_)
  refine X_if_eq hC 11 dX5_setTrap_5 (by decide) (fun h2 => ?_) (fun h2 => ?_)
  · refine X_iload_n hC 2 rfl dX5_setTrap_11 ?_
    refine X_iconst (v := 0) hC (by decide) dX5_setTrap_12 ?_
    refine X_iconst (v := 3) hC (by decide) dX5_setTrap_13 ?_
    refine X_statP (rest := []) hC (c_X5_in _ G cls ad hi σ p2 (0 : Int32) (3 : Int32)) (gSt tw_538 tw_539 tw_7 tw_540) rfl okm_X5_in (by decide) dX5_setTrap_14 rfl (Nat.le_of_ble_eq_true rfl) (fun r3 => ?_)
    refine X_if_ne hC 23 dX5_setTrap_17 (by decide) (fun h4 => ?_) (fun h4 => ?_)
    · refine X_aload_n hC 0 rfl dX5_setTrap_23 ?_
      refine X_iload_n hC 1 rfl dX5_setTrap_24 ?_
      refine X_bipush (v := 6) hC (by decide) dX5_setTrap_25 ?_
      refine X_callP (C := RX5) (T := TX5) (N := 16) (ci := 5) (rest := []) hC (c_X5_tool _ G cls ad hi σ p1 (6 : Int32)) (gV tw_560 tw_562 ts_9 tw_7 tw_563) rfl (wM (k := 0) (by omega) cM_ob) rfl rfl okm_X5_tool (by decide) dX5_setTrap_27 rfl (Nat.le_of_ble_eq_true rfl) (fun r5 => ?_)
      refine X_istore_n (ls' := [(3, .int r5), (0, .ref (ad 0)), (1, .int p1), (2, .int p2)]) hC dX5_setTrap_30 (by decide) rfl ?_
      refine X_iload_n hC 0 rfl dX5_setTrap_31 ?_
      refine X_iload_n hC 3 rfl dX5_setTrap_32 ?_
      refine X_icmp_ne hC 39 dX5_setTrap_33 (by decide) (fun h6 => ?_) (fun h6 => ?_)
      · refine X_aload_n hC 1 rfl dX5_setTrap_39 ?_
        refine X_callV (C := RX5) (T := TX5) (N := 16) (ci := 5) (rest := []) hC (c_X5_record _ G cls ad hi σ) (gV tw_543 tw_545 ts_6 tw_7 tw_546) rfl (wM (k := 0) (by omega) cM_ob) rfl rfl okm_X5_record (by decide) dX5_setTrap_40 rfl (Nat.le_of_ble_eq_true rfl) (fun σ7 => ?_)
        refine X_aload_n hC 1 rfl dX5_setTrap_43 ?_
        refine X_getf (C := RX5) (T := TX5) (N := 16) (ci := 5) hC 0 (wM (k := 0) (by omega) cM_ob) rfl hinX5 (by decide) tw_485 rfl rfl dX5_setTrap_44 ?_
        refine X_iconst (v := 4) hC (by decide) dX5_setTrap_47 ?_
        refine X_bipush (v := 8) hC (by decide) dX5_setTrap_48 ?_
        refine X_iload_n hC 2 rfl dX5_setTrap_50 ?_
        refine X_imul hC dX5_setTrap_51 ?_
        refine X_iadd hC dX5_setTrap_52 ?_
        refine X_bipush (v := 6) hC (by decide) dX5_setTrap_53 ?_
        refine X_iadd hC dX5_setTrap_55 ?_
        refine X_iload_n hC 3 rfl dX5_setTrap_56 ?_
        refine X_iast hC (wM (k := 1) (by omega) cM_now) (t0 := 0) rfl (aM_now _) dX5_setTrap_57 (X_lts fun σ8 => ?_)
        refine X_aload_n hC 1 rfl dX5_setTrap_58 ?_
        refine X_getf (C := RX5) (T := TX5) (N := 16) (ci := 5) hC 0 (wM (k := 0) (by omega) cM_ob) rfl hinX5 (by decide) tw_485 rfl rfl dX5_setTrap_59 ?_
        refine X_iconst (v := 4) hC (by decide) dX5_setTrap_62 ?_
        refine X_bipush (v := 8) hC (by decide) dX5_setTrap_63 ?_
        refine X_iload_n hC 2 rfl dX5_setTrap_65 ?_
        refine X_imul hC dX5_setTrap_66 ?_
        refine X_iadd hC dX5_setTrap_67 ?_
        refine X_bipush (v := 7) hC (by decide) dX5_setTrap_68 ?_
        refine X_iadd hC dX5_setTrap_70 ?_
        refine X_iconst (v := 0) hC (by decide) dX5_setTrap_71 ?_
        refine X_iast hC (wM (k := 1) (by omega) cM_now) (t0 := 0) rfl (aM_now _) dX5_setTrap_72 (X_lts fun σ9 => ?_)
        refine X_iload_n hC 0 rfl dX5_setTrap_73 ?_
        exact X_iret hC hz0 hz1 dX5_setTrap_74 rfl
      · refine X_ldc (v := -10000005) hC tw_564 dX5_setTrap_36 ?_
        exact X_iret hC hz0 hz1 dX5_setTrap_38 rfl
    · refine X_ldc (v := -10000002) hC tw_541 dX5_setTrap_20 ?_
      exact X_iret hC hz0 hz1 dX5_setTrap_22 rfl
  · refine X_ldc (v := -10000001) hC tw_555 dX5_setTrap_8 ?_
    exact X_iret hC hz0 hz1 dX5_setTrap_10 rfl
theorem dX5_announce_0 : decode cX5_announce 0 = .ok (.aload_n 0, 1) := by decide +kernel
theorem dX5_announce_1 : decode cX5_announce 1 = .ok (.iload_n 1, 1) := by decide +kernel
theorem dX5_announce_2 : decode cX5_announce 2 = .ok (.invokevirtual 43, 3) := by decide +kernel
theorem dX5_announce_5 : decode cX5_announce 5 = .ok (.ifCond .eq 6, 3) := by decide +kernel
theorem dX5_announce_8 : decode cX5_announce 8 = .ok (.ldc 47, 2) := by decide +kernel
theorem dX5_announce_10 : decode cX5_announce 10 = .ok (.ireturn, 1) := by decide +kernel
theorem dX5_announce_11 : decode cX5_announce 11 = .ok (.aload_n 0, 1) := by decide +kernel
theorem dX5_announce_12 : decode cX5_announce 12 = .ok (.iload_n 1, 1) := by decide +kernel
theorem dX5_announce_13 : decode cX5_announce 13 = .ok (.bipush 6, 2) := by decide +kernel
theorem dX5_announce_15 : decode cX5_announce 15 = .ok (.invokevirtual 34, 3) := by decide +kernel
theorem dX5_announce_18 : decode cX5_announce 18 = .ok (.ifCond .ne 6, 3) := by decide +kernel
theorem dX5_announce_21 : decode cX5_announce 21 = .ok (.ldc 53, 2) := by decide +kernel
theorem dX5_announce_23 : decode cX5_announce 23 = .ok (.ireturn, 1) := by decide +kernel
theorem dX5_announce_24 : decode cX5_announce 24 = .ok (.aload_n 0, 1) := by decide +kernel
theorem dX5_announce_25 : decode cX5_announce 25 = .ok (.iload_n 1, 1) := by decide +kernel
theorem dX5_announce_26 : decode cX5_announce 26 = .ok (.bipush 7, 2) := by decide +kernel
theorem dX5_announce_28 : decode cX5_announce 28 = .ok (.invokevirtual 34, 3) := by decide +kernel
theorem dX5_announce_31 : decode cX5_announce 31 = .ok (.iconst 1, 1) := by decide +kernel
theorem dX5_announce_32 : decode cX5_announce 32 = .ok (.if_icmp .ne 6, 3) := by decide +kernel
theorem dX5_announce_35 : decode cX5_announce 35 = .ok (.ldc 52, 2) := by decide +kernel
theorem dX5_announce_37 : decode cX5_announce 37 = .ok (.ireturn, 1) := by decide +kernel
theorem dX5_announce_38 : decode cX5_announce 38 = .ok (.aload_n 0, 1) := by decide +kernel
theorem dX5_announce_39 : decode cX5_announce 39 = .ok (.invokevirtual 40, 3) := by decide +kernel
theorem dX5_announce_42 : decode cX5_announce 42 = .ok (.aload_n 0, 1) := by decide +kernel
theorem dX5_announce_43 : decode cX5_announce 43 = .ok (.getfield 7, 3) := by decide +kernel
theorem dX5_announce_46 : decode cX5_announce 46 = .ok (.iconst 4, 1) := by decide +kernel
theorem dX5_announce_47 : decode cX5_announce 47 = .ok (.bipush 8, 2) := by decide +kernel
theorem dX5_announce_49 : decode cX5_announce 49 = .ok (.iload_n 1, 1) := by decide +kernel
theorem dX5_announce_50 : decode cX5_announce 50 = .ok (.imul, 1) := by decide +kernel
theorem dX5_announce_51 : decode cX5_announce 51 = .ok (.iadd, 1) := by decide +kernel
theorem dX5_announce_52 : decode cX5_announce 52 = .ok (.bipush 7, 2) := by decide +kernel
theorem dX5_announce_54 : decode cX5_announce 54 = .ok (.iadd, 1) := by decide +kernel
theorem dX5_announce_55 : decode cX5_announce 55 = .ok (.iconst 1, 1) := by decide +kernel
theorem dX5_announce_56 : decode cX5_announce 56 = .ok (.iastore, 1) := by decide +kernel
theorem dX5_announce_57 : decode cX5_announce 57 = .ok (.iconst 1, 1) := by decide +kernel
theorem dX5_announce_58 : decode cX5_announce 58 = .ok (.aload_n 0, 1) := by decide +kernel
theorem dX5_announce_59 : decode cX5_announce 59 = .ok (.iload_n 1, 1) := by decide +kernel
theorem dX5_announce_60 : decode cX5_announce 60 = .ok (.bipush 6, 2) := by decide +kernel
theorem dX5_announce_62 : decode cX5_announce 62 = .ok (.invokevirtual 34, 3) := by decide +kernel
theorem dX5_announce_65 : decode cX5_announce 65 = .ok (.iconst 1, 1) := by decide +kernel
theorem dX5_announce_66 : decode cX5_announce 66 = .ok (.isub, 1) := by decide +kernel
theorem dX5_announce_67 : decode cX5_announce 67 = .ok (.ishl, 1) := by decide +kernel
theorem dX5_announce_68 : decode cX5_announce 68 = .ok (.istore_n 2, 1) := by decide +kernel
theorem dX5_announce_69 : decode cX5_announce 69 = .ok (.iconst 0, 1) := by decide +kernel
theorem dX5_announce_70 : decode cX5_announce 70 = .ok (.istore_n 3, 1) := by decide +kernel
theorem dX5_announce_71 : decode cX5_announce 71 = .ok (.iconst 0, 1) := by decide +kernel
theorem dX5_announce_72 : decode cX5_announce 72 = .ok (.istore 4, 2) := by decide +kernel
theorem dX5_announce_74 : decode cX5_announce 74 = .ok (.iload 4, 2) := by decide +kernel
theorem dX5_announce_76 : decode cX5_announce 76 = .ok (.aload_n 0, 1) := by decide +kernel
theorem dX5_announce_77 : decode cX5_announce 77 = .ok (.getfield 7, 3) := by decide +kernel
theorem dX5_announce_80 : decode cX5_announce 80 = .ok (.iconst 1, 1) := by decide +kernel
theorem dX5_announce_81 : decode cX5_announce 81 = .ok (.iaload, 1) := by decide +kernel
theorem dX5_announce_82 : decode cX5_announce 82 = .ok (.if_icmp .ge 47, 3) := by decide +kernel
theorem dX5_announce_85 : decode cX5_announce 85 = .ok (.iload_n 3, 1) := by decide +kernel
theorem dX5_announce_86 : decode cX5_announce 86 = .ok (.aload_n 0, 1) := by decide +kernel
theorem dX5_announce_87 : decode cX5_announce 87 = .ok (.iload 4, 2) := by decide +kernel
theorem dX5_announce_89 : decode cX5_announce 89 = .ok (.iconst 2, 1) := by decide +kernel
theorem dX5_announce_90 : decode cX5_announce 90 = .ok (.invokevirtual 54, 3) := by decide +kernel
theorem dX5_announce_93 : decode cX5_announce 93 = .ok (.iload_n 2, 1) := by decide +kernel
theorem dX5_announce_94 : decode cX5_announce 94 = .ok (.iand, 1) := by decide +kernel
theorem dX5_announce_95 : decode cX5_announce 95 = .ok (.ifCond .ne 7, 3) := by decide +kernel
theorem dX5_announce_98 : decode cX5_announce 98 = .ok (.iconst 1, 1) := by decide +kernel
theorem dX5_announce_99 : decode cX5_announce 99 = .ok (.goto 4, 3) := by decide +kernel
theorem dX5_announce_102 : decode cX5_announce 102 = .ok (.iconst 0, 1) := by decide +kernel
theorem dX5_announce_103 : decode cX5_announce 103 = .ok (.iadd, 1) := by decide +kernel
theorem dX5_announce_104 : decode cX5_announce 104 = .ok (.istore_n 3, 1) := by decide +kernel
theorem dX5_announce_105 : decode cX5_announce 105 = .ok (.aload_n 0, 1) := by decide +kernel
theorem dX5_announce_106 : decode cX5_announce 106 = .ok (.getfield 7, 3) := by decide +kernel
theorem dX5_announce_109 : decode cX5_announce 109 = .ok (.bipush 84, 2) := by decide +kernel
theorem dX5_announce_111 : decode cX5_announce 111 = .ok (.iconst 5, 1) := by decide +kernel
theorem dX5_announce_112 : decode cX5_announce 112 = .ok (.iload 4, 2) := by decide +kernel
theorem dX5_announce_114 : decode cX5_announce 114 = .ok (.imul, 1) := by decide +kernel
theorem dX5_announce_115 : decode cX5_announce 115 = .ok (.iadd, 1) := by decide +kernel
theorem dX5_announce_116 : decode cX5_announce 116 = .ok (.iconst 2, 1) := by decide +kernel
theorem dX5_announce_117 : decode cX5_announce 117 = .ok (.iadd, 1) := by decide +kernel
theorem dX5_announce_118 : decode cX5_announce 118 = .ok (.dup2, 1) := by decide +kernel
theorem dX5_announce_119 : decode cX5_announce 119 = .ok (.iaload, 1) := by decide +kernel
theorem dX5_announce_120 : decode cX5_announce 120 = .ok (.iload_n 2, 1) := by decide +kernel
theorem dX5_announce_121 : decode cX5_announce 121 = .ok (.ior, 1) := by decide +kernel
theorem dX5_announce_122 : decode cX5_announce 122 = .ok (.iastore, 1) := by decide +kernel
theorem dX5_announce_123 : decode cX5_announce 123 = .ok (.iinc 4 1, 3) := by decide +kernel
theorem dX5_announce_126 : decode cX5_announce 126 = .ok (.goto (-52), 3) := by decide +kernel
theorem dX5_announce_129 : decode cX5_announce 129 = .ok (.iload_n 3, 1) := by decide +kernel
theorem dX5_announce_130 : decode cX5_announce 130 = .ok (.ireturn, 1) := by decide +kernel
def f_X5_announce_b103   (K74 : Sg → Int32 → Int32 → Int32 → Option (Int32 × Sg)) (σ : Sg) (v2 v4 w0 w1 : Int32) : Option (Int32 × Sg) := lt (w1 + w0) fun x14 => gd (inb (((84 : Int32) + ((5 : Int32) * v4)) + (2 : Int32)) 624) (gd (inb (((84 : Int32) + ((5 : Int32) * v4)) + (2 : Int32)) 624) (lts (s2 σ 0 (upd (σ.2 0) (ix (((84 : Int32) + ((5 : Int32) * v4)) + (2 : Int32))) ((σ.2 0 (ix (((84 : Int32) + ((5 : Int32) * v4)) + (2 : Int32)))) ||| v2))) fun σ15 => lt (v4 + (1 : Int32)) fun x16 => K74 σ15 v2 x14 x16))
def f_X5_announce_b74    : Nat → Sg → Int32 → Int32 → Int32 → Option (Int32 × Sg)
  | 0, _, _, _, _ => none
  | n + 1, σ, v2, v3, v4 => gd (inb (1 : Int32) 624) (if (σ.2 0 (ix (1 : Int32))) ≤ v4 then (some (v3, σ)) else ((f_X5_scholar σ v4 (2 : Int32)).bind fun r12 => if (r12 &&& v2) = 0 then (f_X5_announce_b103 (f_X5_announce_b74   n) σ v2 v4 (1 : Int32) v3) else (f_X5_announce_b103 (f_X5_announce_b74   n) σ v2 v4 (0 : Int32) v3)))
def f_X5_announce (σ : Sg)  (p1 : Int32) : Option (Int32 × Sg) := (f_X5_noTool σ p1).bind fun r1 => if r1 = 0 then ((f_X5_tool σ p1 (6 : Int32)).bind fun r3 => if r3 = 0 then (some ((-10000004 : Int32), σ)) else ((f_X5_tool σ p1 (7 : Int32)).bind fun r5 => if r5 = (1 : Int32) then (some ((-10000005 : Int32), σ)) else ((f_X5_record σ).bind fun σ7 => gd (inb (((4 : Int32) + ((8 : Int32) * p1)) + (7 : Int32)) 624) (lts (s2 σ7 0 (upd (σ7.2 0) (ix (((4 : Int32) + ((8 : Int32) * p1)) + (7 : Int32))) (1 : Int32))) fun σ8 => (f_X5_tool σ8 p1 (6 : Int32)).bind fun r9 => lt ((1 : Int32) <<< ((r9 - (1 : Int32)) &&& 31)) fun x10 => f_X5_announce_b74 fuel σ8 x10 (0 : Int32) (0 : Int32))))) else (some ((-10000001 : Int32), σ))
set_option maxHeartbeats 4000000 in
set_option maxRecDepth 100000 in
theorem L_X5_announce_b103 {Γ : Cx} (G : va_G) (cls : Cls) (ad : Nat → Nat) (hi : inj 6 ad) (hC : CX Γ (YM G cls ad) cX5_announce RX5 5 (some .int) 2 43) (hz0 : Γ.2.2.2.2.2.1 = 0) (hz1 : Γ.2.2.2.2.2.2 = 0)    (K74 : Sg → Int32 → Int32 → Int32 → Option (Int32 × Sg)) (hK74 : ∀ (σ : Sg) (v2 v3 v4 : Int32), WX Γ (YM G cls ad) (qf Γ (YM G cls ad) fiS) 5 74 [(0, .ref (ad 0)), (2, .int v2), (3, .int v3), (4, .int v4)] [] σ (K74 σ v2 v3 v4)) (σ : Sg) (v2 v4 w0 w1 : Int32) : WX Γ (YM G cls ad) (qf Γ (YM G cls ad) fiS) 5 103 [(0, .ref (ad 0)), (2, .int v2), (4, .int v4)] [.int w0, .int w1] σ (f_X5_announce_b103  K74 σ v2 v4 w0 w1) := by
  unfold f_X5_announce_b103
  refine X_iadd hC dX5_announce_103 ?_
  refine X_lt (fun x14 => ?_)
  refine X_istore_n (ls' := [(3, .int x14), (0, .ref (ad 0)), (2, .int v2), (4, .int v4)]) hC dX5_announce_104 (by decide) rfl ?_
  refine X_aload_n hC 1 rfl dX5_announce_105 ?_
  refine X_getf (C := RX5) (T := TX5) (N := 16) (ci := 5) hC 0 (wM (k := 0) (by omega) cM_ob) rfl hinX5 (by decide) tw_485 rfl rfl dX5_announce_106 ?_
  refine X_bipush (v := 84) hC (by decide) dX5_announce_109 ?_
  refine X_iconst (v := 5) hC (by decide) dX5_announce_111 ?_
  refine X_iload hC 3 rfl dX5_announce_112 ?_
  refine X_imul hC dX5_announce_114 ?_
  refine X_iadd hC dX5_announce_115 ?_
  refine X_iconst (v := 2) hC (by decide) dX5_announce_116 ?_
  refine X_iadd hC dX5_announce_117 ?_
  refine X_dup2 hC rfl rfl dX5_announce_118 ?_
  refine X_iald hC (wM (k := 1) (by omega) cM_now) (t0 := 0) rfl dX5_announce_119 ?_
  refine X_iload_n hC 2 rfl dX5_announce_120 ?_
  refine X_ior hC dX5_announce_121 ?_
  refine X_iast hC (wM (k := 1) (by omega) cM_now) (t0 := 0) rfl (aM_now _) dX5_announce_122 (X_lts fun σ15 => ?_)
  refine X_iinc (ls' := fun x16 => [(4, .int x16), (3, .int x14), (0, .ref (ad 0)), (2, .int v2)]) hC 3 dX5_announce_123 rfl (by decide) (by decide) (fun _ => rfl) (fun x16 => ?_)
  refine X_goto hC 74 dX5_announce_126 (by decide) ?_
  exact X_sub [2, 3, 1, 0] rfl (hK74 σ15 v2 x14 x16)
set_option maxHeartbeats 4000000 in
set_option maxRecDepth 100000 in
theorem L_X5_announce_b74 {Γ : Cx} (G : va_G) (cls : Cls) (ad : Nat → Nat) (hi : inj 6 ad) (hC : CX Γ (YM G cls ad) cX5_announce RX5 5 (some .int) 2 43) (hz0 : Γ.2.2.2.2.2.1 = 0) (hz1 : Γ.2.2.2.2.2.2 = 0)     : ∀ (n : Nat) (σ : Sg) (v2 v3 v4 : Int32), WX Γ (YM G cls ad) (qf Γ (YM G cls ad) fiS) 5 74 [(0, .ref (ad 0)), (2, .int v2), (3, .int v3), (4, .int v4)] [] σ (f_X5_announce_b74   n σ v2 v3 v4) := by
  intro n
  induction n with
  | zero => intro σ v2 v3 v4; exact X_none
  | succ n ih =>
    intro σ v2 v3 v4
    rw [f_X5_announce_b74.eq_2]
    refine X_iload hC 3 rfl dX5_announce_74 ?_
    refine X_aload_n hC 0 rfl dX5_announce_76 ?_
    refine X_getf (C := RX5) (T := TX5) (N := 16) (ci := 5) hC 0 (wM (k := 0) (by omega) cM_ob) rfl hinX5 (by decide) tw_485 rfl rfl dX5_announce_77 ?_
    refine X_iconst (v := 1) hC (by decide) dX5_announce_80 ?_
    refine X_iald hC (wM (k := 1) (by omega) cM_now) (t0 := 0) rfl dX5_announce_81 ?_
    refine X_icmp_ge hC 129 dX5_announce_82 (by decide) (fun h11 => ?_) (fun h11 => ?_)
    · refine X_iload_n hC 2 rfl dX5_announce_129 ?_
      exact X_iret hC hz0 hz1 dX5_announce_130 rfl
    · refine X_iload_n hC 2 rfl dX5_announce_85 ?_
      refine X_aload_n hC 0 rfl dX5_announce_86 ?_
      refine X_iload hC 3 rfl dX5_announce_87 ?_
      refine X_iconst (v := 2) hC (by decide) dX5_announce_89 ?_
      refine X_callP (C := RX5) (T := TX5) (N := 16) (ci := 5) (rest := [.int v3]) hC (c_X5_scholar _ G cls ad hi σ v4 (2 : Int32)) (gV tw_574 tw_576 ts_10 tw_7 tw_577) rfl (wM (k := 0) (by omega) cM_ob) rfl rfl okm_X5_scholar (by decide) dX5_announce_90 rfl (Nat.le_of_ble_eq_true rfl) (fun r12 => ?_)
      refine X_iload_n hC 1 rfl dX5_announce_93 ?_
      refine X_iand hC dX5_announce_94 ?_
      refine X_if_ne hC 102 dX5_announce_95 (by decide) (fun h13 => ?_) (fun h13 => ?_)
      · refine X_iconst (v := 0) hC (by decide) dX5_announce_102 ?_
        exact X_sub [0, 1, 3] rfl (L_X5_announce_b103 G cls ad hi hC hz0 hz1 (f_X5_announce_b74   n) ih σ v2 v4 (0 : Int32) v3)
      · refine X_iconst (v := 1) hC (by decide) dX5_announce_98 ?_
        refine X_goto hC 103 dX5_announce_99 (by decide) ?_
        exact X_sub [0, 1, 3] rfl (L_X5_announce_b103 G cls ad hi hC hz0 hz1 (f_X5_announce_b74   n) ih σ v2 v4 (1 : Int32) v3)
theorem okm_X5_announce : okm yX5_announce 1 = true := by decide +kernel
set_option maxHeartbeats 4000000 in
set_option maxRecDepth 100000 in
theorem c_X5_announce (l : Launch) (G : va_G) (cls : Cls) (ad : Nat → Nat) (hi : inj 6 ad) (σ : Sg)   (p1 : Int32) : MT l (YM G cls ad) yX5_announce (.code yX5_announce cX5_announce 5 (some .int) :: gw) 2 43 [.ref (ad 0), .int p1] fiS σ (f_X5_announce σ  p1) := by
  refine MT.of (own := RX5) (by decide) (YM_D hi) rfl (Nat.le_of_ble_eq_true rfl) fun Γ _ hz0 hz1 hC => ?_
  show WX Γ (YM G cls ad) (qf Γ (YM G cls ad) fiS) 5 0 [(0, .ref (ad 0)), (1, .int p1)] [] σ (f_X5_announce σ  p1)
  unfold f_X5_announce
  refine X_aload_n hC 0 rfl dX5_announce_0 ?_
  refine X_iload_n hC 1 rfl dX5_announce_1 ?_
  refine X_callP (C := RX5) (T := TX5) (N := 16) (ci := 5) (rest := []) hC (c_X5_noTool _ G cls ad hi σ p1) (gV tw_551 tw_553 ts_7 tw_7 tw_554) rfl (wM (k := 0) (by omega) cM_ob) rfl rfl okm_X5_noTool (by decide) dX5_announce_2 rfl (Nat.le_of_ble_eq_true rfl) (fun r1 => ?_)
  refine X_if_eq hC 11 dX5_announce_5 (by decide) (fun h2 => ?_) (fun h2 => ?_)
  · refine X_aload_n hC 0 rfl dX5_announce_11 ?_
    refine X_iload_n hC 1 rfl dX5_announce_12 ?_
    refine X_bipush (v := 6) hC (by decide) dX5_announce_13 ?_
    refine X_callP (C := RX5) (T := TX5) (N := 16) (ci := 5) (rest := []) hC (c_X5_tool _ G cls ad hi σ p1 (6 : Int32)) (gV tw_560 tw_562 ts_9 tw_7 tw_563) rfl (wM (k := 0) (by omega) cM_ob) rfl rfl okm_X5_tool (by decide) dX5_announce_15 rfl (Nat.le_of_ble_eq_true rfl) (fun r3 => ?_)
    refine X_if_ne hC 24 dX5_announce_18 (by decide) (fun h4 => ?_) (fun h4 => ?_)
    · refine X_aload_n hC 0 rfl dX5_announce_24 ?_
      refine X_iload_n hC 1 rfl dX5_announce_25 ?_
      refine X_bipush (v := 7) hC (by decide) dX5_announce_26 ?_
      refine X_callP (C := RX5) (T := TX5) (N := 16) (ci := 5) (rest := []) hC (c_X5_tool _ G cls ad hi σ p1 (7 : Int32)) (gV tw_560 tw_562 ts_9 tw_7 tw_563) rfl (wM (k := 0) (by omega) cM_ob) rfl rfl okm_X5_tool (by decide) dX5_announce_28 rfl (Nat.le_of_ble_eq_true rfl) (fun r5 => ?_)
      refine X_iconst (v := 1) hC (by decide) dX5_announce_31 ?_
      refine X_icmp_ne hC 38 dX5_announce_32 (by decide) (fun h6 => ?_) (fun h6 => ?_)
      · refine X_aload_n hC 0 rfl dX5_announce_38 ?_
        refine X_callV (C := RX5) (T := TX5) (N := 16) (ci := 5) (rest := []) hC (c_X5_record _ G cls ad hi σ) (gV tw_543 tw_545 ts_6 tw_7 tw_546) rfl (wM (k := 0) (by omega) cM_ob) rfl rfl okm_X5_record (by decide) dX5_announce_39 rfl (Nat.le_of_ble_eq_true rfl) (fun σ7 => ?_)
        refine X_aload_n hC 0 rfl dX5_announce_42 ?_
        refine X_getf (C := RX5) (T := TX5) (N := 16) (ci := 5) hC 0 (wM (k := 0) (by omega) cM_ob) rfl hinX5 (by decide) tw_485 rfl rfl dX5_announce_43 ?_
        refine X_iconst (v := 4) hC (by decide) dX5_announce_46 ?_
        refine X_bipush (v := 8) hC (by decide) dX5_announce_47 ?_
        refine X_iload_n hC 1 rfl dX5_announce_49 ?_
        refine X_imul hC dX5_announce_50 ?_
        refine X_iadd hC dX5_announce_51 ?_
        refine X_bipush (v := 7) hC (by decide) dX5_announce_52 ?_
        refine X_iadd hC dX5_announce_54 ?_
        refine X_iconst (v := 1) hC (by decide) dX5_announce_55 ?_
        refine X_iast hC (wM (k := 1) (by omega) cM_now) (t0 := 0) rfl (aM_now _) dX5_announce_56 (X_lts fun σ8 => ?_)
        refine X_iconst (v := 1) hC (by decide) dX5_announce_57 ?_
        refine X_aload_n hC 0 rfl dX5_announce_58 ?_
        refine X_iload_n hC 1 rfl dX5_announce_59 ?_
        refine X_bipush (v := 6) hC (by decide) dX5_announce_60 ?_
        refine X_callP (C := RX5) (T := TX5) (N := 16) (ci := 5) (rest := [.int (1 : Int32)]) hC (c_X5_tool _ G cls ad hi σ8 p1 (6 : Int32)) (gV tw_560 tw_562 ts_9 tw_7 tw_563) rfl (wM (k := 0) (by omega) cM_ob) rfl rfl okm_X5_tool (by decide) dX5_announce_62 rfl (Nat.le_of_ble_eq_true rfl) (fun r9 => ?_)
        refine X_iconst (v := 1) hC (by decide) dX5_announce_65 ?_
        refine X_isub hC dX5_announce_66 ?_
        refine X_ishl hC dX5_announce_67 ?_
        refine X_lt (fun x10 => ?_)
        refine X_istore_n (ls' := [(2, .int x10), (0, .ref (ad 0)), (1, .int p1)]) hC dX5_announce_68 (by decide) rfl ?_
        refine X_iconst (v := 0) hC (by decide) dX5_announce_69 ?_
        refine X_istore_n (ls' := [(3, .int (0 : Int32)), (2, .int x10), (0, .ref (ad 0)), (1, .int p1)]) hC dX5_announce_70 (by decide) rfl ?_
        refine X_iconst (v := 0) hC (by decide) dX5_announce_71 ?_
        refine X_istore (ls' := [(4, .int (0 : Int32)), (3, .int (0 : Int32)), (2, .int x10), (0, .ref (ad 0)), (1, .int p1)]) hC dX5_announce_72 (by decide) rfl ?_
        exact X_sub [3, 2, 1, 0] rfl (L_X5_announce_b74 G cls ad hi hC hz0 hz1 fuel σ8 x10 (0 : Int32) (0 : Int32))
      · refine X_ldc (v := -10000005) hC tw_564 dX5_announce_35 ?_
        exact X_iret hC hz0 hz1 dX5_announce_37 rfl
    · refine X_ldc (v := -10000004) hC tw_573 dX5_announce_21 ?_
      exact X_iret hC hz0 hz1 dX5_announce_23 rfl
  · refine X_ldc (v := -10000001) hC tw_555 dX5_announce_8 ?_
    exact X_iret hC hz0 hz1 dX5_announce_10 rfl
theorem dX5_isScholar_0 : decode cX5_isScholar 0 = .ok (.iload_n 0, 1) := by decide +kernel
theorem dX5_isScholar_1 : decode cX5_isScholar 1 = .ok (.bipush (-50), 2) := by decide +kernel
theorem dX5_isScholar_3 : decode cX5_isScholar 3 = .ok (.bipush 50, 2) := by decide +kernel
theorem dX5_isScholar_5 : decode cX5_isScholar 5 = .ok (.invokestatic 30, 3) := by decide +kernel
theorem dX5_isScholar_8 : decode cX5_isScholar 8 = .ok (.ifCond .eq 17, 3) := by decide +kernel
theorem dX5_isScholar_11 : decode cX5_isScholar 11 = .ok (.iload_n 1, 1) := by decide +kernel
theorem dX5_isScholar_12 : decode cX5_isScholar 12 = .ok (.iconst 0, 1) := by decide +kernel
theorem dX5_isScholar_13 : decode cX5_isScholar 13 = .ok (.bipush 15, 2) := by decide +kernel
theorem dX5_isScholar_15 : decode cX5_isScholar 15 = .ok (.invokestatic 30, 3) := by decide +kernel
theorem dX5_isScholar_18 : decode cX5_isScholar 18 = .ok (.ifCond .eq 7, 3) := by decide +kernel
theorem dX5_isScholar_21 : decode cX5_isScholar 21 = .ok (.iconst 1, 1) := by decide +kernel
theorem dX5_isScholar_22 : decode cX5_isScholar 22 = .ok (.goto 4, 3) := by decide +kernel
theorem dX5_isScholar_25 : decode cX5_isScholar 25 = .ok (.iconst 0, 1) := by decide +kernel
theorem dX5_isScholar_26 : decode cX5_isScholar 26 = .ok (.ireturn, 1) := by decide +kernel
def f_X5_isScholar (σ : Sg)  (p0 p1 : Int32) : Option (Int32) := (f_X5_in σ p0 (-50 : Int32) (50 : Int32)).bind fun r1 => if r1 = 0 then (some (0 : Int32)) else ((f_X5_in σ p1 (0 : Int32) (15 : Int32)).bind fun r3 => if r3 = 0 then (some (0 : Int32)) else (some (1 : Int32)))
theorem okm_X5_isScholar : okm yX5_isScholar 2 = true := by decide +kernel
set_option maxHeartbeats 4000000 in
set_option maxRecDepth 100000 in
theorem c_X5_isScholar (l : Launch) (G : va_G) (cls : Cls) (ad : Nat → Nat) (hi : inj 6 ad) (σ : Sg)   (p0 p1 : Int32) : MT l (YM G cls ad) yX5_isScholar (.code yX5_isScholar cX5_isScholar 2 (some .boolean) :: gw) 1 22 [.int p0, .int p1] (fiP σ) σ (f_X5_isScholar σ  p0 p1) := by
  refine MT.of (own := RX5) (by decide) (YM_D hi) rfl (Nat.le_of_ble_eq_true rfl) fun Γ _ hz0 hz1 hC => ?_
  show WX Γ (YM G cls ad) (qf Γ (YM G cls ad) (fiP σ)) 2 0 [(0, .int p0), (1, .int p1)] [] σ (f_X5_isScholar σ  p0 p1)
  unfold f_X5_isScholar
  refine X_iload_n hC 0 rfl dX5_isScholar_0 ?_
  refine X_bipush (v := -50) hC (by decide) dX5_isScholar_1 ?_
  refine X_bipush (v := 50) hC (by decide) dX5_isScholar_3 ?_
  refine X_statP (rest := []) hC (c_X5_in _ G cls ad hi σ p0 (-50 : Int32) (50 : Int32)) (gSt tw_538 tw_539 tw_7 tw_540) rfl okm_X5_in (by decide) dX5_isScholar_5 rfl (Nat.le_of_ble_eq_true rfl) (fun r1 => ?_)
  refine X_if_eq hC 25 dX5_isScholar_8 (by decide) (fun h2 => ?_) (fun h2 => ?_)
  · refine X_iconst (v := 0) hC (by decide) dX5_isScholar_25 ?_
    exact X_zret hC hz0 hz1 rfl dX5_isScholar_26 rfl
  · refine X_iload_n hC 1 rfl dX5_isScholar_11 ?_
    refine X_iconst (v := 0) hC (by decide) dX5_isScholar_12 ?_
    refine X_bipush (v := 15) hC (by decide) dX5_isScholar_13 ?_
    refine X_statP (rest := []) hC (c_X5_in _ G cls ad hi σ p1 (0 : Int32) (15 : Int32)) (gSt tw_538 tw_539 tw_7 tw_540) rfl okm_X5_in (by decide) dX5_isScholar_15 rfl (Nat.le_of_ble_eq_true rfl) (fun r3 => ?_)
    refine X_if_eq hC 25 dX5_isScholar_18 (by decide) (fun h4 => ?_) (fun h4 => ?_)
    · refine X_iconst (v := 0) hC (by decide) dX5_isScholar_25 ?_
      exact X_zret hC hz0 hz1 rfl dX5_isScholar_26 rfl
    · refine X_iconst (v := 1) hC (by decide) dX5_isScholar_21 ?_
      refine X_goto hC 26 dX5_isScholar_22 (by decide) ?_
      exact X_zret hC hz0 hz1 rfl dX5_isScholar_26 rfl
theorem dX5_addPupil_0 : decode cX5_addPupil 0 = .ok (.iload_n 1, 1) := by decide +kernel
theorem dX5_addPupil_1 : decode cX5_addPupil 1 = .ok (.iload_n 2, 1) := by decide +kernel
theorem dX5_addPupil_2 : decode cX5_addPupil 2 = .ok (.invokestatic 57, 3) := by decide +kernel
theorem dX5_addPupil_5 : decode cX5_addPupil 5 = .ok (.ifCond .ne 6, 3) := by decide +kernel
theorem dX5_addPupil_8 : decode cX5_addPupil 8 = .ok (.ldc 38, 2) := by decide +kernel
theorem dX5_addPupil_10 : decode cX5_addPupil 10 = .ok (.ireturn, 1) := by decide +kernel
theorem dX5_addPupil_11 : decode cX5_addPupil 11 = .ok (.aload_n 0, 1) := by decide +kernel
theorem dX5_addPupil_12 : decode cX5_addPupil 12 = .ok (.getfield 7, 3) := by decide +kernel
theorem dX5_addPupil_15 : decode cX5_addPupil 15 = .ok (.iconst 1, 1) := by decide +kernel
theorem dX5_addPupil_16 : decode cX5_addPupil 16 = .ok (.iaload, 1) := by decide +kernel
theorem dX5_addPupil_17 : decode cX5_addPupil 17 = .ok (.bipush 12, 2) := by decide +kernel
theorem dX5_addPupil_19 : decode cX5_addPupil 19 = .ok (.if_icmp .ne 6, 3) := by decide +kernel
theorem dX5_addPupil_22 : decode cX5_addPupil 22 = .ok (.ldc 39, 2) := by decide +kernel
theorem dX5_addPupil_24 : decode cX5_addPupil 24 = .ok (.ireturn, 1) := by decide +kernel
theorem dX5_addPupil_25 : decode cX5_addPupil 25 = .ok (.aload_n 0, 1) := by decide +kernel
theorem dX5_addPupil_26 : decode cX5_addPupil 26 = .ok (.invokevirtual 40, 3) := by decide +kernel
theorem dX5_addPupil_29 : decode cX5_addPupil 29 = .ok (.aload_n 0, 1) := by decide +kernel
theorem dX5_addPupil_30 : decode cX5_addPupil 30 = .ok (.getfield 7, 3) := by decide +kernel
theorem dX5_addPupil_33 : decode cX5_addPupil 33 = .ok (.bipush 84, 2) := by decide +kernel
theorem dX5_addPupil_35 : decode cX5_addPupil 35 = .ok (.iconst 5, 1) := by decide +kernel
theorem dX5_addPupil_36 : decode cX5_addPupil 36 = .ok (.aload_n 0, 1) := by decide +kernel
theorem dX5_addPupil_37 : decode cX5_addPupil 37 = .ok (.getfield 7, 3) := by decide +kernel
theorem dX5_addPupil_40 : decode cX5_addPupil 40 = .ok (.iconst 1, 1) := by decide +kernel
theorem dX5_addPupil_41 : decode cX5_addPupil 41 = .ok (.iaload, 1) := by decide +kernel
theorem dX5_addPupil_42 : decode cX5_addPupil 42 = .ok (.imul, 1) := by decide +kernel
theorem dX5_addPupil_43 : decode cX5_addPupil 43 = .ok (.iadd, 1) := by decide +kernel
theorem dX5_addPupil_44 : decode cX5_addPupil 44 = .ok (.iconst 0, 1) := by decide +kernel
theorem dX5_addPupil_45 : decode cX5_addPupil 45 = .ok (.iadd, 1) := by decide +kernel
theorem dX5_addPupil_46 : decode cX5_addPupil 46 = .ok (.iload_n 1, 1) := by decide +kernel
theorem dX5_addPupil_47 : decode cX5_addPupil 47 = .ok (.iastore, 1) := by decide +kernel
theorem dX5_addPupil_48 : decode cX5_addPupil 48 = .ok (.aload_n 0, 1) := by decide +kernel
theorem dX5_addPupil_49 : decode cX5_addPupil 49 = .ok (.getfield 7, 3) := by decide +kernel
theorem dX5_addPupil_52 : decode cX5_addPupil 52 = .ok (.bipush 84, 2) := by decide +kernel
theorem dX5_addPupil_54 : decode cX5_addPupil 54 = .ok (.iconst 5, 1) := by decide +kernel
theorem dX5_addPupil_55 : decode cX5_addPupil 55 = .ok (.aload_n 0, 1) := by decide +kernel
theorem dX5_addPupil_56 : decode cX5_addPupil 56 = .ok (.getfield 7, 3) := by decide +kernel
theorem dX5_addPupil_59 : decode cX5_addPupil 59 = .ok (.iconst 1, 1) := by decide +kernel
theorem dX5_addPupil_60 : decode cX5_addPupil 60 = .ok (.iaload, 1) := by decide +kernel
theorem dX5_addPupil_61 : decode cX5_addPupil 61 = .ok (.imul, 1) := by decide +kernel
theorem dX5_addPupil_62 : decode cX5_addPupil 62 = .ok (.iadd, 1) := by decide +kernel
theorem dX5_addPupil_63 : decode cX5_addPupil 63 = .ok (.iconst 1, 1) := by decide +kernel
theorem dX5_addPupil_64 : decode cX5_addPupil 64 = .ok (.iadd, 1) := by decide +kernel
theorem dX5_addPupil_65 : decode cX5_addPupil 65 = .ok (.iload_n 2, 1) := by decide +kernel
theorem dX5_addPupil_66 : decode cX5_addPupil 66 = .ok (.iastore, 1) := by decide +kernel
theorem dX5_addPupil_67 : decode cX5_addPupil 67 = .ok (.aload_n 0, 1) := by decide +kernel
theorem dX5_addPupil_68 : decode cX5_addPupil 68 = .ok (.getfield 7, 3) := by decide +kernel
theorem dX5_addPupil_71 : decode cX5_addPupil 71 = .ok (.iconst 1, 1) := by decide +kernel
theorem dX5_addPupil_72 : decode cX5_addPupil 72 = .ok (.dup2, 1) := by decide +kernel
theorem dX5_addPupil_73 : decode cX5_addPupil 73 = .ok (.iaload, 1) := by decide +kernel
theorem dX5_addPupil_74 : decode cX5_addPupil 74 = .ok (.iconst 1, 1) := by decide +kernel
theorem dX5_addPupil_75 : decode cX5_addPupil 75 = .ok (.iadd, 1) := by decide +kernel
theorem dX5_addPupil_76 : decode cX5_addPupil 76 = .ok (.iastore, 1) := by decide +kernel
theorem dX5_addPupil_77 : decode cX5_addPupil 77 = .ok (.aload_n 0, 1) := by decide +kernel
theorem dX5_addPupil_78 : decode cX5_addPupil 78 = .ok (.getfield 7, 3) := by decide +kernel
theorem dX5_addPupil_81 : decode cX5_addPupil 81 = .ok (.iconst 1, 1) := by decide +kernel
theorem dX5_addPupil_82 : decode cX5_addPupil 82 = .ok (.iaload, 1) := by decide +kernel
theorem dX5_addPupil_83 : decode cX5_addPupil 83 = .ok (.iconst 1, 1) := by decide +kernel
theorem dX5_addPupil_84 : decode cX5_addPupil 84 = .ok (.isub, 1) := by decide +kernel
theorem dX5_addPupil_85 : decode cX5_addPupil 85 = .ok (.ireturn, 1) := by decide +kernel
def f_X5_addPupil (σ : Sg)  (p1 p2 : Int32) : Option (Int32 × Sg) := (f_X5_isScholar σ p1 p2).bind fun r1 => if r1 = 0 then (some ((-10000002 : Int32), σ)) else (gd (inb (1 : Int32) 624) (if (σ.2 0 (ix (1 : Int32))) = (12 : Int32) then (some ((-10000003 : Int32), σ)) else ((f_X5_record σ).bind fun σ4 => gd (inb (1 : Int32) 624) (gd (inb (((84 : Int32) + ((5 : Int32) * (σ4.2 0 (ix (1 : Int32))))) + (0 : Int32)) 624) (lts (s2 σ4 0 (upd (σ4.2 0) (ix (((84 : Int32) + ((5 : Int32) * (σ4.2 0 (ix (1 : Int32))))) + (0 : Int32))) p1)) fun σ5 => gd (inb (1 : Int32) 624) (gd (inb (((84 : Int32) + ((5 : Int32) * (σ5.2 0 (ix (1 : Int32))))) + (1 : Int32)) 624) (lts (s2 σ5 0 (upd (σ5.2 0) (ix (((84 : Int32) + ((5 : Int32) * (σ5.2 0 (ix (1 : Int32))))) + (1 : Int32))) p2)) fun σ6 => gd (inb (1 : Int32) 624) (gd (inb (1 : Int32) 624) (lts (s2 σ6 0 (upd (σ6.2 0) (ix (1 : Int32)) ((σ6.2 0 (ix (1 : Int32))) + (1 : Int32)))) fun σ7 => gd (inb (1 : Int32) 624) (some (((σ7.2 0 (ix (1 : Int32))) - (1 : Int32)), σ7)))))))))))
theorem okm_X5_addPupil : okm yX5_addPupil 2 = true := by decide +kernel
set_option maxHeartbeats 4000000 in
set_option maxRecDepth 100000 in
theorem c_X5_addPupil (l : Launch) (G : va_G) (cls : Cls) (ad : Nat → Nat) (hi : inj 6 ad) (σ : Sg)   (p1 p2 : Int32) : MT l (YM G cls ad) yX5_addPupil (.code yX5_addPupil cX5_addPupil 3 (some .int) :: gw) 2 43 [.ref (ad 0), .int p1, .int p2] fiS σ (f_X5_addPupil σ  p1 p2) := by
  refine MT.of (own := RX5) (by decide) (YM_D hi) rfl (Nat.le_of_ble_eq_true rfl) fun Γ _ hz0 hz1 hC => ?_
  show WX Γ (YM G cls ad) (qf Γ (YM G cls ad) fiS) 3 0 [(0, .ref (ad 0)), (1, .int p1), (2, .int p2)] [] σ (f_X5_addPupil σ  p1 p2)
  unfold f_X5_addPupil
  refine X_iload_n hC 1 rfl dX5_addPupil_0 ?_
  refine X_iload_n hC 2 rfl dX5_addPupil_1 ?_
  refine X_statP (rest := []) hC (c_X5_isScholar _ G cls ad hi σ p1 p2) (gSt tw_582 tw_583 tw_7 tw_584) rfl okm_X5_isScholar (by decide) dX5_addPupil_2 rfl (Nat.le_of_ble_eq_true rfl) (fun r1 => ?_)
  refine X_if_ne hC 11 dX5_addPupil_5 (by decide) (fun h2 => ?_) (fun h2 => ?_)
  · refine X_aload_n hC 0 rfl dX5_addPupil_11 ?_
    refine X_getf (C := RX5) (T := TX5) (N := 16) (ci := 5) hC 0 (wM (k := 0) (by omega) cM_ob) rfl hinX5 (by decide) tw_485 rfl rfl dX5_addPupil_12 ?_
    refine X_iconst (v := 1) hC (by decide) dX5_addPupil_15 ?_
    refine X_iald hC (wM (k := 1) (by omega) cM_now) (t0 := 0) rfl dX5_addPupil_16 ?_
    refine X_bipush (v := 12) hC (by decide) dX5_addPupil_17 ?_
    refine X_icmp_ne hC 25 dX5_addPupil_19 (by decide) (fun h3 => ?_) (fun h3 => ?_)
    · refine X_aload_n hC 0 rfl dX5_addPupil_25 ?_
      refine X_callV (C := RX5) (T := TX5) (N := 16) (ci := 5) (rest := []) hC (c_X5_record _ G cls ad hi σ) (gV tw_543 tw_545 ts_6 tw_7 tw_546) rfl (wM (k := 0) (by omega) cM_ob) rfl rfl okm_X5_record (by decide) dX5_addPupil_26 rfl (Nat.le_of_ble_eq_true rfl) (fun σ4 => ?_)
      refine X_aload_n hC 0 rfl dX5_addPupil_29 ?_
      refine X_getf (C := RX5) (T := TX5) (N := 16) (ci := 5) hC 0 (wM (k := 0) (by omega) cM_ob) rfl hinX5 (by decide) tw_485 rfl rfl dX5_addPupil_30 ?_
      refine X_bipush (v := 84) hC (by decide) dX5_addPupil_33 ?_
      refine X_iconst (v := 5) hC (by decide) dX5_addPupil_35 ?_
      refine X_aload_n hC 0 rfl dX5_addPupil_36 ?_
      refine X_getf (C := RX5) (T := TX5) (N := 16) (ci := 5) hC 0 (wM (k := 0) (by omega) cM_ob) rfl hinX5 (by decide) tw_485 rfl rfl dX5_addPupil_37 ?_
      refine X_iconst (v := 1) hC (by decide) dX5_addPupil_40 ?_
      refine X_iald hC (wM (k := 1) (by omega) cM_now) (t0 := 0) rfl dX5_addPupil_41 ?_
      refine X_imul hC dX5_addPupil_42 ?_
      refine X_iadd hC dX5_addPupil_43 ?_
      refine X_iconst (v := 0) hC (by decide) dX5_addPupil_44 ?_
      refine X_iadd hC dX5_addPupil_45 ?_
      refine X_iload_n hC 1 rfl dX5_addPupil_46 ?_
      refine X_iast hC (wM (k := 1) (by omega) cM_now) (t0 := 0) rfl (aM_now _) dX5_addPupil_47 (X_lts fun σ5 => ?_)
      refine X_aload_n hC 0 rfl dX5_addPupil_48 ?_
      refine X_getf (C := RX5) (T := TX5) (N := 16) (ci := 5) hC 0 (wM (k := 0) (by omega) cM_ob) rfl hinX5 (by decide) tw_485 rfl rfl dX5_addPupil_49 ?_
      refine X_bipush (v := 84) hC (by decide) dX5_addPupil_52 ?_
      refine X_iconst (v := 5) hC (by decide) dX5_addPupil_54 ?_
      refine X_aload_n hC 0 rfl dX5_addPupil_55 ?_
      refine X_getf (C := RX5) (T := TX5) (N := 16) (ci := 5) hC 0 (wM (k := 0) (by omega) cM_ob) rfl hinX5 (by decide) tw_485 rfl rfl dX5_addPupil_56 ?_
      refine X_iconst (v := 1) hC (by decide) dX5_addPupil_59 ?_
      refine X_iald hC (wM (k := 1) (by omega) cM_now) (t0 := 0) rfl dX5_addPupil_60 ?_
      refine X_imul hC dX5_addPupil_61 ?_
      refine X_iadd hC dX5_addPupil_62 ?_
      refine X_iconst (v := 1) hC (by decide) dX5_addPupil_63 ?_
      refine X_iadd hC dX5_addPupil_64 ?_
      refine X_iload_n hC 2 rfl dX5_addPupil_65 ?_
      refine X_iast hC (wM (k := 1) (by omega) cM_now) (t0 := 0) rfl (aM_now _) dX5_addPupil_66 (X_lts fun σ6 => ?_)
      refine X_aload_n hC 0 rfl dX5_addPupil_67 ?_
      refine X_getf (C := RX5) (T := TX5) (N := 16) (ci := 5) hC 0 (wM (k := 0) (by omega) cM_ob) rfl hinX5 (by decide) tw_485 rfl rfl dX5_addPupil_68 ?_
      refine X_iconst (v := 1) hC (by decide) dX5_addPupil_71 ?_
      refine X_dup2 hC rfl rfl dX5_addPupil_72 ?_
      refine X_iald hC (wM (k := 1) (by omega) cM_now) (t0 := 0) rfl dX5_addPupil_73 ?_
      refine X_iconst (v := 1) hC (by decide) dX5_addPupil_74 ?_
      refine X_iadd hC dX5_addPupil_75 ?_
      refine X_iast hC (wM (k := 1) (by omega) cM_now) (t0 := 0) rfl (aM_now _) dX5_addPupil_76 (X_lts fun σ7 => ?_)
      refine X_aload_n hC 0 rfl dX5_addPupil_77 ?_
      refine X_getf (C := RX5) (T := TX5) (N := 16) (ci := 5) hC 0 (wM (k := 0) (by omega) cM_ob) rfl hinX5 (by decide) tw_485 rfl rfl dX5_addPupil_78 ?_
      refine X_iconst (v := 1) hC (by decide) dX5_addPupil_81 ?_
      refine X_iald hC (wM (k := 1) (by omega) cM_now) (t0 := 0) rfl dX5_addPupil_82 ?_
      refine X_iconst (v := 1) hC (by decide) dX5_addPupil_83 ?_
      refine X_isub hC dX5_addPupil_84 ?_
      exact X_iret hC hz0 hz1 dX5_addPupil_85 rfl
    · refine X_ldc (v := -10000003) hC tw_542 dX5_addPupil_22 ?_
      exact X_iret hC hz0 hz1 dX5_addPupil_24 rfl
  · refine X_ldc (v := -10000002) hC tw_541 dX5_addPupil_8 ?_
    exact X_iret hC hz0 hz1 dX5_addPupil_10 rfl
theorem dX5_teach_0 : decode cX5_teach 0 = .ok (.aload_n 0, 1) := by decide +kernel
theorem dX5_teach_1 : decode cX5_teach 1 = .ok (.iload_n 1, 1) := by decide +kernel
theorem dX5_teach_2 : decode cX5_teach 2 = .ok (.invokevirtual 61, 3) := by decide +kernel
theorem dX5_teach_5 : decode cX5_teach 5 = .ok (.ifCond .eq 6, 3) := by decide +kernel
theorem dX5_teach_8 : decode cX5_teach 8 = .ok (.ldc 47, 2) := by decide +kernel
theorem dX5_teach_10 : decode cX5_teach 10 = .ok (.ireturn, 1) := by decide +kernel
theorem dX5_teach_11 : decode cX5_teach 11 = .ok (.iload_n 2, 1) := by decide +kernel
theorem dX5_teach_12 : decode cX5_teach 12 = .ok (.iconst 1, 1) := by decide +kernel
theorem dX5_teach_13 : decode cX5_teach 13 = .ok (.iconst 3, 1) := by decide +kernel
theorem dX5_teach_14 : decode cX5_teach 14 = .ok (.invokestatic 30, 3) := by decide +kernel
theorem dX5_teach_17 : decode cX5_teach 17 = .ok (.ifCond .ne 6, 3) := by decide +kernel
theorem dX5_teach_20 : decode cX5_teach 20 = .ok (.ldc 38, 2) := by decide +kernel
theorem dX5_teach_22 : decode cX5_teach 22 = .ok (.ireturn, 1) := by decide +kernel
theorem dX5_teach_23 : decode cX5_teach 23 = .ok (.aload_n 0, 1) := by decide +kernel
theorem dX5_teach_24 : decode cX5_teach 24 = .ok (.iload_n 1, 1) := by decide +kernel
theorem dX5_teach_25 : decode cX5_teach 25 = .ok (.iconst 2, 1) := by decide +kernel
theorem dX5_teach_26 : decode cX5_teach 26 = .ok (.invokevirtual 54, 3) := by decide +kernel
theorem dX5_teach_29 : decode cX5_teach 29 = .ok (.iconst 1, 1) := by decide +kernel
theorem dX5_teach_30 : decode cX5_teach 30 = .ok (.iload_n 2, 1) := by decide +kernel
theorem dX5_teach_31 : decode cX5_teach 31 = .ok (.iconst 1, 1) := by decide +kernel
theorem dX5_teach_32 : decode cX5_teach 32 = .ok (.isub, 1) := by decide +kernel
theorem dX5_teach_33 : decode cX5_teach 33 = .ok (.ishl, 1) := by decide +kernel
theorem dX5_teach_34 : decode cX5_teach 34 = .ok (.ior, 1) := by decide +kernel
theorem dX5_teach_35 : decode cX5_teach 35 = .ok (.istore_n 3, 1) := by decide +kernel
theorem dX5_teach_36 : decode cX5_teach 36 = .ok (.iload_n 3, 1) := by decide +kernel
theorem dX5_teach_37 : decode cX5_teach 37 = .ok (.aload_n 0, 1) := by decide +kernel
theorem dX5_teach_38 : decode cX5_teach 38 = .ok (.iload_n 1, 1) := by decide +kernel
theorem dX5_teach_39 : decode cX5_teach 39 = .ok (.iconst 2, 1) := by decide +kernel
theorem dX5_teach_40 : decode cX5_teach 40 = .ok (.invokevirtual 54, 3) := by decide +kernel
theorem dX5_teach_43 : decode cX5_teach 43 = .ok (.if_icmp .ne 6, 3) := by decide +kernel
theorem dX5_teach_46 : decode cX5_teach 46 = .ok (.ldc 52, 2) := by decide +kernel
theorem dX5_teach_48 : decode cX5_teach 48 = .ok (.ireturn, 1) := by decide +kernel
theorem dX5_teach_49 : decode cX5_teach 49 = .ok (.aload_n 0, 1) := by decide +kernel
theorem dX5_teach_50 : decode cX5_teach 50 = .ok (.invokevirtual 40, 3) := by decide +kernel
theorem dX5_teach_53 : decode cX5_teach 53 = .ok (.aload_n 0, 1) := by decide +kernel
theorem dX5_teach_54 : decode cX5_teach 54 = .ok (.getfield 7, 3) := by decide +kernel
theorem dX5_teach_57 : decode cX5_teach 57 = .ok (.bipush 84, 2) := by decide +kernel
theorem dX5_teach_59 : decode cX5_teach 59 = .ok (.iconst 5, 1) := by decide +kernel
theorem dX5_teach_60 : decode cX5_teach 60 = .ok (.iload_n 1, 1) := by decide +kernel
theorem dX5_teach_61 : decode cX5_teach 61 = .ok (.imul, 1) := by decide +kernel
theorem dX5_teach_62 : decode cX5_teach 62 = .ok (.iadd, 1) := by decide +kernel
theorem dX5_teach_63 : decode cX5_teach 63 = .ok (.iconst 2, 1) := by decide +kernel
theorem dX5_teach_64 : decode cX5_teach 64 = .ok (.iadd, 1) := by decide +kernel
theorem dX5_teach_65 : decode cX5_teach 65 = .ok (.iload_n 3, 1) := by decide +kernel
theorem dX5_teach_66 : decode cX5_teach 66 = .ok (.iastore, 1) := by decide +kernel
theorem dX5_teach_67 : decode cX5_teach 67 = .ok (.iload_n 3, 1) := by decide +kernel
theorem dX5_teach_68 : decode cX5_teach 68 = .ok (.ireturn, 1) := by decide +kernel
def f_X5_teach (σ : Sg)  (p1 p2 : Int32) : Option (Int32 × Sg) := (f_X5_noScholar σ p1).bind fun r1 => if r1 = 0 then ((f_X5_in σ p2 (1 : Int32) (3 : Int32)).bind fun r3 => if r3 = 0 then (some ((-10000002 : Int32), σ)) else ((f_X5_scholar σ p1 (2 : Int32)).bind fun r5 => lt (r5 ||| ((1 : Int32) <<< ((p2 - (1 : Int32)) &&& 31))) fun x6 => (f_X5_scholar σ p1 (2 : Int32)).bind fun r7 => if x6 = r7 then (some ((-10000005 : Int32), σ)) else ((f_X5_record σ).bind fun σ9 => gd (inb (((84 : Int32) + ((5 : Int32) * p1)) + (2 : Int32)) 624) (lts (s2 σ9 0 (upd (σ9.2 0) (ix (((84 : Int32) + ((5 : Int32) * p1)) + (2 : Int32))) x6)) fun σ10 => some (x6, σ10))))) else (some ((-10000001 : Int32), σ))
theorem okm_X5_teach : okm yX5_teach 2 = true := by decide +kernel
set_option maxHeartbeats 4000000 in
set_option maxRecDepth 100000 in
theorem c_X5_teach (l : Launch) (G : va_G) (cls : Cls) (ad : Nat → Nat) (hi : inj 6 ad) (σ : Sg)   (p1 p2 : Int32) : MT l (YM G cls ad) yX5_teach (.code yX5_teach cX5_teach 4 (some .int) :: gw) 2 43 [.ref (ad 0), .int p1, .int p2] fiS σ (f_X5_teach σ  p1 p2) := by
  refine MT.of (own := RX5) (by decide) (YM_D hi) rfl (Nat.le_of_ble_eq_true rfl) fun Γ _ hz0 hz1 hC => ?_
  show WX Γ (YM G cls ad) (qf Γ (YM G cls ad) fiS) 4 0 [(0, .ref (ad 0)), (1, .int p1), (2, .int p2)] [] σ (f_X5_teach σ  p1 p2)
  unfold f_X5_teach
  refine X_aload_n hC 0 rfl dX5_teach_0 ?_
  refine X_iload_n hC 1 rfl dX5_teach_1 ?_
  refine X_callP (C := RX5) (T := TX5) (N := 16) (ci := 5) (rest := []) hC (c_X5_noScholar _ G cls ad hi σ p1) (gV tw_589 tw_591 ts_11 tw_7 tw_592) rfl (wM (k := 0) (by omega) cM_ob) rfl rfl okm_X5_noScholar (by decide) dX5_teach_2 rfl (Nat.le_of_ble_eq_true rfl) (fun r1 => ?_)
  refine X_if_eq hC 11 dX5_teach_5 (by decide) (fun h2 => ?_) (fun h2 => ?_)
  · refine X_iload_n hC 2 rfl dX5_teach_11 ?_
    refine X_iconst (v := 1) hC (by decide) dX5_teach_12 ?_
    refine X_iconst (v := 3) hC (by decide) dX5_teach_13 ?_
    refine X_statP (rest := []) hC (c_X5_in _ G cls ad hi σ p2 (1 : Int32) (3 : Int32)) (gSt tw_538 tw_539 tw_7 tw_540) rfl okm_X5_in (by decide) dX5_teach_14 rfl (Nat.le_of_ble_eq_true rfl) (fun r3 => ?_)
    refine X_if_ne hC 23 dX5_teach_17 (by decide) (fun h4 => ?_) (fun h4 => ?_)
    · refine X_aload_n hC 0 rfl dX5_teach_23 ?_
      refine X_iload_n hC 1 rfl dX5_teach_24 ?_
      refine X_iconst (v := 2) hC (by decide) dX5_teach_25 ?_
      refine X_callP (C := RX5) (T := TX5) (N := 16) (ci := 5) (rest := []) hC (c_X5_scholar _ G cls ad hi σ p1 (2 : Int32)) (gV tw_574 tw_576 ts_10 tw_7 tw_577) rfl (wM (k := 0) (by omega) cM_ob) rfl rfl okm_X5_scholar (by decide) dX5_teach_26 rfl (Nat.le_of_ble_eq_true rfl) (fun r5 => ?_)
      refine X_iconst (v := 1) hC (by decide) dX5_teach_29 ?_
      refine X_iload_n hC 2 rfl dX5_teach_30 ?_
      refine X_iconst (v := 1) hC (by decide) dX5_teach_31 ?_
      refine X_isub hC dX5_teach_32 ?_
      refine X_ishl hC dX5_teach_33 ?_
      refine X_ior hC dX5_teach_34 ?_
      refine X_lt (fun x6 => ?_)
      refine X_istore_n (ls' := [(3, .int x6), (0, .ref (ad 0)), (1, .int p1), (2, .int p2)]) hC dX5_teach_35 (by decide) rfl ?_
      refine X_iload_n hC 0 rfl dX5_teach_36 ?_
      refine X_aload_n hC 1 rfl dX5_teach_37 ?_
      refine X_iload_n hC 2 rfl dX5_teach_38 ?_
      refine X_iconst (v := 2) hC (by decide) dX5_teach_39 ?_
      refine X_callP (C := RX5) (T := TX5) (N := 16) (ci := 5) (rest := [.int x6]) hC (c_X5_scholar _ G cls ad hi σ p1 (2 : Int32)) (gV tw_574 tw_576 ts_10 tw_7 tw_577) rfl (wM (k := 0) (by omega) cM_ob) rfl rfl okm_X5_scholar (by decide) dX5_teach_40 rfl (Nat.le_of_ble_eq_true rfl) (fun r7 => ?_)
      refine X_icmp_ne hC 49 dX5_teach_43 (by decide) (fun h8 => ?_) (fun h8 => ?_)
      · refine X_aload_n hC 1 rfl dX5_teach_49 ?_
        refine X_callV (C := RX5) (T := TX5) (N := 16) (ci := 5) (rest := []) hC (c_X5_record _ G cls ad hi σ) (gV tw_543 tw_545 ts_6 tw_7 tw_546) rfl (wM (k := 0) (by omega) cM_ob) rfl rfl okm_X5_record (by decide) dX5_teach_50 rfl (Nat.le_of_ble_eq_true rfl) (fun σ9 => ?_)
        refine X_aload_n hC 1 rfl dX5_teach_53 ?_
        refine X_getf (C := RX5) (T := TX5) (N := 16) (ci := 5) hC 0 (wM (k := 0) (by omega) cM_ob) rfl hinX5 (by decide) tw_485 rfl rfl dX5_teach_54 ?_
        refine X_bipush (v := 84) hC (by decide) dX5_teach_57 ?_
        refine X_iconst (v := 5) hC (by decide) dX5_teach_59 ?_
        refine X_iload_n hC 2 rfl dX5_teach_60 ?_
        refine X_imul hC dX5_teach_61 ?_
        refine X_iadd hC dX5_teach_62 ?_
        refine X_iconst (v := 2) hC (by decide) dX5_teach_63 ?_
        refine X_iadd hC dX5_teach_64 ?_
        refine X_iload_n hC 0 rfl dX5_teach_65 ?_
        refine X_iast hC (wM (k := 1) (by omega) cM_now) (t0 := 0) rfl (aM_now _) dX5_teach_66 (X_lts fun σ10 => ?_)
        refine X_iload_n hC 0 rfl dX5_teach_67 ?_
        exact X_iret hC hz0 hz1 dX5_teach_68 rfl
      · refine X_ldc (v := -10000005) hC tw_564 dX5_teach_46 ?_
        exact X_iret hC hz0 hz1 dX5_teach_48 rfl
    · refine X_ldc (v := -10000002) hC tw_541 dX5_teach_20 ?_
      exact X_iret hC hz0 hz1 dX5_teach_22 rfl
  · refine X_ldc (v := -10000001) hC tw_555 dX5_teach_8 ?_
    exact X_iret hC hz0 hz1 dX5_teach_10 rfl
theorem dX5_train_0 : decode cX5_train 0 = .ok (.aload_n 0, 1) := by decide +kernel
theorem dX5_train_1 : decode cX5_train 1 = .ok (.iload_n 1, 1) := by decide +kernel
theorem dX5_train_2 : decode cX5_train 2 = .ok (.invokevirtual 61, 3) := by decide +kernel
theorem dX5_train_5 : decode cX5_train 5 = .ok (.ifCond .eq 6, 3) := by decide +kernel
theorem dX5_train_8 : decode cX5_train 8 = .ok (.ldc 47, 2) := by decide +kernel
theorem dX5_train_10 : decode cX5_train 10 = .ok (.ireturn, 1) := by decide +kernel
theorem dX5_train_11 : decode cX5_train 11 = .ok (.iload_n 2, 1) := by decide +kernel
theorem dX5_train_12 : decode cX5_train 12 = .ok (.iload_n 3, 1) := by decide +kernel
theorem dX5_train_13 : decode cX5_train 13 = .ok (.invokestatic 57, 3) := by decide +kernel
theorem dX5_train_16 : decode cX5_train 16 = .ok (.ifCond .ne 6, 3) := by decide +kernel
theorem dX5_train_19 : decode cX5_train 19 = .ok (.ldc 38, 2) := by decide +kernel
theorem dX5_train_21 : decode cX5_train 21 = .ok (.ireturn, 1) := by decide +kernel
theorem dX5_train_22 : decode cX5_train 22 = .ok (.aload_n 0, 1) := by decide +kernel
theorem dX5_train_23 : decode cX5_train 23 = .ok (.iload_n 1, 1) := by decide +kernel
theorem dX5_train_24 : decode cX5_train 24 = .ok (.iconst 1, 1) := by decide +kernel
theorem dX5_train_25 : decode cX5_train 25 = .ok (.invokevirtual 54, 3) := by decide +kernel
theorem dX5_train_28 : decode cX5_train 28 = .ok (.iload_n 3, 1) := by decide +kernel
theorem dX5_train_29 : decode cX5_train 29 = .ok (.ixor, 1) := by decide +kernel
theorem dX5_train_30 : decode cX5_train 30 = .ok (.istore 4, 2) := by decide +kernel
theorem dX5_train_32 : decode cX5_train 32 = .ok (.iload 4, 2) := by decide +kernel
theorem dX5_train_34 : decode cX5_train 34 = .ok (.ifCond .ne 16, 3) := by decide +kernel
theorem dX5_train_37 : decode cX5_train 37 = .ok (.aload_n 0, 1) := by decide +kernel
theorem dX5_train_38 : decode cX5_train 38 = .ok (.iload_n 1, 1) := by decide +kernel
theorem dX5_train_39 : decode cX5_train 39 = .ok (.iconst 0, 1) := by decide +kernel
theorem dX5_train_40 : decode cX5_train 40 = .ok (.invokevirtual 54, 3) := by decide +kernel
theorem dX5_train_43 : decode cX5_train 43 = .ok (.iload_n 2, 1) := by decide +kernel
theorem dX5_train_44 : decode cX5_train 44 = .ok (.if_icmp .ne 6, 3) := by decide +kernel
theorem dX5_train_47 : decode cX5_train 47 = .ok (.ldc 52, 2) := by decide +kernel
theorem dX5_train_49 : decode cX5_train 49 = .ok (.ireturn, 1) := by decide +kernel
theorem dX5_train_50 : decode cX5_train 50 = .ok (.aload_n 0, 1) := by decide +kernel
theorem dX5_train_51 : decode cX5_train 51 = .ok (.invokevirtual 40, 3) := by decide +kernel
theorem dX5_train_54 : decode cX5_train 54 = .ok (.aload_n 0, 1) := by decide +kernel
theorem dX5_train_55 : decode cX5_train 55 = .ok (.getfield 7, 3) := by decide +kernel
theorem dX5_train_58 : decode cX5_train 58 = .ok (.bipush 84, 2) := by decide +kernel
theorem dX5_train_60 : decode cX5_train 60 = .ok (.iconst 5, 1) := by decide +kernel
theorem dX5_train_61 : decode cX5_train 61 = .ok (.iload_n 1, 1) := by decide +kernel
theorem dX5_train_62 : decode cX5_train 62 = .ok (.imul, 1) := by decide +kernel
theorem dX5_train_63 : decode cX5_train 63 = .ok (.iadd, 1) := by decide +kernel
theorem dX5_train_64 : decode cX5_train 64 = .ok (.iconst 0, 1) := by decide +kernel
theorem dX5_train_65 : decode cX5_train 65 = .ok (.iadd, 1) := by decide +kernel
theorem dX5_train_66 : decode cX5_train 66 = .ok (.iload_n 2, 1) := by decide +kernel
theorem dX5_train_67 : decode cX5_train 67 = .ok (.iastore, 1) := by decide +kernel
theorem dX5_train_68 : decode cX5_train 68 = .ok (.aload_n 0, 1) := by decide +kernel
theorem dX5_train_69 : decode cX5_train 69 = .ok (.getfield 7, 3) := by decide +kernel
theorem dX5_train_72 : decode cX5_train 72 = .ok (.bipush 84, 2) := by decide +kernel
theorem dX5_train_74 : decode cX5_train 74 = .ok (.iconst 5, 1) := by decide +kernel
theorem dX5_train_75 : decode cX5_train 75 = .ok (.iload_n 1, 1) := by decide +kernel
theorem dX5_train_76 : decode cX5_train 76 = .ok (.imul, 1) := by decide +kernel
theorem dX5_train_77 : decode cX5_train 77 = .ok (.iadd, 1) := by decide +kernel
theorem dX5_train_78 : decode cX5_train 78 = .ok (.iconst 1, 1) := by decide +kernel
theorem dX5_train_79 : decode cX5_train 79 = .ok (.iadd, 1) := by decide +kernel
theorem dX5_train_80 : decode cX5_train 80 = .ok (.iload_n 3, 1) := by decide +kernel
theorem dX5_train_81 : decode cX5_train 81 = .ok (.iastore, 1) := by decide +kernel
theorem dX5_train_82 : decode cX5_train 82 = .ok (.iconst 0, 1) := by decide +kernel
theorem dX5_train_83 : decode cX5_train 83 = .ok (.istore 5, 2) := by decide +kernel
theorem dX5_train_85 : decode cX5_train 85 = .ok (.iconst 0, 1) := by decide +kernel
theorem dX5_train_86 : decode cX5_train 86 = .ok (.istore 6, 2) := by decide +kernel
theorem dX5_train_88 : decode cX5_train 88 = .ok (.iload 6, 2) := by decide +kernel
theorem dX5_train_90 : decode cX5_train 90 = .ok (.iconst 4, 1) := by decide +kernel
theorem dX5_train_91 : decode cX5_train 91 = .ok (.if_icmp .ge 21, 3) := by decide +kernel
theorem dX5_train_94 : decode cX5_train 94 = .ok (.iload 5, 2) := by decide +kernel
theorem dX5_train_96 : decode cX5_train 96 = .ok (.iload 4, 2) := by decide +kernel
theorem dX5_train_98 : decode cX5_train 98 = .ok (.iload 6, 2) := by decide +kernel
theorem dX5_train_100 : decode cX5_train 100 = .ok (.ishr, 1) := by decide +kernel
theorem dX5_train_101 : decode cX5_train 101 = .ok (.iconst 1, 1) := by decide +kernel
theorem dX5_train_102 : decode cX5_train 102 = .ok (.iand, 1) := by decide +kernel
theorem dX5_train_103 : decode cX5_train 103 = .ok (.iadd, 1) := by decide +kernel
theorem dX5_train_104 : decode cX5_train 104 = .ok (.istore 5, 2) := by decide +kernel
theorem dX5_train_106 : decode cX5_train 106 = .ok (.iinc 6 1, 3) := by decide +kernel
theorem dX5_train_109 : decode cX5_train 109 = .ok (.goto (-21), 3) := by decide +kernel
theorem dX5_train_112 : decode cX5_train 112 = .ok (.iload 5, 2) := by decide +kernel
theorem dX5_train_114 : decode cX5_train 114 = .ok (.ireturn, 1) := by decide +kernel
def f_X5_train_b88    : Nat → Sg → Int32 → Int32 → Int32 → Option (Int32 × Sg)
  | 0, _, _, _, _ => none
  | n + 1, σ, v4, v5, v6 => if (4 : Int32) ≤ v6 then (some (v5, σ)) else (lt (v5 + ((v4 >>> (v6 &&& 31)) &&& (1 : Int32))) fun x12 => lt (v6 + (1 : Int32)) fun x13 => (f_X5_train_b88   n) σ v4 x12 x13)
def f_X5_train_b50    (σ : Sg) (v1 v2 v3 v4 : Int32) : Option (Int32 × Sg) := (f_X5_record σ).bind fun σ8 => gd (inb (((84 : Int32) + ((5 : Int32) * v1)) + (0 : Int32)) 624) (lts (s2 σ8 0 (upd (σ8.2 0) (ix (((84 : Int32) + ((5 : Int32) * v1)) + (0 : Int32))) v2)) fun σ9 => gd (inb (((84 : Int32) + ((5 : Int32) * v1)) + (1 : Int32)) 624) (lts (s2 σ9 0 (upd (σ9.2 0) (ix (((84 : Int32) + ((5 : Int32) * v1)) + (1 : Int32))) v3)) fun σ10 => f_X5_train_b88 fuel σ10 v4 (0 : Int32) (0 : Int32)))
def f_X5_train (σ : Sg)  (p1 p2 p3 : Int32) : Option (Int32 × Sg) := (f_X5_noScholar σ p1).bind fun r1 => if r1 = 0 then ((f_X5_isScholar σ p2 p3).bind fun r3 => if r3 = 0 then (some ((-10000002 : Int32), σ)) else ((f_X5_scholar σ p1 (1 : Int32)).bind fun r5 => lt (r5 ^^^ p3) fun x6 => if x6 = 0 then ((f_X5_scholar σ p1 (0 : Int32)).bind fun r14 => if r14 = p2 then (some ((-10000005 : Int32), σ)) else (f_X5_train_b50 σ p1 p2 p3 x6)) else (f_X5_train_b50 σ p1 p2 p3 x6))) else (some ((-10000001 : Int32), σ))
set_option maxHeartbeats 4000000 in
set_option maxRecDepth 100000 in
theorem L_X5_train_b88 {Γ : Cx} (G : va_G) (cls : Cls) (ad : Nat → Nat) (hi : inj 6 ad) (hC : CX Γ (YM G cls ad) cX5_train RX5 7 (some .int) 2 43) (hz0 : Γ.2.2.2.2.2.1 = 0) (hz1 : Γ.2.2.2.2.2.2 = 0)     : ∀ (n : Nat) (σ : Sg) (v4 v5 v6 : Int32), WX Γ (YM G cls ad) (qf Γ (YM G cls ad) fiS) 7 88 [(4, .int v4), (5, .int v5), (6, .int v6)] [] σ (f_X5_train_b88   n σ v4 v5 v6) := by
  intro n
  induction n with
  | zero => intro σ v4 v5 v6; exact X_none
  | succ n ih =>
    intro σ v4 v5 v6
    rw [f_X5_train_b88.eq_2]
    refine X_iload hC 2 rfl dX5_train_88 ?_
    refine X_iconst (v := 4) hC (by decide) dX5_train_90 ?_
    refine X_icmp_ge hC 112 dX5_train_91 (by decide) (fun h11 => ?_) (fun h11 => ?_)
    · refine X_iload hC 1 rfl dX5_train_112 ?_
      exact X_iret hC hz0 hz1 dX5_train_114 rfl
    · refine X_iload hC 1 rfl dX5_train_94 ?_
      refine X_iload hC 0 rfl dX5_train_96 ?_
      refine X_iload hC 2 rfl dX5_train_98 ?_
      refine X_ishr hC dX5_train_100 ?_
      refine X_iconst (v := 1) hC (by decide) dX5_train_101 ?_
      refine X_iand hC dX5_train_102 ?_
      refine X_iadd hC dX5_train_103 ?_
      refine X_lt (fun x12 => ?_)
      refine X_istore (ls' := [(5, .int x12), (4, .int v4), (6, .int v6)]) hC dX5_train_104 (by decide) rfl ?_
      refine X_iinc (ls' := fun x13 => [(6, .int x13), (5, .int x12), (4, .int v4)]) hC 2 dX5_train_106 rfl (by decide) (by decide) (fun _ => rfl) (fun x13 => ?_)
      refine X_goto hC 88 dX5_train_109 (by decide) ?_
      exact X_sub [2, 1, 0] rfl (ih σ v4 x12 x13)
set_option maxHeartbeats 4000000 in
set_option maxRecDepth 100000 in
theorem L_X5_train_b50 {Γ : Cx} (G : va_G) (cls : Cls) (ad : Nat → Nat) (hi : inj 6 ad) (hC : CX Γ (YM G cls ad) cX5_train RX5 7 (some .int) 2 43) (hz0 : Γ.2.2.2.2.2.1 = 0) (hz1 : Γ.2.2.2.2.2.2 = 0)     (σ : Sg) (v1 v2 v3 v4 : Int32) : WX Γ (YM G cls ad) (qf Γ (YM G cls ad) fiS) 7 50 [(0, .ref (ad 0)), (1, .int v1), (2, .int v2), (3, .int v3), (4, .int v4)] [] σ (f_X5_train_b50   σ v1 v2 v3 v4) := by
  unfold f_X5_train_b50
  refine X_aload_n hC 0 rfl dX5_train_50 ?_
  refine X_callV (C := RX5) (T := TX5) (N := 16) (ci := 5) (rest := []) hC (c_X5_record _ G cls ad hi σ) (gV tw_543 tw_545 ts_6 tw_7 tw_546) rfl (wM (k := 0) (by omega) cM_ob) rfl rfl okm_X5_record (by decide) dX5_train_51 rfl (Nat.le_of_ble_eq_true rfl) (fun σ8 => ?_)
  refine X_aload_n hC 0 rfl dX5_train_54 ?_
  refine X_getf (C := RX5) (T := TX5) (N := 16) (ci := 5) hC 0 (wM (k := 0) (by omega) cM_ob) rfl hinX5 (by decide) tw_485 rfl rfl dX5_train_55 ?_
  refine X_bipush (v := 84) hC (by decide) dX5_train_58 ?_
  refine X_iconst (v := 5) hC (by decide) dX5_train_60 ?_
  refine X_iload_n hC 1 rfl dX5_train_61 ?_
  refine X_imul hC dX5_train_62 ?_
  refine X_iadd hC dX5_train_63 ?_
  refine X_iconst (v := 0) hC (by decide) dX5_train_64 ?_
  refine X_iadd hC dX5_train_65 ?_
  refine X_iload_n hC 2 rfl dX5_train_66 ?_
  refine X_iast hC (wM (k := 1) (by omega) cM_now) (t0 := 0) rfl (aM_now _) dX5_train_67 (X_lts fun σ9 => ?_)
  refine X_aload_n hC 0 rfl dX5_train_68 ?_
  refine X_getf (C := RX5) (T := TX5) (N := 16) (ci := 5) hC 0 (wM (k := 0) (by omega) cM_ob) rfl hinX5 (by decide) tw_485 rfl rfl dX5_train_69 ?_
  refine X_bipush (v := 84) hC (by decide) dX5_train_72 ?_
  refine X_iconst (v := 5) hC (by decide) dX5_train_74 ?_
  refine X_iload_n hC 1 rfl dX5_train_75 ?_
  refine X_imul hC dX5_train_76 ?_
  refine X_iadd hC dX5_train_77 ?_
  refine X_iconst (v := 1) hC (by decide) dX5_train_78 ?_
  refine X_iadd hC dX5_train_79 ?_
  refine X_iload_n hC 3 rfl dX5_train_80 ?_
  refine X_iast hC (wM (k := 1) (by omega) cM_now) (t0 := 0) rfl (aM_now _) dX5_train_81 (X_lts fun σ10 => ?_)
  refine X_iconst (v := 0) hC (by decide) dX5_train_82 ?_
  refine X_istore (ls' := [(5, .int (0 : Int32)), (0, .ref (ad 0)), (1, .int v1), (2, .int v2), (3, .int v3), (4, .int v4)]) hC dX5_train_83 (by decide) rfl ?_
  refine X_iconst (v := 0) hC (by decide) dX5_train_85 ?_
  refine X_istore (ls' := [(6, .int (0 : Int32)), (5, .int (0 : Int32)), (0, .ref (ad 0)), (1, .int v1), (2, .int v2), (3, .int v3), (4, .int v4)]) hC dX5_train_86 (by decide) rfl ?_
  exact X_sub [6, 1, 0] rfl (L_X5_train_b88 G cls ad hi hC hz0 hz1 fuel σ10 v4 (0 : Int32) (0 : Int32))
theorem okm_X5_train : okm yX5_train 3 = true := by decide +kernel
set_option maxHeartbeats 4000000 in
set_option maxRecDepth 100000 in
theorem c_X5_train (l : Launch) (G : va_G) (cls : Cls) (ad : Nat → Nat) (hi : inj 6 ad) (σ : Sg)   (p1 p2 p3 : Int32) : MT l (YM G cls ad) yX5_train (.code yX5_train cX5_train 7 (some .int) :: gw) 2 43 [.ref (ad 0), .int p1, .int p2, .int p3] fiS σ (f_X5_train σ  p1 p2 p3) := by
  refine MT.of (own := RX5) (by decide) (YM_D hi) rfl (Nat.le_of_ble_eq_true rfl) fun Γ _ hz0 hz1 hC => ?_
  show WX Γ (YM G cls ad) (qf Γ (YM G cls ad) fiS) 7 0 [(0, .ref (ad 0)), (1, .int p1), (2, .int p2), (3, .int p3)] [] σ (f_X5_train σ  p1 p2 p3)
  unfold f_X5_train
  refine X_aload_n hC 0 rfl dX5_train_0 ?_
  refine X_iload_n hC 1 rfl dX5_train_1 ?_
  refine X_callP (C := RX5) (T := TX5) (N := 16) (ci := 5) (rest := []) hC (c_X5_noScholar _ G cls ad hi σ p1) (gV tw_589 tw_591 ts_11 tw_7 tw_592) rfl (wM (k := 0) (by omega) cM_ob) rfl rfl okm_X5_noScholar (by decide) dX5_train_2 rfl (Nat.le_of_ble_eq_true rfl) (fun r1 => ?_)
  refine X_if_eq hC 11 dX5_train_5 (by decide) (fun h2 => ?_) (fun h2 => ?_)
  · refine X_iload_n hC 2 rfl dX5_train_11 ?_
    refine X_iload_n hC 3 rfl dX5_train_12 ?_
    refine X_statP (rest := []) hC (c_X5_isScholar _ G cls ad hi σ p2 p3) (gSt tw_582 tw_583 tw_7 tw_584) rfl okm_X5_isScholar (by decide) dX5_train_13 rfl (Nat.le_of_ble_eq_true rfl) (fun r3 => ?_)
    refine X_if_ne hC 22 dX5_train_16 (by decide) (fun h4 => ?_) (fun h4 => ?_)
    · refine X_aload_n hC 0 rfl dX5_train_22 ?_
      refine X_iload_n hC 1 rfl dX5_train_23 ?_
      refine X_iconst (v := 1) hC (by decide) dX5_train_24 ?_
      refine X_callP (C := RX5) (T := TX5) (N := 16) (ci := 5) (rest := []) hC (c_X5_scholar _ G cls ad hi σ p1 (1 : Int32)) (gV tw_574 tw_576 ts_10 tw_7 tw_577) rfl (wM (k := 0) (by omega) cM_ob) rfl rfl okm_X5_scholar (by decide) dX5_train_25 rfl (Nat.le_of_ble_eq_true rfl) (fun r5 => ?_)
      refine X_iload_n hC 3 rfl dX5_train_28 ?_
      refine X_ixor hC dX5_train_29 ?_
      refine X_lt (fun x6 => ?_)
      refine X_istore (ls' := [(4, .int x6), (0, .ref (ad 0)), (1, .int p1), (2, .int p2), (3, .int p3)]) hC dX5_train_30 (by decide) rfl ?_
      refine X_iload hC 0 rfl dX5_train_32 ?_
      refine X_if_ne hC 50 dX5_train_34 (by decide) (fun h7 => ?_) (fun h7 => ?_)
      · exact X_sub [1, 2, 3, 4, 0] rfl (L_X5_train_b50 G cls ad hi hC hz0 hz1 σ p1 p2 p3 x6)
      · refine X_aload_n hC 1 rfl dX5_train_37 ?_
        refine X_iload_n hC 2 rfl dX5_train_38 ?_
        refine X_iconst (v := 0) hC (by decide) dX5_train_39 ?_
        refine X_callP (C := RX5) (T := TX5) (N := 16) (ci := 5) (rest := []) hC (c_X5_scholar _ G cls ad hi σ p1 (0 : Int32)) (gV tw_574 tw_576 ts_10 tw_7 tw_577) rfl (wM (k := 0) (by omega) cM_ob) rfl rfl okm_X5_scholar (by decide) dX5_train_40 rfl (Nat.le_of_ble_eq_true rfl) (fun r14 => ?_)
        refine X_iload_n hC 3 rfl dX5_train_43 ?_
        refine X_icmp_ne hC 50 dX5_train_44 (by decide) (fun h15 => ?_) (fun h15 => ?_)
        · exact X_sub [1, 2, 3, 4, 0] rfl (L_X5_train_b50 G cls ad hi hC hz0 hz1 σ p1 p2 p3 x6)
        · refine X_ldc (v := -10000005) hC tw_564 dX5_train_47 ?_
          exact X_iret hC hz0 hz1 dX5_train_49 rfl
    · refine X_ldc (v := -10000002) hC tw_541 dX5_train_19 ?_
      exact X_iret hC hz0 hz1 dX5_train_21 rfl
  · refine X_ldc (v := -10000001) hC tw_555 dX5_train_8 ?_
    exact X_iret hC hz0 hz1 dX5_train_10 rfl
theorem dX5_look_0 : decode cX5_look 0 = .ok (.aload_n 0, 1) := by decide +kernel
theorem dX5_look_1 : decode cX5_look 1 = .ok (.iload_n 1, 1) := by decide +kernel
theorem dX5_look_2 : decode cX5_look 2 = .ok (.iconst 0, 1) := by decide +kernel
theorem dX5_look_3 : decode cX5_look 3 = .ok (.invokevirtual 34, 3) := by decide +kernel
theorem dX5_look_6 : decode cX5_look 6 = .ok (.istore_n 3, 1) := by decide +kernel
theorem dX5_look_7 : decode cX5_look 7 = .ok (.aload_n 0, 1) := by decide +kernel
theorem dX5_look_8 : decode cX5_look 8 = .ok (.iload_n 1, 1) := by decide +kernel
theorem dX5_look_9 : decode cX5_look 9 = .ok (.iconst 1, 1) := by decide +kernel
theorem dX5_look_10 : decode cX5_look 10 = .ok (.invokevirtual 34, 3) := by decide +kernel
theorem dX5_look_13 : decode cX5_look 13 = .ok (.istore 4, 2) := by decide +kernel
theorem dX5_look_15 : decode cX5_look 15 = .ok (.aload_n 0, 1) := by decide +kernel
theorem dX5_look_16 : decode cX5_look 16 = .ok (.iload_n 1, 1) := by decide +kernel
theorem dX5_look_17 : decode cX5_look 17 = .ok (.invokevirtual 48, 3) := by decide +kernel
theorem dX5_look_20 : decode cX5_look 20 = .ok (.istore 5, 2) := by decide +kernel
theorem dX5_look_22 : decode cX5_look 22 = .ok (.aload_n 0, 1) := by decide +kernel
theorem dX5_look_23 : decode cX5_look 23 = .ok (.iload_n 2, 1) := by decide +kernel
theorem dX5_look_24 : decode cX5_look 24 = .ok (.iload 5, 2) := by decide +kernel
theorem dX5_look_26 : decode cX5_look 26 = .ok (.idiv, 1) := by decide +kernel
theorem dX5_look_27 : decode cX5_look 27 = .ok (.putfield 64, 3) := by decide +kernel
theorem dX5_look_30 : decode cX5_look 30 = .ok (.aload_n 0, 1) := by decide +kernel
theorem dX5_look_31 : decode cX5_look 31 = .ok (.dup, 1) := by decide +kernel
theorem dX5_look_32 : decode cX5_look 32 = .ok (.getfield 64, 3) := by decide +kernel
theorem dX5_look_35 : decode cX5_look 35 = .ok (.aload_n 0, 1) := by decide +kernel
theorem dX5_look_36 : decode cX5_look 36 = .ok (.getfield 64, 3) := by decide +kernel
theorem dX5_look_39 : decode cX5_look 39 = .ok (.iload 5, 2) := by decide +kernel
theorem dX5_look_41 : decode cX5_look 41 = .ok (.imul, 1) := by decide +kernel
theorem dX5_look_42 : decode cX5_look 42 = .ok (.iload_n 2, 1) := by decide +kernel
theorem dX5_look_43 : decode cX5_look 43 = .ok (.if_icmp .le 7, 3) := by decide +kernel
theorem dX5_look_46 : decode cX5_look 46 = .ok (.iconst 1, 1) := by decide +kernel
theorem dX5_look_47 : decode cX5_look 47 = .ok (.goto 4, 3) := by decide +kernel
theorem dX5_look_50 : decode cX5_look 50 = .ok (.iconst 0, 1) := by decide +kernel
theorem dX5_look_51 : decode cX5_look 51 = .ok (.isub, 1) := by decide +kernel
theorem dX5_look_52 : decode cX5_look 52 = .ok (.putfield 64, 3) := by decide +kernel
theorem dX5_look_55 : decode cX5_look 55 = .ok (.aload_n 0, 1) := by decide +kernel
theorem dX5_look_56 : decode cX5_look 56 = .ok (.iload_n 2, 1) := by decide +kernel
theorem dX5_look_57 : decode cX5_look 57 = .ok (.aload_n 0, 1) := by decide +kernel
theorem dX5_look_58 : decode cX5_look 58 = .ok (.getfield 64, 3) := by decide +kernel
theorem dX5_look_61 : decode cX5_look 61 = .ok (.iload 5, 2) := by decide +kernel
theorem dX5_look_63 : decode cX5_look 63 = .ok (.imul, 1) := by decide +kernel
theorem dX5_look_64 : decode cX5_look 64 = .ok (.isub, 1) := by decide +kernel
theorem dX5_look_65 : decode cX5_look 65 = .ok (.putfield 67, 3) := by decide +kernel
theorem dX5_look_68 : decode cX5_look 68 = .ok (.aload_n 0, 1) := by decide +kernel
theorem dX5_look_69 : decode cX5_look 69 = .ok (.iconst 0, 1) := by decide +kernel
theorem dX5_look_70 : decode cX5_look 70 = .ok (.putfield 70, 3) := by decide +kernel
theorem dX5_look_73 : decode cX5_look 73 = .ok (.iconst 0, 1) := by decide +kernel
theorem dX5_look_74 : decode cX5_look 74 = .ok (.istore 6, 2) := by decide +kernel
theorem dX5_look_76 : decode cX5_look 76 = .ok (.iload 6, 2) := by decide +kernel
theorem dX5_look_78 : decode cX5_look 78 = .ok (.iload_n 3, 1) := by decide +kernel
theorem dX5_look_79 : decode cX5_look 79 = .ok (.if_icmp .gt 180, 3) := by decide +kernel
theorem dX5_look_82 : decode cX5_look 82 = .ok (.aload_n 0, 1) := by decide +kernel
theorem dX5_look_83 : decode cX5_look 83 = .ok (.iload_n 1, 1) := by decide +kernel
theorem dX5_look_84 : decode cX5_look 84 = .ok (.iconst 3, 1) := by decide +kernel
theorem dX5_look_85 : decode cX5_look 85 = .ok (.invokevirtual 34, 3) := by decide +kernel
theorem dX5_look_88 : decode cX5_look 88 = .ok (.ifCond .ne 10, 3) := by decide +kernel
theorem dX5_look_91 : decode cX5_look 91 = .ok (.aload_n 0, 1) := by decide +kernel
theorem dX5_look_92 : decode cX5_look 92 = .ok (.getfield 67, 3) := by decide +kernel
theorem dX5_look_95 : decode cX5_look 95 = .ok (.goto 10, 3) := by decide +kernel
theorem dX5_look_98 : decode cX5_look 98 = .ok (.iload 5, 2) := by decide +kernel
theorem dX5_look_100 : decode cX5_look 100 = .ok (.aload_n 0, 1) := by decide +kernel
theorem dX5_look_101 : decode cX5_look 101 = .ok (.getfield 67, 3) := by decide +kernel
theorem dX5_look_104 : decode cX5_look 104 = .ok (.isub, 1) := by decide +kernel
theorem dX5_look_105 : decode cX5_look 105 = .ok (.iload 6, 2) := by decide +kernel
theorem dX5_look_107 : decode cX5_look 107 = .ok (.iload 4, 2) := by decide +kernel
theorem dX5_look_109 : decode cX5_look 109 = .ok (.imul, 1) := by decide +kernel
theorem dX5_look_110 : decode cX5_look 110 = .ok (.isub, 1) := by decide +kernel
theorem dX5_look_111 : decode cX5_look 111 = .ok (.istore 7, 2) := by decide +kernel
theorem dX5_look_113 : decode cX5_look 113 = .ok (.iload 7, 2) := by decide +kernel
theorem dX5_look_115 : decode cX5_look 115 = .ok (.ifCond .ge 9, 3) := by decide +kernel
theorem dX5_look_118 : decode cX5_look 118 = .ok (.iload 7, 2) := by decide +kernel
theorem dX5_look_120 : decode cX5_look 120 = .ok (.ineg, 1) := by decide +kernel
theorem dX5_look_121 : decode cX5_look 121 = .ok (.goto 5, 3) := by decide +kernel
theorem dX5_look_124 : decode cX5_look 124 = .ok (.iload 7, 2) := by decide +kernel
theorem dX5_look_126 : decode cX5_look 126 = .ok (.istore 7, 2) := by decide +kernel
theorem dX5_look_128 : decode cX5_look 128 = .ok (.aload_n 0, 1) := by decide +kernel
theorem dX5_look_129 : decode cX5_look 129 = .ok (.iload_n 1, 1) := by decide +kernel
theorem dX5_look_130 : decode cX5_look 130 = .ok (.iconst 3, 1) := by decide +kernel
theorem dX5_look_131 : decode cX5_look 131 = .ok (.invokevirtual 34, 3) := by decide +kernel
theorem dX5_look_134 : decode cX5_look 134 = .ok (.ifCond .ne 8, 3) := by decide +kernel
theorem dX5_look_137 : decode cX5_look 137 = .ok (.iload 6, 2) := by decide +kernel
theorem dX5_look_139 : decode cX5_look 139 = .ok (.goto 7, 3) := by decide +kernel
theorem dX5_look_142 : decode cX5_look 142 = .ok (.iload_n 3, 1) := by decide +kernel
theorem dX5_look_143 : decode cX5_look 143 = .ok (.iload 6, 2) := by decide +kernel
theorem dX5_look_145 : decode cX5_look 145 = .ok (.isub, 1) := by decide +kernel
theorem dX5_look_146 : decode cX5_look 146 = .ok (.istore 8, 2) := by decide +kernel
theorem dX5_look_148 : decode cX5_look 148 = .ok (.aload_n 0, 1) := by decide +kernel
theorem dX5_look_149 : decode cX5_look 149 = .ok (.getfield 70, 3) := by decide +kernel
theorem dX5_look_152 : decode cX5_look 152 = .ok (.ifCond .eq 12, 3) := by decide +kernel
theorem dX5_look_155 : decode cX5_look 155 = .ok (.iload 7, 2) := by decide +kernel
theorem dX5_look_157 : decode cX5_look 157 = .ok (.aload_n 0, 1) := by decide +kernel
theorem dX5_look_158 : decode cX5_look 158 = .ok (.getfield 73, 3) := by decide +kernel
theorem dX5_look_161 : decode cX5_look 161 = .ok (.if_icmp .ge 29, 3) := by decide +kernel
theorem dX5_look_164 : decode cX5_look 164 = .ok (.aload_n 0, 1) := by decide +kernel
theorem dX5_look_165 : decode cX5_look 165 = .ok (.iconst 1, 1) := by decide +kernel
theorem dX5_look_166 : decode cX5_look 166 = .ok (.putfield 70, 3) := by decide +kernel
theorem dX5_look_169 : decode cX5_look 169 = .ok (.aload_n 0, 1) := by decide +kernel
theorem dX5_look_170 : decode cX5_look 170 = .ok (.iload 7, 2) := by decide +kernel
theorem dX5_look_172 : decode cX5_look 172 = .ok (.putfield 73, 3) := by decide +kernel
theorem dX5_look_175 : decode cX5_look 175 = .ok (.aload_n 0, 1) := by decide +kernel
theorem dX5_look_176 : decode cX5_look 176 = .ok (.iload 6, 2) := by decide +kernel
theorem dX5_look_178 : decode cX5_look 178 = .ok (.putfield 76, 3) := by decide +kernel
theorem dX5_look_181 : decode cX5_look 181 = .ok (.aload_n 0, 1) := by decide +kernel
theorem dX5_look_182 : decode cX5_look 182 = .ok (.iload 8, 2) := by decide +kernel
theorem dX5_look_184 : decode cX5_look 184 = .ok (.putfield 79, 3) := by decide +kernel
theorem dX5_look_187 : decode cX5_look 187 = .ok (.goto 66, 3) := by decide +kernel
theorem dX5_look_190 : decode cX5_look 190 = .ok (.iload 7, 2) := by decide +kernel
theorem dX5_look_192 : decode cX5_look 192 = .ok (.aload_n 0, 1) := by decide +kernel
theorem dX5_look_193 : decode cX5_look 193 = .ok (.getfield 73, 3) := by decide +kernel
theorem dX5_look_196 : decode cX5_look 196 = .ok (.if_icmp .ne 57, 3) := by decide +kernel
theorem dX5_look_199 : decode cX5_look 199 = .ok (.aload_n 0, 1) := by decide +kernel
theorem dX5_look_200 : decode cX5_look 200 = .ok (.dup, 1) := by decide +kernel
theorem dX5_look_201 : decode cX5_look 201 = .ok (.getfield 70, 3) := by decide +kernel
theorem dX5_look_204 : decode cX5_look 204 = .ok (.iconst 1, 1) := by decide +kernel
theorem dX5_look_205 : decode cX5_look 205 = .ok (.iadd, 1) := by decide +kernel
theorem dX5_look_206 : decode cX5_look 206 = .ok (.putfield 70, 3) := by decide +kernel
theorem dX5_look_209 : decode cX5_look 209 = .ok (.aload_n 0, 1) := by decide +kernel
theorem dX5_look_210 : decode cX5_look 210 = .ok (.iload 8, 2) := by decide +kernel
theorem dX5_look_212 : decode cX5_look 212 = .ok (.aload_n 0, 1) := by decide +kernel
theorem dX5_look_213 : decode cX5_look 213 = .ok (.getfield 79, 3) := by decide +kernel
theorem dX5_look_216 : decode cX5_look 216 = .ok (.if_icmp .ge 8, 3) := by decide +kernel
theorem dX5_look_219 : decode cX5_look 219 = .ok (.iload 6, 2) := by decide +kernel
theorem dX5_look_221 : decode cX5_look 221 = .ok (.goto 7, 3) := by decide +kernel
theorem dX5_look_224 : decode cX5_look 224 = .ok (.aload_n 0, 1) := by decide +kernel
theorem dX5_look_225 : decode cX5_look 225 = .ok (.getfield 76, 3) := by decide +kernel
theorem dX5_look_228 : decode cX5_look 228 = .ok (.putfield 76, 3) := by decide +kernel
theorem dX5_look_231 : decode cX5_look 231 = .ok (.aload_n 0, 1) := by decide +kernel
theorem dX5_look_232 : decode cX5_look 232 = .ok (.iload 8, 2) := by decide +kernel
theorem dX5_look_234 : decode cX5_look 234 = .ok (.aload_n 0, 1) := by decide +kernel
theorem dX5_look_235 : decode cX5_look 235 = .ok (.getfield 79, 3) := by decide +kernel
theorem dX5_look_238 : decode cX5_look 238 = .ok (.if_icmp .ge 8, 3) := by decide +kernel
theorem dX5_look_241 : decode cX5_look 241 = .ok (.iload 8, 2) := by decide +kernel
theorem dX5_look_243 : decode cX5_look 243 = .ok (.goto 7, 3) := by decide +kernel
theorem dX5_look_246 : decode cX5_look 246 = .ok (.aload_n 0, 1) := by decide +kernel
theorem dX5_look_247 : decode cX5_look 247 = .ok (.getfield 79, 3) := by decide +kernel
theorem dX5_look_250 : decode cX5_look 250 = .ok (.putfield 79, 3) := by decide +kernel
theorem dX5_look_253 : decode cX5_look 253 = .ok (.iinc 6 1, 3) := by decide +kernel
theorem dX5_look_256 : decode cX5_look 256 = .ok (.goto (-180), 3) := by decide +kernel
theorem dX5_look_259 : decode cX5_look 259 = .ok (.return_, 1) := by decide +kernel
def f_X5_look_b253   (K76 : Sg → Int32 → Int32 → Int32 → Int32 → Int32 → Option (Sg)) (σ : Sg) (v1 v3 v4 v5 v6 : Int32) : Option (Sg) := lt (v6 + (1 : Int32)) fun x21 => K76 σ v1 v3 v4 v5 x21
def f_X5_look_b164   (K76 : Sg → Int32 → Int32 → Int32 → Int32 → Int32 → Option (Sg)) (σ : Sg) (v1 v3 v4 v5 v6 v7 v8 : Int32) : Option (Sg) := lts (s1 σ 7 (1 : Int32)) fun σ17 => lts (s1 σ17 5 v7) fun σ18 => lts (s1 σ18 4 v6) fun σ19 => lts (s1 σ19 6 v8) fun σ20 => f_X5_look_b253 K76 σ20 v1 v3 v4 v5 v6
def f_X5_look_b250   (K76 : Sg → Int32 → Int32 → Int32 → Int32 → Int32 → Option (Sg)) (σ : Sg) (v1 v3 v4 v5 v6 w0 : Int32) : Option (Sg) := lts (s1 σ 6 w0) fun σ28 => f_X5_look_b253 K76 σ28 v1 v3 v4 v5 v6
def f_X5_look_b228   (K76 : Sg → Int32 → Int32 → Int32 → Int32 → Int32 → Option (Sg)) (σ : Sg) (v1 v3 v4 v5 v6 v8 w0 : Int32) : Option (Sg) := lts (s1 σ 4 w0) fun σ26 => if (σ26.1 6) ≤ v8 then (f_X5_look_b250 K76 σ26 v1 v3 v4 v5 v6 (σ26.1 6)) else (f_X5_look_b250 K76 σ26 v1 v3 v4 v5 v6 v8)
def f_X5_look_b146   (K76 : Sg → Int32 → Int32 → Int32 → Int32 → Int32 → Option (Sg)) (σ : Sg) (v1 v3 v4 v5 v6 v7 w0 : Int32) : Option (Sg) := if (σ.1 7) = 0 then (f_X5_look_b164 K76 σ v1 v3 v4 v5 v6 v7 w0) else (if (σ.1 5) ≤ v7 then (if v7 = (σ.1 5) then (lts (s1 σ 7 ((σ.1 7) + (1 : Int32))) fun σ24 => if (σ24.1 6) ≤ w0 then (f_X5_look_b228 K76 σ24 v1 v3 v4 v5 v6 w0 (σ24.1 4)) else (f_X5_look_b228 K76 σ24 v1 v3 v4 v5 v6 w0 v6)) else (f_X5_look_b253 K76 σ v1 v3 v4 v5 v6)) else (f_X5_look_b164 K76 σ v1 v3 v4 v5 v6 v7 w0))
def f_X5_look_b126   (K76 : Sg → Int32 → Int32 → Int32 → Int32 → Int32 → Option (Sg)) (σ : Sg) (v1 v3 v4 v5 v6 w0 : Int32) : Option (Sg) := (f_X5_tool σ v1 (3 : Int32)).bind fun r14 => if r14 = 0 then (f_X5_look_b146 K76 σ v1 v3 v4 v5 v6 w0 v6) else (f_X5_look_b146 K76 σ v1 v3 v4 v5 v6 w0 (v3 - v6))
def f_X5_look_b105   (K76 : Sg → Int32 → Int32 → Int32 → Int32 → Int32 → Option (Sg)) (σ : Sg) (v1 v3 v4 v5 v6 w0 : Int32) : Option (Sg) := lt (w0 - (v6 * v4)) fun x12 => if 0 ≤ x12 then (f_X5_look_b126 K76 σ v1 v3 v4 v5 v6 x12) else (f_X5_look_b126 K76 σ v1 v3 v4 v5 v6 (-x12))
def f_X5_look_b76    : Nat → Sg → Int32 → Int32 → Int32 → Int32 → Int32 → Option (Sg)
  | 0, _, _, _, _, _, _ => none
  | n + 1, σ, v1, v3, v4, v5, v6 => if v3 < v6 then (some σ) else ((f_X5_tool σ v1 (3 : Int32)).bind fun r10 => if r10 = 0 then (f_X5_look_b105 (f_X5_look_b76   n) σ v1 v3 v4 v5 v6 (σ.1 3)) else (f_X5_look_b105 (f_X5_look_b76   n) σ v1 v3 v4 v5 v6 (v5 - (σ.1 3))))
def f_X5_look_b51    (σ : Sg) (v1 v2 v3 v4 v5 w0 w1 : Int32) : Option (Sg) := lts (s1 σ 2 (w1 - w0)) fun σ6 => lts (s1 σ6 3 (v2 - ((σ6.1 2) * v5))) fun σ7 => lts (s1 σ7 7 (0 : Int32)) fun σ8 => f_X5_look_b76 fuel σ8 v1 v3 v4 v5 (0 : Int32)
def f_X5_look (σ : Sg)  (p1 p2 : Int32) : Option (Sg) := (f_X5_tool σ p1 (0 : Int32)).bind fun r1 => (f_X5_tool σ p1 (1 : Int32)).bind fun r2 => (f_X5_wide σ p1).bind fun r3 => gd (r3 != 0) (lts (s1 σ 2 (p2 / r3)) fun σ4 => if ((σ4.1 2) * r3) ≤ p2 then (f_X5_look_b51 σ4 p1 p2 r1 r2 r3 (0 : Int32) (σ4.1 2)) else (f_X5_look_b51 σ4 p1 p2 r1 r2 r3 (1 : Int32) (σ4.1 2)))
set_option maxHeartbeats 4000000 in
set_option maxRecDepth 100000 in
theorem L_X5_look_b253 {Γ : Cx} (G : va_G) (cls : Cls) (ad : Nat → Nat) (hi : inj 6 ad) (hC : CX Γ (YM G cls ad) cX5_look RX5 9 none 2 43) (hz0 : Γ.2.2.2.2.2.1 = 0) (hz1 : Γ.2.2.2.2.2.2 = 0)    (K76 : Sg → Int32 → Int32 → Int32 → Int32 → Int32 → Option (Sg)) (hK76 : ∀ (σ : Sg) (v1 v3 v4 v5 v6 : Int32), WX Γ (YM G cls ad) (qf Γ (YM G cls ad) fvS) 9 76 [(0, .ref (ad 0)), (1, .int v1), (3, .int v3), (4, .int v4), (5, .int v5), (6, .int v6)] [] σ (K76 σ v1 v3 v4 v5 v6)) (σ : Sg) (v1 v3 v4 v5 v6 : Int32) : WX Γ (YM G cls ad) (qf Γ (YM G cls ad) fvS) 9 253 [(0, .ref (ad 0)), (1, .int v1), (3, .int v3), (4, .int v4), (5, .int v5), (6, .int v6)] [] σ (f_X5_look_b253  K76 σ v1 v3 v4 v5 v6) := by
  unfold f_X5_look_b253
  refine X_iinc (ls' := fun x21 => [(6, .int x21), (0, .ref (ad 0)), (1, .int v1), (3, .int v3), (4, .int v4), (5, .int v5)]) hC 5 dX5_look_253 rfl (by decide) (by decide) (fun _ => rfl) (fun x21 => ?_)
  refine X_goto hC 76 dX5_look_256 (by decide) ?_
  exact X_sub [1, 2, 3, 4, 5, 0] rfl (hK76 σ v1 v3 v4 v5 x21)
set_option maxHeartbeats 4000000 in
set_option maxRecDepth 100000 in
theorem L_X5_look_b164 {Γ : Cx} (G : va_G) (cls : Cls) (ad : Nat → Nat) (hi : inj 6 ad) (hC : CX Γ (YM G cls ad) cX5_look RX5 9 none 2 43) (hz0 : Γ.2.2.2.2.2.1 = 0) (hz1 : Γ.2.2.2.2.2.2 = 0)    (K76 : Sg → Int32 → Int32 → Int32 → Int32 → Int32 → Option (Sg)) (hK76 : ∀ (σ : Sg) (v1 v3 v4 v5 v6 : Int32), WX Γ (YM G cls ad) (qf Γ (YM G cls ad) fvS) 9 76 [(0, .ref (ad 0)), (1, .int v1), (3, .int v3), (4, .int v4), (5, .int v5), (6, .int v6)] [] σ (K76 σ v1 v3 v4 v5 v6)) (σ : Sg) (v1 v3 v4 v5 v6 v7 v8 : Int32) : WX Γ (YM G cls ad) (qf Γ (YM G cls ad) fvS) 9 164 [(0, .ref (ad 0)), (1, .int v1), (3, .int v3), (4, .int v4), (5, .int v5), (6, .int v6), (7, .int v7), (8, .int v8)] [] σ (f_X5_look_b164  K76 σ v1 v3 v4 v5 v6 v7 v8) := by
  unfold f_X5_look_b164
  refine X_aload_n hC 0 rfl dX5_look_164 ?_
  refine X_iconst (v := 1) hC (by decide) dX5_look_165 ?_
  refine X_putf (C := RX5) (T := TX5) (N := 16) (ci := 5) (ty := .int) hC 10 (wM (k := 0) (by omega) cM_ob) rfl hinX5 tyX5_ok nmX5 (by decide) tw_495 rfl rfl (by decide +kernel) rfl rfl (Nat.le_of_ble_eq_true rfl) (sM_seenMany _) dX5_look_166 (X_lts fun σ17 => ?_)
  refine X_aload_n hC 0 rfl dX5_look_169 ?_
  refine X_iload hC 6 rfl dX5_look_170 ?_
  refine X_putf (C := RX5) (T := TX5) (N := 16) (ci := 5) (ty := .int) hC 8 (wM (k := 0) (by omega) cM_ob) rfl hinX5 tyX5_ok nmX5 (by decide) tw_493 rfl rfl (by decide +kernel) rfl rfl (Nat.le_of_ble_eq_true rfl) (sM_seenFar _) dX5_look_172 (X_lts fun σ18 => ?_)
  refine X_aload_n hC 0 rfl dX5_look_175 ?_
  refine X_iload hC 5 rfl dX5_look_176 ?_
  refine X_putf (C := RX5) (T := TX5) (N := 16) (ci := 5) (ty := .int) hC 7 (wM (k := 0) (by omega) cM_ob) rfl hinX5 tyX5_ok nmX5 (by decide) tw_492 rfl rfl (by decide +kernel) rfl rfl (Nat.le_of_ble_eq_true rfl) (sM_seenLine _) dX5_look_178 (X_lts fun σ19 => ?_)
  refine X_aload_n hC 0 rfl dX5_look_181 ?_
  refine X_iload hC 7 rfl dX5_look_182 ?_
  refine X_putf (C := RX5) (T := TX5) (N := 16) (ci := 5) (ty := .int) hC 9 (wM (k := 0) (by omega) cM_ob) rfl hinX5 tyX5_ok nmX5 (by decide) tw_494 rfl rfl (by decide +kernel) rfl rfl (Nat.le_of_ble_eq_true rfl) (sM_seenK _) dX5_look_184 (X_lts fun σ20 => ?_)
  refine X_goto hC 253 dX5_look_187 (by decide) ?_
  exact X_sub [0, 1, 2, 3, 4, 5] rfl (L_X5_look_b253 G cls ad hi hC hz0 hz1 K76 hK76 σ20 v1 v3 v4 v5 v6)
set_option maxHeartbeats 4000000 in
set_option maxRecDepth 100000 in
theorem L_X5_look_b250 {Γ : Cx} (G : va_G) (cls : Cls) (ad : Nat → Nat) (hi : inj 6 ad) (hC : CX Γ (YM G cls ad) cX5_look RX5 9 none 2 43) (hz0 : Γ.2.2.2.2.2.1 = 0) (hz1 : Γ.2.2.2.2.2.2 = 0)    (K76 : Sg → Int32 → Int32 → Int32 → Int32 → Int32 → Option (Sg)) (hK76 : ∀ (σ : Sg) (v1 v3 v4 v5 v6 : Int32), WX Γ (YM G cls ad) (qf Γ (YM G cls ad) fvS) 9 76 [(0, .ref (ad 0)), (1, .int v1), (3, .int v3), (4, .int v4), (5, .int v5), (6, .int v6)] [] σ (K76 σ v1 v3 v4 v5 v6)) (σ : Sg) (v1 v3 v4 v5 v6 w0 : Int32) : WX Γ (YM G cls ad) (qf Γ (YM G cls ad) fvS) 9 250 [(0, .ref (ad 0)), (1, .int v1), (3, .int v3), (4, .int v4), (5, .int v5), (6, .int v6)] [.int w0, .ref (ad 0)] σ (f_X5_look_b250  K76 σ v1 v3 v4 v5 v6 w0) := by
  unfold f_X5_look_b250
  refine X_putf (C := RX5) (T := TX5) (N := 16) (ci := 5) (ty := .int) hC 9 (wM (k := 0) (by omega) cM_ob) rfl hinX5 tyX5_ok nmX5 (by decide) tw_494 rfl rfl (by decide +kernel) rfl rfl (Nat.le_of_ble_eq_true rfl) (sM_seenK _) dX5_look_250 (X_lts fun σ28 => ?_)
  exact (L_X5_look_b253 G cls ad hi hC hz0 hz1 K76 hK76 σ28 v1 v3 v4 v5 v6)
set_option maxHeartbeats 4000000 in
set_option maxRecDepth 100000 in
theorem L_X5_look_b228 {Γ : Cx} (G : va_G) (cls : Cls) (ad : Nat → Nat) (hi : inj 6 ad) (hC : CX Γ (YM G cls ad) cX5_look RX5 9 none 2 43) (hz0 : Γ.2.2.2.2.2.1 = 0) (hz1 : Γ.2.2.2.2.2.2 = 0)    (K76 : Sg → Int32 → Int32 → Int32 → Int32 → Int32 → Option (Sg)) (hK76 : ∀ (σ : Sg) (v1 v3 v4 v5 v6 : Int32), WX Γ (YM G cls ad) (qf Γ (YM G cls ad) fvS) 9 76 [(0, .ref (ad 0)), (1, .int v1), (3, .int v3), (4, .int v4), (5, .int v5), (6, .int v6)] [] σ (K76 σ v1 v3 v4 v5 v6)) (σ : Sg) (v1 v3 v4 v5 v6 v8 w0 : Int32) : WX Γ (YM G cls ad) (qf Γ (YM G cls ad) fvS) 9 228 [(0, .ref (ad 0)), (1, .int v1), (3, .int v3), (4, .int v4), (5, .int v5), (6, .int v6), (8, .int v8)] [.int w0, .ref (ad 0)] σ (f_X5_look_b228  K76 σ v1 v3 v4 v5 v6 v8 w0) := by
  unfold f_X5_look_b228
  refine X_putf (C := RX5) (T := TX5) (N := 16) (ci := 5) (ty := .int) hC 7 (wM (k := 0) (by omega) cM_ob) rfl hinX5 tyX5_ok nmX5 (by decide) tw_492 rfl rfl (by decide +kernel) rfl rfl (Nat.le_of_ble_eq_true rfl) (sM_seenLine _) dX5_look_228 (X_lts fun σ26 => ?_)
  refine X_aload_n hC 0 rfl dX5_look_231 ?_
  refine X_iload hC 6 rfl dX5_look_232 ?_
  refine X_aload_n hC 0 rfl dX5_look_234 ?_
  refine X_getf (C := RX5) (T := TX5) (N := 16) (ci := 5) hC 9 (wM (k := 0) (by omega) cM_ob) rfl hinX5 (by decide) tw_494 rfl rfl dX5_look_235 ?_
  refine X_icmp_ge hC 246 dX5_look_238 (by decide) (fun h27 => ?_) (fun h27 => ?_)
  · refine X_aload_n hC 0 rfl dX5_look_246 ?_
    refine X_getf (C := RX5) (T := TX5) (N := 16) (ci := 5) hC 9 (wM (k := 0) (by omega) cM_ob) rfl hinX5 (by decide) tw_494 rfl rfl dX5_look_247 ?_
    exact X_sub [0, 1, 2, 3, 4, 5] rfl (L_X5_look_b250 G cls ad hi hC hz0 hz1 K76 hK76 σ26 v1 v3 v4 v5 v6 (σ26.1 6))
  · refine X_iload hC 6 rfl dX5_look_241 ?_
    refine X_goto hC 250 dX5_look_243 (by decide) ?_
    exact X_sub [0, 1, 2, 3, 4, 5] rfl (L_X5_look_b250 G cls ad hi hC hz0 hz1 K76 hK76 σ26 v1 v3 v4 v5 v6 v8)
set_option maxHeartbeats 4000000 in
set_option maxRecDepth 100000 in
theorem L_X5_look_b146 {Γ : Cx} (G : va_G) (cls : Cls) (ad : Nat → Nat) (hi : inj 6 ad) (hC : CX Γ (YM G cls ad) cX5_look RX5 9 none 2 43) (hz0 : Γ.2.2.2.2.2.1 = 0) (hz1 : Γ.2.2.2.2.2.2 = 0)    (K76 : Sg → Int32 → Int32 → Int32 → Int32 → Int32 → Option (Sg)) (hK76 : ∀ (σ : Sg) (v1 v3 v4 v5 v6 : Int32), WX Γ (YM G cls ad) (qf Γ (YM G cls ad) fvS) 9 76 [(0, .ref (ad 0)), (1, .int v1), (3, .int v3), (4, .int v4), (5, .int v5), (6, .int v6)] [] σ (K76 σ v1 v3 v4 v5 v6)) (σ : Sg) (v1 v3 v4 v5 v6 v7 w0 : Int32) : WX Γ (YM G cls ad) (qf Γ (YM G cls ad) fvS) 9 146 [(0, .ref (ad 0)), (1, .int v1), (3, .int v3), (4, .int v4), (5, .int v5), (6, .int v6), (7, .int v7)] [.int w0] σ (f_X5_look_b146  K76 σ v1 v3 v4 v5 v6 v7 w0) := by
  unfold f_X5_look_b146
  refine X_istore (ls' := [(8, .int w0), (0, .ref (ad 0)), (1, .int v1), (3, .int v3), (4, .int v4), (5, .int v5), (6, .int v6), (7, .int v7)]) hC dX5_look_146 (by decide) rfl ?_
  refine X_aload_n hC 1 rfl dX5_look_148 ?_
  refine X_getf (C := RX5) (T := TX5) (N := 16) (ci := 5) hC 10 (wM (k := 0) (by omega) cM_ob) rfl hinX5 (by decide) tw_495 rfl rfl dX5_look_149 ?_
  refine X_if_eq hC 164 dX5_look_152 (by decide) (fun h16 => ?_) (fun h16 => ?_)
  · exact X_sub [1, 2, 3, 4, 5, 6, 7, 0] rfl (L_X5_look_b164 G cls ad hi hC hz0 hz1 K76 hK76 σ v1 v3 v4 v5 v6 v7 w0)
  · refine X_iload hC 7 rfl dX5_look_155 ?_
    refine X_aload_n hC 1 rfl dX5_look_157 ?_
    refine X_getf (C := RX5) (T := TX5) (N := 16) (ci := 5) hC 8 (wM (k := 0) (by omega) cM_ob) rfl hinX5 (by decide) tw_493 rfl rfl dX5_look_158 ?_
    refine X_icmp_ge hC 190 dX5_look_161 (by decide) (fun h22 => ?_) (fun h22 => ?_)
    · refine X_iload hC 7 rfl dX5_look_190 ?_
      refine X_aload_n hC 1 rfl dX5_look_192 ?_
      refine X_getf (C := RX5) (T := TX5) (N := 16) (ci := 5) hC 8 (wM (k := 0) (by omega) cM_ob) rfl hinX5 (by decide) tw_493 rfl rfl dX5_look_193 ?_
      refine X_icmp_ne hC 253 dX5_look_196 (by decide) (fun h23 => ?_) (fun h23 => ?_)
      · exact X_sub [1, 2, 3, 4, 5, 6] rfl (L_X5_look_b253 G cls ad hi hC hz0 hz1 K76 hK76 σ v1 v3 v4 v5 v6)
      · refine X_aload_n hC 1 rfl dX5_look_199 ?_
        refine X_dup hC rfl dX5_look_200 ?_
        refine X_getf (C := RX5) (T := TX5) (N := 16) (ci := 5) hC 10 (wM (k := 0) (by omega) cM_ob) rfl hinX5 (by decide) tw_495 rfl rfl dX5_look_201 ?_
        refine X_iconst (v := 1) hC (by decide) dX5_look_204 ?_
        refine X_iadd hC dX5_look_205 ?_
        refine X_putf (C := RX5) (T := TX5) (N := 16) (ci := 5) (ty := .int) hC 10 (wM (k := 0) (by omega) cM_ob) rfl hinX5 tyX5_ok nmX5 (by decide) tw_495 rfl rfl (by decide +kernel) rfl rfl (Nat.le_of_ble_eq_true rfl) (sM_seenMany _) dX5_look_206 (X_lts fun σ24 => ?_)
        refine X_aload_n hC 1 rfl dX5_look_209 ?_
        refine X_iload hC 0 rfl dX5_look_210 ?_
        refine X_aload_n hC 1 rfl dX5_look_212 ?_
        refine X_getf (C := RX5) (T := TX5) (N := 16) (ci := 5) hC 9 (wM (k := 0) (by omega) cM_ob) rfl hinX5 (by decide) tw_494 rfl rfl dX5_look_213 ?_
        refine X_icmp_ge hC 224 dX5_look_216 (by decide) (fun h25 => ?_) (fun h25 => ?_)
        · refine X_aload_n hC 1 rfl dX5_look_224 ?_
          refine X_getf (C := RX5) (T := TX5) (N := 16) (ci := 5) hC 7 (wM (k := 0) (by omega) cM_ob) rfl hinX5 (by decide) tw_492 rfl rfl dX5_look_225 ?_
          exact X_sub [1, 2, 3, 4, 5, 6, 0] rfl (L_X5_look_b228 G cls ad hi hC hz0 hz1 K76 hK76 σ24 v1 v3 v4 v5 v6 w0 (σ24.1 4))
        · refine X_iload hC 6 rfl dX5_look_219 ?_
          refine X_goto hC 228 dX5_look_221 (by decide) ?_
          exact X_sub [1, 2, 3, 4, 5, 6, 0] rfl (L_X5_look_b228 G cls ad hi hC hz0 hz1 K76 hK76 σ24 v1 v3 v4 v5 v6 w0 v6)
    · exact X_sub [1, 2, 3, 4, 5, 6, 7, 0] rfl (L_X5_look_b164 G cls ad hi hC hz0 hz1 K76 hK76 σ v1 v3 v4 v5 v6 v7 w0)
set_option maxHeartbeats 4000000 in
set_option maxRecDepth 100000 in
theorem L_X5_look_b126 {Γ : Cx} (G : va_G) (cls : Cls) (ad : Nat → Nat) (hi : inj 6 ad) (hC : CX Γ (YM G cls ad) cX5_look RX5 9 none 2 43) (hz0 : Γ.2.2.2.2.2.1 = 0) (hz1 : Γ.2.2.2.2.2.2 = 0)    (K76 : Sg → Int32 → Int32 → Int32 → Int32 → Int32 → Option (Sg)) (hK76 : ∀ (σ : Sg) (v1 v3 v4 v5 v6 : Int32), WX Γ (YM G cls ad) (qf Γ (YM G cls ad) fvS) 9 76 [(0, .ref (ad 0)), (1, .int v1), (3, .int v3), (4, .int v4), (5, .int v5), (6, .int v6)] [] σ (K76 σ v1 v3 v4 v5 v6)) (σ : Sg) (v1 v3 v4 v5 v6 w0 : Int32) : WX Γ (YM G cls ad) (qf Γ (YM G cls ad) fvS) 9 126 [(0, .ref (ad 0)), (1, .int v1), (3, .int v3), (4, .int v4), (5, .int v5), (6, .int v6)] [.int w0] σ (f_X5_look_b126  K76 σ v1 v3 v4 v5 v6 w0) := by
  unfold f_X5_look_b126
  refine X_istore (ls' := [(7, .int w0), (0, .ref (ad 0)), (1, .int v1), (3, .int v3), (4, .int v4), (5, .int v5), (6, .int v6)]) hC dX5_look_126 (by decide) rfl ?_
  refine X_aload_n hC 1 rfl dX5_look_128 ?_
  refine X_iload_n hC 2 rfl dX5_look_129 ?_
  refine X_iconst (v := 3) hC (by decide) dX5_look_130 ?_
  refine X_callP (C := RX5) (T := TX5) (N := 16) (ci := 5) (rest := []) hC (c_X5_tool _ G cls ad hi σ v1 (3 : Int32)) (gV tw_560 tw_562 ts_9 tw_7 tw_563) rfl (wM (k := 0) (by omega) cM_ob) rfl rfl okm_X5_tool (by decide) dX5_look_131 rfl (Nat.le_of_ble_eq_true rfl) (fun r14 => ?_)
  refine X_if_ne hC 142 dX5_look_134 (by decide) (fun h15 => ?_) (fun h15 => ?_)
  · refine X_iload_n hC 3 rfl dX5_look_142 ?_
    refine X_iload hC 6 rfl dX5_look_143 ?_
    refine X_isub hC dX5_look_145 ?_
    exact X_sub [1, 2, 3, 4, 5, 6, 0] rfl (L_X5_look_b146 G cls ad hi hC hz0 hz1 K76 hK76 σ v1 v3 v4 v5 v6 w0 (v3 - v6))
  · refine X_iload hC 6 rfl dX5_look_137 ?_
    refine X_goto hC 146 dX5_look_139 (by decide) ?_
    exact X_sub [1, 2, 3, 4, 5, 6, 0] rfl (L_X5_look_b146 G cls ad hi hC hz0 hz1 K76 hK76 σ v1 v3 v4 v5 v6 w0 v6)
set_option maxHeartbeats 4000000 in
set_option maxRecDepth 100000 in
theorem L_X5_look_b105 {Γ : Cx} (G : va_G) (cls : Cls) (ad : Nat → Nat) (hi : inj 6 ad) (hC : CX Γ (YM G cls ad) cX5_look RX5 9 none 2 43) (hz0 : Γ.2.2.2.2.2.1 = 0) (hz1 : Γ.2.2.2.2.2.2 = 0)    (K76 : Sg → Int32 → Int32 → Int32 → Int32 → Int32 → Option (Sg)) (hK76 : ∀ (σ : Sg) (v1 v3 v4 v5 v6 : Int32), WX Γ (YM G cls ad) (qf Γ (YM G cls ad) fvS) 9 76 [(0, .ref (ad 0)), (1, .int v1), (3, .int v3), (4, .int v4), (5, .int v5), (6, .int v6)] [] σ (K76 σ v1 v3 v4 v5 v6)) (σ : Sg) (v1 v3 v4 v5 v6 w0 : Int32) : WX Γ (YM G cls ad) (qf Γ (YM G cls ad) fvS) 9 105 [(0, .ref (ad 0)), (1, .int v1), (3, .int v3), (4, .int v4), (5, .int v5), (6, .int v6)] [.int w0] σ (f_X5_look_b105  K76 σ v1 v3 v4 v5 v6 w0) := by
  unfold f_X5_look_b105
  refine X_iload hC 5 rfl dX5_look_105 ?_
  refine X_iload hC 3 rfl dX5_look_107 ?_
  refine X_imul hC dX5_look_109 ?_
  refine X_isub hC dX5_look_110 ?_
  refine X_lt (fun x12 => ?_)
  refine X_istore (ls' := [(7, .int x12), (0, .ref (ad 0)), (1, .int v1), (3, .int v3), (4, .int v4), (5, .int v5), (6, .int v6)]) hC dX5_look_111 (by decide) rfl ?_
  refine X_iload hC 0 rfl dX5_look_113 ?_
  refine X_if_ge hC 124 dX5_look_115 (by decide) (fun h13 => ?_) (fun h13 => ?_)
  · refine X_iload hC 0 rfl dX5_look_124 ?_
    exact X_sub [1, 2, 3, 4, 5, 6] rfl (L_X5_look_b126 G cls ad hi hC hz0 hz1 K76 hK76 σ v1 v3 v4 v5 v6 x12)
  · refine X_iload hC 0 rfl dX5_look_118 ?_
    refine X_ineg hC dX5_look_120 ?_
    refine X_goto hC 126 dX5_look_121 (by decide) ?_
    exact X_sub [1, 2, 3, 4, 5, 6] rfl (L_X5_look_b126 G cls ad hi hC hz0 hz1 K76 hK76 σ v1 v3 v4 v5 v6 (-x12))
set_option maxHeartbeats 4000000 in
set_option maxRecDepth 100000 in
theorem L_X5_look_b76 {Γ : Cx} (G : va_G) (cls : Cls) (ad : Nat → Nat) (hi : inj 6 ad) (hC : CX Γ (YM G cls ad) cX5_look RX5 9 none 2 43) (hz0 : Γ.2.2.2.2.2.1 = 0) (hz1 : Γ.2.2.2.2.2.2 = 0)     : ∀ (n : Nat) (σ : Sg) (v1 v3 v4 v5 v6 : Int32), WX Γ (YM G cls ad) (qf Γ (YM G cls ad) fvS) 9 76 [(0, .ref (ad 0)), (1, .int v1), (3, .int v3), (4, .int v4), (5, .int v5), (6, .int v6)] [] σ (f_X5_look_b76   n σ v1 v3 v4 v5 v6) := by
  intro n
  induction n with
  | zero => intro σ v1 v3 v4 v5 v6; exact X_none
  | succ n ih =>
    intro σ v1 v3 v4 v5 v6
    rw [f_X5_look_b76.eq_2]
    refine X_iload hC 5 rfl dX5_look_76 ?_
    refine X_iload_n hC 2 rfl dX5_look_78 ?_
    refine X_icmp_gt hC 259 dX5_look_79 (by decide) (fun h9 => ?_) (fun h9 => ?_)
    · exact X_vret hC hz0 hz1 dX5_look_259 rfl
    · refine X_aload_n hC 0 rfl dX5_look_82 ?_
      refine X_iload_n hC 1 rfl dX5_look_83 ?_
      refine X_iconst (v := 3) hC (by decide) dX5_look_84 ?_
      refine X_callP (C := RX5) (T := TX5) (N := 16) (ci := 5) (rest := []) hC (c_X5_tool _ G cls ad hi σ v1 (3 : Int32)) (gV tw_560 tw_562 ts_9 tw_7 tw_563) rfl (wM (k := 0) (by omega) cM_ob) rfl rfl okm_X5_tool (by decide) dX5_look_85 rfl (Nat.le_of_ble_eq_true rfl) (fun r10 => ?_)
      refine X_if_ne hC 98 dX5_look_88 (by decide) (fun h11 => ?_) (fun h11 => ?_)
      · refine X_iload hC 4 rfl dX5_look_98 ?_
        refine X_aload_n hC 0 rfl dX5_look_100 ?_
        refine X_getf (C := RX5) (T := TX5) (N := 16) (ci := 5) hC 6 (wM (k := 0) (by omega) cM_ob) rfl hinX5 (by decide) tw_491 rfl rfl dX5_look_101 ?_
        refine X_isub hC dX5_look_104 ?_
        exact (L_X5_look_b105 G cls ad hi hC hz0 hz1 (f_X5_look_b76   n) ih σ v1 v3 v4 v5 v6 (v5 - (σ.1 3)))
      · refine X_aload_n hC 0 rfl dX5_look_91 ?_
        refine X_getf (C := RX5) (T := TX5) (N := 16) (ci := 5) hC 6 (wM (k := 0) (by omega) cM_ob) rfl hinX5 (by decide) tw_491 rfl rfl dX5_look_92 ?_
        refine X_goto hC 105 dX5_look_95 (by decide) ?_
        exact (L_X5_look_b105 G cls ad hi hC hz0 hz1 (f_X5_look_b76   n) ih σ v1 v3 v4 v5 v6 (σ.1 3))
set_option maxHeartbeats 4000000 in
set_option maxRecDepth 100000 in
theorem L_X5_look_b51 {Γ : Cx} (G : va_G) (cls : Cls) (ad : Nat → Nat) (hi : inj 6 ad) (hC : CX Γ (YM G cls ad) cX5_look RX5 9 none 2 43) (hz0 : Γ.2.2.2.2.2.1 = 0) (hz1 : Γ.2.2.2.2.2.2 = 0)     (σ : Sg) (v1 v2 v3 v4 v5 w0 w1 : Int32) : WX Γ (YM G cls ad) (qf Γ (YM G cls ad) fvS) 9 51 [(0, .ref (ad 0)), (1, .int v1), (2, .int v2), (3, .int v3), (4, .int v4), (5, .int v5)] [.int w0, .int w1, .ref (ad 0)] σ (f_X5_look_b51   σ v1 v2 v3 v4 v5 w0 w1) := by
  unfold f_X5_look_b51
  refine X_isub hC dX5_look_51 ?_
  refine X_putf (C := RX5) (T := TX5) (N := 16) (ci := 5) (ty := .int) hC 5 (wM (k := 0) (by omega) cM_ob) rfl hinX5 tyX5_ok nmX5 (by decide) tw_490 rfl rfl (by decide +kernel) rfl rfl (Nat.le_of_ble_eq_true rfl) (sM_seenM _) dX5_look_52 (X_lts fun σ6 => ?_)
  refine X_aload_n hC 0 rfl dX5_look_55 ?_
  refine X_iload_n hC 2 rfl dX5_look_56 ?_
  refine X_aload_n hC 0 rfl dX5_look_57 ?_
  refine X_getf (C := RX5) (T := TX5) (N := 16) (ci := 5) hC 5 (wM (k := 0) (by omega) cM_ob) rfl hinX5 (by decide) tw_490 rfl rfl dX5_look_58 ?_
  refine X_iload hC 5 rfl dX5_look_61 ?_
  refine X_imul hC dX5_look_63 ?_
  refine X_isub hC dX5_look_64 ?_
  refine X_putf (C := RX5) (T := TX5) (N := 16) (ci := 5) (ty := .int) hC 6 (wM (k := 0) (by omega) cM_ob) rfl hinX5 tyX5_ok nmX5 (by decide) tw_491 rfl rfl (by decide +kernel) rfl rfl (Nat.le_of_ble_eq_true rfl) (sM_seenR _) dX5_look_65 (X_lts fun σ7 => ?_)
  refine X_aload_n hC 0 rfl dX5_look_68 ?_
  refine X_iconst (v := 0) hC (by decide) dX5_look_69 ?_
  refine X_putf (C := RX5) (T := TX5) (N := 16) (ci := 5) (ty := .int) hC 10 (wM (k := 0) (by omega) cM_ob) rfl hinX5 tyX5_ok nmX5 (by decide) tw_495 rfl rfl (by decide +kernel) rfl rfl (Nat.le_of_ble_eq_true rfl) (sM_seenMany _) dX5_look_70 (X_lts fun σ8 => ?_)
  refine X_iconst (v := 0) hC (by decide) dX5_look_73 ?_
  refine X_istore (ls' := [(6, .int (0 : Int32)), (0, .ref (ad 0)), (1, .int v1), (2, .int v2), (3, .int v3), (4, .int v4), (5, .int v5)]) hC dX5_look_74 (by decide) rfl ?_
  exact X_sub [1, 2, 4, 5, 6, 0] rfl (L_X5_look_b76 G cls ad hi hC hz0 hz1 fuel σ8 v1 v3 v4 v5 (0 : Int32))
theorem okm_X5_look : okm yX5_look 2 = true := by decide +kernel
set_option maxHeartbeats 4000000 in
set_option maxRecDepth 100000 in
theorem c_X5_look (l : Launch) (G : va_G) (cls : Cls) (ad : Nat → Nat) (hi : inj 6 ad) (σ : Sg)   (p1 p2 : Int32) : MT l (YM G cls ad) yX5_look (.code yX5_look cX5_look 9 none :: gw) 2 43 [.ref (ad 0), .int p1, .int p2] fvS σ (f_X5_look σ  p1 p2) := by
  refine MT.of (own := RX5) (by decide) (YM_D hi) rfl (Nat.le_of_ble_eq_true rfl) fun Γ _ hz0 hz1 hC => ?_
  show WX Γ (YM G cls ad) (qf Γ (YM G cls ad) fvS) 9 0 [(0, .ref (ad 0)), (1, .int p1), (2, .int p2)] [] σ (f_X5_look σ  p1 p2)
  unfold f_X5_look
  refine X_aload_n hC 0 rfl dX5_look_0 ?_
  refine X_iload_n hC 1 rfl dX5_look_1 ?_
  refine X_iconst (v := 0) hC (by decide) dX5_look_2 ?_
  refine X_callP (C := RX5) (T := TX5) (N := 16) (ci := 5) (rest := []) hC (c_X5_tool _ G cls ad hi σ p1 (0 : Int32)) (gV tw_560 tw_562 ts_9 tw_7 tw_563) rfl (wM (k := 0) (by omega) cM_ob) rfl rfl okm_X5_tool (by decide) dX5_look_3 rfl (Nat.le_of_ble_eq_true rfl) (fun r1 => ?_)
  refine X_istore_n (ls' := [(3, .int r1), (0, .ref (ad 0)), (1, .int p1), (2, .int p2)]) hC dX5_look_6 (by decide) rfl ?_
  refine X_aload_n hC 1 rfl dX5_look_7 ?_
  refine X_iload_n hC 2 rfl dX5_look_8 ?_
  refine X_iconst (v := 1) hC (by decide) dX5_look_9 ?_
  refine X_callP (C := RX5) (T := TX5) (N := 16) (ci := 5) (rest := []) hC (c_X5_tool _ G cls ad hi σ p1 (1 : Int32)) (gV tw_560 tw_562 ts_9 tw_7 tw_563) rfl (wM (k := 0) (by omega) cM_ob) rfl rfl okm_X5_tool (by decide) dX5_look_10 rfl (Nat.le_of_ble_eq_true rfl) (fun r2 => ?_)
  refine X_istore (ls' := [(4, .int r2), (3, .int r1), (0, .ref (ad 0)), (1, .int p1), (2, .int p2)]) hC dX5_look_13 (by decide) rfl ?_
  refine X_aload_n hC 2 rfl dX5_look_15 ?_
  refine X_iload_n hC 3 rfl dX5_look_16 ?_
  refine X_callP (C := RX5) (T := TX5) (N := 16) (ci := 5) (rest := []) hC (c_X5_wide _ G cls ad hi σ p1) (gV tw_556 tw_558 ts_8 tw_7 tw_559) rfl (wM (k := 0) (by omega) cM_ob) rfl rfl okm_X5_wide (by decide) dX5_look_17 rfl (Nat.le_of_ble_eq_true rfl) (fun r3 => ?_)
  refine X_istore (ls' := [(5, .int r3), (4, .int r2), (3, .int r1), (0, .ref (ad 0)), (1, .int p1), (2, .int p2)]) hC dX5_look_20 (by decide) rfl ?_
  refine X_aload_n hC 3 rfl dX5_look_22 ?_
  refine X_iload_n hC 5 rfl dX5_look_23 ?_
  refine X_iload hC 0 rfl dX5_look_24 ?_
  refine X_idiv hC dX5_look_26 ?_
  refine X_putf (C := RX5) (T := TX5) (N := 16) (ci := 5) (ty := .int) hC 5 (wM (k := 0) (by omega) cM_ob) rfl hinX5 tyX5_ok nmX5 (by decide) tw_490 rfl rfl (by decide +kernel) rfl rfl (Nat.le_of_ble_eq_true rfl) (sM_seenM _) dX5_look_27 (X_lts fun σ4 => ?_)
  refine X_aload_n hC 3 rfl dX5_look_30 ?_
  refine X_dup hC rfl dX5_look_31 ?_
  refine X_getf (C := RX5) (T := TX5) (N := 16) (ci := 5) hC 5 (wM (k := 0) (by omega) cM_ob) rfl hinX5 (by decide) tw_490 rfl rfl dX5_look_32 ?_
  refine X_aload_n hC 3 rfl dX5_look_35 ?_
  refine X_getf (C := RX5) (T := TX5) (N := 16) (ci := 5) hC 5 (wM (k := 0) (by omega) cM_ob) rfl hinX5 (by decide) tw_490 rfl rfl dX5_look_36 ?_
  refine X_iload hC 0 rfl dX5_look_39 ?_
  refine X_imul hC dX5_look_41 ?_
  refine X_iload_n hC 5 rfl dX5_look_42 ?_
  refine X_icmp_le hC 50 dX5_look_43 (by decide) (fun h5 => ?_) (fun h5 => ?_)
  · refine X_iconst (v := 0) hC (by decide) dX5_look_50 ?_
    exact X_sub [3, 4, 5, 2, 1, 0] rfl (L_X5_look_b51 G cls ad hi hC hz0 hz1 σ4 p1 p2 r1 r2 r3 (0 : Int32) (σ4.1 2))
  · refine X_iconst (v := 1) hC (by decide) dX5_look_46 ?_
    refine X_goto hC 51 dX5_look_47 (by decide) ?_
    exact X_sub [3, 4, 5, 2, 1, 0] rfl (L_X5_look_b51 G cls ad hi hC hz0 hz1 σ4 p1 p2 r1 r2 r3 (1 : Int32) (σ4.1 2))
theorem dX5_answerBy_0 : decode cX5_answerBy 0 = .ok (.aload_n 0, 1) := by decide +kernel
theorem dX5_answerBy_1 : decode cX5_answerBy 1 = .ok (.iload_n 1, 1) := by decide +kernel
theorem dX5_answerBy_2 : decode cX5_answerBy 2 = .ok (.iconst 0, 1) := by decide +kernel
theorem dX5_answerBy_3 : decode cX5_answerBy 3 = .ok (.invokevirtual 34, 3) := by decide +kernel
theorem dX5_answerBy_6 : decode cX5_answerBy 6 = .ok (.istore 6, 2) := by decide +kernel
theorem dX5_answerBy_8 : decode cX5_answerBy 8 = .ok (.aload_n 0, 1) := by decide +kernel
theorem dX5_answerBy_9 : decode cX5_answerBy 9 = .ok (.iload_n 1, 1) := by decide +kernel
theorem dX5_answerBy_10 : decode cX5_answerBy 10 = .ok (.iconst 1, 1) := by decide +kernel
theorem dX5_answerBy_11 : decode cX5_answerBy 11 = .ok (.invokevirtual 34, 3) := by decide +kernel
theorem dX5_answerBy_14 : decode cX5_answerBy 14 = .ok (.istore 7, 2) := by decide +kernel
theorem dX5_answerBy_16 : decode cX5_answerBy 16 = .ok (.aload_n 0, 1) := by decide +kernel
theorem dX5_answerBy_17 : decode cX5_answerBy 17 = .ok (.iload_n 1, 1) := by decide +kernel
theorem dX5_answerBy_18 : decode cX5_answerBy 18 = .ok (.iload_n 2, 1) := by decide +kernel
theorem dX5_answerBy_19 : decode cX5_answerBy 19 = .ok (.aload_n 0, 1) := by decide +kernel
theorem dX5_answerBy_20 : decode cX5_answerBy 20 = .ok (.iload_n 1, 1) := by decide +kernel
theorem dX5_answerBy_21 : decode cX5_answerBy 21 = .ok (.iconst 4, 1) := by decide +kernel
theorem dX5_answerBy_22 : decode cX5_answerBy 22 = .ok (.invokevirtual 34, 3) := by decide +kernel
theorem dX5_answerBy_25 : decode cX5_answerBy 25 = .ok (.iadd, 1) := by decide +kernel
theorem dX5_answerBy_26 : decode cX5_answerBy 26 = .ok (.iload_n 3, 1) := by decide +kernel
theorem dX5_answerBy_27 : decode cX5_answerBy 27 = .ok (.aload_n 0, 1) := by decide +kernel
theorem dX5_answerBy_28 : decode cX5_answerBy 28 = .ok (.iload_n 1, 1) := by decide +kernel
theorem dX5_answerBy_29 : decode cX5_answerBy 29 = .ok (.iconst 5, 1) := by decide +kernel
theorem dX5_answerBy_30 : decode cX5_answerBy 30 = .ok (.invokevirtual 34, 3) := by decide +kernel
theorem dX5_answerBy_33 : decode cX5_answerBy 33 = .ok (.imul, 1) := by decide +kernel
theorem dX5_answerBy_34 : decode cX5_answerBy 34 = .ok (.bipush 10, 2) := by decide +kernel
theorem dX5_answerBy_36 : decode cX5_answerBy 36 = .ok (.idiv, 1) := by decide +kernel
theorem dX5_answerBy_37 : decode cX5_answerBy 37 = .ok (.iadd, 1) := by decide +kernel
theorem dX5_answerBy_38 : decode cX5_answerBy 38 = .ok (.invokevirtual 82, 3) := by decide +kernel
theorem dX5_answerBy_41 : decode cX5_answerBy 41 = .ok (.aload_n 0, 1) := by decide +kernel
theorem dX5_answerBy_42 : decode cX5_answerBy 42 = .ok (.getfield 64, 3) := by decide +kernel
theorem dX5_answerBy_45 : decode cX5_answerBy 45 = .ok (.istore 8, 2) := by decide +kernel
theorem dX5_answerBy_47 : decode cX5_answerBy 47 = .ok (.aload_n 0, 1) := by decide +kernel
theorem dX5_answerBy_48 : decode cX5_answerBy 48 = .ok (.getfield 79, 3) := by decide +kernel
theorem dX5_answerBy_51 : decode cX5_answerBy 51 = .ok (.istore 9, 2) := by decide +kernel
theorem dX5_answerBy_53 : decode cX5_answerBy 53 = .ok (.iload 9, 2) := by decide +kernel
theorem dX5_answerBy_55 : decode cX5_answerBy 55 = .ok (.iload 4, 2) := by decide +kernel
theorem dX5_answerBy_57 : decode cX5_answerBy 57 = .ok (.iconst 1, 1) := by decide +kernel
theorem dX5_answerBy_58 : decode cX5_answerBy 58 = .ok (.iand, 1) := by decide +kernel
theorem dX5_answerBy_59 : decode cX5_answerBy 59 = .ok (.iconst 1, 1) := by decide +kernel
theorem dX5_answerBy_60 : decode cX5_answerBy 60 = .ok (.if_icmp .ne 19, 3) := by decide +kernel
theorem dX5_answerBy_63 : decode cX5_answerBy 63 = .ok (.iload 9, 2) := by decide +kernel
theorem dX5_answerBy_65 : decode cX5_answerBy 65 = .ok (.iload 7, 2) := by decide +kernel
theorem dX5_answerBy_67 : decode cX5_answerBy 67 = .ok (.imul, 1) := by decide +kernel
theorem dX5_answerBy_68 : decode cX5_answerBy 68 = .ok (.aload_n 0, 1) := by decide +kernel
theorem dX5_answerBy_69 : decode cX5_answerBy 69 = .ok (.getfield 67, 3) := by decide +kernel
theorem dX5_answerBy_72 : decode cX5_answerBy 72 = .ok (.if_icmp .le 7, 3) := by decide +kernel
theorem dX5_answerBy_75 : decode cX5_answerBy 75 = .ok (.iconst 1, 1) := by decide +kernel
theorem dX5_answerBy_76 : decode cX5_answerBy 76 = .ok (.goto 4, 3) := by decide +kernel
theorem dX5_answerBy_79 : decode cX5_answerBy 79 = .ok (.iconst 0, 1) := by decide +kernel
theorem dX5_answerBy_80 : decode cX5_answerBy 80 = .ok (.isub, 1) := by decide +kernel
theorem dX5_answerBy_81 : decode cX5_answerBy 81 = .ok (.istore 9, 2) := by decide +kernel
theorem dX5_answerBy_83 : decode cX5_answerBy 83 = .ok (.iload 9, 2) := by decide +kernel
theorem dX5_answerBy_85 : decode cX5_answerBy 85 = .ok (.iload 4, 2) := by decide +kernel
theorem dX5_answerBy_87 : decode cX5_answerBy 87 = .ok (.iconst 2, 1) := by decide +kernel
theorem dX5_answerBy_88 : decode cX5_answerBy 88 = .ok (.iand, 1) := by decide +kernel
theorem dX5_answerBy_89 : decode cX5_answerBy 89 = .ok (.iconst 2, 1) := by decide +kernel
theorem dX5_answerBy_90 : decode cX5_answerBy 90 = .ok (.if_icmp .ne 15, 3) := by decide +kernel
theorem dX5_answerBy_93 : decode cX5_answerBy 93 = .ok (.iload 9, 2) := by decide +kernel
theorem dX5_answerBy_95 : decode cX5_answerBy 95 = .ok (.iconst 2, 1) := by decide +kernel
theorem dX5_answerBy_96 : decode cX5_answerBy 96 = .ok (.irem, 1) := by decide +kernel
theorem dX5_answerBy_97 : decode cX5_answerBy 97 = .ok (.iconst 1, 1) := by decide +kernel
theorem dX5_answerBy_98 : decode cX5_answerBy 98 = .ok (.if_icmp .ne 7, 3) := by decide +kernel
theorem dX5_answerBy_101 : decode cX5_answerBy 101 = .ok (.iconst 1, 1) := by decide +kernel
theorem dX5_answerBy_102 : decode cX5_answerBy 102 = .ok (.goto 4, 3) := by decide +kernel
theorem dX5_answerBy_105 : decode cX5_answerBy 105 = .ok (.iconst 0, 1) := by decide +kernel
theorem dX5_answerBy_106 : decode cX5_answerBy 106 = .ok (.isub, 1) := by decide +kernel
theorem dX5_answerBy_107 : decode cX5_answerBy 107 = .ok (.istore 9, 2) := by decide +kernel
theorem dX5_answerBy_109 : decode cX5_answerBy 109 = .ok (.iload 8, 2) := by decide +kernel
theorem dX5_answerBy_111 : decode cX5_answerBy 111 = .ok (.iload 4, 2) := by decide +kernel
theorem dX5_answerBy_113 : decode cX5_answerBy 113 = .ok (.iconst 4, 1) := by decide +kernel
theorem dX5_answerBy_114 : decode cX5_answerBy 114 = .ok (.iand, 1) := by decide +kernel
theorem dX5_answerBy_115 : decode cX5_answerBy 115 = .ok (.iconst 4, 1) := by decide +kernel
theorem dX5_answerBy_116 : decode cX5_answerBy 116 = .ok (.if_icmp .ne 16, 3) := by decide +kernel
theorem dX5_answerBy_119 : decode cX5_answerBy 119 = .ok (.iload 9, 2) := by decide +kernel
theorem dX5_answerBy_121 : decode cX5_answerBy 121 = .ok (.iload 6, 2) := by decide +kernel
theorem dX5_answerBy_123 : decode cX5_answerBy 123 = .ok (.iconst 2, 1) := by decide +kernel
theorem dX5_answerBy_124 : decode cX5_answerBy 124 = .ok (.idiv, 1) := by decide +kernel
theorem dX5_answerBy_125 : decode cX5_answerBy 125 = .ok (.if_icmp .le 7, 3) := by decide +kernel
theorem dX5_answerBy_128 : decode cX5_answerBy 128 = .ok (.iconst 1, 1) := by decide +kernel
theorem dX5_answerBy_129 : decode cX5_answerBy 129 = .ok (.goto 4, 3) := by decide +kernel
theorem dX5_answerBy_132 : decode cX5_answerBy 132 = .ok (.iconst 0, 1) := by decide +kernel
theorem dX5_answerBy_133 : decode cX5_answerBy 133 = .ok (.iadd, 1) := by decide +kernel
theorem dX5_answerBy_134 : decode cX5_answerBy 134 = .ok (.istore 8, 2) := by decide +kernel
theorem dX5_answerBy_136 : decode cX5_answerBy 136 = .ok (.aload_n 0, 1) := by decide +kernel
theorem dX5_answerBy_137 : decode cX5_answerBy 137 = .ok (.iload_n 1, 1) := by decide +kernel
theorem dX5_answerBy_138 : decode cX5_answerBy 138 = .ok (.bipush 6, 2) := by decide +kernel
theorem dX5_answerBy_140 : decode cX5_answerBy 140 = .ok (.invokevirtual 34, 3) := by decide +kernel
theorem dX5_answerBy_143 : decode cX5_answerBy 143 = .ok (.istore 10, 2) := by decide +kernel
theorem dX5_answerBy_145 : decode cX5_answerBy 145 = .ok (.iload 10, 2) := by decide +kernel
theorem dX5_answerBy_147 : decode cX5_answerBy 147 = .ok (.ifCond .le 71, 3) := by decide +kernel
theorem dX5_answerBy_150 : decode cX5_answerBy 150 = .ok (.iload 5, 2) := by decide +kernel
theorem dX5_answerBy_152 : decode cX5_answerBy 152 = .ok (.iload 10, 2) := by decide +kernel
theorem dX5_answerBy_154 : decode cX5_answerBy 154 = .ok (.iconst 1, 1) := by decide +kernel
theorem dX5_answerBy_155 : decode cX5_answerBy 155 = .ok (.isub, 1) := by decide +kernel
theorem dX5_answerBy_156 : decode cX5_answerBy 156 = .ok (.ishr, 1) := by decide +kernel
theorem dX5_answerBy_157 : decode cX5_answerBy 157 = .ok (.iconst 1, 1) := by decide +kernel
theorem dX5_answerBy_158 : decode cX5_answerBy 158 = .ok (.iand, 1) := by decide +kernel
theorem dX5_answerBy_159 : decode cX5_answerBy 159 = .ok (.ifCond .ne 59, 3) := by decide +kernel
theorem dX5_answerBy_162 : decode cX5_answerBy 162 = .ok (.iload 10, 2) := by decide +kernel
theorem dX5_answerBy_164 : decode cX5_answerBy 164 = .ok (.iconst 1, 1) := by decide +kernel
theorem dX5_answerBy_165 : decode cX5_answerBy 165 = .ok (.if_icmp .ne 11, 3) := by decide +kernel
theorem dX5_answerBy_168 : decode cX5_answerBy 168 = .ok (.iload 6, 2) := by decide +kernel
theorem dX5_answerBy_170 : decode cX5_answerBy 170 = .ok (.iload 9, 2) := by decide +kernel
theorem dX5_answerBy_172 : decode cX5_answerBy 172 = .ok (.isub, 1) := by decide +kernel
theorem dX5_answerBy_173 : decode cX5_answerBy 173 = .ok (.goto 5, 3) := by decide +kernel
theorem dX5_answerBy_176 : decode cX5_answerBy 176 = .ok (.iload 9, 2) := by decide +kernel
theorem dX5_answerBy_178 : decode cX5_answerBy 178 = .ok (.istore 9, 2) := by decide +kernel
theorem dX5_answerBy_180 : decode cX5_answerBy 180 = .ok (.iload 8, 2) := by decide +kernel
theorem dX5_answerBy_182 : decode cX5_answerBy 182 = .ok (.iload 10, 2) := by decide +kernel
theorem dX5_answerBy_184 : decode cX5_answerBy 184 = .ok (.iconst 2, 1) := by decide +kernel
theorem dX5_answerBy_185 : decode cX5_answerBy 185 = .ok (.if_icmp .ne 19, 3) := by decide +kernel
theorem dX5_answerBy_188 : decode cX5_answerBy 188 = .ok (.iload 8, 2) := by decide +kernel
theorem dX5_answerBy_190 : decode cX5_answerBy 190 = .ok (.ifCond .le 10, 3) := by decide +kernel
theorem dX5_answerBy_193 : decode cX5_answerBy 193 = .ok (.iload 8, 2) := by decide +kernel
theorem dX5_answerBy_195 : decode cX5_answerBy 195 = .ok (.iconst 5, 1) := by decide +kernel
theorem dX5_answerBy_196 : decode cX5_answerBy 196 = .ok (.idiv, 1) := by decide +kernel
theorem dX5_answerBy_197 : decode cX5_answerBy 197 = .ok (.goto 18, 3) := by decide +kernel
theorem dX5_answerBy_200 : decode cX5_answerBy 200 = .ok (.iconst 0, 1) := by decide +kernel
theorem dX5_answerBy_201 : decode cX5_answerBy 201 = .ok (.goto 14, 3) := by decide +kernel
theorem dX5_answerBy_204 : decode cX5_answerBy 204 = .ok (.iload 10, 2) := by decide +kernel
theorem dX5_answerBy_206 : decode cX5_answerBy 206 = .ok (.iconst 3, 1) := by decide +kernel
theorem dX5_answerBy_207 : decode cX5_answerBy 207 = .ok (.if_icmp .ne 7, 3) := by decide +kernel
theorem dX5_answerBy_210 : decode cX5_answerBy 210 = .ok (.iconst 1, 1) := by decide +kernel
theorem dX5_answerBy_211 : decode cX5_answerBy 211 = .ok (.goto 4, 3) := by decide +kernel
theorem dX5_answerBy_214 : decode cX5_answerBy 214 = .ok (.iconst 0, 1) := by decide +kernel
theorem dX5_answerBy_215 : decode cX5_answerBy 215 = .ok (.iadd, 1) := by decide +kernel
theorem dX5_answerBy_216 : decode cX5_answerBy 216 = .ok (.istore 8, 2) := by decide +kernel
theorem dX5_answerBy_218 : decode cX5_answerBy 218 = .ok (.iload 8, 2) := by decide +kernel
theorem dX5_answerBy_220 : decode cX5_answerBy 220 = .ok (.aload_n 0, 1) := by decide +kernel
theorem dX5_answerBy_221 : decode cX5_answerBy 221 = .ok (.iload_n 1, 1) := by decide +kernel
theorem dX5_answerBy_222 : decode cX5_answerBy 222 = .ok (.invokevirtual 48, 3) := by decide +kernel
theorem dX5_answerBy_225 : decode cX5_answerBy 225 = .ok (.imul, 1) := by decide +kernel
theorem dX5_answerBy_226 : decode cX5_answerBy 226 = .ok (.iload 9, 2) := by decide +kernel
theorem dX5_answerBy_228 : decode cX5_answerBy 228 = .ok (.iload 7, 2) := by decide +kernel
theorem dX5_answerBy_230 : decode cX5_answerBy 230 = .ok (.imul, 1) := by decide +kernel
theorem dX5_answerBy_231 : decode cX5_answerBy 231 = .ok (.iadd, 1) := by decide +kernel
theorem dX5_answerBy_232 : decode cX5_answerBy 232 = .ok (.iload 4, 2) := by decide +kernel
theorem dX5_answerBy_234 : decode cX5_answerBy 234 = .ok (.bipush 8, 2) := by decide +kernel
theorem dX5_answerBy_236 : decode cX5_answerBy 236 = .ok (.iand, 1) := by decide +kernel
theorem dX5_answerBy_237 : decode cX5_answerBy 237 = .ok (.bipush 8, 2) := by decide +kernel
theorem dX5_answerBy_239 : decode cX5_answerBy 239 = .ok (.if_icmp .ne 7, 3) := by decide +kernel
theorem dX5_answerBy_242 : decode cX5_answerBy 242 = .ok (.iconst 0, 1) := by decide +kernel
theorem dX5_answerBy_243 : decode cX5_answerBy 243 = .ok (.goto 9, 3) := by decide +kernel
theorem dX5_answerBy_246 : decode cX5_answerBy 246 = .ok (.aload_n 0, 1) := by decide +kernel
theorem dX5_answerBy_247 : decode cX5_answerBy 247 = .ok (.iload_n 1, 1) := by decide +kernel
theorem dX5_answerBy_248 : decode cX5_answerBy 248 = .ok (.iconst 4, 1) := by decide +kernel
theorem dX5_answerBy_249 : decode cX5_answerBy 249 = .ok (.invokevirtual 34, 3) := by decide +kernel
theorem dX5_answerBy_252 : decode cX5_answerBy 252 = .ok (.isub, 1) := by decide +kernel
theorem dX5_answerBy_253 : decode cX5_answerBy 253 = .ok (.ireturn, 1) := by decide +kernel
def f_X5_answerBy_b218    (σ : Sg) (v1 v4 v7 v8 v9 : Int32) : Option (Int32 × Sg) := (f_X5_wide σ v1).bind fun r16 => if (v4 &&& (8 : Int32)) = (8 : Int32) then (some ((((v8 * r16) + (v9 * v7)) - (0 : Int32)), σ)) else ((f_X5_tool σ v1 (4 : Int32)).bind fun r18 => some ((((v8 * r16) + (v9 * v7)) - r18), σ))
def f_X5_answerBy_b215    (σ : Sg) (v1 v4 v7 v9 w0 w1 : Int32) : Option (Int32 × Sg) := lt (w1 + w0) fun x23 => f_X5_answerBy_b218 σ v1 v4 v7 x23 v9
def f_X5_answerBy_b178    (σ : Sg) (v1 v4 v7 v8 v10 w0 : Int32) : Option (Int32 × Sg) := if v10 = (2 : Int32) then (if v8 ≤ 0 then (f_X5_answerBy_b215 σ v1 v4 v7 w0 (0 : Int32) v8) else (gd ((5 : Int32) != 0) (f_X5_answerBy_b215 σ v1 v4 v7 w0 (v8 / (5 : Int32)) v8))) else (if v10 = (3 : Int32) then (f_X5_answerBy_b215 σ v1 v4 v7 w0 (1 : Int32) v8) else (f_X5_answerBy_b215 σ v1 v4 v7 w0 (0 : Int32) v8))
def f_X5_answerBy_b133    (σ : Sg) (v1 v4 v5 v6 v7 v9 w0 w1 : Int32) : Option (Int32 × Sg) := lt (w1 + w0) fun x13 => (f_X5_tool σ v1 (6 : Int32)).bind fun r14 => if r14 ≤ 0 then (f_X5_answerBy_b218 σ v1 v4 v7 x13 v9) else (if ((v5 >>> ((r14 - (1 : Int32)) &&& 31)) &&& (1 : Int32)) = 0 then (if r14 = (1 : Int32) then (f_X5_answerBy_b178 σ v1 v4 v7 x13 r14 (v6 - v9)) else (f_X5_answerBy_b178 σ v1 v4 v7 x13 r14 v9)) else (f_X5_answerBy_b218 σ v1 v4 v7 x13 v9))
def f_X5_answerBy_b132    (σ : Sg) (v1 v4 v5 v6 v7 v9 w0 : Int32) : Option (Int32 × Sg) := f_X5_answerBy_b133 σ v1 v4 v5 v6 v7 v9 (0 : Int32) w0
def f_X5_answerBy_b106    (σ : Sg) (v1 v4 v5 v6 v7 v8 w0 w1 : Int32) : Option (Int32 × Sg) := lt (w1 - w0) fun x11 => if (v4 &&& (4 : Int32)) = (4 : Int32) then (gd ((2 : Int32) != 0) (if x11 ≤ (v6 / (2 : Int32)) then (f_X5_answerBy_b132 σ v1 v4 v5 v6 v7 x11 v8) else (f_X5_answerBy_b133 σ v1 v4 v5 v6 v7 x11 (1 : Int32) v8))) else (f_X5_answerBy_b132 σ v1 v4 v5 v6 v7 x11 v8)
def f_X5_answerBy_b105    (σ : Sg) (v1 v4 v5 v6 v7 v8 w0 : Int32) : Option (Int32 × Sg) := f_X5_answerBy_b106 σ v1 v4 v5 v6 v7 v8 (0 : Int32) w0
def f_X5_answerBy_b80    (σ : Sg) (v1 v4 v5 v6 v7 v8 w0 w1 : Int32) : Option (Int32 × Sg) := lt (w1 - w0) fun x9 => if (v4 &&& (2 : Int32)) = (2 : Int32) then (gd ((2 : Int32) != 0) (if (x9 - x9 / (2 : Int32) * (2 : Int32)) = (1 : Int32) then (f_X5_answerBy_b106 σ v1 v4 v5 v6 v7 v8 (1 : Int32) x9) else (f_X5_answerBy_b105 σ v1 v4 v5 v6 v7 v8 x9))) else (f_X5_answerBy_b105 σ v1 v4 v5 v6 v7 v8 x9)
def f_X5_answerBy_b79    (σ : Sg) (v1 v4 v5 v6 v7 v8 w0 : Int32) : Option (Int32 × Sg) := f_X5_answerBy_b80 σ v1 v4 v5 v6 v7 v8 (0 : Int32) w0
def f_X5_answerBy (σ : Sg)  (p1 p2 p3 p4 p5 : Int32) : Option (Int32 × Sg) := (f_X5_tool σ p1 (0 : Int32)).bind fun r1 => (f_X5_tool σ p1 (1 : Int32)).bind fun r2 => (f_X5_tool σ p1 (4 : Int32)).bind fun r3 => (f_X5_tool σ p1 (5 : Int32)).bind fun r4 => gd ((10 : Int32) != 0) ((f_X5_look σ p1 ((p2 + r3) + ((p3 * r4) / (10 : Int32)))).bind fun σ5 => lt (σ5.1 2) fun x6 => lt (σ5.1 6) fun x7 => if (p4 &&& (1 : Int32)) = (1 : Int32) then (if (x7 * r2) ≤ (σ5.1 3) then (f_X5_answerBy_b79 σ5 p1 p4 p5 r1 r2 x6 x7) else (f_X5_answerBy_b80 σ5 p1 p4 p5 r1 r2 x6 (1 : Int32) x7)) else (f_X5_answerBy_b79 σ5 p1 p4 p5 r1 r2 x6 x7))
set_option maxHeartbeats 4000000 in
set_option maxRecDepth 100000 in
theorem L_X5_answerBy_b218 {Γ : Cx} (G : va_G) (cls : Cls) (ad : Nat → Nat) (hi : inj 6 ad) (hC : CX Γ (YM G cls ad) cX5_answerBy RX5 11 (some .int) 3 71) (hz0 : Γ.2.2.2.2.2.1 = 0) (hz1 : Γ.2.2.2.2.2.2 = 0)     (σ : Sg) (v1 v4 v7 v8 v9 : Int32) : WX Γ (YM G cls ad) (qf Γ (YM G cls ad) fiS) 11 218 [(0, .ref (ad 0)), (1, .int v1), (4, .int v4), (7, .int v7), (8, .int v8), (9, .int v9)] [] σ (f_X5_answerBy_b218   σ v1 v4 v7 v8 v9) := by
  unfold f_X5_answerBy_b218
  refine X_iload hC 4 rfl dX5_answerBy_218 ?_
  refine X_aload_n hC 0 rfl dX5_answerBy_220 ?_
  refine X_iload_n hC 1 rfl dX5_answerBy_221 ?_
  refine X_callP (C := RX5) (T := TX5) (N := 16) (ci := 5) (rest := [.int v8]) hC (c_X5_wide _ G cls ad hi σ v1) (gV tw_556 tw_558 ts_8 tw_7 tw_559) rfl (wM (k := 0) (by omega) cM_ob) rfl rfl okm_X5_wide (by decide) dX5_answerBy_222 rfl (Nat.le_of_ble_eq_true rfl) (fun r16 => ?_)
  refine X_imul hC dX5_answerBy_225 ?_
  refine X_iload hC 5 rfl dX5_answerBy_226 ?_
  refine X_iload hC 3 rfl dX5_answerBy_228 ?_
  refine X_imul hC dX5_answerBy_230 ?_
  refine X_iadd hC dX5_answerBy_231 ?_
  refine X_iload hC 2 rfl dX5_answerBy_232 ?_
  refine X_bipush (v := 8) hC (by decide) dX5_answerBy_234 ?_
  refine X_iand hC dX5_answerBy_236 ?_
  refine X_bipush (v := 8) hC (by decide) dX5_answerBy_237 ?_
  refine X_icmp_ne hC 246 dX5_answerBy_239 (by decide) (fun h17 => ?_) (fun h17 => ?_)
  · refine X_aload_n hC 0 rfl dX5_answerBy_246 ?_
    refine X_iload_n hC 1 rfl dX5_answerBy_247 ?_
    refine X_iconst (v := 4) hC (by decide) dX5_answerBy_248 ?_
    refine X_callP (C := RX5) (T := TX5) (N := 16) (ci := 5) (rest := [.int ((v8 * r16) + (v9 * v7))]) hC (c_X5_tool _ G cls ad hi σ v1 (4 : Int32)) (gV tw_560 tw_562 ts_9 tw_7 tw_563) rfl (wM (k := 0) (by omega) cM_ob) rfl rfl okm_X5_tool (by decide) dX5_answerBy_249 rfl (Nat.le_of_ble_eq_true rfl) (fun r18 => ?_)
    refine X_isub hC dX5_answerBy_252 ?_
    exact X_iret hC hz0 hz1 dX5_answerBy_253 rfl
  · refine X_iconst (v := 0) hC (by decide) dX5_answerBy_242 ?_
    refine X_goto hC 252 dX5_answerBy_243 (by decide) ?_
    refine X_isub hC dX5_answerBy_252 ?_
    exact X_iret hC hz0 hz1 dX5_answerBy_253 rfl
set_option maxHeartbeats 4000000 in
set_option maxRecDepth 100000 in
theorem L_X5_answerBy_b215 {Γ : Cx} (G : va_G) (cls : Cls) (ad : Nat → Nat) (hi : inj 6 ad) (hC : CX Γ (YM G cls ad) cX5_answerBy RX5 11 (some .int) 3 71) (hz0 : Γ.2.2.2.2.2.1 = 0) (hz1 : Γ.2.2.2.2.2.2 = 0)     (σ : Sg) (v1 v4 v7 v9 w0 w1 : Int32) : WX Γ (YM G cls ad) (qf Γ (YM G cls ad) fiS) 11 215 [(0, .ref (ad 0)), (1, .int v1), (4, .int v4), (7, .int v7), (9, .int v9)] [.int w0, .int w1] σ (f_X5_answerBy_b215   σ v1 v4 v7 v9 w0 w1) := by
  unfold f_X5_answerBy_b215
  refine X_iadd hC dX5_answerBy_215 ?_
  refine X_lt (fun x23 => ?_)
  refine X_istore (ls' := [(8, .int x23), (0, .ref (ad 0)), (1, .int v1), (4, .int v4), (7, .int v7), (9, .int v9)]) hC dX5_answerBy_216 (by decide) rfl ?_
  exact X_sub [1, 2, 3, 4, 0, 5] rfl (L_X5_answerBy_b218 G cls ad hi hC hz0 hz1 σ v1 v4 v7 x23 v9)
set_option maxHeartbeats 4000000 in
set_option maxRecDepth 100000 in
theorem L_X5_answerBy_b178 {Γ : Cx} (G : va_G) (cls : Cls) (ad : Nat → Nat) (hi : inj 6 ad) (hC : CX Γ (YM G cls ad) cX5_answerBy RX5 11 (some .int) 3 71) (hz0 : Γ.2.2.2.2.2.1 = 0) (hz1 : Γ.2.2.2.2.2.2 = 0)     (σ : Sg) (v1 v4 v7 v8 v10 w0 : Int32) : WX Γ (YM G cls ad) (qf Γ (YM G cls ad) fiS) 11 178 [(0, .ref (ad 0)), (1, .int v1), (4, .int v4), (7, .int v7), (8, .int v8), (10, .int v10)] [.int w0] σ (f_X5_answerBy_b178   σ v1 v4 v7 v8 v10 w0) := by
  unfold f_X5_answerBy_b178
  refine X_istore (ls' := [(9, .int w0), (0, .ref (ad 0)), (1, .int v1), (4, .int v4), (7, .int v7), (8, .int v8), (10, .int v10)]) hC dX5_answerBy_178 (by decide) rfl ?_
  refine X_iload hC 5 rfl dX5_answerBy_180 ?_
  refine X_iload hC 6 rfl dX5_answerBy_182 ?_
  refine X_iconst (v := 2) hC (by decide) dX5_answerBy_184 ?_
  refine X_icmp_ne hC 204 dX5_answerBy_185 (by decide) (fun h21 => ?_) (fun h21 => ?_)
  · refine X_iload hC 6 rfl dX5_answerBy_204 ?_
    refine X_iconst (v := 3) hC (by decide) dX5_answerBy_206 ?_
    refine X_icmp_ne hC 214 dX5_answerBy_207 (by decide) (fun h22 => ?_) (fun h22 => ?_)
    · refine X_iconst (v := 0) hC (by decide) dX5_answerBy_214 ?_
      exact X_sub [1, 2, 3, 4, 0] rfl (L_X5_answerBy_b215 G cls ad hi hC hz0 hz1 σ v1 v4 v7 w0 (0 : Int32) v8)
    · refine X_iconst (v := 1) hC (by decide) dX5_answerBy_210 ?_
      refine X_goto hC 215 dX5_answerBy_211 (by decide) ?_
      exact X_sub [1, 2, 3, 4, 0] rfl (L_X5_answerBy_b215 G cls ad hi hC hz0 hz1 σ v1 v4 v7 w0 (1 : Int32) v8)
  · refine X_iload hC 5 rfl dX5_answerBy_188 ?_
    refine X_if_le hC 200 dX5_answerBy_190 (by decide) (fun h24 => ?_) (fun h24 => ?_)
    · refine X_iconst (v := 0) hC (by decide) dX5_answerBy_200 ?_
      refine X_goto hC 215 dX5_answerBy_201 (by decide) ?_
      exact X_sub [1, 2, 3, 4, 0] rfl (L_X5_answerBy_b215 G cls ad hi hC hz0 hz1 σ v1 v4 v7 w0 (0 : Int32) v8)
    · refine X_iload hC 5 rfl dX5_answerBy_193 ?_
      refine X_iconst (v := 5) hC (by decide) dX5_answerBy_195 ?_
      refine X_idiv hC dX5_answerBy_196 ?_
      refine X_goto hC 215 dX5_answerBy_197 (by decide) ?_
      exact X_sub [1, 2, 3, 4, 0] rfl (L_X5_answerBy_b215 G cls ad hi hC hz0 hz1 σ v1 v4 v7 w0 (v8 / (5 : Int32)) v8)
set_option maxHeartbeats 4000000 in
set_option maxRecDepth 100000 in
theorem L_X5_answerBy_b133 {Γ : Cx} (G : va_G) (cls : Cls) (ad : Nat → Nat) (hi : inj 6 ad) (hC : CX Γ (YM G cls ad) cX5_answerBy RX5 11 (some .int) 3 71) (hz0 : Γ.2.2.2.2.2.1 = 0) (hz1 : Γ.2.2.2.2.2.2 = 0)     (σ : Sg) (v1 v4 v5 v6 v7 v9 w0 w1 : Int32) : WX Γ (YM G cls ad) (qf Γ (YM G cls ad) fiS) 11 133 [(0, .ref (ad 0)), (1, .int v1), (4, .int v4), (5, .int v5), (6, .int v6), (7, .int v7), (9, .int v9)] [.int w0, .int w1] σ (f_X5_answerBy_b133   σ v1 v4 v5 v6 v7 v9 w0 w1) := by
  unfold f_X5_answerBy_b133
  refine X_iadd hC dX5_answerBy_133 ?_
  refine X_lt (fun x13 => ?_)
  refine X_istore (ls' := [(8, .int x13), (0, .ref (ad 0)), (1, .int v1), (4, .int v4), (5, .int v5), (6, .int v6), (7, .int v7), (9, .int v9)]) hC dX5_answerBy_134 (by decide) rfl ?_
  refine X_aload_n hC 1 rfl dX5_answerBy_136 ?_
  refine X_iload_n hC 2 rfl dX5_answerBy_137 ?_
  refine X_bipush (v := 6) hC (by decide) dX5_answerBy_138 ?_
  refine X_callP (C := RX5) (T := TX5) (N := 16) (ci := 5) (rest := []) hC (c_X5_tool _ G cls ad hi σ v1 (6 : Int32)) (gV tw_560 tw_562 ts_9 tw_7 tw_563) rfl (wM (k := 0) (by omega) cM_ob) rfl rfl okm_X5_tool (by decide) dX5_answerBy_140 rfl (Nat.le_of_ble_eq_true rfl) (fun r14 => ?_)
  refine X_istore (ls' := [(10, .int r14), (8, .int x13), (0, .ref (ad 0)), (1, .int v1), (4, .int v4), (5, .int v5), (6, .int v6), (7, .int v7), (9, .int v9)]) hC dX5_answerBy_143 (by decide) rfl ?_
  refine X_iload hC 0 rfl dX5_answerBy_145 ?_
  refine X_if_le hC 218 dX5_answerBy_147 (by decide) (fun h15 => ?_) (fun h15 => ?_)
  · exact X_sub [2, 3, 4, 7, 1, 8] rfl (L_X5_answerBy_b218 G cls ad hi hC hz0 hz1 σ v1 v4 v7 x13 v9)
  · refine X_iload hC 5 rfl dX5_answerBy_150 ?_
    refine X_iload hC 0 rfl dX5_answerBy_152 ?_
    refine X_iconst (v := 1) hC (by decide) dX5_answerBy_154 ?_
    refine X_isub hC dX5_answerBy_155 ?_
    refine X_ishr hC dX5_answerBy_156 ?_
    refine X_iconst (v := 1) hC (by decide) dX5_answerBy_157 ?_
    refine X_iand hC dX5_answerBy_158 ?_
    refine X_if_ne hC 218 dX5_answerBy_159 (by decide) (fun h19 => ?_) (fun h19 => ?_)
    · exact X_sub [2, 3, 4, 7, 1, 8] rfl (L_X5_answerBy_b218 G cls ad hi hC hz0 hz1 σ v1 v4 v7 x13 v9)
    · refine X_iload hC 0 rfl dX5_answerBy_162 ?_
      refine X_iconst (v := 1) hC (by decide) dX5_answerBy_164 ?_
      refine X_icmp_ne hC 176 dX5_answerBy_165 (by decide) (fun h20 => ?_) (fun h20 => ?_)
      · refine X_iload hC 8 rfl dX5_answerBy_176 ?_
        exact X_sub [2, 3, 4, 7, 1, 0] rfl (L_X5_answerBy_b178 G cls ad hi hC hz0 hz1 σ v1 v4 v7 x13 r14 v9)
      · refine X_iload hC 6 rfl dX5_answerBy_168 ?_
        refine X_iload hC 8 rfl dX5_answerBy_170 ?_
        refine X_isub hC dX5_answerBy_172 ?_
        refine X_goto hC 178 dX5_answerBy_173 (by decide) ?_
        exact X_sub [2, 3, 4, 7, 1, 0] rfl (L_X5_answerBy_b178 G cls ad hi hC hz0 hz1 σ v1 v4 v7 x13 r14 (v6 - v9))
set_option maxHeartbeats 4000000 in
set_option maxRecDepth 100000 in
theorem L_X5_answerBy_b132 {Γ : Cx} (G : va_G) (cls : Cls) (ad : Nat → Nat) (hi : inj 6 ad) (hC : CX Γ (YM G cls ad) cX5_answerBy RX5 11 (some .int) 3 71) (hz0 : Γ.2.2.2.2.2.1 = 0) (hz1 : Γ.2.2.2.2.2.2 = 0)     (σ : Sg) (v1 v4 v5 v6 v7 v9 w0 : Int32) : WX Γ (YM G cls ad) (qf Γ (YM G cls ad) fiS) 11 132 [(0, .ref (ad 0)), (1, .int v1), (4, .int v4), (5, .int v5), (6, .int v6), (7, .int v7), (9, .int v9)] [.int w0] σ (f_X5_answerBy_b132   σ v1 v4 v5 v6 v7 v9 w0) := by
  unfold f_X5_answerBy_b132
  refine X_iconst (v := 0) hC (by decide) dX5_answerBy_132 ?_
  exact (L_X5_answerBy_b133 G cls ad hi hC hz0 hz1 σ v1 v4 v5 v6 v7 v9 (0 : Int32) w0)
set_option maxHeartbeats 4000000 in
set_option maxRecDepth 100000 in
theorem L_X5_answerBy_b106 {Γ : Cx} (G : va_G) (cls : Cls) (ad : Nat → Nat) (hi : inj 6 ad) (hC : CX Γ (YM G cls ad) cX5_answerBy RX5 11 (some .int) 3 71) (hz0 : Γ.2.2.2.2.2.1 = 0) (hz1 : Γ.2.2.2.2.2.2 = 0)     (σ : Sg) (v1 v4 v5 v6 v7 v8 w0 w1 : Int32) : WX Γ (YM G cls ad) (qf Γ (YM G cls ad) fiS) 11 106 [(0, .ref (ad 0)), (1, .int v1), (4, .int v4), (5, .int v5), (6, .int v6), (7, .int v7), (8, .int v8)] [.int w0, .int w1] σ (f_X5_answerBy_b106   σ v1 v4 v5 v6 v7 v8 w0 w1) := by
  unfold f_X5_answerBy_b106
  refine X_isub hC dX5_answerBy_106 ?_
  refine X_lt (fun x11 => ?_)
  refine X_istore (ls' := [(9, .int x11), (0, .ref (ad 0)), (1, .int v1), (4, .int v4), (5, .int v5), (6, .int v6), (7, .int v7), (8, .int v8)]) hC dX5_answerBy_107 (by decide) rfl ?_
  refine X_iload hC 7 rfl dX5_answerBy_109 ?_
  refine X_iload hC 3 rfl dX5_answerBy_111 ?_
  refine X_iconst (v := 4) hC (by decide) dX5_answerBy_113 ?_
  refine X_iand hC dX5_answerBy_114 ?_
  refine X_iconst (v := 4) hC (by decide) dX5_answerBy_115 ?_
  refine X_icmp_ne hC 132 dX5_answerBy_116 (by decide) (fun h12 => ?_) (fun h12 => ?_)
  · exact X_sub [1, 2, 3, 4, 5, 6, 0] rfl (L_X5_answerBy_b132 G cls ad hi hC hz0 hz1 σ v1 v4 v5 v6 v7 x11 v8)
  · refine X_iload hC 0 rfl dX5_answerBy_119 ?_
    refine X_iload hC 5 rfl dX5_answerBy_121 ?_
    refine X_iconst (v := 2) hC (by decide) dX5_answerBy_123 ?_
    refine X_idiv hC dX5_answerBy_124 ?_
    refine X_icmp_le hC 132 dX5_answerBy_125 (by decide) (fun h25 => ?_) (fun h25 => ?_)
    · exact X_sub [1, 2, 3, 4, 5, 6, 0] rfl (L_X5_answerBy_b132 G cls ad hi hC hz0 hz1 σ v1 v4 v5 v6 v7 x11 v8)
    · refine X_iconst (v := 1) hC (by decide) dX5_answerBy_128 ?_
      refine X_goto hC 133 dX5_answerBy_129 (by decide) ?_
      exact X_sub [1, 2, 3, 4, 5, 6, 0] rfl (L_X5_answerBy_b133 G cls ad hi hC hz0 hz1 σ v1 v4 v5 v6 v7 x11 (1 : Int32) v8)
set_option maxHeartbeats 4000000 in
set_option maxRecDepth 100000 in
theorem L_X5_answerBy_b105 {Γ : Cx} (G : va_G) (cls : Cls) (ad : Nat → Nat) (hi : inj 6 ad) (hC : CX Γ (YM G cls ad) cX5_answerBy RX5 11 (some .int) 3 71) (hz0 : Γ.2.2.2.2.2.1 = 0) (hz1 : Γ.2.2.2.2.2.2 = 0)     (σ : Sg) (v1 v4 v5 v6 v7 v8 w0 : Int32) : WX Γ (YM G cls ad) (qf Γ (YM G cls ad) fiS) 11 105 [(0, .ref (ad 0)), (1, .int v1), (4, .int v4), (5, .int v5), (6, .int v6), (7, .int v7), (8, .int v8)] [.int w0] σ (f_X5_answerBy_b105   σ v1 v4 v5 v6 v7 v8 w0) := by
  unfold f_X5_answerBy_b105
  refine X_iconst (v := 0) hC (by decide) dX5_answerBy_105 ?_
  exact (L_X5_answerBy_b106 G cls ad hi hC hz0 hz1 σ v1 v4 v5 v6 v7 v8 (0 : Int32) w0)
set_option maxHeartbeats 4000000 in
set_option maxRecDepth 100000 in
theorem L_X5_answerBy_b80 {Γ : Cx} (G : va_G) (cls : Cls) (ad : Nat → Nat) (hi : inj 6 ad) (hC : CX Γ (YM G cls ad) cX5_answerBy RX5 11 (some .int) 3 71) (hz0 : Γ.2.2.2.2.2.1 = 0) (hz1 : Γ.2.2.2.2.2.2 = 0)     (σ : Sg) (v1 v4 v5 v6 v7 v8 w0 w1 : Int32) : WX Γ (YM G cls ad) (qf Γ (YM G cls ad) fiS) 11 80 [(0, .ref (ad 0)), (1, .int v1), (4, .int v4), (5, .int v5), (6, .int v6), (7, .int v7), (8, .int v8)] [.int w0, .int w1] σ (f_X5_answerBy_b80   σ v1 v4 v5 v6 v7 v8 w0 w1) := by
  unfold f_X5_answerBy_b80
  refine X_isub hC dX5_answerBy_80 ?_
  refine X_lt (fun x9 => ?_)
  refine X_istore (ls' := [(9, .int x9), (0, .ref (ad 0)), (1, .int v1), (4, .int v4), (5, .int v5), (6, .int v6), (7, .int v7), (8, .int v8)]) hC dX5_answerBy_81 (by decide) rfl ?_
  refine X_iload hC 0 rfl dX5_answerBy_83 ?_
  refine X_iload hC 3 rfl dX5_answerBy_85 ?_
  refine X_iconst (v := 2) hC (by decide) dX5_answerBy_87 ?_
  refine X_iand hC dX5_answerBy_88 ?_
  refine X_iconst (v := 2) hC (by decide) dX5_answerBy_89 ?_
  refine X_icmp_ne hC 105 dX5_answerBy_90 (by decide) (fun h10 => ?_) (fun h10 => ?_)
  · exact X_sub [1, 2, 3, 4, 5, 6, 7] rfl (L_X5_answerBy_b105 G cls ad hi hC hz0 hz1 σ v1 v4 v5 v6 v7 v8 x9)
  · refine X_iload hC 0 rfl dX5_answerBy_93 ?_
    refine X_iconst (v := 2) hC (by decide) dX5_answerBy_95 ?_
    refine X_irem hC dX5_answerBy_96 ?_
    refine X_iconst (v := 1) hC (by decide) dX5_answerBy_97 ?_
    refine X_icmp_ne hC 105 dX5_answerBy_98 (by decide) (fun h26 => ?_) (fun h26 => ?_)
    · exact X_sub [1, 2, 3, 4, 5, 6, 7] rfl (L_X5_answerBy_b105 G cls ad hi hC hz0 hz1 σ v1 v4 v5 v6 v7 v8 x9)
    · refine X_iconst (v := 1) hC (by decide) dX5_answerBy_101 ?_
      refine X_goto hC 106 dX5_answerBy_102 (by decide) ?_
      exact X_sub [1, 2, 3, 4, 5, 6, 7] rfl (L_X5_answerBy_b106 G cls ad hi hC hz0 hz1 σ v1 v4 v5 v6 v7 v8 (1 : Int32) x9)
set_option maxHeartbeats 4000000 in
set_option maxRecDepth 100000 in
theorem L_X5_answerBy_b79 {Γ : Cx} (G : va_G) (cls : Cls) (ad : Nat → Nat) (hi : inj 6 ad) (hC : CX Γ (YM G cls ad) cX5_answerBy RX5 11 (some .int) 3 71) (hz0 : Γ.2.2.2.2.2.1 = 0) (hz1 : Γ.2.2.2.2.2.2 = 0)     (σ : Sg) (v1 v4 v5 v6 v7 v8 w0 : Int32) : WX Γ (YM G cls ad) (qf Γ (YM G cls ad) fiS) 11 79 [(0, .ref (ad 0)), (1, .int v1), (4, .int v4), (5, .int v5), (6, .int v6), (7, .int v7), (8, .int v8)] [.int w0] σ (f_X5_answerBy_b79   σ v1 v4 v5 v6 v7 v8 w0) := by
  unfold f_X5_answerBy_b79
  refine X_iconst (v := 0) hC (by decide) dX5_answerBy_79 ?_
  exact (L_X5_answerBy_b80 G cls ad hi hC hz0 hz1 σ v1 v4 v5 v6 v7 v8 (0 : Int32) w0)
theorem okm_X5_answerBy : okm yX5_answerBy 5 = true := by decide +kernel
set_option maxHeartbeats 4000000 in
set_option maxRecDepth 100000 in
theorem c_X5_answerBy (l : Launch) (G : va_G) (cls : Cls) (ad : Nat → Nat) (hi : inj 6 ad) (σ : Sg)   (p1 p2 p3 p4 p5 : Int32) : MT l (YM G cls ad) yX5_answerBy (.code yX5_answerBy cX5_answerBy 11 (some .int) :: gw) 3 71 [.ref (ad 0), .int p1, .int p2, .int p3, .int p4, .int p5] fiS σ (f_X5_answerBy σ  p1 p2 p3 p4 p5) := by
  refine MT.of (own := RX5) (by decide) (YM_D hi) rfl (Nat.le_of_ble_eq_true rfl) fun Γ _ hz0 hz1 hC => ?_
  show WX Γ (YM G cls ad) (qf Γ (YM G cls ad) fiS) 11 0 [(0, .ref (ad 0)), (1, .int p1), (2, .int p2), (3, .int p3), (4, .int p4), (5, .int p5)] [] σ (f_X5_answerBy σ  p1 p2 p3 p4 p5)
  unfold f_X5_answerBy
  refine X_aload_n hC 0 rfl dX5_answerBy_0 ?_
  refine X_iload_n hC 1 rfl dX5_answerBy_1 ?_
  refine X_iconst (v := 0) hC (by decide) dX5_answerBy_2 ?_
  refine X_callP (C := RX5) (T := TX5) (N := 16) (ci := 5) (rest := []) hC (c_X5_tool _ G cls ad hi σ p1 (0 : Int32)) (gV tw_560 tw_562 ts_9 tw_7 tw_563) rfl (wM (k := 0) (by omega) cM_ob) rfl rfl okm_X5_tool (by decide) dX5_answerBy_3 rfl (Nat.le_of_ble_eq_true rfl) (fun r1 => ?_)
  refine X_istore (ls' := [(6, .int r1), (0, .ref (ad 0)), (1, .int p1), (2, .int p2), (3, .int p3), (4, .int p4), (5, .int p5)]) hC dX5_answerBy_6 (by decide) rfl ?_
  refine X_aload_n hC 1 rfl dX5_answerBy_8 ?_
  refine X_iload_n hC 2 rfl dX5_answerBy_9 ?_
  refine X_iconst (v := 1) hC (by decide) dX5_answerBy_10 ?_
  refine X_callP (C := RX5) (T := TX5) (N := 16) (ci := 5) (rest := []) hC (c_X5_tool _ G cls ad hi σ p1 (1 : Int32)) (gV tw_560 tw_562 ts_9 tw_7 tw_563) rfl (wM (k := 0) (by omega) cM_ob) rfl rfl okm_X5_tool (by decide) dX5_answerBy_11 rfl (Nat.le_of_ble_eq_true rfl) (fun r2 => ?_)
  refine X_istore (ls' := [(7, .int r2), (6, .int r1), (0, .ref (ad 0)), (1, .int p1), (2, .int p2), (3, .int p3), (4, .int p4), (5, .int p5)]) hC dX5_answerBy_14 (by decide) rfl ?_
  refine X_aload_n hC 2 rfl dX5_answerBy_16 ?_
  refine X_iload_n hC 3 rfl dX5_answerBy_17 ?_
  refine X_iload_n hC 4 rfl dX5_answerBy_18 ?_
  refine X_aload_n hC 2 rfl dX5_answerBy_19 ?_
  refine X_iload_n hC 3 rfl dX5_answerBy_20 ?_
  refine X_iconst (v := 4) hC (by decide) dX5_answerBy_21 ?_
  refine X_callP (C := RX5) (T := TX5) (N := 16) (ci := 5) (rest := [.int p2, .int p1, .ref (ad 0)]) hC (c_X5_tool _ G cls ad hi σ p1 (4 : Int32)) (gV tw_560 tw_562 ts_9 tw_7 tw_563) rfl (wM (k := 0) (by omega) cM_ob) rfl rfl okm_X5_tool (by decide) dX5_answerBy_22 rfl (Nat.le_of_ble_eq_true rfl) (fun r3 => ?_)
  refine X_iadd hC dX5_answerBy_25 ?_
  refine X_iload_n hC 5 rfl dX5_answerBy_26 ?_
  refine X_aload_n hC 2 rfl dX5_answerBy_27 ?_
  refine X_iload_n hC 3 rfl dX5_answerBy_28 ?_
  refine X_iconst (v := 5) hC (by decide) dX5_answerBy_29 ?_
  refine X_callP (C := RX5) (T := TX5) (N := 16) (ci := 5) (rest := [.int p3, .int (p2 + r3), .int p1, .ref (ad 0)]) hC (c_X5_tool _ G cls ad hi σ p1 (5 : Int32)) (gV tw_560 tw_562 ts_9 tw_7 tw_563) rfl (wM (k := 0) (by omega) cM_ob) rfl rfl okm_X5_tool (by decide) dX5_answerBy_30 rfl (Nat.le_of_ble_eq_true rfl) (fun r4 => ?_)
  refine X_imul hC dX5_answerBy_33 ?_
  refine X_bipush (v := 10) hC (by decide) dX5_answerBy_34 ?_
  refine X_idiv hC dX5_answerBy_36 ?_
  refine X_iadd hC dX5_answerBy_37 ?_
  refine X_callV (C := RX5) (T := TX5) (N := 16) (ci := 5) (rest := []) hC (c_X5_look _ G cls ad hi σ p1 ((p2 + r3) + ((p3 * r4) / (10 : Int32)))) (gV tw_613 tw_615 ts_15 tw_7 tw_616) rfl (wM (k := 0) (by omega) cM_ob) rfl rfl okm_X5_look (by decide) dX5_answerBy_38 rfl (Nat.le_of_ble_eq_true rfl) (fun σ5 => ?_)
  refine X_aload_n hC 2 rfl dX5_answerBy_41 ?_
  refine X_getf (C := RX5) (T := TX5) (N := 16) (ci := 5) hC 5 (wM (k := 0) (by omega) cM_ob) rfl hinX5 (by decide) tw_490 rfl rfl dX5_answerBy_42 ?_
  refine X_lt (fun x6 => ?_)
  refine X_istore (ls' := [(8, .int x6), (7, .int r2), (6, .int r1), (0, .ref (ad 0)), (1, .int p1), (2, .int p2), (3, .int p3), (4, .int p4), (5, .int p5)]) hC dX5_answerBy_45 (by decide) rfl ?_
  refine X_aload_n hC 3 rfl dX5_answerBy_47 ?_
  refine X_getf (C := RX5) (T := TX5) (N := 16) (ci := 5) hC 9 (wM (k := 0) (by omega) cM_ob) rfl hinX5 (by decide) tw_494 rfl rfl dX5_answerBy_48 ?_
  refine X_lt (fun x7 => ?_)
  refine X_istore (ls' := [(9, .int x7), (8, .int x6), (7, .int r2), (6, .int r1), (0, .ref (ad 0)), (1, .int p1), (2, .int p2), (3, .int p3), (4, .int p4), (5, .int p5)]) hC dX5_answerBy_51 (by decide) rfl ?_
  refine X_iload hC 0 rfl dX5_answerBy_53 ?_
  refine X_iload hC 8 rfl dX5_answerBy_55 ?_
  refine X_iconst (v := 1) hC (by decide) dX5_answerBy_57 ?_
  refine X_iand hC dX5_answerBy_58 ?_
  refine X_iconst (v := 1) hC (by decide) dX5_answerBy_59 ?_
  refine X_icmp_ne hC 79 dX5_answerBy_60 (by decide) (fun h8 => ?_) (fun h8 => ?_)
  · exact X_sub [4, 5, 8, 9, 3, 2, 1] rfl (L_X5_answerBy_b79 G cls ad hi hC hz0 hz1 σ5 p1 p4 p5 r1 r2 x6 x7)
  · refine X_iload hC 0 rfl dX5_answerBy_63 ?_
    refine X_iload hC 2 rfl dX5_answerBy_65 ?_
    refine X_imul hC dX5_answerBy_67 ?_
    refine X_aload_n hC 4 rfl dX5_answerBy_68 ?_
    refine X_getf (C := RX5) (T := TX5) (N := 16) (ci := 5) hC 6 (wM (k := 0) (by omega) cM_ob) rfl hinX5 (by decide) tw_491 rfl rfl dX5_answerBy_69 ?_
    refine X_icmp_le hC 79 dX5_answerBy_72 (by decide) (fun h27 => ?_) (fun h27 => ?_)
    · exact X_sub [4, 5, 8, 9, 3, 2, 1] rfl (L_X5_answerBy_b79 G cls ad hi hC hz0 hz1 σ5 p1 p4 p5 r1 r2 x6 x7)
    · refine X_iconst (v := 1) hC (by decide) dX5_answerBy_75 ?_
      refine X_goto hC 80 dX5_answerBy_76 (by decide) ?_
      exact X_sub [4, 5, 8, 9, 3, 2, 1] rfl (L_X5_answerBy_b80 G cls ad hi hC hz0 hz1 σ5 p1 p4 p5 r1 r2 x6 (1 : Int32) x7)
theorem dX5_markOf_0 : decode cX5_markOf 0 = .ok (.iload_n 3, 1) := by decide +kernel
theorem dX5_markOf_1 : decode cX5_markOf 1 = .ok (.iload_n 2, 1) := by decide +kernel
theorem dX5_markOf_2 : decode cX5_markOf 2 = .ok (.if_icmp .ge 9, 3) := by decide +kernel
theorem dX5_markOf_5 : decode cX5_markOf 5 = .ok (.iload_n 2, 1) := by decide +kernel
theorem dX5_markOf_6 : decode cX5_markOf 6 = .ok (.iload_n 3, 1) := by decide +kernel
theorem dX5_markOf_7 : decode cX5_markOf 7 = .ok (.isub, 1) := by decide +kernel
theorem dX5_markOf_8 : decode cX5_markOf 8 = .ok (.goto 6, 3) := by decide +kernel
theorem dX5_markOf_11 : decode cX5_markOf 11 = .ok (.iload_n 3, 1) := by decide +kernel
theorem dX5_markOf_12 : decode cX5_markOf 12 = .ok (.iload_n 2, 1) := by decide +kernel
theorem dX5_markOf_13 : decode cX5_markOf 13 = .ok (.isub, 1) := by decide +kernel
theorem dX5_markOf_14 : decode cX5_markOf 14 = .ok (.istore 4, 2) := by decide +kernel
theorem dX5_markOf_16 : decode cX5_markOf 16 = .ok (.bipush 10, 2) := by decide +kernel
theorem dX5_markOf_18 : decode cX5_markOf 18 = .ok (.iload 4, 2) := by decide +kernel
theorem dX5_markOf_20 : decode cX5_markOf 20 = .ok (.aload_n 0, 1) := by decide +kernel
theorem dX5_markOf_21 : decode cX5_markOf 21 = .ok (.iload_n 1, 1) := by decide +kernel
theorem dX5_markOf_22 : decode cX5_markOf 22 = .ok (.iconst 1, 1) := by decide +kernel
theorem dX5_markOf_23 : decode cX5_markOf 23 = .ok (.invokevirtual 34, 3) := by decide +kernel
theorem dX5_markOf_26 : decode cX5_markOf 26 = .ok (.idiv, 1) := by decide +kernel
theorem dX5_markOf_27 : decode cX5_markOf 27 = .ok (.isub, 1) := by decide +kernel
theorem dX5_markOf_28 : decode cX5_markOf 28 = .ok (.istore 5, 2) := by decide +kernel
theorem dX5_markOf_30 : decode cX5_markOf 30 = .ok (.iload 5, 2) := by decide +kernel
theorem dX5_markOf_32 : decode cX5_markOf 32 = .ok (.ifCond .ge 7, 3) := by decide +kernel
theorem dX5_markOf_35 : decode cX5_markOf 35 = .ok (.iconst 0, 1) := by decide +kernel
theorem dX5_markOf_36 : decode cX5_markOf 36 = .ok (.goto 5, 3) := by decide +kernel
theorem dX5_markOf_39 : decode cX5_markOf 39 = .ok (.iload 5, 2) := by decide +kernel
theorem dX5_markOf_41 : decode cX5_markOf 41 = .ok (.ireturn, 1) := by decide +kernel
def f_X5_markOf_b14 (σ : Sg)    (v1 w0 : Int32) : Option (Int32) := (f_X5_tool σ v1 (1 : Int32)).bind fun r2 => gd (r2 != 0) (lt ((10 : Int32) - (w0 / r2)) fun x3 => if 0 ≤ x3 then (some x3) else (some (0 : Int32)))
def f_X5_markOf (σ : Sg)  (p1 p2 p3 : Int32) : Option (Int32) := if p2 ≤ p3 then (f_X5_markOf_b14 σ p1 (p3 - p2)) else (f_X5_markOf_b14 σ p1 (p2 - p3))
set_option maxHeartbeats 4000000 in
set_option maxRecDepth 100000 in
theorem L_X5_markOf_b14 {Γ : Cx} (G : va_G) (cls : Cls) (ad : Nat → Nat) (hi : inj 6 ad) (hC : CX Γ (YM G cls ad) cX5_markOf RX5 6 (some .int) 1 22) (hz0 : Γ.2.2.2.2.2.1 = 0) (hz1 : Γ.2.2.2.2.2.2 = 0) (σ : Sg)     (v1 w0 : Int32) : WX Γ (YM G cls ad) (qf Γ (YM G cls ad) (fiP σ)) 6 14 [(0, .ref (ad 0)), (1, .int v1)] [.int w0] σ (f_X5_markOf_b14 σ   v1 w0) := by
  unfold f_X5_markOf_b14
  refine X_istore (ls' := [(4, .int w0), (0, .ref (ad 0)), (1, .int v1)]) hC dX5_markOf_14 (by decide) rfl ?_
  refine X_bipush (v := 10) hC (by decide) dX5_markOf_16 ?_
  refine X_iload hC 0 rfl dX5_markOf_18 ?_
  refine X_aload_n hC 1 rfl dX5_markOf_20 ?_
  refine X_iload_n hC 2 rfl dX5_markOf_21 ?_
  refine X_iconst (v := 1) hC (by decide) dX5_markOf_22 ?_
  refine X_callP (C := RX5) (T := TX5) (N := 16) (ci := 5) (rest := [.int w0, .int (10 : Int32)]) hC (c_X5_tool _ G cls ad hi σ v1 (1 : Int32)) (gV tw_560 tw_562 ts_9 tw_7 tw_563) rfl (wM (k := 0) (by omega) cM_ob) rfl rfl okm_X5_tool (by decide) dX5_markOf_23 rfl (Nat.le_of_ble_eq_true rfl) (fun r2 => ?_)
  refine X_idiv hC dX5_markOf_26 ?_
  refine X_isub hC dX5_markOf_27 ?_
  refine X_lt (fun x3 => ?_)
  refine X_istore (ls' := [(5, .int x3), (4, .int w0), (0, .ref (ad 0)), (1, .int v1)]) hC dX5_markOf_28 (by decide) rfl ?_
  refine X_iload hC 0 rfl dX5_markOf_30 ?_
  refine X_if_ge hC 39 dX5_markOf_32 (by decide) (fun h4 => ?_) (fun h4 => ?_)
  · refine X_iload hC 0 rfl dX5_markOf_39 ?_
    exact X_iret hC hz0 hz1 dX5_markOf_41 rfl
  · refine X_iconst (v := 0) hC (by decide) dX5_markOf_35 ?_
    refine X_goto hC 41 dX5_markOf_36 (by decide) ?_
    exact X_iret hC hz0 hz1 dX5_markOf_41 rfl
theorem okm_X5_markOf : okm yX5_markOf 3 = true := by decide +kernel
set_option maxHeartbeats 4000000 in
set_option maxRecDepth 100000 in
theorem c_X5_markOf (l : Launch) (G : va_G) (cls : Cls) (ad : Nat → Nat) (hi : inj 6 ad) (σ : Sg)   (p1 p2 p3 : Int32) : MT l (YM G cls ad) yX5_markOf (.code yX5_markOf cX5_markOf 6 (some .int) :: gw) 1 22 [.ref (ad 0), .int p1, .int p2, .int p3] (fiP σ) σ (f_X5_markOf σ  p1 p2 p3) := by
  refine MT.of (own := RX5) (by decide) (YM_D hi) rfl (Nat.le_of_ble_eq_true rfl) fun Γ _ hz0 hz1 hC => ?_
  show WX Γ (YM G cls ad) (qf Γ (YM G cls ad) (fiP σ)) 6 0 [(0, .ref (ad 0)), (1, .int p1), (2, .int p2), (3, .int p3)] [] σ (f_X5_markOf σ  p1 p2 p3)
  unfold f_X5_markOf
  refine X_iload_n hC 3 rfl dX5_markOf_0 ?_
  refine X_iload_n hC 2 rfl dX5_markOf_1 ?_
  refine X_icmp_ge hC 11 dX5_markOf_2 (by decide) (fun h1 => ?_) (fun h1 => ?_)
  · refine X_iload_n hC 3 rfl dX5_markOf_11 ?_
    refine X_iload_n hC 2 rfl dX5_markOf_12 ?_
    refine X_isub hC dX5_markOf_13 ?_
    exact X_sub [0, 1] rfl (L_X5_markOf_b14 G cls ad hi hC hz0 hz1 σ p1 (p3 - p2))
  · refine X_iload_n hC 2 rfl dX5_markOf_5 ?_
    refine X_iload_n hC 3 rfl dX5_markOf_6 ?_
    refine X_isub hC dX5_markOf_7 ?_
    refine X_goto hC 14 dX5_markOf_8 (by decide) ?_
    exact X_sub [0, 1] rfl (L_X5_markOf_b14 G cls ad hi hC hz0 hz1 σ p1 (p2 - p3))
theorem dX5_isSetting_0 : decode cX5_isSetting 0 = .ok (.iload_n 2, 1) := by decide +kernel
theorem dX5_isSetting_1 : decode cX5_isSetting 1 = .ok (.iconst 0, 1) := by decide +kernel
theorem dX5_isSetting_2 : decode cX5_isSetting 2 = .ok (.aload_n 0, 1) := by decide +kernel
theorem dX5_isSetting_3 : decode cX5_isSetting 3 = .ok (.iload_n 1, 1) := by decide +kernel
theorem dX5_isSetting_4 : decode cX5_isSetting 4 = .ok (.iconst 2, 1) := by decide +kernel
theorem dX5_isSetting_5 : decode cX5_isSetting 5 = .ok (.invokevirtual 34, 3) := by decide +kernel
theorem dX5_isSetting_8 : decode cX5_isSetting 8 = .ok (.aload_n 0, 1) := by decide +kernel
theorem dX5_isSetting_9 : decode cX5_isSetting 9 = .ok (.iload_n 1, 1) := by decide +kernel
theorem dX5_isSetting_10 : decode cX5_isSetting 10 = .ok (.invokevirtual 48, 3) := by decide +kernel
theorem dX5_isSetting_13 : decode cX5_isSetting 13 = .ok (.imul, 1) := by decide +kernel
theorem dX5_isSetting_14 : decode cX5_isSetting 14 = .ok (.invokestatic 30, 3) := by decide +kernel
theorem dX5_isSetting_17 : decode cX5_isSetting 17 = .ok (.ireturn, 1) := by decide +kernel
def f_X5_isSetting (σ : Sg)  (p1 p2 : Int32) : Option (Int32) := (f_X5_tool σ p1 (2 : Int32)).bind fun r1 => (f_X5_wide σ p1).bind fun r2 => (f_X5_in σ p2 (0 : Int32) (r1 * r2)).bind fun r3 => gd (isz r3) (some r3)
theorem okm_X5_isSetting : okm yX5_isSetting 2 = true := by decide +kernel
set_option maxHeartbeats 4000000 in
set_option maxRecDepth 100000 in
theorem c_X5_isSetting (l : Launch) (G : va_G) (cls : Cls) (ad : Nat → Nat) (hi : inj 6 ad) (σ : Sg)   (p1 p2 : Int32) : MT l (YM G cls ad) yX5_isSetting (.code yX5_isSetting cX5_isSetting 3 (some .boolean) :: gw) 2 43 [.ref (ad 0), .int p1, .int p2] (fiP σ) σ (f_X5_isSetting σ  p1 p2) := by
  refine MT.of (own := RX5) (by decide) (YM_D hi) rfl (Nat.le_of_ble_eq_true rfl) fun Γ _ hz0 hz1 hC => ?_
  show WX Γ (YM G cls ad) (qf Γ (YM G cls ad) (fiP σ)) 3 0 [(0, .ref (ad 0)), (1, .int p1), (2, .int p2)] [] σ (f_X5_isSetting σ  p1 p2)
  unfold f_X5_isSetting
  refine X_iload_n hC 2 rfl dX5_isSetting_0 ?_
  refine X_iconst (v := 0) hC (by decide) dX5_isSetting_1 ?_
  refine X_aload_n hC 0 rfl dX5_isSetting_2 ?_
  refine X_iload_n hC 1 rfl dX5_isSetting_3 ?_
  refine X_iconst (v := 2) hC (by decide) dX5_isSetting_4 ?_
  refine X_callP (C := RX5) (T := TX5) (N := 16) (ci := 5) (rest := [.int (0 : Int32), .int p2]) hC (c_X5_tool _ G cls ad hi σ p1 (2 : Int32)) (gV tw_560 tw_562 ts_9 tw_7 tw_563) rfl (wM (k := 0) (by omega) cM_ob) rfl rfl okm_X5_tool (by decide) dX5_isSetting_5 rfl (Nat.le_of_ble_eq_true rfl) (fun r1 => ?_)
  refine X_aload_n hC 0 rfl dX5_isSetting_8 ?_
  refine X_iload_n hC 1 rfl dX5_isSetting_9 ?_
  refine X_callP (C := RX5) (T := TX5) (N := 16) (ci := 5) (rest := [.int r1, .int (0 : Int32), .int p2]) hC (c_X5_wide _ G cls ad hi σ p1) (gV tw_556 tw_558 ts_8 tw_7 tw_559) rfl (wM (k := 0) (by omega) cM_ob) rfl rfl okm_X5_wide (by decide) dX5_isSetting_10 rfl (Nat.le_of_ble_eq_true rfl) (fun r2 => ?_)
  refine X_imul hC dX5_isSetting_13 ?_
  refine X_statP (rest := []) hC (c_X5_in _ G cls ad hi σ p2 (0 : Int32) (r1 * r2)) (gSt tw_538 tw_539 tw_7 tw_540) rfl okm_X5_in (by decide) dX5_isSetting_14 rfl (Nat.le_of_ble_eq_true rfl) (fun r3 => ?_)
  exact X_gd (fun h4 => X_zret hC hz0 hz1 (nz h4) dX5_isSetting_17 rfl)
theorem dX5_writes_0 : decode cX5_writes 0 = .ok (.sipush 144, 3) := by decide +kernel
theorem dX5_writes_3 : decode cX5_writes 3 = .ok (.bipush 8, 2) := by decide +kernel
theorem dX5_writes_5 : decode cX5_writes 5 = .ok (.aload_n 0, 1) := by decide +kernel
theorem dX5_writes_6 : decode cX5_writes 6 = .ok (.getfield 7, 3) := by decide +kernel
theorem dX5_writes_9 : decode cX5_writes 9 = .ok (.iconst 2, 1) := by decide +kernel
theorem dX5_writes_10 : decode cX5_writes 10 = .ok (.iaload, 1) := by decide +kernel
theorem dX5_writes_11 : decode cX5_writes 11 = .ok (.imul, 1) := by decide +kernel
theorem dX5_writes_12 : decode cX5_writes 12 = .ok (.iadd, 1) := by decide +kernel
theorem dX5_writes_13 : decode cX5_writes 13 = .ok (.istore 4, 2) := by decide +kernel
theorem dX5_writes_15 : decode cX5_writes 15 = .ok (.aload_n 0, 1) := by decide +kernel
theorem dX5_writes_16 : decode cX5_writes 16 = .ok (.getfield 7, 3) := by decide +kernel
theorem dX5_writes_19 : decode cX5_writes 19 = .ok (.iload 4, 2) := by decide +kernel
theorem dX5_writes_21 : decode cX5_writes 21 = .ok (.iconst 0, 1) := by decide +kernel
theorem dX5_writes_22 : decode cX5_writes 22 = .ok (.iadd, 1) := by decide +kernel
theorem dX5_writes_23 : decode cX5_writes 23 = .ok (.iload_n 1, 1) := by decide +kernel
theorem dX5_writes_24 : decode cX5_writes 24 = .ok (.iastore, 1) := by decide +kernel
theorem dX5_writes_25 : decode cX5_writes 25 = .ok (.aload_n 0, 1) := by decide +kernel
theorem dX5_writes_26 : decode cX5_writes 26 = .ok (.getfield 7, 3) := by decide +kernel
theorem dX5_writes_29 : decode cX5_writes 29 = .ok (.iload 4, 2) := by decide +kernel
theorem dX5_writes_31 : decode cX5_writes 31 = .ok (.iconst 1, 1) := by decide +kernel
theorem dX5_writes_32 : decode cX5_writes 32 = .ok (.iadd, 1) := by decide +kernel
theorem dX5_writes_33 : decode cX5_writes 33 = .ok (.iload_n 2, 1) := by decide +kernel
theorem dX5_writes_34 : decode cX5_writes 34 = .ok (.iastore, 1) := by decide +kernel
theorem dX5_writes_35 : decode cX5_writes 35 = .ok (.aload_n 0, 1) := by decide +kernel
theorem dX5_writes_36 : decode cX5_writes 36 = .ok (.getfield 7, 3) := by decide +kernel
theorem dX5_writes_39 : decode cX5_writes 39 = .ok (.iload 4, 2) := by decide +kernel
theorem dX5_writes_41 : decode cX5_writes 41 = .ok (.iconst 2, 1) := by decide +kernel
theorem dX5_writes_42 : decode cX5_writes 42 = .ok (.iadd, 1) := by decide +kernel
theorem dX5_writes_43 : decode cX5_writes 43 = .ok (.iload_n 3, 1) := by decide +kernel
theorem dX5_writes_44 : decode cX5_writes 44 = .ok (.iastore, 1) := by decide +kernel
theorem dX5_writes_45 : decode cX5_writes 45 = .ok (.aload_n 0, 1) := by decide +kernel
theorem dX5_writes_46 : decode cX5_writes 46 = .ok (.getfield 7, 3) := by decide +kernel
theorem dX5_writes_49 : decode cX5_writes 49 = .ok (.iload 4, 2) := by decide +kernel
theorem dX5_writes_51 : decode cX5_writes 51 = .ok (.iconst 3, 1) := by decide +kernel
theorem dX5_writes_52 : decode cX5_writes 52 = .ok (.iadd, 1) := by decide +kernel
theorem dX5_writes_53 : decode cX5_writes 53 = .ok (.aload_n 0, 1) := by decide +kernel
theorem dX5_writes_54 : decode cX5_writes 54 = .ok (.iload_n 2, 1) := by decide +kernel
theorem dX5_writes_55 : decode cX5_writes 55 = .ok (.iload_n 3, 1) := by decide +kernel
theorem dX5_writes_56 : decode cX5_writes 56 = .ok (.aload_n 0, 1) := by decide +kernel
theorem dX5_writes_57 : decode cX5_writes 57 = .ok (.iload_n 1, 1) := by decide +kernel
theorem dX5_writes_58 : decode cX5_writes 58 = .ok (.iconst 0, 1) := by decide +kernel
theorem dX5_writes_59 : decode cX5_writes 59 = .ok (.invokevirtual 54, 3) := by decide +kernel
theorem dX5_writes_62 : decode cX5_writes 62 = .ok (.aload_n 0, 1) := by decide +kernel
theorem dX5_writes_63 : decode cX5_writes 63 = .ok (.iload_n 1, 1) := by decide +kernel
theorem dX5_writes_64 : decode cX5_writes 64 = .ok (.iconst 1, 1) := by decide +kernel
theorem dX5_writes_65 : decode cX5_writes 65 = .ok (.invokevirtual 54, 3) := by decide +kernel
theorem dX5_writes_68 : decode cX5_writes 68 = .ok (.aload_n 0, 1) := by decide +kernel
theorem dX5_writes_69 : decode cX5_writes 69 = .ok (.iload_n 1, 1) := by decide +kernel
theorem dX5_writes_70 : decode cX5_writes 70 = .ok (.iconst 2, 1) := by decide +kernel
theorem dX5_writes_71 : decode cX5_writes 71 = .ok (.invokevirtual 54, 3) := by decide +kernel
theorem dX5_writes_74 : decode cX5_writes 74 = .ok (.invokevirtual 86, 3) := by decide +kernel
theorem dX5_writes_77 : decode cX5_writes 77 = .ok (.iastore, 1) := by decide +kernel
theorem dX5_writes_78 : decode cX5_writes 78 = .ok (.aload_n 0, 1) := by decide +kernel
theorem dX5_writes_79 : decode cX5_writes 79 = .ok (.getfield 7, 3) := by decide +kernel
theorem dX5_writes_82 : decode cX5_writes 82 = .ok (.iload 4, 2) := by decide +kernel
theorem dX5_writes_84 : decode cX5_writes 84 = .ok (.iconst 4, 1) := by decide +kernel
theorem dX5_writes_85 : decode cX5_writes 85 = .ok (.iadd, 1) := by decide +kernel
theorem dX5_writes_86 : decode cX5_writes 86 = .ok (.aload_n 0, 1) := by decide +kernel
theorem dX5_writes_87 : decode cX5_writes 87 = .ok (.iload_n 2, 1) := by decide +kernel
theorem dX5_writes_88 : decode cX5_writes 88 = .ok (.iload_n 3, 1) := by decide +kernel
theorem dX5_writes_89 : decode cX5_writes 89 = .ok (.aload_n 0, 1) := by decide +kernel
theorem dX5_writes_90 : decode cX5_writes 90 = .ok (.getfield 7, 3) := by decide +kernel
theorem dX5_writes_93 : decode cX5_writes 93 = .ok (.iload 4, 2) := by decide +kernel
theorem dX5_writes_95 : decode cX5_writes 95 = .ok (.iconst 3, 1) := by decide +kernel
theorem dX5_writes_96 : decode cX5_writes 96 = .ok (.iadd, 1) := by decide +kernel
theorem dX5_writes_97 : decode cX5_writes 97 = .ok (.iaload, 1) := by decide +kernel
theorem dX5_writes_98 : decode cX5_writes 98 = .ok (.invokevirtual 90, 3) := by decide +kernel
theorem dX5_writes_101 : decode cX5_writes 101 = .ok (.iastore, 1) := by decide +kernel
theorem dX5_writes_102 : decode cX5_writes 102 = .ok (.aload_n 0, 1) := by decide +kernel
theorem dX5_writes_103 : decode cX5_writes 103 = .ok (.getfield 7, 3) := by decide +kernel
theorem dX5_writes_106 : decode cX5_writes 106 = .ok (.iload 4, 2) := by decide +kernel
theorem dX5_writes_108 : decode cX5_writes 108 = .ok (.iconst 5, 1) := by decide +kernel
theorem dX5_writes_109 : decode cX5_writes 109 = .ok (.iadd, 1) := by decide +kernel
theorem dX5_writes_110 : decode cX5_writes 110 = .ok (.iconst 0, 1) := by decide +kernel
theorem dX5_writes_111 : decode cX5_writes 111 = .ok (.iastore, 1) := by decide +kernel
theorem dX5_writes_112 : decode cX5_writes 112 = .ok (.aload_n 0, 1) := by decide +kernel
theorem dX5_writes_113 : decode cX5_writes 113 = .ok (.getfield 7, 3) := by decide +kernel
theorem dX5_writes_116 : decode cX5_writes 116 = .ok (.iconst 2, 1) := by decide +kernel
theorem dX5_writes_117 : decode cX5_writes 117 = .ok (.dup2, 1) := by decide +kernel
theorem dX5_writes_118 : decode cX5_writes 118 = .ok (.iaload, 1) := by decide +kernel
theorem dX5_writes_119 : decode cX5_writes 119 = .ok (.iconst 1, 1) := by decide +kernel
theorem dX5_writes_120 : decode cX5_writes 120 = .ok (.iadd, 1) := by decide +kernel
theorem dX5_writes_121 : decode cX5_writes 121 = .ok (.iastore, 1) := by decide +kernel
theorem dX5_writes_122 : decode cX5_writes 122 = .ok (.aload_n 0, 1) := by decide +kernel
theorem dX5_writes_123 : decode cX5_writes 123 = .ok (.getfield 7, 3) := by decide +kernel
theorem dX5_writes_126 : decode cX5_writes 126 = .ok (.iload 4, 2) := by decide +kernel
theorem dX5_writes_128 : decode cX5_writes 128 = .ok (.iconst 4, 1) := by decide +kernel
theorem dX5_writes_129 : decode cX5_writes 129 = .ok (.iadd, 1) := by decide +kernel
theorem dX5_writes_130 : decode cX5_writes 130 = .ok (.iaload, 1) := by decide +kernel
theorem dX5_writes_131 : decode cX5_writes 131 = .ok (.ireturn, 1) := by decide +kernel
def f_X5_writes (σ : Sg)  (p1 p2 p3 : Int32) : Option (Int32 × Sg) := gd (inb (2 : Int32) 624) (lt ((144 : Int32) + ((8 : Int32) * (σ.2 0 (ix (2 : Int32))))) fun x1 => gd (inb (x1 + (0 : Int32)) 624) (lts (s2 σ 0 (upd (σ.2 0) (ix (x1 + (0 : Int32))) p1)) fun σ2 => gd (inb (x1 + (1 : Int32)) 624) (lts (s2 σ2 0 (upd (σ2.2 0) (ix (x1 + (1 : Int32))) p2)) fun σ3 => gd (inb (x1 + (2 : Int32)) 624) (lts (s2 σ3 0 (upd (σ3.2 0) (ix (x1 + (2 : Int32))) p3)) fun σ4 => (f_X5_scholar σ4 p1 (0 : Int32)).bind fun r5 => (f_X5_scholar σ4 p1 (1 : Int32)).bind fun r6 => (f_X5_scholar σ4 p1 (2 : Int32)).bind fun r7 => (f_X5_answerBy σ4 p2 p3 r5 r6 r7).bind fun q15 => lts q15.2 fun σ9 => lt q15.1 fun r8 => gd (inb (x1 + (3 : Int32)) 624) (lts (s2 σ9 0 (upd (σ9.2 0) (ix (x1 + (3 : Int32))) r8)) fun σ10 => gd (inb (x1 + (3 : Int32)) 624) ((f_X5_markOf σ10 p2 p3 (σ10.2 0 (ix (x1 + (3 : Int32))))).bind fun r11 => gd (inb (x1 + (4 : Int32)) 624) (lts (s2 σ10 0 (upd (σ10.2 0) (ix (x1 + (4 : Int32))) r11)) fun σ12 => gd (inb (x1 + (5 : Int32)) 624) (lts (s2 σ12 0 (upd (σ12.2 0) (ix (x1 + (5 : Int32))) (0 : Int32))) fun σ13 => gd (inb (2 : Int32) 624) (gd (inb (2 : Int32) 624) (lts (s2 σ13 0 (upd (σ13.2 0) (ix (2 : Int32)) ((σ13.2 0 (ix (2 : Int32))) + (1 : Int32)))) fun σ14 => gd (inb (x1 + (4 : Int32)) 624) (some ((σ14.2 0 (ix (x1 + (4 : Int32)))), σ14))))))))))))
theorem okm_X5_writes : okm yX5_writes 3 = true := by decide +kernel
set_option maxHeartbeats 4000000 in
set_option maxRecDepth 100000 in
theorem c_X5_writes (l : Launch) (G : va_G) (cls : Cls) (ad : Nat → Nat) (hi : inj 6 ad) (σ : Sg)   (p1 p2 p3 : Int32) : MT l (YM G cls ad) yX5_writes (.code yX5_writes cX5_writes 5 (some .int) :: gw) 4 101 [.ref (ad 0), .int p1, .int p2, .int p3] fiS σ (f_X5_writes σ  p1 p2 p3) := by
  refine MT.of (own := RX5) (by decide) (YM_D hi) rfl (Nat.le_of_ble_eq_true rfl) fun Γ _ hz0 hz1 hC => ?_
  show WX Γ (YM G cls ad) (qf Γ (YM G cls ad) fiS) 5 0 [(0, .ref (ad 0)), (1, .int p1), (2, .int p2), (3, .int p3)] [] σ (f_X5_writes σ  p1 p2 p3)
  unfold f_X5_writes
  refine X_sipush (v := 144) hC (by decide) dX5_writes_0 ?_
  refine X_bipush (v := 8) hC (by decide) dX5_writes_3 ?_
  refine X_aload_n hC 0 rfl dX5_writes_5 ?_
  refine X_getf (C := RX5) (T := TX5) (N := 16) (ci := 5) hC 0 (wM (k := 0) (by omega) cM_ob) rfl hinX5 (by decide) tw_485 rfl rfl dX5_writes_6 ?_
  refine X_iconst (v := 2) hC (by decide) dX5_writes_9 ?_
  refine X_iald hC (wM (k := 1) (by omega) cM_now) (t0 := 0) rfl dX5_writes_10 ?_
  refine X_imul hC dX5_writes_11 ?_
  refine X_iadd hC dX5_writes_12 ?_
  refine X_lt (fun x1 => ?_)
  refine X_istore (ls' := [(4, .int x1), (0, .ref (ad 0)), (1, .int p1), (2, .int p2), (3, .int p3)]) hC dX5_writes_13 (by decide) rfl ?_
  refine X_aload_n hC 1 rfl dX5_writes_15 ?_
  refine X_getf (C := RX5) (T := TX5) (N := 16) (ci := 5) hC 0 (wM (k := 0) (by omega) cM_ob) rfl hinX5 (by decide) tw_485 rfl rfl dX5_writes_16 ?_
  refine X_iload hC 0 rfl dX5_writes_19 ?_
  refine X_iconst (v := 0) hC (by decide) dX5_writes_21 ?_
  refine X_iadd hC dX5_writes_22 ?_
  refine X_iload_n hC 2 rfl dX5_writes_23 ?_
  refine X_iast hC (wM (k := 1) (by omega) cM_now) (t0 := 0) rfl (aM_now _) dX5_writes_24 (X_lts fun σ2 => ?_)
  refine X_aload_n hC 1 rfl dX5_writes_25 ?_
  refine X_getf (C := RX5) (T := TX5) (N := 16) (ci := 5) hC 0 (wM (k := 0) (by omega) cM_ob) rfl hinX5 (by decide) tw_485 rfl rfl dX5_writes_26 ?_
  refine X_iload hC 0 rfl dX5_writes_29 ?_
  refine X_iconst (v := 1) hC (by decide) dX5_writes_31 ?_
  refine X_iadd hC dX5_writes_32 ?_
  refine X_iload_n hC 3 rfl dX5_writes_33 ?_
  refine X_iast hC (wM (k := 1) (by omega) cM_now) (t0 := 0) rfl (aM_now _) dX5_writes_34 (X_lts fun σ3 => ?_)
  refine X_aload_n hC 1 rfl dX5_writes_35 ?_
  refine X_getf (C := RX5) (T := TX5) (N := 16) (ci := 5) hC 0 (wM (k := 0) (by omega) cM_ob) rfl hinX5 (by decide) tw_485 rfl rfl dX5_writes_36 ?_
  refine X_iload hC 0 rfl dX5_writes_39 ?_
  refine X_iconst (v := 2) hC (by decide) dX5_writes_41 ?_
  refine X_iadd hC dX5_writes_42 ?_
  refine X_iload_n hC 4 rfl dX5_writes_43 ?_
  refine X_iast hC (wM (k := 1) (by omega) cM_now) (t0 := 0) rfl (aM_now _) dX5_writes_44 (X_lts fun σ4 => ?_)
  refine X_aload_n hC 1 rfl dX5_writes_45 ?_
  refine X_getf (C := RX5) (T := TX5) (N := 16) (ci := 5) hC 0 (wM (k := 0) (by omega) cM_ob) rfl hinX5 (by decide) tw_485 rfl rfl dX5_writes_46 ?_
  refine X_iload hC 0 rfl dX5_writes_49 ?_
  refine X_iconst (v := 3) hC (by decide) dX5_writes_51 ?_
  refine X_iadd hC dX5_writes_52 ?_
  refine X_aload_n hC 1 rfl dX5_writes_53 ?_
  refine X_iload_n hC 3 rfl dX5_writes_54 ?_
  refine X_iload_n hC 4 rfl dX5_writes_55 ?_
  refine X_aload_n hC 1 rfl dX5_writes_56 ?_
  refine X_iload_n hC 2 rfl dX5_writes_57 ?_
  refine X_iconst (v := 0) hC (by decide) dX5_writes_58 ?_
  refine X_callP (C := RX5) (T := TX5) (N := 16) (ci := 5) (rest := [.int p3, .int p2, .ref (ad 0), .int (x1 + (3 : Int32)), .ref (ad 1)]) hC (c_X5_scholar _ G cls ad hi σ4 p1 (0 : Int32)) (gV tw_574 tw_576 ts_10 tw_7 tw_577) rfl (wM (k := 0) (by omega) cM_ob) rfl rfl okm_X5_scholar (by decide) dX5_writes_59 rfl (Nat.le_of_ble_eq_true rfl) (fun r5 => ?_)
  refine X_aload_n hC 1 rfl dX5_writes_62 ?_
  refine X_iload_n hC 2 rfl dX5_writes_63 ?_
  refine X_iconst (v := 1) hC (by decide) dX5_writes_64 ?_
  refine X_callP (C := RX5) (T := TX5) (N := 16) (ci := 5) (rest := [.int r5, .int p3, .int p2, .ref (ad 0), .int (x1 + (3 : Int32)), .ref (ad 1)]) hC (c_X5_scholar _ G cls ad hi σ4 p1 (1 : Int32)) (gV tw_574 tw_576 ts_10 tw_7 tw_577) rfl (wM (k := 0) (by omega) cM_ob) rfl rfl okm_X5_scholar (by decide) dX5_writes_65 rfl (Nat.le_of_ble_eq_true rfl) (fun r6 => ?_)
  refine X_aload_n hC 1 rfl dX5_writes_68 ?_
  refine X_iload_n hC 2 rfl dX5_writes_69 ?_
  refine X_iconst (v := 2) hC (by decide) dX5_writes_70 ?_
  refine X_callP (C := RX5) (T := TX5) (N := 16) (ci := 5) (rest := [.int r6, .int r5, .int p3, .int p2, .ref (ad 0), .int (x1 + (3 : Int32)), .ref (ad 1)]) hC (c_X5_scholar _ G cls ad hi σ4 p1 (2 : Int32)) (gV tw_574 tw_576 ts_10 tw_7 tw_577) rfl (wM (k := 0) (by omega) cM_ob) rfl rfl okm_X5_scholar (by decide) dX5_writes_71 rfl (Nat.le_of_ble_eq_true rfl) (fun r7 => ?_)
  refine X_callS (C := RX5) (T := TX5) (N := 16) (ci := 5) (rest := [.int (x1 + (3 : Int32)), .ref (ad 1)]) hC (c_X5_answerBy _ G cls ad hi σ4 p2 p3 r5 r6 r7) (gV tw_609 tw_611 ts_14 tw_7 tw_612) rfl (wM (k := 0) (by omega) cM_ob) rfl rfl okm_X5_answerBy (by decide) dX5_writes_74 rfl (Nat.le_of_ble_eq_true rfl) (fun q15 => X_lts fun σ9 => X_lt fun r8 => ?_)
  refine X_iast hC (wM (k := 1) (by omega) cM_now) (t0 := 0) rfl (aM_now _) dX5_writes_77 (X_lts fun σ10 => ?_)
  refine X_aload_n hC 1 rfl dX5_writes_78 ?_
  refine X_getf (C := RX5) (T := TX5) (N := 16) (ci := 5) hC 0 (wM (k := 0) (by omega) cM_ob) rfl hinX5 (by decide) tw_485 rfl rfl dX5_writes_79 ?_
  refine X_iload hC 0 rfl dX5_writes_82 ?_
  refine X_iconst (v := 4) hC (by decide) dX5_writes_84 ?_
  refine X_iadd hC dX5_writes_85 ?_
  refine X_aload_n hC 1 rfl dX5_writes_86 ?_
  refine X_iload_n hC 3 rfl dX5_writes_87 ?_
  refine X_iload_n hC 4 rfl dX5_writes_88 ?_
  refine X_aload_n hC 1 rfl dX5_writes_89 ?_
  refine X_getf (C := RX5) (T := TX5) (N := 16) (ci := 5) hC 0 (wM (k := 0) (by omega) cM_ob) rfl hinX5 (by decide) tw_485 rfl rfl dX5_writes_90 ?_
  refine X_iload hC 0 rfl dX5_writes_93 ?_
  refine X_iconst (v := 3) hC (by decide) dX5_writes_95 ?_
  refine X_iadd hC dX5_writes_96 ?_
  refine X_iald hC (wM (k := 1) (by omega) cM_now) (t0 := 0) rfl dX5_writes_97 ?_
  refine X_callP (C := RX5) (T := TX5) (N := 16) (ci := 5) (rest := [.int (x1 + (4 : Int32)), .ref (ad 1)]) hC (c_X5_markOf _ G cls ad hi σ10 p2 p3 (σ10.2 0 (ix (x1 + (3 : Int32))))) (gV tw_617 tw_619 ts_16 tw_7 tw_620) rfl (wM (k := 0) (by omega) cM_ob) rfl rfl okm_X5_markOf (by decide) dX5_writes_98 rfl (Nat.le_of_ble_eq_true rfl) (fun r11 => ?_)
  refine X_iast hC (wM (k := 1) (by omega) cM_now) (t0 := 0) rfl (aM_now _) dX5_writes_101 (X_lts fun σ12 => ?_)
  refine X_aload_n hC 1 rfl dX5_writes_102 ?_
  refine X_getf (C := RX5) (T := TX5) (N := 16) (ci := 5) hC 0 (wM (k := 0) (by omega) cM_ob) rfl hinX5 (by decide) tw_485 rfl rfl dX5_writes_103 ?_
  refine X_iload hC 0 rfl dX5_writes_106 ?_
  refine X_iconst (v := 5) hC (by decide) dX5_writes_108 ?_
  refine X_iadd hC dX5_writes_109 ?_
  refine X_iconst (v := 0) hC (by decide) dX5_writes_110 ?_
  refine X_iast hC (wM (k := 1) (by omega) cM_now) (t0 := 0) rfl (aM_now _) dX5_writes_111 (X_lts fun σ13 => ?_)
  refine X_aload_n hC 1 rfl dX5_writes_112 ?_
  refine X_getf (C := RX5) (T := TX5) (N := 16) (ci := 5) hC 0 (wM (k := 0) (by omega) cM_ob) rfl hinX5 (by decide) tw_485 rfl rfl dX5_writes_113 ?_
  refine X_iconst (v := 2) hC (by decide) dX5_writes_116 ?_
  refine X_dup2 hC rfl rfl dX5_writes_117 ?_
  refine X_iald hC (wM (k := 1) (by omega) cM_now) (t0 := 0) rfl dX5_writes_118 ?_
  refine X_iconst (v := 1) hC (by decide) dX5_writes_119 ?_
  refine X_iadd hC dX5_writes_120 ?_
  refine X_iast hC (wM (k := 1) (by omega) cM_now) (t0 := 0) rfl (aM_now _) dX5_writes_121 (X_lts fun σ14 => ?_)
  refine X_aload_n hC 1 rfl dX5_writes_122 ?_
  refine X_getf (C := RX5) (T := TX5) (N := 16) (ci := 5) hC 0 (wM (k := 0) (by omega) cM_ob) rfl hinX5 (by decide) tw_485 rfl rfl dX5_writes_123 ?_
  refine X_iload hC 0 rfl dX5_writes_126 ?_
  refine X_iconst (v := 4) hC (by decide) dX5_writes_128 ?_
  refine X_iadd hC dX5_writes_129 ?_
  refine X_iald hC (wM (k := 1) (by omega) cM_now) (t0 := 0) rfl dX5_writes_130 ?_
  exact X_iret hC hz0 hz1 dX5_writes_131 rfl
theorem dX5_write_0 : decode cX5_write 0 = .ok (.aload_n 0, 1) := by decide +kernel
theorem dX5_write_1 : decode cX5_write 1 = .ok (.iload_n 1, 1) := by decide +kernel
theorem dX5_write_2 : decode cX5_write 2 = .ok (.invokevirtual 61, 3) := by decide +kernel
theorem dX5_write_5 : decode cX5_write 5 = .ok (.ifCond .ne 11, 3) := by decide +kernel
theorem dX5_write_8 : decode cX5_write 8 = .ok (.aload_n 0, 1) := by decide +kernel
theorem dX5_write_9 : decode cX5_write 9 = .ok (.iload_n 2, 1) := by decide +kernel
theorem dX5_write_10 : decode cX5_write 10 = .ok (.invokevirtual 43, 3) := by decide +kernel
theorem dX5_write_13 : decode cX5_write 13 = .ok (.ifCond .eq 6, 3) := by decide +kernel
theorem dX5_write_16 : decode cX5_write 16 = .ok (.ldc 47, 2) := by decide +kernel
theorem dX5_write_18 : decode cX5_write 18 = .ok (.ireturn, 1) := by decide +kernel
theorem dX5_write_19 : decode cX5_write 19 = .ok (.aload_n 0, 1) := by decide +kernel
theorem dX5_write_20 : decode cX5_write 20 = .ok (.iload_n 2, 1) := by decide +kernel
theorem dX5_write_21 : decode cX5_write 21 = .ok (.iload_n 3, 1) := by decide +kernel
theorem dX5_write_22 : decode cX5_write 22 = .ok (.invokevirtual 94, 3) := by decide +kernel
theorem dX5_write_25 : decode cX5_write 25 = .ok (.ifCond .ne 6, 3) := by decide +kernel
theorem dX5_write_28 : decode cX5_write 28 = .ok (.ldc 38, 2) := by decide +kernel
theorem dX5_write_30 : decode cX5_write 30 = .ok (.ireturn, 1) := by decide +kernel
theorem dX5_write_31 : decode cX5_write 31 = .ok (.aload_n 0, 1) := by decide +kernel
theorem dX5_write_32 : decode cX5_write 32 = .ok (.getfield 7, 3) := by decide +kernel
theorem dX5_write_35 : decode cX5_write 35 = .ok (.iconst 2, 1) := by decide +kernel
theorem dX5_write_36 : decode cX5_write 36 = .ok (.iaload, 1) := by decide +kernel
theorem dX5_write_37 : decode cX5_write 37 = .ok (.bipush 60, 2) := by decide +kernel
theorem dX5_write_39 : decode cX5_write 39 = .ok (.if_icmp .ne 6, 3) := by decide +kernel
theorem dX5_write_42 : decode cX5_write 42 = .ok (.ldc 39, 2) := by decide +kernel
theorem dX5_write_44 : decode cX5_write 44 = .ok (.ireturn, 1) := by decide +kernel
theorem dX5_write_45 : decode cX5_write 45 = .ok (.aload_n 0, 1) := by decide +kernel
theorem dX5_write_46 : decode cX5_write 46 = .ok (.invokevirtual 40, 3) := by decide +kernel
theorem dX5_write_49 : decode cX5_write 49 = .ok (.aload_n 0, 1) := by decide +kernel
theorem dX5_write_50 : decode cX5_write 50 = .ok (.iload_n 1, 1) := by decide +kernel
theorem dX5_write_51 : decode cX5_write 51 = .ok (.iload_n 2, 1) := by decide +kernel
theorem dX5_write_52 : decode cX5_write 52 = .ok (.iload_n 3, 1) := by decide +kernel
theorem dX5_write_53 : decode cX5_write 53 = .ok (.invokevirtual 97, 3) := by decide +kernel
theorem dX5_write_56 : decode cX5_write 56 = .ok (.ireturn, 1) := by decide +kernel
def f_X5_write (σ : Sg)  (p1 p2 p3 : Int32) : Option (Int32 × Sg) := (f_X5_noScholar σ p1).bind fun r1 => if r1 = 0 then ((f_X5_noTool σ p2).bind fun r3 => if r3 = 0 then ((f_X5_isSetting σ p2 p3).bind fun r5 => if r5 = 0 then (some ((-10000002 : Int32), σ)) else (gd (inb (2 : Int32) 624) (if (σ.2 0 (ix (2 : Int32))) = (60 : Int32) then (some ((-10000003 : Int32), σ)) else ((f_X5_record σ).bind fun σ8 => (f_X5_writes σ8 p1 p2 p3).bind fun q11 => lts q11.2 fun σ10 => lt q11.1 fun r9 => some (r9, σ10))))) else (some ((-10000001 : Int32), σ))) else (some ((-10000001 : Int32), σ))
theorem okm_X5_write : okm yX5_write 3 = true := by decide +kernel
set_option maxHeartbeats 4000000 in
set_option maxRecDepth 100000 in
theorem c_X5_write (l : Launch) (G : va_G) (cls : Cls) (ad : Nat → Nat) (hi : inj 6 ad) (σ : Sg)   (p1 p2 p3 : Int32) : MT l (YM G cls ad) yX5_write (.code yX5_write cX5_write 4 (some .int) :: gw) 5 125 [.ref (ad 0), .int p1, .int p2, .int p3] fiS σ (f_X5_write σ  p1 p2 p3) := by
  refine MT.of (own := RX5) (by decide) (YM_D hi) rfl (Nat.le_of_ble_eq_true rfl) fun Γ _ hz0 hz1 hC => ?_
  show WX Γ (YM G cls ad) (qf Γ (YM G cls ad) fiS) 4 0 [(0, .ref (ad 0)), (1, .int p1), (2, .int p2), (3, .int p3)] [] σ (f_X5_write σ  p1 p2 p3)
  unfold f_X5_write
  refine X_aload_n hC 0 rfl dX5_write_0 ?_
  refine X_iload_n hC 1 rfl dX5_write_1 ?_
  refine X_callP (C := RX5) (T := TX5) (N := 16) (ci := 5) (rest := []) hC (c_X5_noScholar _ G cls ad hi σ p1) (gV tw_589 tw_591 ts_11 tw_7 tw_592) rfl (wM (k := 0) (by omega) cM_ob) rfl rfl okm_X5_noScholar (by decide) dX5_write_2 rfl (Nat.le_of_ble_eq_true rfl) (fun r1 => ?_)
  refine X_if_ne hC 16 dX5_write_5 (by decide) (fun h2 => ?_) (fun h2 => ?_)
  · refine X_ldc (v := -10000001) hC tw_555 dX5_write_16 ?_
    exact X_iret hC hz0 hz1 dX5_write_18 rfl
  · refine X_aload_n hC 0 rfl dX5_write_8 ?_
    refine X_iload_n hC 2 rfl dX5_write_9 ?_
    refine X_callP (C := RX5) (T := TX5) (N := 16) (ci := 5) (rest := []) hC (c_X5_noTool _ G cls ad hi σ p2) (gV tw_551 tw_553 ts_7 tw_7 tw_554) rfl (wM (k := 0) (by omega) cM_ob) rfl rfl okm_X5_noTool (by decide) dX5_write_10 rfl (Nat.le_of_ble_eq_true rfl) (fun r3 => ?_)
    refine X_if_eq hC 19 dX5_write_13 (by decide) (fun h4 => ?_) (fun h4 => ?_)
    · refine X_aload_n hC 0 rfl dX5_write_19 ?_
      refine X_iload_n hC 2 rfl dX5_write_20 ?_
      refine X_iload_n hC 3 rfl dX5_write_21 ?_
      refine X_callP (C := RX5) (T := TX5) (N := 16) (ci := 5) (rest := []) hC (c_X5_isSetting _ G cls ad hi σ p2 p3) (gV tw_601 tw_603 ts_12 tw_7 tw_604) rfl (wM (k := 0) (by omega) cM_ob) rfl rfl okm_X5_isSetting (by decide) dX5_write_22 rfl (Nat.le_of_ble_eq_true rfl) (fun r5 => ?_)
      refine X_if_ne hC 31 dX5_write_25 (by decide) (fun h6 => ?_) (fun h6 => ?_)
      · refine X_aload_n hC 0 rfl dX5_write_31 ?_
        refine X_getf (C := RX5) (T := TX5) (N := 16) (ci := 5) hC 0 (wM (k := 0) (by omega) cM_ob) rfl hinX5 (by decide) tw_485 rfl rfl dX5_write_32 ?_
        refine X_iconst (v := 2) hC (by decide) dX5_write_35 ?_
        refine X_iald hC (wM (k := 1) (by omega) cM_now) (t0 := 0) rfl dX5_write_36 ?_
        refine X_bipush (v := 60) hC (by decide) dX5_write_37 ?_
        refine X_icmp_ne hC 45 dX5_write_39 (by decide) (fun h7 => ?_) (fun h7 => ?_)
        · refine X_aload_n hC 0 rfl dX5_write_45 ?_
          refine X_callV (C := RX5) (T := TX5) (N := 16) (ci := 5) (rest := []) hC (c_X5_record _ G cls ad hi σ) (gV tw_543 tw_545 ts_6 tw_7 tw_546) rfl (wM (k := 0) (by omega) cM_ob) rfl rfl okm_X5_record (by decide) dX5_write_46 rfl (Nat.le_of_ble_eq_true rfl) (fun σ8 => ?_)
          refine X_aload_n hC 0 rfl dX5_write_49 ?_
          refine X_iload_n hC 1 rfl dX5_write_50 ?_
          refine X_iload_n hC 2 rfl dX5_write_51 ?_
          refine X_iload_n hC 3 rfl dX5_write_52 ?_
          refine X_callS (C := RX5) (T := TX5) (N := 16) (ci := 5) (rest := []) hC (c_X5_writes _ G cls ad hi σ8 p1 p2 p3) (gV tw_605 tw_607 ts_13 tw_7 tw_608) rfl (wM (k := 0) (by omega) cM_ob) rfl rfl okm_X5_writes (by decide) dX5_write_53 rfl (Nat.le_of_ble_eq_true rfl) (fun q11 => X_lts fun σ10 => X_lt fun r9 => ?_)
          exact X_iret hC hz0 hz1 dX5_write_56 rfl
        · refine X_ldc (v := -10000003) hC tw_542 dX5_write_42 ?_
          exact X_iret hC hz0 hz1 dX5_write_44 rfl
      · refine X_ldc (v := -10000002) hC tw_541 dX5_write_28 ?_
        exact X_iret hC hz0 hz1 dX5_write_30 rfl
    · refine X_ldc (v := -10000001) hC tw_555 dX5_write_16 ?_
      exact X_iret hC hz0 hz1 dX5_write_18 rfl
theorem dX5_inAppeal_0 : decode cX5_inAppeal 0 = .ok (.iconst 0, 1) := by decide +kernel
theorem dX5_inAppeal_1 : decode cX5_inAppeal 1 = .ok (.istore_n 2, 1) := by decide +kernel
theorem dX5_inAppeal_2 : decode cX5_inAppeal 2 = .ok (.iconst 0, 1) := by decide +kernel
theorem dX5_inAppeal_3 : decode cX5_inAppeal 3 = .ok (.istore_n 3, 1) := by decide +kernel
theorem dX5_inAppeal_4 : decode cX5_inAppeal 4 = .ok (.iload_n 3, 1) := by decide +kernel
theorem dX5_inAppeal_5 : decode cX5_inAppeal 5 = .ok (.aload_n 0, 1) := by decide +kernel
theorem dX5_inAppeal_6 : decode cX5_inAppeal 6 = .ok (.getfield 7, 3) := by decide +kernel
theorem dX5_inAppeal_9 : decode cX5_inAppeal 9 = .ok (.iconst 2, 1) := by decide +kernel
theorem dX5_inAppeal_10 : decode cX5_inAppeal 10 = .ok (.iaload, 1) := by decide +kernel
theorem dX5_inAppeal_11 : decode cX5_inAppeal 11 = .ok (.if_icmp .ge 27, 3) := by decide +kernel
theorem dX5_inAppeal_14 : decode cX5_inAppeal 14 = .ok (.iload_n 2, 1) := by decide +kernel
theorem dX5_inAppeal_15 : decode cX5_inAppeal 15 = .ok (.aload_n 0, 1) := by decide +kernel
theorem dX5_inAppeal_16 : decode cX5_inAppeal 16 = .ok (.iload_n 3, 1) := by decide +kernel
theorem dX5_inAppeal_17 : decode cX5_inAppeal 17 = .ok (.iconst 5, 1) := by decide +kernel
theorem dX5_inAppeal_18 : decode cX5_inAppeal 18 = .ok (.invokevirtual 100, 3) := by decide +kernel
theorem dX5_inAppeal_21 : decode cX5_inAppeal 21 = .ok (.iload_n 1, 1) := by decide +kernel
theorem dX5_inAppeal_22 : decode cX5_inAppeal 22 = .ok (.if_icmp .ne 7, 3) := by decide +kernel
theorem dX5_inAppeal_25 : decode cX5_inAppeal 25 = .ok (.iconst 1, 1) := by decide +kernel
theorem dX5_inAppeal_26 : decode cX5_inAppeal 26 = .ok (.goto 4, 3) := by decide +kernel
theorem dX5_inAppeal_29 : decode cX5_inAppeal 29 = .ok (.iconst 0, 1) := by decide +kernel
theorem dX5_inAppeal_30 : decode cX5_inAppeal 30 = .ok (.iadd, 1) := by decide +kernel
theorem dX5_inAppeal_31 : decode cX5_inAppeal 31 = .ok (.istore_n 2, 1) := by decide +kernel
theorem dX5_inAppeal_32 : decode cX5_inAppeal 32 = .ok (.iinc 3 1, 3) := by decide +kernel
theorem dX5_inAppeal_35 : decode cX5_inAppeal 35 = .ok (.goto (-31), 3) := by decide +kernel
theorem dX5_inAppeal_38 : decode cX5_inAppeal 38 = .ok (.iload_n 2, 1) := by decide +kernel
theorem dX5_inAppeal_39 : decode cX5_inAppeal 39 = .ok (.ireturn, 1) := by decide +kernel
def f_X5_inAppeal_b30 (σ : Sg)  (K4 : Int32 → Int32 → Int32 → Option (Int32))  (v1 v3 w0 w1 : Int32) : Option (Int32) := lt (w1 + w0) fun x4 => lt (v3 + (1 : Int32)) fun x5 => K4 v1 x4 x5
def f_X5_inAppeal_b4 (σ : Sg)   : Nat → Int32 → Int32 → Int32 → Option (Int32)
  | 0, _, _, _ => none
  | n + 1, v1, v2, v3 => gd (inb (2 : Int32) 624) (if (σ.2 0 (ix (2 : Int32))) ≤ v3 then (some v2) else ((f_X5_sheet σ v3 (5 : Int32)).bind fun r2 => if r2 = v1 then (f_X5_inAppeal_b30 σ (f_X5_inAppeal_b4 σ   n) v1 v3 (1 : Int32) v2) else (f_X5_inAppeal_b30 σ (f_X5_inAppeal_b4 σ   n) v1 v3 (0 : Int32) v2)))
def f_X5_inAppeal (σ : Sg)  (p1 : Int32) : Option (Int32) := f_X5_inAppeal_b4 σ fuel p1 (0 : Int32) (0 : Int32)
set_option maxHeartbeats 4000000 in
set_option maxRecDepth 100000 in
theorem L_X5_inAppeal_b30 {Γ : Cx} (G : va_G) (cls : Cls) (ad : Nat → Nat) (hi : inj 6 ad) (hC : CX Γ (YM G cls ad) cX5_inAppeal RX5 4 (some .int) 1 22) (hz0 : Γ.2.2.2.2.2.1 = 0) (hz1 : Γ.2.2.2.2.2.2 = 0) (σ : Sg)   (K4 : Int32 → Int32 → Int32 → Option (Int32)) (hK4 : ∀ (v1 v2 v3 : Int32), WX Γ (YM G cls ad) (qf Γ (YM G cls ad) (fiP σ)) 4 4 [(0, .ref (ad 0)), (1, .int v1), (2, .int v2), (3, .int v3)] [] σ (K4 v1 v2 v3))  (v1 v3 w0 w1 : Int32) : WX Γ (YM G cls ad) (qf Γ (YM G cls ad) (fiP σ)) 4 30 [(0, .ref (ad 0)), (1, .int v1), (3, .int v3)] [.int w0, .int w1] σ (f_X5_inAppeal_b30 σ  K4 v1 v3 w0 w1) := by
  unfold f_X5_inAppeal_b30
  refine X_iadd hC dX5_inAppeal_30 ?_
  refine X_lt (fun x4 => ?_)
  refine X_istore_n (ls' := [(2, .int x4), (0, .ref (ad 0)), (1, .int v1), (3, .int v3)]) hC dX5_inAppeal_31 (by decide) rfl ?_
  refine X_iinc (ls' := fun x5 => [(3, .int x5), (2, .int x4), (0, .ref (ad 0)), (1, .int v1)]) hC 3 dX5_inAppeal_32 rfl (by decide) (by decide) (fun _ => rfl) (fun x5 => ?_)
  refine X_goto hC 4 dX5_inAppeal_35 (by decide) ?_
  exact X_sub [2, 3, 1, 0] rfl (hK4 v1 x4 x5)
set_option maxHeartbeats 4000000 in
set_option maxRecDepth 100000 in
theorem L_X5_inAppeal_b4 {Γ : Cx} (G : va_G) (cls : Cls) (ad : Nat → Nat) (hi : inj 6 ad) (hC : CX Γ (YM G cls ad) cX5_inAppeal RX5 4 (some .int) 1 22) (hz0 : Γ.2.2.2.2.2.1 = 0) (hz1 : Γ.2.2.2.2.2.2 = 0) (σ : Sg)    : ∀ (n : Nat) (v1 v2 v3 : Int32), WX Γ (YM G cls ad) (qf Γ (YM G cls ad) (fiP σ)) 4 4 [(0, .ref (ad 0)), (1, .int v1), (2, .int v2), (3, .int v3)] [] σ (f_X5_inAppeal_b4 σ   n v1 v2 v3) := by
  intro n
  induction n with
  | zero => intro v1 v2 v3; exact X_none
  | succ n ih =>
    intro v1 v2 v3
    rw [f_X5_inAppeal_b4.eq_2]
    refine X_iload_n hC 3 rfl dX5_inAppeal_4 ?_
    refine X_aload_n hC 0 rfl dX5_inAppeal_5 ?_
    refine X_getf (C := RX5) (T := TX5) (N := 16) (ci := 5) hC 0 (wM (k := 0) (by omega) cM_ob) rfl hinX5 (by decide) tw_485 rfl rfl dX5_inAppeal_6 ?_
    refine X_iconst (v := 2) hC (by decide) dX5_inAppeal_9 ?_
    refine X_iald hC (wM (k := 1) (by omega) cM_now) (t0 := 0) rfl dX5_inAppeal_10 ?_
    refine X_icmp_ge hC 38 dX5_inAppeal_11 (by decide) (fun h1 => ?_) (fun h1 => ?_)
    · refine X_iload_n hC 2 rfl dX5_inAppeal_38 ?_
      exact X_iret hC hz0 hz1 dX5_inAppeal_39 rfl
    · refine X_iload_n hC 2 rfl dX5_inAppeal_14 ?_
      refine X_aload_n hC 0 rfl dX5_inAppeal_15 ?_
      refine X_iload_n hC 3 rfl dX5_inAppeal_16 ?_
      refine X_iconst (v := 5) hC (by decide) dX5_inAppeal_17 ?_
      refine X_callP (C := RX5) (T := TX5) (N := 16) (ci := 5) (rest := [.int v2]) hC (c_X5_sheet _ G cls ad hi σ v3 (5 : Int32)) (gV tw_629 tw_631 ts_18 tw_7 tw_632) rfl (wM (k := 0) (by omega) cM_ob) rfl rfl okm_X5_sheet (by decide) dX5_inAppeal_18 rfl (Nat.le_of_ble_eq_true rfl) (fun r2 => ?_)
      refine X_iload_n hC 1 rfl dX5_inAppeal_21 ?_
      refine X_icmp_ne hC 29 dX5_inAppeal_22 (by decide) (fun h3 => ?_) (fun h3 => ?_)
      · refine X_iconst (v := 0) hC (by decide) dX5_inAppeal_29 ?_
        exact X_sub [0, 1, 3] rfl (L_X5_inAppeal_b30 G cls ad hi hC hz0 hz1 σ (f_X5_inAppeal_b4 σ   n) ih v1 v3 (0 : Int32) v2)
      · refine X_iconst (v := 1) hC (by decide) dX5_inAppeal_25 ?_
        refine X_goto hC 30 dX5_inAppeal_26 (by decide) ?_
        exact X_sub [0, 1, 3] rfl (L_X5_inAppeal_b30 G cls ad hi hC hz0 hz1 σ (f_X5_inAppeal_b4 σ   n) ih v1 v3 (1 : Int32) v2)
theorem okm_X5_inAppeal : okm yX5_inAppeal 1 = true := by decide +kernel
set_option maxHeartbeats 4000000 in
set_option maxRecDepth 100000 in
theorem c_X5_inAppeal (l : Launch) (G : va_G) (cls : Cls) (ad : Nat → Nat) (hi : inj 6 ad) (σ : Sg)   (p1 : Int32) : MT l (YM G cls ad) yX5_inAppeal (.code yX5_inAppeal cX5_inAppeal 4 (some .int) :: gw) 1 22 [.ref (ad 0), .int p1] (fiP σ) σ (f_X5_inAppeal σ  p1) := by
  refine MT.of (own := RX5) (by decide) (YM_D hi) rfl (Nat.le_of_ble_eq_true rfl) fun Γ _ hz0 hz1 hC => ?_
  show WX Γ (YM G cls ad) (qf Γ (YM G cls ad) (fiP σ)) 4 0 [(0, .ref (ad 0)), (1, .int p1)] [] σ (f_X5_inAppeal σ  p1)
  unfold f_X5_inAppeal
  refine X_iconst (v := 0) hC (by decide) dX5_inAppeal_0 ?_
  refine X_istore_n (ls' := [(2, .int (0 : Int32)), (0, .ref (ad 0)), (1, .int p1)]) hC dX5_inAppeal_1 (by decide) rfl ?_
  refine X_iconst (v := 0) hC (by decide) dX5_inAppeal_2 ?_
  refine X_istore_n (ls' := [(3, .int (0 : Int32)), (2, .int (0 : Int32)), (0, .ref (ad 0)), (1, .int p1)]) hC dX5_inAppeal_3 (by decide) rfl ?_
  exact X_sub [2, 3, 1, 0] rfl (L_X5_inAppeal_b4 G cls ad hi hC hz0 hz1 σ fuel p1 (0 : Int32) (0 : Int32))
theorem dX5_hope_0 : decode cX5_hope 0 = .ok (.aload_n 0, 1) := by decide +kernel
theorem dX5_hope_1 : decode cX5_hope 1 = .ok (.iload_n 1, 1) := by decide +kernel
theorem dX5_hope_2 : decode cX5_hope 2 = .ok (.iconst 0, 1) := by decide +kernel
theorem dX5_hope_3 : decode cX5_hope 3 = .ok (.invokevirtual 100, 3) := by decide +kernel
theorem dX5_hope_6 : decode cX5_hope 6 = .ok (.istore_n 3, 1) := by decide +kernel
theorem dX5_hope_7 : decode cX5_hope 7 = .ok (.aload_n 0, 1) := by decide +kernel
theorem dX5_hope_8 : decode cX5_hope 8 = .ok (.iload_n 1, 1) := by decide +kernel
theorem dX5_hope_9 : decode cX5_hope 9 = .ok (.iconst 1, 1) := by decide +kernel
theorem dX5_hope_10 : decode cX5_hope 10 = .ok (.invokevirtual 100, 3) := by decide +kernel
theorem dX5_hope_13 : decode cX5_hope 13 = .ok (.istore 4, 2) := by decide +kernel
theorem dX5_hope_15 : decode cX5_hope 15 = .ok (.aload_n 0, 1) := by decide +kernel
theorem dX5_hope_16 : decode cX5_hope 16 = .ok (.iload 4, 2) := by decide +kernel
theorem dX5_hope_18 : decode cX5_hope 18 = .ok (.bipush 6, 2) := by decide +kernel
theorem dX5_hope_20 : decode cX5_hope 20 = .ok (.invokevirtual 34, 3) := by decide +kernel
theorem dX5_hope_23 : decode cX5_hope 23 = .ok (.istore 5, 2) := by decide +kernel
theorem dX5_hope_25 : decode cX5_hope 25 = .ok (.aload_n 0, 1) := by decide +kernel
theorem dX5_hope_26 : decode cX5_hope 26 = .ok (.iload_n 3, 1) := by decide +kernel
theorem dX5_hope_27 : decode cX5_hope 27 = .ok (.iconst 2, 1) := by decide +kernel
theorem dX5_hope_28 : decode cX5_hope 28 = .ok (.invokevirtual 54, 3) := by decide +kernel
theorem dX5_hope_31 : decode cX5_hope 31 = .ok (.iload_n 2, 1) := by decide +kernel
theorem dX5_hope_32 : decode cX5_hope 32 = .ok (.iconst 1, 1) := by decide +kernel
theorem dX5_hope_33 : decode cX5_hope 33 = .ok (.if_icmp .ne 17, 3) := by decide +kernel
theorem dX5_hope_36 : decode cX5_hope 36 = .ok (.iload 5, 2) := by decide +kernel
theorem dX5_hope_38 : decode cX5_hope 38 = .ok (.ifCond .le 12, 3) := by decide +kernel
theorem dX5_hope_41 : decode cX5_hope 41 = .ok (.iconst 1, 1) := by decide +kernel
theorem dX5_hope_42 : decode cX5_hope 42 = .ok (.iload 5, 2) := by decide +kernel
theorem dX5_hope_44 : decode cX5_hope 44 = .ok (.iconst 1, 1) := by decide +kernel
theorem dX5_hope_45 : decode cX5_hope 45 = .ok (.isub, 1) := by decide +kernel
theorem dX5_hope_46 : decode cX5_hope 46 = .ok (.ishl, 1) := by decide +kernel
theorem dX5_hope_47 : decode cX5_hope 47 = .ok (.goto 4, 3) := by decide +kernel
theorem dX5_hope_50 : decode cX5_hope 50 = .ok (.iconst 0, 1) := by decide +kernel
theorem dX5_hope_51 : decode cX5_hope 51 = .ok (.ior, 1) := by decide +kernel
theorem dX5_hope_52 : decode cX5_hope 52 = .ok (.istore 6, 2) := by decide +kernel
theorem dX5_hope_54 : decode cX5_hope 54 = .ok (.iload_n 2, 1) := by decide +kernel
theorem dX5_hope_55 : decode cX5_hope 55 = .ok (.iconst 3, 1) := by decide +kernel
theorem dX5_hope_56 : decode cX5_hope 56 = .ok (.if_icmp .ne 15, 3) := by decide +kernel
theorem dX5_hope_59 : decode cX5_hope 59 = .ok (.aload_n 0, 1) := by decide +kernel
theorem dX5_hope_60 : decode cX5_hope 60 = .ok (.iload_n 3, 1) := by decide +kernel
theorem dX5_hope_61 : decode cX5_hope 61 = .ok (.iconst 1, 1) := by decide +kernel
theorem dX5_hope_62 : decode cX5_hope 62 = .ok (.invokevirtual 54, 3) := by decide +kernel
theorem dX5_hope_65 : decode cX5_hope 65 = .ok (.bipush 12, 2) := by decide +kernel
theorem dX5_hope_67 : decode cX5_hope 67 = .ok (.iand, 1) := by decide +kernel
theorem dX5_hope_68 : decode cX5_hope 68 = .ok (.goto 9, 3) := by decide +kernel
theorem dX5_hope_71 : decode cX5_hope 71 = .ok (.aload_n 0, 1) := by decide +kernel
theorem dX5_hope_72 : decode cX5_hope 72 = .ok (.iload_n 3, 1) := by decide +kernel
theorem dX5_hope_73 : decode cX5_hope 73 = .ok (.iconst 1, 1) := by decide +kernel
theorem dX5_hope_74 : decode cX5_hope 74 = .ok (.invokevirtual 54, 3) := by decide +kernel
theorem dX5_hope_77 : decode cX5_hope 77 = .ok (.istore 7, 2) := by decide +kernel
theorem dX5_hope_79 : decode cX5_hope 79 = .ok (.iload_n 2, 1) := by decide +kernel
theorem dX5_hope_80 : decode cX5_hope 80 = .ok (.iconst 2, 1) := by decide +kernel
theorem dX5_hope_81 : decode cX5_hope 81 = .ok (.if_icmp .ne 7, 3) := by decide +kernel
theorem dX5_hope_84 : decode cX5_hope 84 = .ok (.iconst 0, 1) := by decide +kernel
theorem dX5_hope_85 : decode cX5_hope 85 = .ok (.goto 9, 3) := by decide +kernel
theorem dX5_hope_88 : decode cX5_hope 88 = .ok (.aload_n 0, 1) := by decide +kernel
theorem dX5_hope_89 : decode cX5_hope 89 = .ok (.iload_n 3, 1) := by decide +kernel
theorem dX5_hope_90 : decode cX5_hope 90 = .ok (.iconst 0, 1) := by decide +kernel
theorem dX5_hope_91 : decode cX5_hope 91 = .ok (.invokevirtual 54, 3) := by decide +kernel
theorem dX5_hope_94 : decode cX5_hope 94 = .ok (.istore 8, 2) := by decide +kernel
theorem dX5_hope_96 : decode cX5_hope 96 = .ok (.aload_n 0, 1) := by decide +kernel
theorem dX5_hope_97 : decode cX5_hope 97 = .ok (.iload 4, 2) := by decide +kernel
theorem dX5_hope_99 : decode cX5_hope 99 = .ok (.aload_n 0, 1) := by decide +kernel
theorem dX5_hope_100 : decode cX5_hope 100 = .ok (.iload_n 1, 1) := by decide +kernel
theorem dX5_hope_101 : decode cX5_hope 101 = .ok (.iconst 2, 1) := by decide +kernel
theorem dX5_hope_102 : decode cX5_hope 102 = .ok (.invokevirtual 100, 3) := by decide +kernel
theorem dX5_hope_105 : decode cX5_hope 105 = .ok (.aload_n 0, 1) := by decide +kernel
theorem dX5_hope_106 : decode cX5_hope 106 = .ok (.iload 4, 2) := by decide +kernel
theorem dX5_hope_108 : decode cX5_hope 108 = .ok (.aload_n 0, 1) := by decide +kernel
theorem dX5_hope_109 : decode cX5_hope 109 = .ok (.iload_n 1, 1) := by decide +kernel
theorem dX5_hope_110 : decode cX5_hope 110 = .ok (.iconst 2, 1) := by decide +kernel
theorem dX5_hope_111 : decode cX5_hope 111 = .ok (.invokevirtual 100, 3) := by decide +kernel
theorem dX5_hope_114 : decode cX5_hope 114 = .ok (.iload 8, 2) := by decide +kernel
theorem dX5_hope_116 : decode cX5_hope 116 = .ok (.iload 7, 2) := by decide +kernel
theorem dX5_hope_118 : decode cX5_hope 118 = .ok (.iload 6, 2) := by decide +kernel
theorem dX5_hope_120 : decode cX5_hope 120 = .ok (.invokevirtual 86, 3) := by decide +kernel
theorem dX5_hope_123 : decode cX5_hope 123 = .ok (.invokevirtual 90, 3) := by decide +kernel
theorem dX5_hope_126 : decode cX5_hope 126 = .ok (.aload_n 0, 1) := by decide +kernel
theorem dX5_hope_127 : decode cX5_hope 127 = .ok (.iload_n 1, 1) := by decide +kernel
theorem dX5_hope_128 : decode cX5_hope 128 = .ok (.iconst 4, 1) := by decide +kernel
theorem dX5_hope_129 : decode cX5_hope 129 = .ok (.invokevirtual 100, 3) := by decide +kernel
theorem dX5_hope_132 : decode cX5_hope 132 = .ok (.isub, 1) := by decide +kernel
theorem dX5_hope_133 : decode cX5_hope 133 = .ok (.ireturn, 1) := by decide +kernel
def f_X5_hope_b94    (σ : Sg) (v1 v4 v6 v7 w0 : Int32) : Option (Int32 × Sg) := (f_X5_sheet σ v1 (2 : Int32)).bind fun r11 => (f_X5_sheet σ v1 (2 : Int32)).bind fun r12 => (f_X5_answerBy σ v4 r12 w0 v7 v6).bind fun q17 => lts q17.2 fun σ14 => lt q17.1 fun r13 => (f_X5_markOf σ14 v4 r11 r13).bind fun r15 => (f_X5_sheet σ14 v1 (4 : Int32)).bind fun r16 => some ((r15 - r16), σ14)
def f_X5_hope_b77    (σ : Sg) (v1 v2 v3 v4 v6 w0 : Int32) : Option (Int32 × Sg) := if v2 = (2 : Int32) then (f_X5_hope_b94 σ v1 v4 v6 w0 (0 : Int32)) else ((f_X5_scholar σ v3 (0 : Int32)).bind fun r10 => f_X5_hope_b94 σ v1 v4 v6 w0 r10)
def f_X5_hope_b51    (σ : Sg) (v1 v2 v3 v4 w0 w1 : Int32) : Option (Int32 × Sg) := lt (w1 ||| w0) fun x6 => if v2 = (3 : Int32) then ((f_X5_scholar σ v3 (1 : Int32)).bind fun r18 => f_X5_hope_b77 σ v1 v2 v3 v4 x6 (r18 &&& (12 : Int32))) else ((f_X5_scholar σ v3 (1 : Int32)).bind fun r8 => f_X5_hope_b77 σ v1 v2 v3 v4 x6 r8)
def f_X5_hope_b50    (σ : Sg) (v1 v2 v3 v4 w0 : Int32) : Option (Int32 × Sg) := f_X5_hope_b51 σ v1 v2 v3 v4 (0 : Int32) w0
def f_X5_hope (σ : Sg)  (p1 p2 : Int32) : Option (Int32 × Sg) := (f_X5_sheet σ p1 (0 : Int32)).bind fun r1 => (f_X5_sheet σ p1 (1 : Int32)).bind fun r2 => (f_X5_tool σ r2 (6 : Int32)).bind fun r3 => (f_X5_scholar σ r1 (2 : Int32)).bind fun r4 => if p2 = (1 : Int32) then (if r3 ≤ 0 then (f_X5_hope_b50 σ p1 p2 r1 r2 r4) else (f_X5_hope_b51 σ p1 p2 r1 r2 ((1 : Int32) <<< ((r3 - (1 : Int32)) &&& 31)) r4)) else (f_X5_hope_b50 σ p1 p2 r1 r2 r4)
set_option maxHeartbeats 4000000 in
set_option maxRecDepth 100000 in
theorem L_X5_hope_b94 {Γ : Cx} (G : va_G) (cls : Cls) (ad : Nat → Nat) (hi : inj 6 ad) (hC : CX Γ (YM G cls ad) cX5_hope RX5 9 (some .int) 4 101) (hz0 : Γ.2.2.2.2.2.1 = 0) (hz1 : Γ.2.2.2.2.2.2 = 0)     (σ : Sg) (v1 v4 v6 v7 w0 : Int32) : WX Γ (YM G cls ad) (qf Γ (YM G cls ad) fiS) 9 94 [(0, .ref (ad 0)), (1, .int v1), (4, .int v4), (6, .int v6), (7, .int v7)] [.int w0] σ (f_X5_hope_b94   σ v1 v4 v6 v7 w0) := by
  unfold f_X5_hope_b94
  refine X_istore (ls' := [(8, .int w0), (0, .ref (ad 0)), (1, .int v1), (4, .int v4), (6, .int v6), (7, .int v7)]) hC dX5_hope_94 (by decide) rfl ?_
  refine X_aload_n hC 1 rfl dX5_hope_96 ?_
  refine X_iload hC 3 rfl dX5_hope_97 ?_
  refine X_aload_n hC 1 rfl dX5_hope_99 ?_
  refine X_iload_n hC 2 rfl dX5_hope_100 ?_
  refine X_iconst (v := 2) hC (by decide) dX5_hope_101 ?_
  refine X_callP (C := RX5) (T := TX5) (N := 16) (ci := 5) (rest := [.int v4, .ref (ad 0)]) hC (c_X5_sheet _ G cls ad hi σ v1 (2 : Int32)) (gV tw_629 tw_631 ts_18 tw_7 tw_632) rfl (wM (k := 0) (by omega) cM_ob) rfl rfl okm_X5_sheet (by decide) dX5_hope_102 rfl (Nat.le_of_ble_eq_true rfl) (fun r11 => ?_)
  refine X_aload_n hC 1 rfl dX5_hope_105 ?_
  refine X_iload hC 3 rfl dX5_hope_106 ?_
  refine X_aload_n hC 1 rfl dX5_hope_108 ?_
  refine X_iload_n hC 2 rfl dX5_hope_109 ?_
  refine X_iconst (v := 2) hC (by decide) dX5_hope_110 ?_
  refine X_callP (C := RX5) (T := TX5) (N := 16) (ci := 5) (rest := [.int v4, .ref (ad 0), .int r11, .int v4, .ref (ad 0)]) hC (c_X5_sheet _ G cls ad hi σ v1 (2 : Int32)) (gV tw_629 tw_631 ts_18 tw_7 tw_632) rfl (wM (k := 0) (by omega) cM_ob) rfl rfl okm_X5_sheet (by decide) dX5_hope_111 rfl (Nat.le_of_ble_eq_true rfl) (fun r12 => ?_)
  refine X_iload hC 0 rfl dX5_hope_114 ?_
  refine X_iload hC 5 rfl dX5_hope_116 ?_
  refine X_iload hC 4 rfl dX5_hope_118 ?_
  refine X_callS (C := RX5) (T := TX5) (N := 16) (ci := 5) (rest := [.int r11, .int v4, .ref (ad 0)]) hC (c_X5_answerBy _ G cls ad hi σ v4 r12 w0 v7 v6) (gV tw_609 tw_611 ts_14 tw_7 tw_612) rfl (wM (k := 0) (by omega) cM_ob) rfl rfl okm_X5_answerBy (by decide) dX5_hope_120 rfl (Nat.le_of_ble_eq_true rfl) (fun q17 => X_lts fun σ14 => X_lt fun r13 => ?_)
  refine X_callP (C := RX5) (T := TX5) (N := 16) (ci := 5) (rest := []) hC (c_X5_markOf _ G cls ad hi σ14 v4 r11 r13) (gV tw_617 tw_619 ts_16 tw_7 tw_620) rfl (wM (k := 0) (by omega) cM_ob) rfl rfl okm_X5_markOf (by decide) dX5_hope_123 rfl (Nat.le_of_ble_eq_true rfl) (fun r15 => ?_)
  refine X_aload_n hC 1 rfl dX5_hope_126 ?_
  refine X_iload_n hC 2 rfl dX5_hope_127 ?_
  refine X_iconst (v := 4) hC (by decide) dX5_hope_128 ?_
  refine X_callP (C := RX5) (T := TX5) (N := 16) (ci := 5) (rest := [.int r15]) hC (c_X5_sheet _ G cls ad hi σ14 v1 (4 : Int32)) (gV tw_629 tw_631 ts_18 tw_7 tw_632) rfl (wM (k := 0) (by omega) cM_ob) rfl rfl okm_X5_sheet (by decide) dX5_hope_129 rfl (Nat.le_of_ble_eq_true rfl) (fun r16 => ?_)
  refine X_isub hC dX5_hope_132 ?_
  exact X_iret hC hz0 hz1 dX5_hope_133 rfl
set_option maxHeartbeats 4000000 in
set_option maxRecDepth 100000 in
theorem L_X5_hope_b77 {Γ : Cx} (G : va_G) (cls : Cls) (ad : Nat → Nat) (hi : inj 6 ad) (hC : CX Γ (YM G cls ad) cX5_hope RX5 9 (some .int) 4 101) (hz0 : Γ.2.2.2.2.2.1 = 0) (hz1 : Γ.2.2.2.2.2.2 = 0)     (σ : Sg) (v1 v2 v3 v4 v6 w0 : Int32) : WX Γ (YM G cls ad) (qf Γ (YM G cls ad) fiS) 9 77 [(0, .ref (ad 0)), (1, .int v1), (2, .int v2), (3, .int v3), (4, .int v4), (6, .int v6)] [.int w0] σ (f_X5_hope_b77   σ v1 v2 v3 v4 v6 w0) := by
  unfold f_X5_hope_b77
  refine X_istore (ls' := [(7, .int w0), (0, .ref (ad 0)), (1, .int v1), (2, .int v2), (3, .int v3), (4, .int v4), (6, .int v6)]) hC dX5_hope_77 (by decide) rfl ?_
  refine X_iload_n hC 3 rfl dX5_hope_79 ?_
  refine X_iconst (v := 2) hC (by decide) dX5_hope_80 ?_
  refine X_icmp_ne hC 88 dX5_hope_81 (by decide) (fun h9 => ?_) (fun h9 => ?_)
  · refine X_aload_n hC 1 rfl dX5_hope_88 ?_
    refine X_iload_n hC 4 rfl dX5_hope_89 ?_
    refine X_iconst (v := 0) hC (by decide) dX5_hope_90 ?_
    refine X_callP (C := RX5) (T := TX5) (N := 16) (ci := 5) (rest := []) hC (c_X5_scholar _ G cls ad hi σ v3 (0 : Int32)) (gV tw_574 tw_576 ts_10 tw_7 tw_577) rfl (wM (k := 0) (by omega) cM_ob) rfl rfl okm_X5_scholar (by decide) dX5_hope_91 rfl (Nat.le_of_ble_eq_true rfl) (fun r10 => ?_)
    exact X_sub [1, 2, 5, 6, 0] rfl (L_X5_hope_b94 G cls ad hi hC hz0 hz1 σ v1 v4 v6 w0 r10)
  · refine X_iconst (v := 0) hC (by decide) dX5_hope_84 ?_
    refine X_goto hC 94 dX5_hope_85 (by decide) ?_
    exact X_sub [1, 2, 5, 6, 0] rfl (L_X5_hope_b94 G cls ad hi hC hz0 hz1 σ v1 v4 v6 w0 (0 : Int32))
set_option maxHeartbeats 4000000 in
set_option maxRecDepth 100000 in
theorem L_X5_hope_b51 {Γ : Cx} (G : va_G) (cls : Cls) (ad : Nat → Nat) (hi : inj 6 ad) (hC : CX Γ (YM G cls ad) cX5_hope RX5 9 (some .int) 4 101) (hz0 : Γ.2.2.2.2.2.1 = 0) (hz1 : Γ.2.2.2.2.2.2 = 0)     (σ : Sg) (v1 v2 v3 v4 w0 w1 : Int32) : WX Γ (YM G cls ad) (qf Γ (YM G cls ad) fiS) 9 51 [(0, .ref (ad 0)), (1, .int v1), (2, .int v2), (3, .int v3), (4, .int v4)] [.int w0, .int w1] σ (f_X5_hope_b51   σ v1 v2 v3 v4 w0 w1) := by
  unfold f_X5_hope_b51
  refine X_ior hC dX5_hope_51 ?_
  refine X_lt (fun x6 => ?_)
  refine X_istore (ls' := [(6, .int x6), (0, .ref (ad 0)), (1, .int v1), (2, .int v2), (3, .int v3), (4, .int v4)]) hC dX5_hope_52 (by decide) rfl ?_
  refine X_iload_n hC 3 rfl dX5_hope_54 ?_
  refine X_iconst (v := 3) hC (by decide) dX5_hope_55 ?_
  refine X_icmp_ne hC 71 dX5_hope_56 (by decide) (fun h7 => ?_) (fun h7 => ?_)
  · refine X_aload_n hC 1 rfl dX5_hope_71 ?_
    refine X_iload_n hC 4 rfl dX5_hope_72 ?_
    refine X_iconst (v := 1) hC (by decide) dX5_hope_73 ?_
    refine X_callP (C := RX5) (T := TX5) (N := 16) (ci := 5) (rest := []) hC (c_X5_scholar _ G cls ad hi σ v3 (1 : Int32)) (gV tw_574 tw_576 ts_10 tw_7 tw_577) rfl (wM (k := 0) (by omega) cM_ob) rfl rfl okm_X5_scholar (by decide) dX5_hope_74 rfl (Nat.le_of_ble_eq_true rfl) (fun r8 => ?_)
    exact X_sub [1, 2, 3, 4, 5, 0] rfl (L_X5_hope_b77 G cls ad hi hC hz0 hz1 σ v1 v2 v3 v4 x6 r8)
  · refine X_aload_n hC 1 rfl dX5_hope_59 ?_
    refine X_iload_n hC 4 rfl dX5_hope_60 ?_
    refine X_iconst (v := 1) hC (by decide) dX5_hope_61 ?_
    refine X_callP (C := RX5) (T := TX5) (N := 16) (ci := 5) (rest := []) hC (c_X5_scholar _ G cls ad hi σ v3 (1 : Int32)) (gV tw_574 tw_576 ts_10 tw_7 tw_577) rfl (wM (k := 0) (by omega) cM_ob) rfl rfl okm_X5_scholar (by decide) dX5_hope_62 rfl (Nat.le_of_ble_eq_true rfl) (fun r18 => ?_)
    refine X_bipush (v := 12) hC (by decide) dX5_hope_65 ?_
    refine X_iand hC dX5_hope_67 ?_
    refine X_goto hC 77 dX5_hope_68 (by decide) ?_
    exact X_sub [1, 2, 3, 4, 5, 0] rfl (L_X5_hope_b77 G cls ad hi hC hz0 hz1 σ v1 v2 v3 v4 x6 (r18 &&& (12 : Int32)))
set_option maxHeartbeats 4000000 in
set_option maxRecDepth 100000 in
theorem L_X5_hope_b50 {Γ : Cx} (G : va_G) (cls : Cls) (ad : Nat → Nat) (hi : inj 6 ad) (hC : CX Γ (YM G cls ad) cX5_hope RX5 9 (some .int) 4 101) (hz0 : Γ.2.2.2.2.2.1 = 0) (hz1 : Γ.2.2.2.2.2.2 = 0)     (σ : Sg) (v1 v2 v3 v4 w0 : Int32) : WX Γ (YM G cls ad) (qf Γ (YM G cls ad) fiS) 9 50 [(0, .ref (ad 0)), (1, .int v1), (2, .int v2), (3, .int v3), (4, .int v4)] [.int w0] σ (f_X5_hope_b50   σ v1 v2 v3 v4 w0) := by
  unfold f_X5_hope_b50
  refine X_iconst (v := 0) hC (by decide) dX5_hope_50 ?_
  exact (L_X5_hope_b51 G cls ad hi hC hz0 hz1 σ v1 v2 v3 v4 (0 : Int32) w0)
theorem okm_X5_hope : okm yX5_hope 2 = true := by decide +kernel
set_option maxHeartbeats 4000000 in
set_option maxRecDepth 100000 in
theorem c_X5_hope (l : Launch) (G : va_G) (cls : Cls) (ad : Nat → Nat) (hi : inj 6 ad) (σ : Sg)   (p1 p2 : Int32) : MT l (YM G cls ad) yX5_hope (.code yX5_hope cX5_hope 9 (some .int) :: gw) 4 101 [.ref (ad 0), .int p1, .int p2] fiS σ (f_X5_hope σ  p1 p2) := by
  refine MT.of (own := RX5) (by decide) (YM_D hi) rfl (Nat.le_of_ble_eq_true rfl) fun Γ _ hz0 hz1 hC => ?_
  show WX Γ (YM G cls ad) (qf Γ (YM G cls ad) fiS) 9 0 [(0, .ref (ad 0)), (1, .int p1), (2, .int p2)] [] σ (f_X5_hope σ  p1 p2)
  unfold f_X5_hope
  refine X_aload_n hC 0 rfl dX5_hope_0 ?_
  refine X_iload_n hC 1 rfl dX5_hope_1 ?_
  refine X_iconst (v := 0) hC (by decide) dX5_hope_2 ?_
  refine X_callP (C := RX5) (T := TX5) (N := 16) (ci := 5) (rest := []) hC (c_X5_sheet _ G cls ad hi σ p1 (0 : Int32)) (gV tw_629 tw_631 ts_18 tw_7 tw_632) rfl (wM (k := 0) (by omega) cM_ob) rfl rfl okm_X5_sheet (by decide) dX5_hope_3 rfl (Nat.le_of_ble_eq_true rfl) (fun r1 => ?_)
  refine X_istore_n (ls' := [(3, .int r1), (0, .ref (ad 0)), (1, .int p1), (2, .int p2)]) hC dX5_hope_6 (by decide) rfl ?_
  refine X_aload_n hC 1 rfl dX5_hope_7 ?_
  refine X_iload_n hC 2 rfl dX5_hope_8 ?_
  refine X_iconst (v := 1) hC (by decide) dX5_hope_9 ?_
  refine X_callP (C := RX5) (T := TX5) (N := 16) (ci := 5) (rest := []) hC (c_X5_sheet _ G cls ad hi σ p1 (1 : Int32)) (gV tw_629 tw_631 ts_18 tw_7 tw_632) rfl (wM (k := 0) (by omega) cM_ob) rfl rfl okm_X5_sheet (by decide) dX5_hope_10 rfl (Nat.le_of_ble_eq_true rfl) (fun r2 => ?_)
  refine X_istore (ls' := [(4, .int r2), (3, .int r1), (0, .ref (ad 0)), (1, .int p1), (2, .int p2)]) hC dX5_hope_13 (by decide) rfl ?_
  refine X_aload_n hC 2 rfl dX5_hope_15 ?_
  refine X_iload hC 0 rfl dX5_hope_16 ?_
  refine X_bipush (v := 6) hC (by decide) dX5_hope_18 ?_
  refine X_callP (C := RX5) (T := TX5) (N := 16) (ci := 5) (rest := []) hC (c_X5_tool _ G cls ad hi σ r2 (6 : Int32)) (gV tw_560 tw_562 ts_9 tw_7 tw_563) rfl (wM (k := 0) (by omega) cM_ob) rfl rfl okm_X5_tool (by decide) dX5_hope_20 rfl (Nat.le_of_ble_eq_true rfl) (fun r3 => ?_)
  refine X_istore (ls' := [(5, .int r3), (4, .int r2), (3, .int r1), (0, .ref (ad 0)), (1, .int p1), (2, .int p2)]) hC dX5_hope_23 (by decide) rfl ?_
  refine X_aload_n hC 3 rfl dX5_hope_25 ?_
  refine X_iload_n hC 2 rfl dX5_hope_26 ?_
  refine X_iconst (v := 2) hC (by decide) dX5_hope_27 ?_
  refine X_callP (C := RX5) (T := TX5) (N := 16) (ci := 5) (rest := []) hC (c_X5_scholar _ G cls ad hi σ r1 (2 : Int32)) (gV tw_574 tw_576 ts_10 tw_7 tw_577) rfl (wM (k := 0) (by omega) cM_ob) rfl rfl okm_X5_scholar (by decide) dX5_hope_28 rfl (Nat.le_of_ble_eq_true rfl) (fun r4 => ?_)
  refine X_iload_n hC 5 rfl dX5_hope_31 ?_
  refine X_iconst (v := 1) hC (by decide) dX5_hope_32 ?_
  refine X_icmp_ne hC 50 dX5_hope_33 (by decide) (fun h5 => ?_) (fun h5 => ?_)
  · exact X_sub [3, 4, 5, 2, 1] rfl (L_X5_hope_b50 G cls ad hi hC hz0 hz1 σ p1 p2 r1 r2 r4)
  · refine X_iload hC 0 rfl dX5_hope_36 ?_
    refine X_if_le hC 50 dX5_hope_38 (by decide) (fun h19 => ?_) (fun h19 => ?_)
    · exact X_sub [3, 4, 5, 2, 1] rfl (L_X5_hope_b50 G cls ad hi hC hz0 hz1 σ p1 p2 r1 r2 r4)
    · refine X_iconst (v := 1) hC (by decide) dX5_hope_41 ?_
      refine X_iload hC 0 rfl dX5_hope_42 ?_
      refine X_iconst (v := 1) hC (by decide) dX5_hope_44 ?_
      refine X_isub hC dX5_hope_45 ?_
      refine X_ishl hC dX5_hope_46 ?_
      refine X_goto hC 51 dX5_hope_47 (by decide) ?_
      exact X_sub [3, 4, 5, 2, 1] rfl (L_X5_hope_b51 G cls ad hi hC hz0 hz1 σ p1 p2 r1 r2 ((1 : Int32) <<< ((r3 - (1 : Int32)) &&& 31)) r4)
theorem dX5_appeal_0 : decode cX5_appeal 0 = .ok (.aload_n 0, 1) := by decide +kernel
theorem dX5_appeal_1 : decode cX5_appeal 1 = .ok (.iload_n 1, 1) := by decide +kernel
theorem dX5_appeal_2 : decode cX5_appeal 2 = .ok (.invokevirtual 103, 3) := by decide +kernel
theorem dX5_appeal_5 : decode cX5_appeal 5 = .ok (.ifCond .eq 6, 3) := by decide +kernel
theorem dX5_appeal_8 : decode cX5_appeal 8 = .ok (.ldc 47, 2) := by decide +kernel
theorem dX5_appeal_10 : decode cX5_appeal 10 = .ok (.ireturn, 1) := by decide +kernel
theorem dX5_appeal_11 : decode cX5_appeal 11 = .ok (.iload_n 2, 1) := by decide +kernel
theorem dX5_appeal_12 : decode cX5_appeal 12 = .ok (.iconst 1, 1) := by decide +kernel
theorem dX5_appeal_13 : decode cX5_appeal 13 = .ok (.iconst 3, 1) := by decide +kernel
theorem dX5_appeal_14 : decode cX5_appeal 14 = .ok (.invokestatic 30, 3) := by decide +kernel
theorem dX5_appeal_17 : decode cX5_appeal 17 = .ok (.ifCond .ne 6, 3) := by decide +kernel
theorem dX5_appeal_20 : decode cX5_appeal 20 = .ok (.ldc 38, 2) := by decide +kernel
theorem dX5_appeal_22 : decode cX5_appeal 22 = .ok (.ireturn, 1) := by decide +kernel
theorem dX5_appeal_23 : decode cX5_appeal 23 = .ok (.aload_n 0, 1) := by decide +kernel
theorem dX5_appeal_24 : decode cX5_appeal 24 = .ok (.iload_n 1, 1) := by decide +kernel
theorem dX5_appeal_25 : decode cX5_appeal 25 = .ok (.iconst 5, 1) := by decide +kernel
theorem dX5_appeal_26 : decode cX5_appeal 26 = .ok (.invokevirtual 100, 3) := by decide +kernel
theorem dX5_appeal_29 : decode cX5_appeal 29 = .ok (.ifCond .le 6, 3) := by decide +kernel
theorem dX5_appeal_32 : decode cX5_appeal 32 = .ok (.ldc 53, 2) := by decide +kernel
theorem dX5_appeal_34 : decode cX5_appeal 34 = .ok (.ireturn, 1) := by decide +kernel
theorem dX5_appeal_35 : decode cX5_appeal 35 = .ok (.aload_n 0, 1) := by decide +kernel
theorem dX5_appeal_36 : decode cX5_appeal 36 = .ok (.iconst 1, 1) := by decide +kernel
theorem dX5_appeal_37 : decode cX5_appeal 37 = .ok (.invokevirtual 106, 3) := by decide +kernel
theorem dX5_appeal_40 : decode cX5_appeal 40 = .ok (.bipush 20, 2) := by decide +kernel
theorem dX5_appeal_42 : decode cX5_appeal 42 = .ok (.if_icmp .ne 6, 3) := by decide +kernel
theorem dX5_appeal_45 : decode cX5_appeal 45 = .ok (.ldc 39, 2) := by decide +kernel
theorem dX5_appeal_47 : decode cX5_appeal 47 = .ok (.ireturn, 1) := by decide +kernel
theorem dX5_appeal_48 : decode cX5_appeal 48 = .ok (.aload_n 0, 1) := by decide +kernel
theorem dX5_appeal_49 : decode cX5_appeal 49 = .ok (.invokevirtual 40, 3) := by decide +kernel
theorem dX5_appeal_52 : decode cX5_appeal 52 = .ok (.sipush 144, 3) := by decide +kernel
theorem dX5_appeal_55 : decode cX5_appeal 55 = .ok (.bipush 8, 2) := by decide +kernel
theorem dX5_appeal_57 : decode cX5_appeal 57 = .ok (.iload_n 1, 1) := by decide +kernel
theorem dX5_appeal_58 : decode cX5_appeal 58 = .ok (.imul, 1) := by decide +kernel
theorem dX5_appeal_59 : decode cX5_appeal 59 = .ok (.iadd, 1) := by decide +kernel
theorem dX5_appeal_60 : decode cX5_appeal 60 = .ok (.istore_n 3, 1) := by decide +kernel
theorem dX5_appeal_61 : decode cX5_appeal 61 = .ok (.aload_n 0, 1) := by decide +kernel
theorem dX5_appeal_62 : decode cX5_appeal 62 = .ok (.getfield 7, 3) := by decide +kernel
theorem dX5_appeal_65 : decode cX5_appeal 65 = .ok (.iload_n 3, 1) := by decide +kernel
theorem dX5_appeal_66 : decode cX5_appeal 66 = .ok (.bipush 7, 2) := by decide +kernel
theorem dX5_appeal_68 : decode cX5_appeal 68 = .ok (.iadd, 1) := by decide +kernel
theorem dX5_appeal_69 : decode cX5_appeal 69 = .ok (.aload_n 0, 1) := by decide +kernel
theorem dX5_appeal_70 : decode cX5_appeal 70 = .ok (.iload_n 1, 1) := by decide +kernel
theorem dX5_appeal_71 : decode cX5_appeal 71 = .ok (.iload_n 2, 1) := by decide +kernel
theorem dX5_appeal_72 : decode cX5_appeal 72 = .ok (.invokevirtual 109, 3) := by decide +kernel
theorem dX5_appeal_75 : decode cX5_appeal 75 = .ok (.iastore, 1) := by decide +kernel
theorem dX5_appeal_76 : decode cX5_appeal 76 = .ok (.aload_n 0, 1) := by decide +kernel
theorem dX5_appeal_77 : decode cX5_appeal 77 = .ok (.getfield 7, 3) := by decide +kernel
theorem dX5_appeal_80 : decode cX5_appeal 80 = .ok (.iload_n 3, 1) := by decide +kernel
theorem dX5_appeal_81 : decode cX5_appeal 81 = .ok (.bipush 6, 2) := by decide +kernel
theorem dX5_appeal_83 : decode cX5_appeal 83 = .ok (.iadd, 1) := by decide +kernel
theorem dX5_appeal_84 : decode cX5_appeal 84 = .ok (.iload_n 2, 1) := by decide +kernel
theorem dX5_appeal_85 : decode cX5_appeal 85 = .ok (.iastore, 1) := by decide +kernel
theorem dX5_appeal_86 : decode cX5_appeal 86 = .ok (.aload_n 0, 1) := by decide +kernel
theorem dX5_appeal_87 : decode cX5_appeal 87 = .ok (.getfield 7, 3) := by decide +kernel
theorem dX5_appeal_90 : decode cX5_appeal 90 = .ok (.iload_n 3, 1) := by decide +kernel
theorem dX5_appeal_91 : decode cX5_appeal 91 = .ok (.iconst 5, 1) := by decide +kernel
theorem dX5_appeal_92 : decode cX5_appeal 92 = .ok (.iadd, 1) := by decide +kernel
theorem dX5_appeal_93 : decode cX5_appeal 93 = .ok (.iconst 1, 1) := by decide +kernel
theorem dX5_appeal_94 : decode cX5_appeal 94 = .ok (.iastore, 1) := by decide +kernel
theorem dX5_appeal_95 : decode cX5_appeal 95 = .ok (.aload_n 0, 1) := by decide +kernel
theorem dX5_appeal_96 : decode cX5_appeal 96 = .ok (.getfield 7, 3) := by decide +kernel
theorem dX5_appeal_99 : decode cX5_appeal 99 = .ok (.iload_n 3, 1) := by decide +kernel
theorem dX5_appeal_100 : decode cX5_appeal 100 = .ok (.bipush 7, 2) := by decide +kernel
theorem dX5_appeal_102 : decode cX5_appeal 102 = .ok (.iadd, 1) := by decide +kernel
theorem dX5_appeal_103 : decode cX5_appeal 103 = .ok (.iaload, 1) := by decide +kernel
theorem dX5_appeal_104 : decode cX5_appeal 104 = .ok (.ireturn, 1) := by decide +kernel
def f_X5_appeal (σ : Sg)  (p1 p2 : Int32) : Option (Int32 × Sg) := (f_X5_noPaper σ p1).bind fun r1 => if r1 = 0 then ((f_X5_in σ p2 (1 : Int32) (3 : Int32)).bind fun r3 => if r3 = 0 then (some ((-10000002 : Int32), σ)) else ((f_X5_sheet σ p1 (5 : Int32)).bind fun r5 => if r5 ≤ 0 then ((f_X5_inAppeal σ (1 : Int32)).bind fun r7 => if r7 = (20 : Int32) then (some ((-10000003 : Int32), σ)) else ((f_X5_record σ).bind fun σ9 => lt ((144 : Int32) + ((8 : Int32) * p1)) fun x10 => (f_X5_hope σ9 p1 p2).bind fun q16 => lts q16.2 fun σ12 => lt q16.1 fun r11 => gd (inb (x10 + (7 : Int32)) 624) (lts (s2 σ12 0 (upd (σ12.2 0) (ix (x10 + (7 : Int32))) r11)) fun σ13 => gd (inb (x10 + (6 : Int32)) 624) (lts (s2 σ13 0 (upd (σ13.2 0) (ix (x10 + (6 : Int32))) p2)) fun σ14 => gd (inb (x10 + (5 : Int32)) 624) (lts (s2 σ14 0 (upd (σ14.2 0) (ix (x10 + (5 : Int32))) (1 : Int32))) fun σ15 => gd (inb (x10 + (7 : Int32)) 624) (some ((σ15.2 0 (ix (x10 + (7 : Int32)))), σ15))))))) else (some ((-10000004 : Int32), σ)))) else (some ((-10000001 : Int32), σ))
theorem okm_X5_appeal : okm yX5_appeal 2 = true := by decide +kernel
set_option maxHeartbeats 4000000 in
set_option maxRecDepth 100000 in
theorem c_X5_appeal (l : Launch) (G : va_G) (cls : Cls) (ad : Nat → Nat) (hi : inj 6 ad) (σ : Sg)   (p1 p2 : Int32) : MT l (YM G cls ad) yX5_appeal (.code yX5_appeal cX5_appeal 4 (some .int) :: gw) 5 129 [.ref (ad 0), .int p1, .int p2] fiS σ (f_X5_appeal σ  p1 p2) := by
  refine MT.of (own := RX5) (by decide) (YM_D hi) rfl (Nat.le_of_ble_eq_true rfl) fun Γ _ hz0 hz1 hC => ?_
  show WX Γ (YM G cls ad) (qf Γ (YM G cls ad) fiS) 4 0 [(0, .ref (ad 0)), (1, .int p1), (2, .int p2)] [] σ (f_X5_appeal σ  p1 p2)
  unfold f_X5_appeal
  refine X_aload_n hC 0 rfl dX5_appeal_0 ?_
  refine X_iload_n hC 1 rfl dX5_appeal_1 ?_
  refine X_callP (C := RX5) (T := TX5) (N := 16) (ci := 5) (rest := []) hC (c_X5_noPaper _ G cls ad hi σ p1) (gV tw_625 tw_627 ts_17 tw_7 tw_628) rfl (wM (k := 0) (by omega) cM_ob) rfl rfl okm_X5_noPaper (by decide) dX5_appeal_2 rfl (Nat.le_of_ble_eq_true rfl) (fun r1 => ?_)
  refine X_if_eq hC 11 dX5_appeal_5 (by decide) (fun h2 => ?_) (fun h2 => ?_)
  · refine X_iload_n hC 2 rfl dX5_appeal_11 ?_
    refine X_iconst (v := 1) hC (by decide) dX5_appeal_12 ?_
    refine X_iconst (v := 3) hC (by decide) dX5_appeal_13 ?_
    refine X_statP (rest := []) hC (c_X5_in _ G cls ad hi σ p2 (1 : Int32) (3 : Int32)) (gSt tw_538 tw_539 tw_7 tw_540) rfl okm_X5_in (by decide) dX5_appeal_14 rfl (Nat.le_of_ble_eq_true rfl) (fun r3 => ?_)
    refine X_if_ne hC 23 dX5_appeal_17 (by decide) (fun h4 => ?_) (fun h4 => ?_)
    · refine X_aload_n hC 0 rfl dX5_appeal_23 ?_
      refine X_iload_n hC 1 rfl dX5_appeal_24 ?_
      refine X_iconst (v := 5) hC (by decide) dX5_appeal_25 ?_
      refine X_callP (C := RX5) (T := TX5) (N := 16) (ci := 5) (rest := []) hC (c_X5_sheet _ G cls ad hi σ p1 (5 : Int32)) (gV tw_629 tw_631 ts_18 tw_7 tw_632) rfl (wM (k := 0) (by omega) cM_ob) rfl rfl okm_X5_sheet (by decide) dX5_appeal_26 rfl (Nat.le_of_ble_eq_true rfl) (fun r5 => ?_)
      refine X_if_le hC 35 dX5_appeal_29 (by decide) (fun h6 => ?_) (fun h6 => ?_)
      · refine X_aload_n hC 0 rfl dX5_appeal_35 ?_
        refine X_iconst (v := 1) hC (by decide) dX5_appeal_36 ?_
        refine X_callP (C := RX5) (T := TX5) (N := 16) (ci := 5) (rest := []) hC (c_X5_inAppeal _ G cls ad hi σ (1 : Int32)) (gV tw_633 tw_635 ts_19 tw_7 tw_636) rfl (wM (k := 0) (by omega) cM_ob) rfl rfl okm_X5_inAppeal (by decide) dX5_appeal_37 rfl (Nat.le_of_ble_eq_true rfl) (fun r7 => ?_)
        refine X_bipush (v := 20) hC (by decide) dX5_appeal_40 ?_
        refine X_icmp_ne hC 48 dX5_appeal_42 (by decide) (fun h8 => ?_) (fun h8 => ?_)
        · refine X_aload_n hC 0 rfl dX5_appeal_48 ?_
          refine X_callV (C := RX5) (T := TX5) (N := 16) (ci := 5) (rest := []) hC (c_X5_record _ G cls ad hi σ) (gV tw_543 tw_545 ts_6 tw_7 tw_546) rfl (wM (k := 0) (by omega) cM_ob) rfl rfl okm_X5_record (by decide) dX5_appeal_49 rfl (Nat.le_of_ble_eq_true rfl) (fun σ9 => ?_)
          refine X_sipush (v := 144) hC (by decide) dX5_appeal_52 ?_
          refine X_bipush (v := 8) hC (by decide) dX5_appeal_55 ?_
          refine X_iload_n hC 1 rfl dX5_appeal_57 ?_
          refine X_imul hC dX5_appeal_58 ?_
          refine X_iadd hC dX5_appeal_59 ?_
          refine X_lt (fun x10 => ?_)
          refine X_istore_n (ls' := [(3, .int x10), (0, .ref (ad 0)), (1, .int p1), (2, .int p2)]) hC dX5_appeal_60 (by decide) rfl ?_
          refine X_aload_n hC 1 rfl dX5_appeal_61 ?_
          refine X_getf (C := RX5) (T := TX5) (N := 16) (ci := 5) hC 0 (wM (k := 0) (by omega) cM_ob) rfl hinX5 (by decide) tw_485 rfl rfl dX5_appeal_62 ?_
          refine X_iload_n hC 0 rfl dX5_appeal_65 ?_
          refine X_bipush (v := 7) hC (by decide) dX5_appeal_66 ?_
          refine X_iadd hC dX5_appeal_68 ?_
          refine X_aload_n hC 1 rfl dX5_appeal_69 ?_
          refine X_iload_n hC 2 rfl dX5_appeal_70 ?_
          refine X_iload_n hC 3 rfl dX5_appeal_71 ?_
          refine X_callS (C := RX5) (T := TX5) (N := 16) (ci := 5) (rest := [.int (x10 + (7 : Int32)), .ref (ad 1)]) hC (c_X5_hope _ G cls ad hi σ9 p1 p2) (gV tw_637 tw_639 ts_20 tw_7 tw_640) rfl (wM (k := 0) (by omega) cM_ob) rfl rfl okm_X5_hope (by decide) dX5_appeal_72 rfl (Nat.le_of_ble_eq_true rfl) (fun q16 => X_lts fun σ12 => X_lt fun r11 => ?_)
          refine X_iast hC (wM (k := 1) (by omega) cM_now) (t0 := 0) rfl (aM_now _) dX5_appeal_75 (X_lts fun σ13 => ?_)
          refine X_aload_n hC 1 rfl dX5_appeal_76 ?_
          refine X_getf (C := RX5) (T := TX5) (N := 16) (ci := 5) hC 0 (wM (k := 0) (by omega) cM_ob) rfl hinX5 (by decide) tw_485 rfl rfl dX5_appeal_77 ?_
          refine X_iload_n hC 0 rfl dX5_appeal_80 ?_
          refine X_bipush (v := 6) hC (by decide) dX5_appeal_81 ?_
          refine X_iadd hC dX5_appeal_83 ?_
          refine X_iload_n hC 3 rfl dX5_appeal_84 ?_
          refine X_iast hC (wM (k := 1) (by omega) cM_now) (t0 := 0) rfl (aM_now _) dX5_appeal_85 (X_lts fun σ14 => ?_)
          refine X_aload_n hC 1 rfl dX5_appeal_86 ?_
          refine X_getf (C := RX5) (T := TX5) (N := 16) (ci := 5) hC 0 (wM (k := 0) (by omega) cM_ob) rfl hinX5 (by decide) tw_485 rfl rfl dX5_appeal_87 ?_
          refine X_iload_n hC 0 rfl dX5_appeal_90 ?_
          refine X_iconst (v := 5) hC (by decide) dX5_appeal_91 ?_
          refine X_iadd hC dX5_appeal_92 ?_
          refine X_iconst (v := 1) hC (by decide) dX5_appeal_93 ?_
          refine X_iast hC (wM (k := 1) (by omega) cM_now) (t0 := 0) rfl (aM_now _) dX5_appeal_94 (X_lts fun σ15 => ?_)
          refine X_aload_n hC 1 rfl dX5_appeal_95 ?_
          refine X_getf (C := RX5) (T := TX5) (N := 16) (ci := 5) hC 0 (wM (k := 0) (by omega) cM_ob) rfl hinX5 (by decide) tw_485 rfl rfl dX5_appeal_96 ?_
          refine X_iload_n hC 0 rfl dX5_appeal_99 ?_
          refine X_bipush (v := 7) hC (by decide) dX5_appeal_100 ?_
          refine X_iadd hC dX5_appeal_102 ?_
          refine X_iald hC (wM (k := 1) (by omega) cM_now) (t0 := 0) rfl dX5_appeal_103 ?_
          exact X_iret hC hz0 hz1 dX5_appeal_104 rfl
        · refine X_ldc (v := -10000003) hC tw_542 dX5_appeal_45 ?_
          exact X_iret hC hz0 hz1 dX5_appeal_47 rfl
      · refine X_ldc (v := -10000004) hC tw_573 dX5_appeal_32 ?_
        exact X_iret hC hz0 hz1 dX5_appeal_34 rfl
    · refine X_ldc (v := -10000002) hC tw_541 dX5_appeal_20 ?_
      exact X_iret hC hz0 hz1 dX5_appeal_22 rfl
  · refine X_ldc (v := -10000001) hC tw_555 dX5_appeal_8 ?_
    exact X_iret hC hz0 hz1 dX5_appeal_10 rfl
