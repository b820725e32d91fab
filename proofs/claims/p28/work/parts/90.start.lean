theorem tw_9 : Cond.classLink RL 14 RX4 ∈ gw := gw_tab (i := 9) (by decide +kernel) (by rfl)
theorem tw_10 : Cond.instantiable RX4 5 ∈ gw := gw_tab (i := 10) (by decide +kernel) (by rfl)
theorem tw_11 : Cond.methodLink RL 94 yX4_init ∈ gw := gw_tab (i := 11) (by decide +kernel) (by rfl)
theorem tw_12 : Cond.instanceMethod yX4_init ∈ gw := gw_tab (i := 12) (by decide +kernel) (by rfl)
theorem tw_13 : Cond.code yX4_init cX4_init 1 none ∈ gw := gw_tab (i := 13) (by decide +kernel) (by rfl)
/-! THE START: what the tables give, the constructor, the world as one pure state. -/
theorem tw_int0 : Cond.arrayClass .int ∈ lw_tbl := List.mem_append_right _ (List.mem_of_getElem? (i := 45) (by decide +kernel))
theorem tw_char0 : Cond.arrayClass .char ∈ lw_tbl := List.mem_append_right _ (List.mem_of_getElem? (i := 99) (by decide +kernel))
theorem tw_over0 : Cond.arrayOver (.object RX2) ∈ lw_tbl := List.mem_append_right _ (List.mem_of_getElem? (i := 66) (by decide +kernel))
theorem tw_n19 : Cond.methodLinkNest RX4 11 yX2_init RX4 ∈ lw_tbl := List.mem_append_right _ (List.mem_of_getElem? (i := 19) (by decide +kernel))
theorem tw_n67 : Cond.methodLinkNest RX0 17 yX2_init RX4 ∈ lw_tbl := List.mem_append_right _ (List.mem_of_getElem? (i := 67) (by decide +kernel))
theorem tw_n80 : Cond.methodLinkNest RX4 28 yX1_init RX4 ∈ lw_tbl := List.mem_append_right _ (List.mem_of_getElem? (i := 80) (by decide +kernel))
theorem tw_n245 : Cond.methodLinkNest RX2 42 yX4_outside RX4 ∈ lw_tbl := List.mem_append_right _ (List.mem_of_getElem? (i := 245) (by decide +kernel))
theorem tw_n272 : Cond.methodLinkNest RX2 60 yX4_quotient RX4 ∈ lw_tbl := List.mem_append_right _ (List.mem_of_getElem? (i := 272) (by decide +kernel))
theorem tw_n278 : Cond.methodLinkNest RX2 63 yX4_nearestFraction RX4 ∈ lw_tbl := List.mem_append_right _ (List.mem_of_getElem? (i := 278) (by decide +kernel))
theorem tw_n282 : Cond.methodLinkNest RX2 53 yX4_has RX4 ∈ lw_tbl := List.mem_append_right _ (List.mem_of_getElem? (i := 282) (by decide +kernel))
theorem tw_n285 : Cond.methodLinkNest RX2 49 yX4_trapBit RX4 ∈ lw_tbl := List.mem_append_right _ (List.mem_of_getElem? (i := 285) (by decide +kernel))
theorem N_astore_n {Γ : Cx} {G : va_G} {cls : Cls} {A : Nat → Prop} {q : State → Prop} {cc : ByteArray} {own : String} {nL fr mc ms lo pc : Nat} {ls : List (Nat × Value)} {st : List Value} {ws : va_W} {ce sl : Nat} (hC : CN Γ G cls A cc own nL fr mc ms lo) {i : Fin 4} {x : Nat} {ls' : List (Nat × Value)} (d : decode cc pc = .ok (.astore_n i, 1)) (hn : (i : Nat) < nL) (hl : ((i : Nat), Value.ref x) :: ls.filter (fun q => !(q.1 == (i : Nat)) && !(q.1 + 1 == (i : Nat) && q.2.category == 2)) = ls') (k : WN Γ G A q nL (pc + 1) ls' st ws ce sl) : WN Γ G A q nL pc ls (.ref x :: st) ws ce sl :=
  fun H locs la hP hD hS hL => lv_astore_n hC.1 hC.2.1 d rfl hL hn hl (fun la' hL' => k H locs la' hP hD hS hL')
/-- what the tables give of classes and arrays -/
theorem st_known {s : State} {b : Nat} (hts : ∀ w ∈ lw_tbl, w.before #[Value.ref b] s = true) : ∃ (G : va_G) (cls : Cls), va_K G vwCl (tyO cls) s := by
  have hg : ∀ w ∈ gw, w.before #[Value.ref b] s = true := fun w hw => hts w (List.mem_filter.mp hw).1
  obtain ⟨c0, i0, h0⟩ := u_known hg hinX0 (hg _ tw_60)
  obtain ⟨c1, i1, h1⟩ := u_known hg hinX1 (hg _ tw_79)
  obtain ⟨c2, i2, h2⟩ := u_known hg hinX2 (hg _ tw_18)
  obtain ⟨c3, i3, h3⟩ := u_known hg hinX3 (hg _ tw_24)
  obtain ⟨c4, i4, h4⟩ := u_known hg hinX4 (hg _ tw_10)
  obtain ⟨a1, k1, p1, f1, f2, f3⟩ := Cond.arrayClass_spec (hts _ tw_int0)
  obtain ⟨a2, k2, p2, g1, g2, g3⟩ := Cond.arrayClass_spec (hts _ tw_char0)
  obtain ⟨p3, a3, k3, e1, e2, e3, e4, e5⟩ := Cond.arrayOver_spec (hts _ tw_over0)
  refine ⟨(fun k => match k with | 0 => c0 | 1 => c1 | 2 => c2 | 3 => c3 | _ => c4, fun k => match k with | 0 => i0 | 1 => i1 | 2 => i2 | 3 => i3 | _ => i4), (a1, a2, a3), fun c q hq => ?_, fun k q hq => ?_⟩
  · match c, hq with
    | 0, hq => cases hq; exact h0
    | 1, hq => cases hq; exact h1
    | 2, hq => cases hq; exact h2
    | 3, hq => cases hq; exact h3
    | 4, hq => cases hq; exact h4
    | k + 5, hq => simp [vwCl] at hq
  · match k, hq with
    | 0, hq => cases hq; exact ⟨fun n z => ⟨fun k h => (by cases h), k1, f2, p1, f3⟩, f1⟩
    | 1, hq => cases hq; exact ⟨fun n z => ⟨fun k h => (by cases h), k2, g2, p2, g3⟩, g1⟩
    | 2, hq => cases hq; exact ⟨fun n z => ⟨fun k h => (by cases h), k3, e3, p3, e4⟩, k3, p3, e3, e4, e1, e5⟩
    | k + 3, hq => simp [tyO] at hq
theorem arrV_same {c : ClassId} {n : Nat} {f g : Nat → Value} (h : ∀ j, j < n → f j = g j) : arrV c n f = arrV c n g := by
  unfold arrV
  congr 1
  refine congrArg _ (funext fun j => h j.1 j.2)
theorem cut_q {G : va_G} {a n : Nat} {c : ClassId} {f g : Nat → Option Nat} {H : Heap} (h : va_at G vwCl (a, .inl (c, n, .inr (.inr (.inr (.inr f))))) H) (hfg : ∀ j, j < n → f j = g j) : va_at G vwCl (a, .inl (c, n, .inr (.inr (.inr (.inr g))))) H := by
  show H[a]? = some (vp_cell c (n, .inr (.inr (.inr (.inr g)))))
  have h' : H[a]? = some (vp_cell c (n, .inr (.inr (.inr (.inr f))))) := h
  rw [h', vp_cell_q, vp_cell_q, arrV_same (fun j hj => by rw [hfg j hj])]
def pp : List Nat := [2, 4, 6, 9, 11, 13, 18, 20, 22, 25, 27, 29, 32, 34, 36, 39, 41, 43, 47, 1, 8, 17, 24, 31, 38, 0, 15, 45, 16, 3, 5, 7, 10, 12, 14, 19, 21, 23, 26, 28, 30, 33, 35, 37, 40, 42, 44, 48, 46]
theorem pp_len : pp.length = 49 := rfl
theorem pp_in : ∀ k, k < 49 → pp.getD k 0 < 49 := by decide +kernel
theorem pp_inj : ∀ i, i < 49 → ∀ j, j < 49 → pp.getD i 0 = pp.getD j 0 → i = j := by decide +kernel
def adx (l : List Nat) (k : Nat) : Nat := l.getD (pp.getD k 0) 0
/-- addresses out of a list of cells, apart -/
theorem ad_apart {A : Nat → Prop} {ws : va_W} {l : List Nat} (hl : l.length = 49) (hw : ws.map Prod.fst = l) (hD : va_D A ws) : (∀ k, k < 49 → A (l.getD (pp.getD k 0) 0)) ∧ ∀ i j, i < 49 → j < 49 → l.getD (pp.getD i 0) 0 = l.getD (pp.getD j 0) 0 → i = j := by
  have key : ∀ p, p < 49 → ∃ e, ws[p]? = some (l.getD p 0, e) := by
    intro p hp
    have h1 : (ws.map Prod.fst)[p]? = l[p]? := by rw [hw]
    have h2 : p < l.length := by omega
    rw [List.getElem?_map, List.getElem?_eq_getElem h2] at h1
    cases hc : ws[p]? with
    | none => rw [hc] at h1; cases h1
    | some z =>
      rw [hc] at h1
      refine ⟨z.2, ?_⟩
      have h3 : z.1 = l[p] := Option.some.inj h1
      have h4 : l.getD p 0 = l[p] := by simp [List.getD, h2]
      rw [h4, ← h3]
  refine ⟨fun k hk => ?_, fun i j hi hj e => ?_⟩
  · obtain ⟨e, he⟩ := key _ (pp_in k hk)
    exact hD.2 _ _ he
  · obtain ⟨e1, h1⟩ := key _ (pp_in i hi)
    obtain ⟨e2, h2⟩ := key _ (pp_in j hj)
    exact pp_inj i hi j hj (hD.1 _ _ _ _ h1 h2 e)
def sg0 : Sg := (fun _ => 0, fun _ _ => 0)

set_option maxHeartbeats 4000000 in
set_option maxRecDepth 100000 in
theorem st_world {G : va_G} {cls : Cls} {hx o1 u2 u3 u4 u5 u6 u7 o8 u9 u10 u11 u12 u13 u14 o15 u16 u17 u18 u19 u20 u21 u22 u23 u24 u25 u26 u27 u28 u29 u30 u31 u32 u33 u34 u35 u36 u37 u38 u39 u40 u41 u42 u43 u44 o45 u46 u47 u48 : Nat} {H : Heap} (hP : va_P G vwCl ([(hx, .inr (4, [.ref o1, .ref o8, .ref o15, .ref o45, .int (0 : Int32)])), (o1, .inr (2, [.ref u2, .ref u4, .ref u6])), (u2, .inr (3, [.int (10 : Int32), .int (11 : Int32), .ref u3, .int (0 : Int32)])), (u3, .inl (cls.1, 110, .inl (fun _ => 0))), (u4, .inr (3, [.int (12 : Int32), .int (9 : Int32), .ref u5, .int (0 : Int32)])), (u5, .inl (cls.1, 108, .inl (fun _ => 0))), (u6, .inr (3, [.int (60 : Int32), .int (8 : Int32), .ref u7, .int (0 : Int32)])), (u7, .inl (cls.1, 480, .inl (fun _ => 0))), (o8, .inr (2, [.ref u9, .ref u11, .ref u13])), (u9, .inr (3, [.int (10 : Int32), .int (11 : Int32), .ref u10, .int (0 : Int32)])), (u10, .inl (cls.1, 110, .inl (fun _ => 0))), (u11, .inr (3, [.int (12 : Int32), .int (9 : Int32), .ref u12, .int (0 : Int32)])), (u12, .inl (cls.1, 108, .inl (fun _ => 0))), (u13, .inr (3, [.int (60 : Int32), .int (8 : Int32), .ref u14, .int (0 : Int32)])), (u14, .inl (cls.1, 480, .inl (fun _ => 0))), (o15, .inr (0, [.ref u16, .int (0 : Int32), .int (0 : Int32)])), (u16, .inl (cls.2.2, 4, .inr (.inr (.inr (.inr (va_up (va_up (va_up (va_up (fun _ => none) (ix (0 : Int32)) (some u17)) (ix (1 : Int32)) (some u24)) (ix (2 : Int32)) (some u31)) (ix (3 : Int32)) (some u38))))))), (u17, .inr (2, [.ref u18, .ref u20, .ref u22])), (u18, .inr (3, [.int (10 : Int32), .int (11 : Int32), .ref u19, .int (0 : Int32)])), (u19, .inl (cls.1, 110, .inl (fun _ => 0))), (u20, .inr (3, [.int (12 : Int32), .int (9 : Int32), .ref u21, .int (0 : Int32)])), (u21, .inl (cls.1, 108, .inl (fun _ => 0))), (u22, .inr (3, [.int (60 : Int32), .int (8 : Int32), .ref u23, .int (0 : Int32)])), (u23, .inl (cls.1, 480, .inl (fun _ => 0))), (u24, .inr (2, [.ref u25, .ref u27, .ref u29])), (u25, .inr (3, [.int (10 : Int32), .int (11 : Int32), .ref u26, .int (0 : Int32)])), (u26, .inl (cls.1, 110, .inl (fun _ => 0))), (u27, .inr (3, [.int (12 : Int32), .int (9 : Int32), .ref u28, .int (0 : Int32)])), (u28, .inl (cls.1, 108, .inl (fun _ => 0))), (u29, .inr (3, [.int (60 : Int32), .int (8 : Int32), .ref u30, .int (0 : Int32)])), (u30, .inl (cls.1, 480, .inl (fun _ => 0))), (u31, .inr (2, [.ref u32, .ref u34, .ref u36])), (u32, .inr (3, [.int (10 : Int32), .int (11 : Int32), .ref u33, .int (0 : Int32)])), (u33, .inl (cls.1, 110, .inl (fun _ => 0))), (u34, .inr (3, [.int (12 : Int32), .int (9 : Int32), .ref u35, .int (0 : Int32)])), (u35, .inl (cls.1, 108, .inl (fun _ => 0))), (u36, .inr (3, [.int (60 : Int32), .int (8 : Int32), .ref u37, .int (0 : Int32)])), (u37, .inl (cls.1, 480, .inl (fun _ => 0))), (u38, .inr (2, [.ref u39, .ref u41, .ref u43])), (u39, .inr (3, [.int (10 : Int32), .int (11 : Int32), .ref u40, .int (0 : Int32)])), (u40, .inl (cls.1, 110, .inl (fun _ => 0))), (u41, .inr (3, [.int (12 : Int32), .int (9 : Int32), .ref u42, .int (0 : Int32)])), (u42, .inl (cls.1, 108, .inl (fun _ => 0))), (u43, .inr (3, [.int (60 : Int32), .int (8 : Int32), .ref u44, .int (0 : Int32)])), (u44, .inl (cls.1, 480, .inl (fun _ => 0))), (o45, .inr (1, [.ref u46, .ref u47, .int 0, .int 0])), (u46, .inl (cls.2.1, 60, .inl (fun _ => 0))), (u47, .inr (3, [.int (11 : Int32), .int (3 : Int32), .ref u48, .int (0 : Int32)])), (u48, .inl (cls.1, 33, .inl (fun _ => 0)))]) H) : va_P G vwCl (mkw 49 (adx [hx, o1, u2, u3, u4, u5, u6, u7, o8, u9, u10, u11, u12, u13, u14, o15, u16, u17, u18, u19, u20, u21, u22, u23, u24, u25, u26, u27, u28, u29, u30, u31, u32, u33, u34, u35, u36, u37, u38, u39, u40, u41, u42, u43, u44, o45, u46, u47, u48]) (cellX cls (adx [hx, o1, u2, u3, u4, u5, u6, u7, o8, u9, u10, u11, u12, u13, u14, o15, u16, u17, u18, u19, u20, u21, u22, u23, u24, u25, u26, u27, u28, u29, u30, u31, u32, u33, u34, u35, u36, u37, u38, u39, u40, u41, u42, u43, u44, o45, u46, u47, u48]) sg0)) H := by
  intro k q hq
  obtain ⟨hk, rfl⟩ := mkw_get hq
  match k, hk with
  | 0, _ => exact hP 2 _ rfl
  | 1, _ => exact hP 4 _ rfl
  | 2, _ => exact hP 6 _ rfl
  | 3, _ => exact hP 9 _ rfl
  | 4, _ => exact hP 11 _ rfl
  | 5, _ => exact hP 13 _ rfl
  | 6, _ => exact hP 18 _ rfl
  | 7, _ => exact hP 20 _ rfl
  | 8, _ => exact hP 22 _ rfl
  | 9, _ => exact hP 25 _ rfl
  | 10, _ => exact hP 27 _ rfl
  | 11, _ => exact hP 29 _ rfl
  | 12, _ => exact hP 32 _ rfl
  | 13, _ => exact hP 34 _ rfl
  | 14, _ => exact hP 36 _ rfl
  | 15, _ => exact hP 39 _ rfl
  | 16, _ => exact hP 41 _ rfl
  | 17, _ => exact hP 43 _ rfl
  | 18, _ => exact hP 47 _ rfl
  | 19, _ => exact hP 1 _ rfl
  | 20, _ => exact hP 8 _ rfl
  | 21, _ => exact hP 17 _ rfl
  | 22, _ => exact hP 24 _ rfl
  | 23, _ => exact hP 31 _ rfl
  | 24, _ => exact hP 38 _ rfl
  | 25, _ => exact hP 0 _ rfl
  | 26, _ => exact hP 15 _ rfl
  | 27, _ => exact hP 45 _ rfl
  | 28, _ =>
    refine cut_q (hP 16 _ rfl) (fun j hj => ?_)
    match j, hj with
    | 0, _ => rfl
    | 1, _ => rfl
    | 2, _ => rfl
    | 3, _ => rfl
  | 29, _ => exact hP 3 _ rfl
  | 30, _ => exact hP 5 _ rfl
  | 31, _ => exact hP 7 _ rfl
  | 32, _ => exact hP 10 _ rfl
  | 33, _ => exact hP 12 _ rfl
  | 34, _ => exact hP 14 _ rfl
  | 35, _ => exact hP 19 _ rfl
  | 36, _ => exact hP 21 _ rfl
  | 37, _ => exact hP 23 _ rfl
  | 38, _ => exact hP 26 _ rfl
  | 39, _ => exact hP 28 _ rfl
  | 40, _ => exact hP 30 _ rfl
  | 41, _ => exact hP 33 _ rfl
  | 42, _ => exact hP 35 _ rfl
  | 43, _ => exact hP 37 _ rfl
  | 44, _ => exact hP 40 _ rfl
  | 45, _ => exact hP 42 _ rfl
  | 46, _ => exact hP 44 _ rfl
  | 47, _ => exact hP 48 _ rfl
  | 48, _ => exact hP 46 _ rfl
set_option maxHeartbeats 4000000 in
set_option maxRecDepth 100000 in
/-- YOUR PART: from the entry, for every script of at most 260 ints, the law comes to its end with true -/
theorem whole_start {p : Program} {e : Env} {s : State} {m : MethodId} {below : List Frame} {meth : Method} {c : Code} (l : Launch) (hflags : l.flags = flags0) {b L : Nat} {xs : Nat → Int32} (hL : L ≤ 260) (C0 : lw_At p s m meth c b L xs) : W p l e room_1 s m #[Value.ref b] below meth c s.heap [] 0 0 (lw_Z below #[Value.ref b] s) (entryFrame m ([Value.ref b] : List Value).toArray 11) := by
  obtain ⟨hx_, hb, hr, hml, hown, hts, hX, hbl, hlocks, hgv⟩ := id C0
  obtain ⟨G, cls, hK⟩ := st_known hts
  have hg : ∀ w ∈ gw, w.before #[Value.ref b] s = true := fun w hw => hts w (List.mem_filter.mp hw).1
  have hnC : nestC s := ⟨va_Nw.of rfl (hts _ tw_n19), va_Nw.of rfl (hts _ tw_n80), va_Nw.of rfl (hts _ tw_n67), hts _ tw_over0⟩
  have hnS : nests s := ⟨va_Nw.of rfl (hts _ tw_n245), va_Nw.of rfl (hts _ tw_n285), va_Nw.of rfl (hts _ tw_n282), va_Nw.of rfl (hts _ tw_n272), va_Nw.of rfl (hts _ tw_n278)⟩
  have hl0 := lv_entry ([.ref b]) (n := 11) (Nat.le_of_ble_eq_true rfl)
  rw [lg_entry_eq]
  generalize hΓ : (((p, l, e, room_1, s, m), (#[Value.ref b], below, meth, c, 49, 4391)) : Cx) = Γ
  have hC : CN Γ G cls (fun q => s.heap.size ≤ q) cL_law RL 11 10 600000 7302250 410 := by
    rw [← hΓ]
    exact ⟨hx_, hb, hml, hown, hg, hK, hnC, fun _ h => h, hlocks, rfl, rfl, rfl, rfl⟩
  have key : WN Γ G (fun q => s.heap.size ≤ q) (lw_Z below #[Value.ref b] s) 11 0 [(0, .ref b)] [] [] 0 0 := by
    refine N_new (T := TX4) (N := 5) (ci := 4) (ty := tyX4) (fs := [Value.null, .null, .null, .null, .int 0]) hC hinX4 tyX4_ok tw_9 tw_10 tw_1 rfl (fun j hj => by rcases (show j = 0 ∨ j = 1 ∨ j = 2 ∨ j = 3 ∨ j = 4 by omega) with rfl | rfl | rfl | rfl | rfl <;> rfl) ⟨by decide, by decide⟩ dL_law_0 (fun hx => ?_)
    refine N_dup hC rfl dL_law_3 ?_
    refine N_call (as := []) (rest := [.ref hx]) (wr := []) 0 [] hC (n_X4_init _ G cls hx) rfl rfl (by decide) (by decide) tw_11 tw_12 tw_1 tw_13 rfl rfl okm_X4_init (by decide) ⟨by decide, by decide⟩ dL_law_4 rfl (Nat.le_of_ble_eq_true rfl) (fun w hw => ?_)
    obtain ⟨o1, u2, u3, u4, u5, u6, u7, o8, u9, u10, u11, u12, u13, u14, o15, u16, u17, u18, u19, u20, u21, u22, u23, u24, u25, u26, u27, u28, u29, u30, u31, u32, u33, u34, u35, u36, u37, u38, u39, u40, u41, u42, u43, u44, o45, u46, u47, u48, rfl⟩ := hw
    refine N_astore_n (ls' := [(1, .ref hx), (0, .ref b)]) hC dL_law_7 (by decide) rfl ?_
    refine N_eq (show _ = [(hx, .inr (4, [.ref o1, .ref o8, .ref o15, .ref o45, .int (0 : Int32)])), (o1, .inr (2, [.ref u2, .ref u4, .ref u6])), (u2, .inr (3, [.int (10 : Int32), .int (11 : Int32), .ref u3, .int (0 : Int32)])), (u3, .inl (cls.1, 110, .inl (fun _ => 0))), (u4, .inr (3, [.int (12 : Int32), .int (9 : Int32), .ref u5, .int (0 : Int32)])), (u5, .inl (cls.1, 108, .inl (fun _ => 0))), (u6, .inr (3, [.int (60 : Int32), .int (8 : Int32), .ref u7, .int (0 : Int32)])), (u7, .inl (cls.1, 480, .inl (fun _ => 0))), (o8, .inr (2, [.ref u9, .ref u11, .ref u13])), (u9, .inr (3, [.int (10 : Int32), .int (11 : Int32), .ref u10, .int (0 : Int32)])), (u10, .inl (cls.1, 110, .inl (fun _ => 0))), (u11, .inr (3, [.int (12 : Int32), .int (9 : Int32), .ref u12, .int (0 : Int32)])), (u12, .inl (cls.1, 108, .inl (fun _ => 0))), (u13, .inr (3, [.int (60 : Int32), .int (8 : Int32), .ref u14, .int (0 : Int32)])), (u14, .inl (cls.1, 480, .inl (fun _ => 0))), (o15, .inr (0, [.ref u16, .int (0 : Int32), .int (0 : Int32)])), (u16, .inl (cls.2.2, 4, .inr (.inr (.inr (.inr (va_up (va_up (va_up (va_up (fun _ => none) (ix (0 : Int32)) (some u17)) (ix (1 : Int32)) (some u24)) (ix (2 : Int32)) (some u31)) (ix (3 : Int32)) (some u38))))))), (u17, .inr (2, [.ref u18, .ref u20, .ref u22])), (u18, .inr (3, [.int (10 : Int32), .int (11 : Int32), .ref u19, .int (0 : Int32)])), (u19, .inl (cls.1, 110, .inl (fun _ => 0))), (u20, .inr (3, [.int (12 : Int32), .int (9 : Int32), .ref u21, .int (0 : Int32)])), (u21, .inl (cls.1, 108, .inl (fun _ => 0))), (u22, .inr (3, [.int (60 : Int32), .int (8 : Int32), .ref u23, .int (0 : Int32)])), (u23, .inl (cls.1, 480, .inl (fun _ => 0))), (u24, .inr (2, [.ref u25, .ref u27, .ref u29])), (u25, .inr (3, [.int (10 : Int32), .int (11 : Int32), .ref u26, .int (0 : Int32)])), (u26, .inl (cls.1, 110, .inl (fun _ => 0))), (u27, .inr (3, [.int (12 : Int32), .int (9 : Int32), .ref u28, .int (0 : Int32)])), (u28, .inl (cls.1, 108, .inl (fun _ => 0))), (u29, .inr (3, [.int (60 : Int32), .int (8 : Int32), .ref u30, .int (0 : Int32)])), (u30, .inl (cls.1, 480, .inl (fun _ => 0))), (u31, .inr (2, [.ref u32, .ref u34, .ref u36])), (u32, .inr (3, [.int (10 : Int32), .int (11 : Int32), .ref u33, .int (0 : Int32)])), (u33, .inl (cls.1, 110, .inl (fun _ => 0))), (u34, .inr (3, [.int (12 : Int32), .int (9 : Int32), .ref u35, .int (0 : Int32)])), (u35, .inl (cls.1, 108, .inl (fun _ => 0))), (u36, .inr (3, [.int (60 : Int32), .int (8 : Int32), .ref u37, .int (0 : Int32)])), (u37, .inl (cls.1, 480, .inl (fun _ => 0))), (u38, .inr (2, [.ref u39, .ref u41, .ref u43])), (u39, .inr (3, [.int (10 : Int32), .int (11 : Int32), .ref u40, .int (0 : Int32)])), (u40, .inl (cls.1, 110, .inl (fun _ => 0))), (u41, .inr (3, [.int (12 : Int32), .int (9 : Int32), .ref u42, .int (0 : Int32)])), (u42, .inl (cls.1, 108, .inl (fun _ => 0))), (u43, .inr (3, [.int (60 : Int32), .int (8 : Int32), .ref u44, .int (0 : Int32)])), (u44, .inl (cls.1, 480, .inl (fun _ => 0))), (o45, .inr (1, [.ref u46, .ref u47, .int 0, .int 0])), (u46, .inl (cls.2.1, 60, .inl (fun _ => 0))), (u47, .inr (3, [.int (11 : Int32), .int (3 : Int32), .ref u48, .int (0 : Int32)])), (u48, .inl (cls.1, 33, .inl (fun _ => 0)))] from rfl) rfl rfl ?_
    intro H locs la hP hD hS hLa
    have hap := ad_apart (l := [hx, o1, u2, u3, u4, u5, u6, u7, o8, u9, u10, u11, u12, u13, u14, o15, u16, u17, u18, u19, u20, u21, u22, u23, u24, u25, u26, u27, u28, u29, u30, u31, u32, u33, u34, u35, u36, u37, u38, u39, u40, u41, u42, u43, u44, o45, u46, u47, u48]) rfl rfl hD
    have hDD : ∀ σ : Sg × Sg, va_D (fun q => s.heap.size ≤ q) ((YL G cls (adx [hx, o1, u2, u3, u4, u5, u6, u7, o8, u9, u10, u11, u12, u13, u14, o15, u16, u17, u18, u19, u20, u21, u22, u23, u24, u25, u26, u27, u28, u29, u30, u31, u32, u33, u34, u35, u36, u37, u38, u39, u40, u41, u42, u43, u44, o45, u46, u47, u48]) 0 (fun _ => 0) (fun q => s.heap.size ≤ q)).2.1 σ) := by
      intro σ
      refine va_D.app ⟨fun i j x y h1 h2 h3 => ?_, fun k x h1 => ?_⟩ ⟨fun i j x y h1 h2 h3 => ?_, fun k x h1 => ?_⟩ (fun i j x y h1 h2 h3 => ?_)
      · obtain ⟨l1, rfl⟩ := mkw_get h1
        obtain ⟨l2, rfl⟩ := mkw_get h2
        exact hap.2 i j (by omega) (by omega) h3
      · obtain ⟨l1, rfl⟩ := mkw_get h1
        exact hap.1 k (by omega)
      · obtain ⟨l1, rfl⟩ := mkw_get h1
        omega
      · obtain ⟨l1, rfl⟩ := mkw_get h1
        omega
      · obtain ⟨l2, rfl⟩ := mkw_get h2
        omega
    have hCX : CX Γ (YL G cls (adx [hx, o1, u2, u3, u4, u5, u6, u7, o8, u9, u10, u11, u12, u13, u14, o15, u16, u17, u18, u19, u20, u21, u22, u23, u24, u25, u26, u27, u28, u29, u30, u31, u32, u33, u34, u35, u36, u37, u38, u39, u40, u41, u42, u43, u44, o45, u46, u47, u48]) 0 (fun _ => 0) (fun q => s.heap.size ≤ q)) cL_law RL 11 (some .boolean) 10 410 := by
      rw [← hΓ]
      exact ⟨hx_, hb, hml, hown, hg, hK, hnS, hDD, hlocks, hr, rfl, rfl, (show (49 : Nat) ≤ 600000 by decide), (show (4391 : Nat) ≤ 7302250 by decide)⟩
    have hend : ∀ (C S : Nat), C ≤ 600000 → S ≤ 7302250 → ∀ (pc : Nat) (ls : List (Nat × Value)) (σ : Sg × Sg), decode cL_law pc = .ok (.ireturn, 1) → WX (setc Γ C S) (YL G cls (adx [hx, o1, u2, u3, u4, u5, u6, u7, o8, u9, u10, u11, u12, u13, u14, o15, u16, u17, u18, u19, u20, u21, u22, u23, u24, u25, u26, u27, u28, u29, u30, u31, u32, u33, u34, u35, u36, u37, u38, u39, u40, u41, u42, u43, u44, o45, u46, u47, u48]) 0 (fun _ => 0) (fun q => s.heap.size ≤ q)) (fun _ : Int32 => lw_Z below #[Value.ref b] s) 11 pc ls [.int 1] σ (some 1) := by
      intro C S hC1 hS1 pc ls σ d a ha H locs la hP hS hL
      rw [← hΓ] at hS ⊢
      refine va_forget (fun q hq => hS.2.2 q hq) ?_
      refine W.widen (k := 600000) (n := 7302250) hC1 hS1 ?_
      exact lw_ret hx_ hb hr hlocks d
    have hgr : rmL Γ fuel := by
      rw [← hΓ]
      exact ⟨show 49 + 4 * 4096 ≤ 600000 by decide, show 4391 + 40 * 4096 ≤ 7302250 by decide⟩
    have hLL := L_L_law (q := fun _ : Int32 => lw_Z below #[Value.ref b] s) (Γ := Γ) G cls (adx [hx, o1, u2, u3, u4, u5, u6, u7, o8, u9, u10, u11, u12, u13, u14, o15, u16, u17, u18, u19, u20, u21, u22, u23, u24, u25, u26, u27, u28, u29, u30, u31, u32, u33, u34, u35, u36, u37, u38, u39, u40, u41, u42, u43, u44, o45, u46, u47, u48]) (fun _ => 0) (fun q => s.heap.size ≤ q) (fun i j hi hj h => hap.2 i j (by omega) (by omega) h) hCX (by rw [← hΓ]) hend (b := b) xs L (by rw [← hΓ]; exact hX) (by rw [← hΓ]; exact hbl) (Nat.not_le.mpr hbl) (by rw [← hΓ]; exact fun z hz => hz) hgr (sg0, sg0)
    have hW0 : (YL G cls (adx [hx, o1, u2, u3, u4, u5, u6, u7, o8, u9, u10, u11, u12, u13, u14, o15, u16, u17, u18, u19, u20, u21, u22, u23, u24, u25, u26, u27, u28, u29, u30, u31, u32, u33, u34, u35, u36, u37, u38, u39, u40, u41, u42, u43, u44, o45, u46, u47, u48]) 0 (fun _ => 0) (fun q => s.heap.size ≤ q)).2.1 (sg0, sg0) = mkw 49 (adx [hx, o1, u2, u3, u4, u5, u6, u7, o8, u9, u10, u11, u12, u13, u14, o15, u16, u17, u18, u19, u20, u21, u22, u23, u24, u25, u26, u27, u28, u29, u30, u31, u32, u33, u34, u35, u36, u37, u38, u39, u40, u41, u42, u43, u44, o45, u46, u47, u48]) (cellX cls (adx [hx, o1, u2, u3, u4, u5, u6, u7, o8, u9, u10, u11, u12, u13, u14, o15, u16, u17, u18, u19, u20, u21, u22, u23, u24, u25, u26, u27, u28, u29, u30, u31, u32, u33, u34, u35, u36, u37, u38, u39, u40, u41, u42, u43, u44, o45, u46, u47, u48]) sg0) := List.append_nil _
    have hgo := hLL 1 (law_pure hL xs) H locs la (by rw [hW0]; exact st_world hP) hS (lv_sub hLa [1, 0] rfl)
    rw [← hΓ] at hgo ⊢
    exact hgo
  have hk := key s.heap [] _ (fun k q h => by simp at h) ⟨fun i j p q h => by simp at h, fun k q h => by simp at h⟩ (by rw [← hΓ]; exact va_S.rf) hl0
  rw [← hΓ] at hk
  exact hk
