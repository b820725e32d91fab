/-! THE SYSTEM M (the reference): cell 0 the object, 1 now, 2 history, 3 slot, 4 text, 5 readPaper. Scalars: 0 kept, 1 isFilled, 2 seenM, 3 seenR, 4 seenLine, 5 seenFar, 6 seenK, 7 seenMany, 8 typed, 9 at, 10 readMany. Rows: 0 now, 1 history, 2 slot, 3 text, 4 readPaper. -/
abbrev fsM (ad : Nat → Nat) (σ : Sg) : List Value := [Value.ref (ad 1), .ref (ad 2), .int (σ.1 0), .ref (ad 3), .int (σ.1 1), .int (σ.1 2), .int (σ.1 3), .int (σ.1 4), .int (σ.1 5), .int (σ.1 6), .int (σ.1 7), .int (σ.1 8), .ref (ad 4), .int (σ.1 9), .int (σ.1 10), .ref (ad 5)]
def cellM (cls : Cls) (ad : Nat → Nat) (σ : Sg) (k : Nat) : va_E :=
  if k = 0 then .inr (5, fsM ad σ)
  else if k = 1 then .inl (cls.1, 624, .inl (σ.2 0))
  else if k = 2 then .inl (cls.1, 2496, .inl (σ.2 1))
  else if k = 3 then .inl (cls.1, 624, .inl (σ.2 2))
  else if k = 4 then .inl (cls.2.1, 60, .inl (σ.2 3))
  else .inl (cls.1, 36, .inl (σ.2 4))
def YM (G : va_G) (cls : Cls) (ad : Nat → Nat) : Sys Sg := (G, (fun σ => mkw 6 ad (cellM cls ad σ)), AX 6 ad, tyO cls)
section SYSM
variable {G : va_G} {cls : Cls} {ad : Nat → Nat} {σ : Sg}
theorem YM_D (hi : inj 6 ad) : ∀ σ, va_D (YM G cls ad).2.2.1 ((YM G cls ad).2.1 σ) := fun _ => mkw_D hi
theorem wM {k : Nat} {e : va_E} (hk : k < 6) (he : cellM cls ad σ k = e) : ((YM G cls ad).2.1 σ)[k]? = some (ad k, e) := by
  rw [← he]; exact mkw_at hk
theorem cM_ob : cellM cls ad σ 0 = .inr (5, fsM ad σ) := rfl
theorem cM_keep {σ' : Sg} {k : Nat} (ha : k = 0 → σ'.1 = σ.1) (hb : ∀ j, k = j + 1 → σ'.2 j = σ.2 j) (hk : k < 6) : cellM cls ad σ' k = cellM cls ad σ k := by
  match k, hk with
  | 0, _ => unfold cellM fsM; rw [ha rfl]; rfl
  | 1, _ => unfold cellM; simp [hb 0 rfl]
  | 2, _ => unfold cellM; simp [hb 1 rfl]
  | 3, _ => unfold cellM; simp [hb 2 rfl]
  | 4, _ => unfold cellM; simp [hb 3 rfl]
  | 5, _ => unfold cellM; simp [hb 4 rfl]
theorem sM_kept (v : Int32) : ((YM G cls ad).2.1 σ).set 0 (ad 0, .inr (5, (fsM ad σ).set 2 (.int v))) = (YM G cls ad).2.1 (s1 σ 0 v) := by
  refine mkw_set (by omega) ?_ (fun j hj hne => cM_keep (fun h => absurd h hne) (fun _ _ => rfl) hj)
  rw [cM_ob]
  simp [fsM, s1, upd]
theorem sM_isFilled (v : Int32) : ((YM G cls ad).2.1 σ).set 0 (ad 0, .inr (5, (fsM ad σ).set 4 (.int v))) = (YM G cls ad).2.1 (s1 σ 1 v) := by
  refine mkw_set (by omega) ?_ (fun j hj hne => cM_keep (fun h => absurd h hne) (fun _ _ => rfl) hj)
  rw [cM_ob]
  simp [fsM, s1, upd]
theorem sM_seenM (v : Int32) : ((YM G cls ad).2.1 σ).set 0 (ad 0, .inr (5, (fsM ad σ).set 5 (.int v))) = (YM G cls ad).2.1 (s1 σ 2 v) := by
  refine mkw_set (by omega) ?_ (fun j hj hne => cM_keep (fun h => absurd h hne) (fun _ _ => rfl) hj)
  rw [cM_ob]
  simp [fsM, s1, upd]
theorem sM_seenR (v : Int32) : ((YM G cls ad).2.1 σ).set 0 (ad 0, .inr (5, (fsM ad σ).set 6 (.int v))) = (YM G cls ad).2.1 (s1 σ 3 v) := by
  refine mkw_set (by omega) ?_ (fun j hj hne => cM_keep (fun h => absurd h hne) (fun _ _ => rfl) hj)
  rw [cM_ob]
  simp [fsM, s1, upd]
theorem sM_seenLine (v : Int32) : ((YM G cls ad).2.1 σ).set 0 (ad 0, .inr (5, (fsM ad σ).set 7 (.int v))) = (YM G cls ad).2.1 (s1 σ 4 v) := by
  refine mkw_set (by omega) ?_ (fun j hj hne => cM_keep (fun h => absurd h hne) (fun _ _ => rfl) hj)
  rw [cM_ob]
  simp [fsM, s1, upd]
theorem sM_seenFar (v : Int32) : ((YM G cls ad).2.1 σ).set 0 (ad 0, .inr (5, (fsM ad σ).set 8 (.int v))) = (YM G cls ad).2.1 (s1 σ 5 v) := by
  refine mkw_set (by omega) ?_ (fun j hj hne => cM_keep (fun h => absurd h hne) (fun _ _ => rfl) hj)
  rw [cM_ob]
  simp [fsM, s1, upd]
theorem sM_seenK (v : Int32) : ((YM G cls ad).2.1 σ).set 0 (ad 0, .inr (5, (fsM ad σ).set 9 (.int v))) = (YM G cls ad).2.1 (s1 σ 6 v) := by
  refine mkw_set (by omega) ?_ (fun j hj hne => cM_keep (fun h => absurd h hne) (fun _ _ => rfl) hj)
  rw [cM_ob]
  simp [fsM, s1, upd]
theorem sM_seenMany (v : Int32) : ((YM G cls ad).2.1 σ).set 0 (ad 0, .inr (5, (fsM ad σ).set 10 (.int v))) = (YM G cls ad).2.1 (s1 σ 7 v) := by
  refine mkw_set (by omega) ?_ (fun j hj hne => cM_keep (fun h => absurd h hne) (fun _ _ => rfl) hj)
  rw [cM_ob]
  simp [fsM, s1, upd]
theorem sM_typed (v : Int32) : ((YM G cls ad).2.1 σ).set 0 (ad 0, .inr (5, (fsM ad σ).set 11 (.int v))) = (YM G cls ad).2.1 (s1 σ 8 v) := by
  refine mkw_set (by omega) ?_ (fun j hj hne => cM_keep (fun h => absurd h hne) (fun _ _ => rfl) hj)
  rw [cM_ob]
  simp [fsM, s1, upd]
theorem sM_at (v : Int32) : ((YM G cls ad).2.1 σ).set 0 (ad 0, .inr (5, (fsM ad σ).set 13 (.int v))) = (YM G cls ad).2.1 (s1 σ 9 v) := by
  refine mkw_set (by omega) ?_ (fun j hj hne => cM_keep (fun h => absurd h hne) (fun _ _ => rfl) hj)
  rw [cM_ob]
  simp [fsM, s1, upd]
theorem sM_readMany (v : Int32) : ((YM G cls ad).2.1 σ).set 0 (ad 0, .inr (5, (fsM ad σ).set 14 (.int v))) = (YM G cls ad).2.1 (s1 σ 10 v) := by
  refine mkw_set (by omega) ?_ (fun j hj hne => cM_keep (fun h => absurd h hne) (fun _ _ => rfl) hj)
  rw [cM_ob]
  simp [fsM, s1, upd]
theorem cM_now : cellM cls ad σ 1 = .inl (cls.1, 624, .inl (σ.2 0)) := rfl
theorem aM_now (f : Nat → Int32) : ((YM G cls ad).2.1 σ).set 1 (ad 1, .inl (cls.1, 624, .inl f)) = (YM G cls ad).2.1 (s2 σ 0 f) := by
  refine mkw_set (by omega) ?_ (fun j hj hne => cM_keep (fun h => rfl) (fun i h => s2_ne (by omega)) hj)
  rw [cM_now]
  rw [s2_self]
theorem cM_history : cellM cls ad σ 2 = .inl (cls.1, 2496, .inl (σ.2 1)) := rfl
theorem aM_history (f : Nat → Int32) : ((YM G cls ad).2.1 σ).set 2 (ad 2, .inl (cls.1, 2496, .inl f)) = (YM G cls ad).2.1 (s2 σ 1 f) := by
  refine mkw_set (by omega) ?_ (fun j hj hne => cM_keep (fun h => rfl) (fun i h => s2_ne (by omega)) hj)
  rw [cM_history]
  rw [s2_self]
theorem cM_slot : cellM cls ad σ 3 = .inl (cls.1, 624, .inl (σ.2 2)) := rfl
theorem aM_slot (f : Nat → Int32) : ((YM G cls ad).2.1 σ).set 3 (ad 3, .inl (cls.1, 624, .inl f)) = (YM G cls ad).2.1 (s2 σ 2 f) := by
  refine mkw_set (by omega) ?_ (fun j hj hne => cM_keep (fun h => rfl) (fun i h => s2_ne (by omega)) hj)
  rw [cM_slot]
  rw [s2_self]
theorem cM_text : cellM cls ad σ 4 = .inl (cls.2.1, 60, .inl (σ.2 3)) := rfl
theorem aM_text (f : Nat → Int32) : ((YM G cls ad).2.1 σ).set 4 (ad 4, .inl (cls.2.1, 60, .inl f)) = (YM G cls ad).2.1 (s2 σ 3 f) := by
  refine mkw_set (by omega) ?_ (fun j hj hne => cM_keep (fun h => rfl) (fun i h => s2_ne (by omega)) hj)
  rw [cM_text]
  rw [s2_self]
theorem cM_readPaper : cellM cls ad σ 5 = .inl (cls.1, 36, .inl (σ.2 4)) := rfl
theorem aM_readPaper (f : Nat → Int32) : ((YM G cls ad).2.1 σ).set 5 (ad 5, .inl (cls.1, 36, .inl f)) = (YM G cls ad).2.1 (s2 σ 4 f) := by
  refine mkw_set (by omega) ?_ (fun j hj hne => cM_keep (fun h => rfl) (fun i h => s2_ne (by omega)) hj)
  rw [cM_readPaper]
  rw [s2_self]
end SYSM
