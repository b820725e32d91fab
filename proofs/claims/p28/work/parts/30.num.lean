/-! NUMBERS: an Int32 as the image of an integer. -/
def iI (z : Int) : Int32 := Int32.ofInt z
theorem iI_toInt {z : Int} (h1 : -2147483648 ≤ z) (h2 : z < 2147483648) : (iI z).toInt = z := by
  unfold iI
  rw [Int32.toInt_ofInt]
  exact Int.bmod_eq_of_le (by have : ((Int32.size : Nat) : Int) = 4294967296 := by decide
                              omega) (by have : ((Int32.size : Nat) : Int) = 4294967296 := by decide
                                         omega)
theorem iI_of (x : Int32) : iI x.toInt = x := Int32.ofInt_toInt x
theorem iI_add (a b : Int) : iI a + iI b = iI (a + b) := (Int32.ofInt_add a b).symm
theorem iI_mul (a b : Int) : iI a * iI b = iI (a * b) := (Int32.ofInt_mul a b).symm
theorem iI_sub (a b : Int) : iI a - iI b = iI (a - b) := (Int32.ofInt_sub a b).symm
theorem iI_neg (a : Int) : - iI a = iI (-a) := (Int32.ofInt_neg a).symm
theorem nI_iI (n : Nat) : nI n = iI (n : Int) := rfl
def sm (z : Int) : Prop := -2147483648 ≤ z ∧ z < 2147483648
theorem iI_lt {a b : Int} (ha : sm a) (hb : sm b) : iI a < iI b ↔ a < b := by
  rw [Int32.lt_iff_toInt_lt, iI_toInt ha.1 ha.2, iI_toInt hb.1 hb.2]
theorem iI_le {a b : Int} (ha : sm a) (hb : sm b) : iI a ≤ iI b ↔ a ≤ b := by
  rw [Int32.le_iff_toInt_le, iI_toInt ha.1 ha.2, iI_toInt hb.1 hb.2]
theorem iI_eq {a b : Int} (ha : sm a) (hb : sm b) : iI a = iI b ↔ a = b := by
  rw [← Int32.toInt_inj, iI_toInt ha.1 ha.2, iI_toInt hb.1 hb.2]
theorem iI_div {a b : Int} (ha : sm a) (hb : sm b) (h : 0 < b) : iI a / iI b = iI (a.tdiv b) := by
  rw [← iI_of (iI a / iI b), Int32.toInt_div_of_ne_right, iI_toInt ha.1 ha.2, iI_toInt hb.1 hb.2]
  intro h2
  have h3 : (iI b).toInt = (-1 : Int32).toInt := by rw [h2]
  rw [iI_toInt hb.1 hb.2] at h3
  have h4 : (-1 : Int32).toInt = -1 := by decide
  omega
theorem inb_n {n N : Nat} (h : n < N) (hN : N < 2 ^ 31) : inb (nI n) N = true := by
  unfold inb
  rw [decide_eq_true_eq]
  exact ⟨nI_pos' (by omega), by rw [nI_clamp (by omega)]; exact h⟩
theorem ix_n {n : Nat} (h : n < 2 ^ 31) : ix (nI n) = n := nI_clamp h
theorem gd_t {α : Type} {o : Option α} : gd true o = o := rfl
theorem gd_of {α : Type} {b : Bool} {o : Option α} (h : b = true) : gd b o = o := by rw [h]; rfl
theorem in_ix (x : Int32) (n : Nat) (hn : n < 2 ^ 31) : x < 0 ∨ nI n ≤ x ∨ ∃ j : Nat, j < n ∧ x = nI j := pk_ix x hn
