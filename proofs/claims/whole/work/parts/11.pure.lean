theorem bI_0 (b : Bool) : bI b = 0 ↔ b = false := by cases b <;> decide
theorem ibN {k n : Nat} (h : k < n) (hn : n < 2 ^ 31) : ib (nI k) n = true := by
  unfold ib
  rw [nI_clamp (by omega), decide_eq_false (nI_pos (by omega)), decide_eq_false (by omega)]
  rfl
theorem gdt {α : Type} {b : Bool} {x : Option α} (h : b = true) : gd b x = x := by unfold gd; rw [if_pos h]
theorem gdN {α : Type} {k n : Nat} {x : Option α} (h : k < n) (hn : n < 2 ^ 31) : gd (ib (nI k) n) x = x := gdt (ibN h hn)
def hasN (n : Nat) (x : Int32) : Bool := decide (0 ≤ x.toInt ∧ x.toInt < n)
theorem nI_ofInt {x : Int32} (h : 0 ≤ x.toInt) : x = nI x.toInt.toNat := by
  have hlt := Int32.toInt_lt x
  apply Int32.toInt_inj.mp
  rw [nI_toInt (by omega)]
  omega
theorem hasN_of {n : Nat} {x : Int32} (h : hasN n x = true) : ∃ p, p < n ∧ x = nI p := by
  simp only [hasN, decide_eq_true_eq] at h
  exact ⟨x.toInt.toNat, by omega, nI_ofInt h.1⟩
theorem hasN_nI {n p : Nat} (h : p < n) (hn : n < 2 ^ 31) : hasN n (nI p) = true := by
  simp only [hasN, decide_eq_true_eq, nI_toInt (show p < 2 ^ 31 by omega)]
  omega
theorem isIn_eq (x a b : Int32) : fX5_isIn x a b = decide (a.toInt ≤ x.toInt ∧ x.toInt ≤ b.toInt) := by
  unfold fX5_isIn
  by_cases h1 : x < a
  · have := Int32.lt_iff_toInt_lt.mp h1
    rw [if_pos h1, decide_eq_false (by omega)]
  · rw [if_neg h1]
    have e1 : ¬ x.toInt < a.toInt := fun h => h1 (Int32.lt_iff_toInt_lt.mpr h)
    by_cases h2 : b < x
    · have := Int32.lt_iff_toInt_lt.mp h2
      rw [if_pos h2, decide_eq_false (by omega)]
    · have e2 : ¬ b.toInt < x.toInt := fun h => h2 (Int32.lt_iff_toInt_lt.mpr h)
      rw [if_neg h2, decide_eq_true (by omega)]
theorem in_eq (x a b : Int32) : fX6_in x a b = decide (a.toInt ≤ x.toInt ∧ x.toInt ≤ b.toInt) := isIn_eq x a b
theorem in_has {n : Nat} (hn : n < 2 ^ 30) (x : Int32) : fX6_in x 0 (nI n - 1) = hasN n x := by
  rw [in_eq]
  have e : (nI n - 1 : Int32).toInt = (n : Int) - 1 := pk_sub_toInt (a := n) (b := 1) (by omega) (by omega)
  rw [e]
  unfold hasN
  congr 1
  apply propext
  show (0 : Int) ≤ x.toInt ∧ x.toInt ≤ n - 1 ↔ 0 ≤ x.toInt ∧ x.toInt < n
  omega
theorem isIn_has {n : Nat} (hn : n < 2 ^ 30) (x : Int32) : fX5_isIn x 0 (nI n - 1) = hasN n x := in_has hn x
theorem in_hasL (n : Nat) (b : Int32) (hb : b.toInt = (n : Int) - 1) (x : Int32) : fX6_in x 0 b = hasN n x := by
  rw [in_eq, hb]
  unfold hasN
  congr 1
  apply propext
  show (0 : Int) ≤ x.toInt ∧ x.toInt ≤ n - 1 ↔ 0 ≤ x.toInt ∧ x.toInt < n
  omega
theorem isIn_hasL (n : Nat) (b : Int32) (hb : b.toInt = (n : Int) - 1) (x : Int32) : fX5_isIn x 0 b = hasN n x := in_hasL n b hb x
theorem hasP_eq {n : Nat} (hn : n < 2 ^ 31) (x : Int32) : fX3_hasPart (nI n) x = hasN n x := by
  unfold fX3_hasPart hasN
  by_cases h1 : x < 0
  · have h2 : x.toInt < 0 := Int32.lt_iff_toInt_lt.mp h1
    rw [if_pos h1, decide_eq_false (by omega)]
  · have h2 : ¬ x.toInt < 0 := fun h => h1 (Int32.lt_iff_toInt_lt.mpr h)
    rw [if_neg h1]
    by_cases h3 : nI n ≤ x
    · have h4 := Int32.le_iff_toInt_le.mp h3
      rw [nI_toInt hn] at h4
      rw [if_pos h3, decide_eq_false (by omega)]
    · have h4 : ¬ (nI n).toInt ≤ x.toInt := fun h => h3 (Int32.le_iff_toInt_le.mpr h)
      rw [nI_toInt hn] at h4
      rw [if_neg h3, decide_eq_true (by omega)]
theorem hasT_eq {n : Nat} (hn : n < 2 ^ 31) (x : Int32) : fX3_hasTale (nI n) x = hasN n x := hasP_eq hn x
theorem hasH_eq {n : Nat} (hn : n < 2 ^ 31) (x : Int32) : fX3_hasHearer (nI n) x = hasN n x := hasP_eq hn x
theorem upd_toF (A : Nat → Nat) (k v : Nat) : upd (toF A) k (nI v) = toF (va_up A k v) := by
  funext j
  unfold upd toF va_up
  split <;> rfl
def fn (f : Nat → Int32) (k : Nat) : Int32 × (Nat → Int32) := (-1000000001 - nI k, upd f k (f k + 1))
theorem no_0 (f : Nat → Int32) : fX6_no f 0 = some (fn f 0) := rfl
theorem no_1 (f : Nat → Int32) : fX6_no f 1 = some (fn f 1) := rfl
theorem no_2 (f : Nat → Int32) : fX6_no f 2 = some (fn f 2) := rfl
theorem no_3 (f : Nat → Int32) : fX6_no f 3 = some (fn f 3) := rfl
theorem no_4 (f : Nat → Int32) : fX6_no f 4 = some (fn f 4) := rfl
theorem no_5 (f : Nat → Int32) : fX6_no f 5 = some (fn f 5) := rfl
theorem no_6 (f : Nat → Int32) : fX6_no f 6 = some (fn f 6) := rfl
theorem fo_0 (f : Nat → Int32) : fX5_found f (-1000000001) = some (fn f 0) := rfl
theorem fo_1 (f : Nat → Int32) : fX5_found f (-1000000002) = some (fn f 1) := rfl
theorem fo_2 (f : Nat → Int32) : fX5_found f (-1000000003) = some (fn f 2) := rfl
theorem fo_3 (f : Nat → Int32) : fX5_found f (-1000000004) = some (fn f 3) := rfl
theorem fo_4 (f : Nat → Int32) : fX5_found f (-1000000005) = some (fn f 4) := rfl
theorem fo_5 (f : Nat → Int32) : fX5_found f (-1000000006) = some (fn f 5) := rfl
theorem fo_6 (f : Nat → Int32) : fX5_found f (-1000000007) = some (fn f 6) := rfl

