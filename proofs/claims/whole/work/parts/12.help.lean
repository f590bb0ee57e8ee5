theorem M_isPart {A : Nat → Nat} (h : A 1 < 2 ^ 30) (x : Int32) : fX6_isPart (toF A) x = hasN (A 1) x := in_has h x
theorem M_isTale {A : Nat → Nat} (h : A 2 < 2 ^ 30) (x : Int32) : fX6_isTale (toF A) x = some (hasN (A 2) x) := congrArg some (in_has h x)
theorem M_isHearer {A : Nat → Nat} (h : A 3 < 2 ^ 30) (x : Int32) : fX6_isHearer (toF A) x = some (hasN (A 3) x) := congrArg some (in_has h x)
theorem M_isKind (x : Int32) : fX6_isKind x = hasN 6 x := in_hasL 6 5 rfl x
theorem M_isWords (x : Int32) : fX6_isWords x = hasN 121 x := in_hasL 121 120 rfl x
theorem M_isAge (x : Int32) : fX6_isAge x = hasN 100 x := in_hasL 100 99 rfl x
theorem M_isSheet (x : Int32) : fX6_isSheet x = hasN 4 x := in_hasL 4 3 rfl x
theorem X_kind (x : Int32) : fX5_isIn x 0 5 = hasN 6 x := isIn_hasL 6 5 rfl x
theorem X_words (x : Int32) : fX5_isIn x 0 120 = hasN 121 x := isIn_hasL 121 120 rfl x
theorem X_age (x : Int32) : fX5_isIn x 0 99 = hasN 100 x := isIn_hasL 100 99 rfl x
theorem X_sheet (x : Int32) : fX5_isIn x 0 3 = hasN 4 x := isIn_hasL 4 3 rfl x
theorem toF_at (A : Nat → Nat) (k : Nat) : toF A k = nI (A k) := rfl
theorem M_hasN {A : Nat → Nat} {p w : Nat} (hp : p < 16) (hw : w < 4) : fX6_has (toF A) (nI p) (nI w) = some (nI (A (4 + 4 * p + w))) := by
  unfold fX6_has
  have e : ((4 : Int32) + (4 : Int32) * nI p) + nI w = nI (4 + 4 * p + w) := by
    show (nI 4 + nI 4 * nI p) + nI w = _
    rw [pk_mul, nI_add, nI_add]
  rw [e, gdN (by omega) (by omega), nI_clamp (by omega)]
  rfl
theorem M_has0 {A : Nat → Nat} {p : Nat} (hp : p < 16) : fX6_has (toF A) (nI p) 0 = some (nI (A (4 + 4 * p))) := M_hasN (w := 0) hp (by omega)
theorem M_has1 {A : Nat → Nat} {p : Nat} (hp : p < 16) : fX6_has (toF A) (nI p) 1 = some (nI (A (5 + 4 * p))) := by
  have h := M_hasN (A := A) (w := 1) hp (by omega)
  rw [show 4 + 4 * p + 1 = 5 + 4 * p by omega] at h
  exact h
theorem M_has2 {A : Nat → Nat} {p : Nat} (hp : p < 16) : fX6_has (toF A) (nI p) 2 = some (nI (A (6 + 4 * p))) := by
  have h := M_hasN (A := A) (w := 2) hp (by omega)
  rw [show 4 + 4 * p + 2 = 6 + 4 * p by omega] at h
  exact h
theorem M_has3 {A : Nat → Nat} {p : Nat} (hp : p < 16) : fX6_has (toF A) (nI p) 3 = some (nI (A (7 + 4 * p))) := by
  have h := M_hasN (A := A) (w := 3) hp (by omega)
  rw [show 4 + 4 * p + 3 = 7 + 4 * p by omega] at h
  exact h
theorem e_tale (t : Nat) : (68 : Int32) + (11 : Int32) * nI t = nI (68 + 11 * t) := by
  show nI 68 + nI 11 * nI t = _
  rw [pk_mul, nI_add]
theorem e_nth (t i : Nat) : (((68 : Int32) + (11 : Int32) * nI t) + 1) + nI i = nI (69 + 11 * t + i) := by
  rw [e_tale]
  show (nI (68 + 11 * t) + nI 1) + nI i = _
  rw [nI_add, nI_add]
  congr 1
  omega
theorem e_age (h : Nat) : (156 : Int32) + nI h = nI (156 + h) := nI_add 156 h
theorem e_told (t i : Nat) : nI t * (10 : Int32) + nI i = nI (10 * t + i) := by
  show nI t * nI 10 + nI i = _
  rw [pk_mul, nI_add]
  congr 1
  omega
theorem M_long {A : Nat → Nat} {t : Nat} (ht : t < 8) : fX6_long_ (toF A) (nI t) = some (nI (A (68 + 11 * t))) := by
  unfold fX6_long_
  rw [e_tale, gdN (by omega) (by omega), nI_clamp (by omega)]
  rfl
theorem M_nth {A : Nat → Nat} {t i : Nat} (ht : t < 8) (hi : i < 10) : fX6_nth (toF A) (nI t) (nI i) = some (nI (A (69 + 11 * t + i))) := by
  unfold fX6_nth
  rw [e_nth, gdN (by omega) (by omega), nI_clamp (by omega)]
  rfl
theorem M_puts {A : Nat → Nat} {k v : Nat} (hk : k < 166) : fX6_puts (toF A) (nI k) (nI v) = some (nI (A k), toF (va_up A k v)) := by
  unfold fX6_puts
  rw [gdN (by omega) (by omega), gdN (by omega) (by omega), nI_clamp (by omega), upd_toF]
  rfl
theorem M_areTold {A : Nat → Nat} (h2 : A 2 < 2 ^ 30) (h3 : A 3 < 2 ^ 30) (x y : Int32) : fX6_areTold (toF A) x y = some (hasN (A 2) x && hasN (A 3) y) := by
  unfold fX6_areTold
  rw [M_isTale h2]
  show (if bI (hasN (A 2) x) = 0 then some false else (fX6_isHearer (toF A) y).bind fun q10 => if (bI q10) = 0 then some false else some true) = _
  rw [M_isHearer h3]
  cases hasN (A 2) x <;> cases hasN (A 3) y <;> rfl
theorem va_up_s {α : Type} (f : Nat → α) (k : Nat) (v : α) : va_up f k v k = v := va_up_self f k v
/-- a stock's words under one name -/
theorem stk_part {A : Nat → Nat} {par : Int32} {kin lea mos wrt : Nat → Int32} {tal : Int32} {siz tol : Nat → Int32} {hrs : Int32} {ags : Nat → Int32} {yea : Int32} (hs : stk A par kin lea mos wrt tal siz tol hrs ags yea) {p : Nat} (hp : p < A 1) : kin p = nI (A (4 + 4 * p)) ∧ lea p = nI (A (5 + 4 * p)) ∧ mos p = nI (A (6 + 4 * p)) ∧ wrt p = nI (A (7 + 4 * p)) := hs.2.1 p hp

