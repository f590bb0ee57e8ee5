def isLenN (k a b n : Nat) : Bool := if k = 0 then n == a else if k = 1 then decide (a ≤ n) && decide (n ≤ b) else if k = 2 then (n == 0 || n == a) else if k = 3 then (decide (a ≤ n) && decide (n ≤ b)) && ((n - a) % 2 == 0) else if k = 4 then (decide (a ≤ n) && decide (n ≤ b)) || ((n % 2 == 0) && (decide (a ≤ n / 2) && decide (n / 2 ≤ b))) else decide (n ≤ b)
def lsetUp (k a b : Nat) : Nat → Nat
  | 0 => 0
  | n + 1 => lsetUp k a b n + if isLenN k a b n = true then 2 ^ n else 0
def lset (k a b : Nat) : Nat := lsetUp k a b 25
theorem lsetUp_lt (k a b : Nat) : ∀ n, lsetUp k a b n < 2 ^ n
  | 0 => by simp [lsetUp]
  | n + 1 => by
    have h := lsetUp_lt k a b n
    simp only [lsetUp]
    split <;> omega
def lenXo (k a b : Int32) : Option Int32 := if k = 0 then some ((1 : Int32) <<< (a &&& 31)) else if k = 1 then some (fX3_fromTo a b) else if k = 2 then some ((1 : Int32) ||| ((1 : Int32) <<< (a &&& 31))) else if k = 3 then some ((fX3_fromTo a b) &&& ((22369621 : Int32) <<< (a &&& 31))) else if k = 4 then some ((fX3_fromTo a b) ||| ((fX3_fromTo ((2 : Int32) * a) ((2 : Int32) * b)) &&& (22369621 : Int32))) else some (fX3_fromTo (0 : Int32) b)
theorem impB {a b : Nat} {P : Prop} [Decidable P] (h : (!(decide (1 ≤ a) && decide (a ≤ b)) || decide P) = true) (h1 : 1 ≤ a) (h2 : a ≤ b) : P := by
  rw [decide_eq_true h1, decide_eq_true h2] at h
  exact of_decide_eq_true h
set_option maxRecDepth 100000 in
theorem lenX_ok : ∀ k, k < 6 → ∀ a, a < 13 → ∀ b, b < 13 → (!(decide (1 ≤ a) && decide (a ≤ b)) || decide (lenXo (nI k) (nI a) (nI b) = some (nI (lset k a b)))) = true := by decide +kernel
def lenMo (k a b n : Int32) : Option Bool := if k = 0 then if n = a then some true else some false else if k = 1 then some (fX6_isBetween n a b) else if k = 2 then if n = 0 then some true else if n = a then some true else some false else if k = 3 then if (bI (fX6_isBetween n a b)) = 0 then some false else if ((n - a) - (n - a) / (2 : Int32) * (2 : Int32)) = 0 then some true else some false else if k = 4 then if (bI (fX6_isBetween n a b)) = 0 then if (n - n / (2 : Int32) * (2 : Int32)) = 0 then if (bI (fX6_isBetween (n / (2 : Int32)) a b)) = 0 then some false else some true else some false else some true else some (fX6_isBetween n (0 : Int32) b)
set_option maxRecDepth 100000 in
theorem lenM_ok : ∀ k, k < 6 → ∀ a, a < 13 → ∀ b, b < 13 → ∀ n, n < 25 → (!(decide (1 ≤ a) && decide (a ≤ b)) || decide (lenMo (nI k) (nI a) (nI b) (nI n) = some (isLenN k a b n))) = true := by decide +kernel
set_option maxRecDepth 100000 in
theorem bit_ok : ∀ k, k < 6 → ∀ a, a < 13 → ∀ b, b < 13 → ∀ l, l < 25 → (!(decide (1 ≤ a) && decide (a ≤ b)) || decide (decide (((nI (lset k a b) >>> (nI l &&& 31)) &&& 1) = 1) = isLenN k a b l)) = true := by decide +kernel
theorem shl1 : ∀ n, n < 31 → (1 : Int32) <<< (nI n &&& 31) = nI (2 ^ n) := by decide +kernel
/-- LENGTHS of a part -/
def lenA (A : Nat → Nat) (p n : Nat) : Bool := isLenN (A (4 + 4 * p)) (A (5 + 4 * p)) (A (6 + 4 * p)) n
def lsA (A : Nat → Nat) (p : Nat) : Nat := lset (A (4 + 4 * p)) (A (5 + 4 * p)) (A (6 + 4 * p))
theorem X_len {A : Nat → Nat} (hw : wfA A) {par : Int32} {kin lea mos wrt : Nat → Int32} {tal : Int32} {siz tol : Nat → Int32} {hrs : Int32} {ags : Nat → Int32} {yea : Int32} (hs : stk A par kin lea mos wrt tal siz tol hrs ags yea) {p : Nat} (hp : p < A 1) : fX3_lengthsOf kin lea mos (nI p) = some (nI (lsA A p)) := by
  obtain ⟨hy, h1, h2, h3, hpp, htt, hhh⟩ := hw
  obtain ⟨e1, e2, e3, e4⟩ := hs.2.1 p hp
  obtain ⟨g1, g2, g3, g4, g5⟩ := hpp p hp
  unfold fX3_lengthsOf
  rw [gdN (by omega) (by omega), gdN (by omega) (by omega), gdN (by omega) (by omega), nI_clamp (by omega), e1, e2, e3]
  exact impB (lenX_ok _ g1 _ (by omega) _ (by omega)) g2 g3
theorem M_len {A : Nat → Nat} (hw : wfA A) {p n : Nat} (hp : p < A 1) (hn : n < 25) : fX6_isLength (toF A) (nI p) (nI n) = some (lenA A p n) := by
  obtain ⟨hy, h1, h2, h3, hpp, htt, hhh⟩ := hw
  obtain ⟨g1, g2, g3, g4, g5⟩ := hpp p hp
  unfold fX6_isLength
  rw [M_has1 (by omega), Option.bind_some, M_has2 (by omega), Option.bind_some, M_has0 (by omega), Option.bind_some]
  exact impB (lenM_ok _ g1 _ (by omega) _ (by omega) _ hn) g2 g3
theorem bitA {A : Nat → Nat} (hw : wfA A) {p l : Nat} (hp : p < A 1) (hl : l < 25) : (((nI (lsA A p) >>> (nI l &&& 31)) &&& 1) = 1) ↔ lenA A p l = true := by
  obtain ⟨hy, h1, h2, h3, hpp, htt, hhh⟩ := hw
  obtain ⟨g1, g2, g3, g4, g5⟩ := hpp p hp
  have h := impB (bit_ok _ g1 _ (show A (5 + 4 * p) < 13 by omega) _ (show A (6 + 4 * p) < 13 by omega) l hl) g2 g3
  show ((nI (lset _ _ _) >>> (nI l &&& 31)) &&& 1) = 1 ↔ isLenN _ _ _ l = true
  rw [← h, decide_eq_true_eq]
theorem orN (a b : Nat) : nI a ||| nI b = nI (a ||| b) := by
  apply Int32.toBitVec_inj.1
  show BitVec.ofNat 32 a ||| BitVec.ofNat 32 b = BitVec.ofNat 32 (a ||| b)
  apply BitVec.eq_of_getLsbD_eq
  intro i hi
  simp [hi]
theorem or_sum {a k : Nat} (h : a < 2 ^ k) : nI a ||| nI (2 ^ k) = nI (a + 2 ^ k) := by
  rw [orN, Nat.or_comm]
  have h2 := Nat.two_pow_add_eq_or_of_lt h 1
  rw [Nat.mul_one] at h2
  rw [← h2, Nat.add_comm]
theorem M_lengths {A : Nat → Nat} (hw : wfA A) {p : Nat} (hp : p < A 1) : fX6_lengths (toF A) (nI p) = some (nI (lsA A p)) := by
  unfold fX6_lengths
  refine up2 25 (fun i x2 x3 => x2 = nI (lsetUp (A (4 + 4 * p)) (A (5 + 4 * p)) (A (6 + 4 * p)) i) ∧ x3 = nI i) ?_ ?_ 2000 0 0 0 (by omega) (by omega) ⟨rfl, rfl⟩
  · rintro K x2 x3 ⟨rfl, rfl⟩
    unfold fX6_lengths_l4
    rw [if_pos (by decide)]
    rfl
  · rintro K i x2 x3 hi ⟨rfl, rfl⟩
    right
    refine ⟨_, nI (i + 1), ?_, rfl, rfl⟩
    unfold fX6_lengths_l4
    rw [if_neg (show ¬ (25 : Int32) ≤ nI i from nI_ge (a := i) (b := 25) hi (by omega)), M_len hw hp hi, Option.bind_some]
    have hlt := lsetUp_lt (A (4 + 4 * p)) (A (5 + 4 * p)) (A (6 + 4 * p)) i
    have e1 : nI i + 1 = nI (i + 1) := nI_1 i
    by_cases c : lenA A p i = true
    · have c2 : isLenN (A (4 + 4 * p)) (A (5 + 4 * p)) (A (6 + 4 * p)) i = true := c
      rw [c]
      show fX6_lengths_b27 K (nI i) _ _ = _
      unfold fX6_lengths_b27
      rw [shl1 i (by omega), or_sum hlt, e1]
      simp only [lsetUp, c2, if_true]
    · have c2 : ¬ isLenN (A (4 + 4 * p)) (A (5 + 4 * p)) (A (6 + 4 * p)) i = true := c
      rw [Bool.not_eq_true] at c
      rw [c]
      show fX6_lengths_b27 K (nI i) _ _ = _
      unfold fX6_lengths_b27
      rw [Int32.or_zero, e1]
      simp only [lsetUp, c2, Bool.false_eq_true, if_false, Nat.add_zero]
def iI (z : Int) : Int32 := Int32.ofInt z
def vI (k b w n : Nat) : Int := if k = 0 then w else if k = 1 then w * n else if k = 2 then (if n = 0 then 0 else w) else if k = 3 then w * n + 5 else if k = 4 then (if b < n then w * (n / 2 : Nat) else w * n) else -(n : Int)
def valXo (k b w n : Int32) : Option Int32 := if k = 0 then some w else if k = 1 then some (w * n) else if k = 2 then if n ≤ 0 then some (0 : Int32) else some w else if k = 3 then some ((w * n) + (5 : Int32)) else if k = 4 then (if n ≤ b then fX3_valueOf_b88 w n else fX3_valueOf_b88 w (n / (2 : Int32))) else some (-n)
set_option maxRecDepth 100000 in
theorem valX_ok : ∀ k, k < 6 → ∀ b, b < 13 → ∀ w, w < 10 → ∀ n, n < 25 → valXo (nI k) (nI b) (nI w) (nI n) = some (iI (vI k b w n)) := by decide +kernel
def vA (A : Nat → Nat) (p n : Nat) : Int := vI (A (4 + 4 * p)) (A (6 + 4 * p)) (A (7 + 4 * p)) n
theorem X_val {A : Nat → Nat} (hw : wfA A) {par : Int32} {kin lea mos wrt : Nat → Int32} {tal : Int32} {siz tol : Nat → Int32} {hrs : Int32} {ags : Nat → Int32} {yea : Int32} (hs : stk A par kin lea mos wrt tal siz tol hrs ags yea) {p n : Nat} (hp : p < A 1) (hn : n < 25) : fX3_valueOf kin mos wrt (nI p) (nI n) = some (iI (vA A p n)) := by
  obtain ⟨hy, h1, h2, h3, hpp, htt, hhh⟩ := hw
  obtain ⟨e1, e2, e3, e4⟩ := hs.2.1 p hp
  obtain ⟨g1, g2, g3, g4, g5⟩ := hpp p hp
  unfold fX3_valueOf
  simp only [gdN (show p < 16 by omega) (show 16 < 2 ^ 31 by omega), nI_clamp (show p < 2 ^ 31 by omega), e1, e3, e4]
  exact valX_ok _ g1 _ (by omega) _ (by omega) _ hn
theorem M_val {A : Nat → Nat} (hw : wfA A) {p n : Nat} (hp : p < A 1) (hn : n < 25) : fX6_valued (toF A) (nI p) (nI n) = some (iI (vA A p n)) := by
  obtain ⟨hy, h1, h2, h3, hpp, htt, hhh⟩ := hw
  obtain ⟨g1, g2, g3, g4, g5⟩ := hpp p hp
  unfold fX6_valued
  simp only [M_has3 (A := A) (show p < 16 by omega), M_has0 (A := A) (show p < 16 by omega), M_has2 (A := A) (show p < 16 by omega), Option.bind_some]
  exact valX_ok _ g1 _ (show A (6 + 4 * p) < 13 by omega) _ (by omega) _ hn
theorem vA_lo {A : Nat → Nat} (hw : wfA A) {p n : Nat} (hp : p < A 1) (hn : n < 25) : -24 ≤ vA A p n ∧ vA A p n ≤ 221 := by
  obtain ⟨hy, h1, h2, h3, hpp, htt, hhh⟩ := hw
  obtain ⟨g1, g2, g3, g4, g5⟩ := hpp p hp
  have key : ∀ k, k < 6 → ∀ b, b < 13 → ∀ w, w < 10 → ∀ n, n < 25 → -24 ≤ vI k b w n ∧ vI k b w n ≤ 221 := by decide +kernel
  exact key _ g1 _ (by omega) _ (by omega) _ hn
theorem under_ok : ∀ k, k < 6 → ∀ j, j < 6 → fX5_isUnder (nI k) (nI j) = some (fX6_isUnder (nI k) (nI j)) := by decide +kernel
theorem lgc_lt (x y : Int64) : lg_cmp x y < 0 ↔ x < y := by
  unfold lg_cmp
  by_cases h1 : x > y
  · rw [if_pos h1]; exact ⟨fun h => absurd h (by decide), fun h => absurd h (by have := Int64.lt_iff_toInt_lt.mp h1; intro h2; have := Int64.lt_iff_toInt_lt.mp h2; omega)⟩
  · rw [if_neg h1]
    by_cases h2 : x = y
    · rw [if_pos h2]; exact ⟨fun h => absurd h (by decide), fun h => absurd h (by rw [h2]; exact Int64.lt_irrefl)⟩
    · rw [if_neg h2]
      refine ⟨fun _ => ?_, fun _ => by decide⟩
      apply Int64.lt_iff_toInt_lt.mpr
      have e1 : ¬ y.toInt < x.toInt := fun h => h1 (Int64.lt_iff_toInt_lt.mpr h)
      have e2 : x.toInt ≠ y.toInt := fun h => h2 (Int64.toInt_inj.mp h)
      omega
theorem lgc_gt (x y : Int64) : 0 < lg_cmp x y ↔ y < x := by
  unfold lg_cmp
  by_cases h1 : x > y
  · rw [if_pos h1]; exact ⟨fun _ => h1, fun _ => by decide⟩
  · rw [if_neg h1]
    by_cases h2 : x = y
    · rw [if_pos h2]; exact ⟨fun h => absurd h (by decide), fun h => absurd h h1⟩
    · rw [if_neg h2]; exact ⟨fun h => absurd h (by decide), fun h => absurd h h1⟩
theorem lgc_eq (x y : Int64) : lg_cmp x y = 0 ↔ x = y := by
  unfold lg_cmp
  by_cases h1 : x > y
  · rw [if_pos h1]; exact ⟨fun h => absurd h (by decide), fun h => absurd h1 (by rw [h]; exact Int64.lt_irrefl)⟩
  · rw [if_neg h1]
    by_cases h2 : x = y
    · rw [if_pos h2]; exact ⟨fun _ => h2, fun _ => rfl⟩
    · rw [if_neg h2]; exact ⟨fun h => absurd h (by decide), fun h => absurd h h2⟩
theorem isLen64 (m : Int32) (v : Int64) : fX5_isLength m v = (decide (0 ≤ v.toInt ∧ v.toInt ≤ 24) && decide (((m >>> (v.toInt32 &&& 31)) &&& 1) = 1)) := by
  unfold fX5_isLength
  by_cases h1 : v < 0
  · have e : v.toInt < 0 := Int64.lt_iff_toInt_lt.mp h1
    rw [if_pos ((lgc_lt _ _).mpr h1), decide_eq_false (show ¬ (0 ≤ v.toInt ∧ v.toInt ≤ 24) by omega), Bool.false_and]
  · have e : ¬ v.toInt < 0 := fun h => h1 (Int64.lt_iff_toInt_lt.mpr h)
    rw [if_neg (fun h => h1 ((lgc_lt _ _).mp h))]
    by_cases h2 : (24 : Int64) < v
    · have e2 : (24 : Int) < v.toInt := Int64.lt_iff_toInt_lt.mp h2
      rw [if_pos ((lgc_gt _ _).mpr h2), decide_eq_false (show ¬ (0 ≤ v.toInt ∧ v.toInt ≤ 24) by omega), Bool.false_and]
    · have e2 : ¬ (24 : Int) < v.toInt := fun h => h2 (Int64.lt_iff_toInt_lt.mpr h)
      rw [if_neg (fun h => h2 ((lgc_gt _ _).mp h)), decide_eq_true (show (0 ≤ v.toInt ∧ v.toInt ≤ 24) by omega), Bool.true_and]
      by_cases h3 : ((m >>> (v.toInt32 &&& 31)) &&& 1) = 1
      · rw [if_pos h3, decide_eq_true h3]
      · rw [if_neg h3, decide_eq_false h3]

