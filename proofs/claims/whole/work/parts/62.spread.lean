theorem X_sayT {A : Nat → Nat} (hw : wfA A) {par : Int32} {kin lea mos wrt : Nat → Int32} {tal : Int32} {siz tol : Nat → Int32} {hrs : Int32} {ags : Nat → Int32} {yea : Int32} (hs : stk A par kin lea mos wrt tal siz tol hrs ags yea) {t : Nat} (ht : t < A 2) (low hig : Nat → Int64) (spn : Int32) : ∃ lo hi, fX1_spanWords kin lea mos siz tol low hig spn (nI t) = some (lo, hi, nI (A (68 + 11 * t))) ∧ fX1_sayableTo (nI (A 3)) ags lo hi (nI (A (68 + 11 * t))) = some (toB (fun h => R A t (A (156 + h))) (A 3)) := by
  obtain ⟨lo, hi, ex, hsp2⟩ := X_spanWords hw hs ht low hig spn
  have h3 := hw.2.2.2.1
  have h10 := (hw.2.2.2.2.2.1 t ht).1
  have hhh := hw.2.2.2.2.2.2
  have hsa := hs.2.2.2.2.2.1
  refine ⟨lo, hi, ex, ?_⟩
  unfold fX1_sayableTo
  refine up2 (A 3) (fun i x1 x2 => x1 = toB (fun h => R A t (A (156 + h))) i ∧ x2 = nI i) ?_ ?_ 2000 0 _ _ (by omega) (by omega) ⟨rfl, rfl⟩
  · rintro K x1 x2 ⟨rfl, rfl⟩
    unfold fX1_sayableTo_l4
    rw [if_pos (nI_le (Nat.le_refl _) (by omega))]
  · rintro K i x1 x2 hi2 ⟨rfl, rfl⟩
    right
    have ha := hhh i hi2
    refine ⟨_, nI (i + 1), ?_, rfl, rfl⟩
    unfold fX1_sayableTo_l4
    rw [if_neg (nI_ge hi2 (by omega)), gdN (by omega) (by omega), nI_clamp (by omega), hsa i hi2, X_canBe h10 (by omega) hsp2, Option.bind_some]
    unfold fX1_sayableTo_b37
    by_cases d : rc (LA A t) (A (68 + 11 * t)) (A (156 + i)) = true
    · rw [d, if0t, toB_t (P := fun h => R A t (A (156 + h))) d, nI_1]
    · rw [nT d, if0f, toB_f (P := fun h => R A t (A (156 + h))) (nT d), nI_1]
theorem M_toWhom {A : Nat → Nat} (hw : wfA A) {t : Nat} (ht : t < A 2) (man nex : Nat → Int64) : ∃ m2 n2, fX6_toWhom (toF A) man nex (nI t) = some (toB (fun h => R A t (A (156 + h))) (A 3), m2, n2) := by
  obtain ⟨m2, n2, em, hv⟩ := M_counts hw ht (Nat.le_refl _) man nex
  have h3 := hw.2.2.2.1
  have h8 : t < 8 := by have := hw.2.2.1; omega
  have h10 := (hw.2.2.2.2.2.1 t ht).1
  have hhh := hw.2.2.2.2.2.2
  refine ⟨m2, n2, ?_⟩
  unfold fX6_toWhom
  rw [M_long h8, Option.bind_some, em, Option.bind_some]
  show fix2 (fX6_toWhom_l14 (toF A) m2 n2) 2000 0 0 = _
  refine up2 (A 3) (fun i x1 x2 => x1 = toB (fun h => R A t (A (156 + h))) i ∧ x2 = nI i) ?_ ?_ 2000 0 _ _ (by omega) (by omega) ⟨rfl, rfl⟩
  · rintro K x1 x2 ⟨rfl, rfl⟩
    unfold fX6_toWhom_l14
    rw [if_pos (show toF A (3 : Int32).toNatClampNeg ≤ nI (A 3) from nI_le (Nat.le_refl _) (by omega))]
  · rintro K i x1 x2 hi2 ⟨rfl, rfl⟩
    right
    have ha := hhh i hi2
    refine ⟨_, nI (i + 1), ?_, rfl, rfl⟩
    unfold fX6_toWhom_l14
    rw [if_neg (show ¬ toF A (3 : Int32).toNatClampNeg ≤ nI i from nI_ge (b := A 3) hi2 (by omega)), e_age, gdN (by omega) (by omega), nI_clamp (show 156 + i < 2 ^ 31 by omega), toF_at, gdN (by omega) (by omega), nI_clamp (by omega), hv _ (by omega)]
    unfold fX6_toWhom_b52
    by_cases d : rc (LA A t) (A (68 + 11 * t)) (A (156 + i)) = true
    · rw [if_neg (fun q => by rw [(lg_le0 h10).mp q] at d; cases d), toB_t (P := fun h => R A t (A (156 + h))) d, nI_1]
    · rw [if_pos ((lg_le0 h10).mpr (nT d)), toB_f0 (P := fun h => R A t (A (156 + h))) (nT d), nI_1]
theorem bsb (x : Int32) {j : Nat} (hj : j < 10) : ((x >>> (nI j &&& 31)) &&& (1 : Int32)) = 1 ↔ x.toBitVec.getLsbD j = true := by
  have a2 : ∀ j, j < 10 → (nI j &&& 31).toBitVec.smod 32 = BitVec.ofNat 32 j := by decide +kernel
  have e1 : ∀ i, i < 32 → (1 : Int32).toBitVec.getLsbD i = decide (i = 0) := by decide +kernel
  have ej : (BitVec.ofNat 32 j).toNat = j := by rw [BitVec.toNat_ofNat]; omega
  have eb : ((x >>> (nI j &&& 31)) &&& (1 : Int32)).toBitVec = (BitVec.sshiftRight' x.toBitVec (BitVec.ofNat 32 j)) &&& (1 : Int32).toBitVec := by
    show (BitVec.sshiftRight' x.toBitVec ((nI j &&& 31).toBitVec.smod 32)) &&& (1 : Int32).toBitVec = _
    rw [a2 j hj]
  have e0 : (BitVec.sshiftRight' x.toBitVec (BitVec.ofNat 32 j)).getLsbD 0 = x.toBitVec.getLsbD j := by
    unfold BitVec.sshiftRight'
    rw [BitVec.getLsbD_sshiftRight, ej]
    simp [show j < 32 by omega]
  constructor
  · intro h
    have h2 : ((x >>> (nI j &&& 31)) &&& (1 : Int32)).toBitVec.getLsbD 0 = true := by rw [h]; decide
    rw [eb, BitVec.getLsbD_and, e0, e1 0 (by omega)] at h2
    simpa using h2
  · intro h
    apply Int32.toBitVec_inj.1
    rw [eb]
    apply BitVec.eq_of_getLsbD_eq
    intro i hi
    rw [BitVec.getLsbD_and, e1 i hi]
    by_cases q : i = 0
    · subst q
      rw [e0, h]
      rfl
    · rw [decide_eq_false q, Bool.and_false]
theorem toB_bit (P : Nat → Bool) : ∀ n, n ≤ 10 → ∀ j, (toB P n).toBitVec.getLsbD j = (decide (j < n) && P j)
  | 0, _, j => by
    show (BitVec.ofNat 32 0).getLsbD j = _
    simp
  | n + 1, hn, j => by
    have ih := toB_bit P n (by omega) j
    have a1 : ∀ h, h < 10 → ((1 : Int32) <<< (nI h &&& 31)).toBitVec = BitVec.twoPow 32 h := by decide +kernel
    rw [toB]
    by_cases c : P n = true
    · rw [if_pos c]
      show ((toB P n).toBitVec ||| ((1 : Int32) <<< (nI n &&& 31)).toBitVec).getLsbD j = _
      rw [a1 n (by omega), BitVec.getLsbD_or, ih, BitVec.getLsbD_twoPow, decide_eq_true (show n < 32 by omega), Bool.true_and]
      by_cases q : n = j
      · subst q
        rw [c, decide_eq_true rfl, decide_eq_true (show n < n + 1 by omega), Bool.or_true]
        rfl
      · rw [decide_eq_false q, Bool.or_false]
        by_cases z : j < n
        · rw [decide_eq_true z, decide_eq_true (show j < n + 1 by omega)]
        · rw [decide_eq_false z, decide_eq_false (show ¬ j < n + 1 by omega)]
    · rw [if_neg c, Int32.or_zero, ih]
      by_cases q : n = j
      · subst q
        rw [nT c, Bool.and_false, Bool.and_false]
      · by_cases z : j < n
        · rw [decide_eq_true z, decide_eq_true (show j < n + 1 by omega)]
        · rw [decide_eq_false z, decide_eq_false (show ¬ j < n + 1 by omega)]
theorem bv_ext {a b : Int32} (h : ∀ j, a.toBitVec.getLsbD j = b.toBitVec.getLsbD j) : a = b := Int32.toBitVec_inj.1 (BitVec.eq_of_getLsbD_eq fun i _ => h i)
theorem toB_or (P Q : Nat → Bool) {n : Nat} (hn : n ≤ 10) : toB P n ||| toB Q n = toB (fun h => P h || Q h) n := bv_ext fun j => by
  show ((toB P n).toBitVec ||| (toB Q n).toBitVec).getLsbD j = _
  rw [BitVec.getLsbD_or, toB_bit _ n hn, toB_bit _ n hn, toB_bit _ n hn]
  cases decide (j < n) <;> simp
theorem toB_and (P Q : Nat → Bool) {n : Nat} (hn : n ≤ 10) : toB P n &&& toB Q n = toB (fun h => P h && Q h) n := bv_ext fun j => by
  show ((toB P n).toBitVec &&& (toB Q n).toBitVec).getLsbD j = _
  rw [BitVec.getLsbD_and, toB_bit _ n hn, toB_bit _ n hn, toB_bit _ n hn]
  cases decide (j < n) <;> simp
theorem toB_cg {P Q : Nat → Bool} {n : Nat} (hn : n ≤ 10) (h : ∀ j, j < n → P j = Q j) : toB P n = toB Q n := bv_ext fun j => by
  rw [toB_bit _ n hn, toB_bit _ n hn]
  by_cases q : j < n
  · rw [h j q]
  · rw [decide_eq_false q, Bool.false_and, Bool.false_and]
theorem tb_has (S : Nat → Bool) {n j : Nat} (hn : n ≤ 10) (hj : j < n) : ((toB S n >>> (nI j &&& 31)) &&& (1 : Int32)) = 1 ↔ S j = true := by
  rw [bsb _ (by omega), toB_bit _ n hn, decide_eq_true hj, Bool.true_and]
def nr (A : Nat → Nat) (f h g : Nat) : Bool := decide (A (156 + h) ≤ A (156 + g) + f ∧ A (156 + g) ≤ A (156 + h) + f)
def anyN (f : Nat → Bool) : Nat → Bool
  | 0 => false
  | n + 1 => anyN f n || f n
theorem anyN_up {f : Nat → Bool} {j : Nat} (h : anyN f j = true) : ∀ d, anyN f (j + d) = true
  | 0 => h
  | d + 1 => by
    show (anyN f (j + d) || f (j + d)) = true
    rw [anyN_up h d]
    rfl
def nrs (A : Nat → Nat) (f : Nat) (S : Nat → Bool) (h : Nat) : Bool := anyN (fun g => S g && nr A f h g) (A 3)
def stp (A : Nat → Nat) (f : Nat) (P S : Nat → Bool) : Nat → Bool := fun h => decide (h < A 3) && (S h || (P h && nrs A f S h))
def itr (A : Nat → Nat) (f : Nat) (P : Nat → Bool) : Nat → (Nat → Bool)
  | 0 => fun h => decide (h = 0)
  | k + 1 => stp A f P (itr A f P k)
def cnt (S : Nat → Bool) : Nat → Nat
  | 0 => 0
  | n + 1 => cnt S n + if S n = true then 1 else 0
theorem cnt_le (S : Nat → Bool) : ∀ n, cnt S n ≤ n
  | 0 => Nat.le_refl 0
  | n + 1 => by
    have := cnt_le S n
    rw [cnt]
    split <;> omega
theorem cnt_mono {S T : Nat → Bool} (h : ∀ k, S k = true → T k = true) : ∀ n, cnt S n ≤ cnt T n
  | 0 => Nat.le_refl 0
  | n + 1 => by
    have ih := cnt_mono h n
    rw [cnt, cnt]
    by_cases c : S n = true
    · rw [if_pos c, if_pos (h n c)]
      omega
    · rw [if_neg c]
      omega
theorem cnt_eq {S T : Nat → Bool} (h : ∀ k, S k = true → T k = true) : ∀ n, cnt T n ≤ cnt S n → ∀ k, k < n → T k = true → S k = true
  | 0, _, k, hk, _ => absurd hk (Nat.not_lt_zero k)
  | n + 1, he, k, hk, ht => by
    have m := cnt_mono h n
    rw [cnt, cnt] at he
    by_cases c : S n = true
    · rw [if_pos c, if_pos (h n c)] at he
      by_cases q : k = n
      · rw [q]; exact c
      · exact cnt_eq h n (by omega) k (by omega) ht
    · rw [if_neg c] at he
      by_cases d : T n = true
      · rw [if_pos d] at he
        omega
      · rw [if_neg d] at he
        by_cases q : k = n
        · rw [q] at ht
          exact absurd ht d
        · exact cnt_eq h n (by omega) k (by omega) ht
theorem cnt_pos {S : Nat → Bool} {k : Nat} (h : S k = true) : ∀ n, k < n → 1 ≤ cnt S n
  | 0, hk => absurd hk (Nat.not_lt_zero k)
  | n + 1, hk => by
    rw [cnt]
    by_cases q : k = n
    · rw [← q, if_pos h]
      omega
    · have := cnt_pos h n (by omega)
      omega
theorem itr_lt {A : Nat → Nat} {f : Nat} {P : Nat → Bool} (h1 : 1 ≤ A 3) : ∀ k h, itr A f P k h = true → h < A 3
  | 0, h, e => by
    have : h = 0 := of_decide_eq_true e
    omega
  | k + 1, h, e => by
    have e2 : (decide (h < A 3) && (itr A f P k h || (P h && nrs A f (itr A f P k) h))) = true := e
    exact of_decide_eq_true ((Bool.and_eq_true _ _).mp e2).1
theorem itr_up {A : Nat → Nat} {f : Nat} {P : Nat → Bool} (h1 : 1 ≤ A 3) (k h : Nat) (e : itr A f P k h = true) : itr A f P (k + 1) h = true := by
  show (decide (h < A 3) && (itr A f P k h || (P h && nrs A f (itr A f P k) h))) = true
  rw [e, decide_eq_true (itr_lt h1 k h e)]
  rfl
theorem itr_same {A : Nat → Nat} {f : Nat} {P : Nat → Bool} (h1 : 1 ≤ A 3) {k : Nat} (h : cnt (itr A f P (k + 1)) (A 3) ≤ cnt (itr A f P k) (A 3)) : itr A f P (k + 1) = itr A f P k := by
  funext j
  by_cases c : itr A f P (k + 1) j = true
  · rw [c, cnt_eq (itr_up h1 k) (A 3) h j (itr_lt h1 (k + 1) j c) c]
  · by_cases d : itr A f P k j = true
    · exact absurd (itr_up h1 k j d) c
    · rw [nT c, nT d]
theorem itr_grow {A : Nat → Nat} {f : Nat} {P : Nat → Bool} (h1 : 1 ≤ A 3) : ∀ k, itr A f P (k + 1) = itr A f P k ∨ k + 1 ≤ cnt (itr A f P k) (A 3)
  | 0 => Or.inr (cnt_pos (S := itr A f P 0) (k := 0) rfl (A 3) h1)
  | k + 1 => by
    rcases itr_grow h1 k with e | e
    · exact Or.inl (congrArg (stp A f P) e)
    · by_cases c : cnt (itr A f P (k + 1)) (A 3) ≤ cnt (itr A f P k) (A 3)
      · exact Or.inl (congrArg (stp A f P) (itr_same h1 c))
      · exact Or.inr (by omega)
theorem itr_stay {A : Nat → Nat} {f : Nat} {P : Nat → Bool} {k : Nat} (e : itr A f P (k + 1) = itr A f P k) : ∀ m, itr A f P (k + m) = itr A f P k
  | 0 => rfl
  | m + 1 => (congrArg (stp A f P) (itr_stay e m)).trans e
theorem itr_fix {A : Nat → Nat} {f : Nat} {P : Nat → Bool} (h1 : 1 ≤ A 3) (h3 : A 3 ≤ 10) : itr A f P 10 = itr A f P (A 3 - 1) := by
  have e : itr A f P (A 3 - 1 + 1) = itr A f P (A 3 - 1) := by
    rcases itr_grow (f := f) (P := P) h1 (A 3 - 1) with e | e
    · exact e
    · refine itr_same h1 ?_
      have := cnt_le (itr A f P (A 3 - 1 + 1)) (A 3)
      omega
  have := itr_stay e (11 - A 3)
  rw [show A 3 - 1 + (11 - A 3) = 10 by omega] at this
  exact this
theorem apart {a b : Nat} (ha : a ≤ 99) (hb : b ≤ 99) : (0 ≤ nI a - nI b ∧ nI a - nI b = nI (a - b) ∧ b ≤ a) ∨ (¬ 0 ≤ nI a - nI b ∧ -(nI a - nI b) = nI (b - a) ∧ a < b) := by
  by_cases c : b ≤ a
  · left
    rw [pk_sub c]
    exact ⟨nI_pos' (by omega), rfl, c⟩
  · right
    have h := pk_sneg (a := a) (b := b) (by omega) (by omega)
    refine ⟨fun z => ?_, ?_, by omega⟩
    · have e1 := Int32.lt_iff_toInt_lt.mp h
      have e2 := Int32.le_iff_toInt_le.mp z
      omega
    · rw [Int32.neg_sub, pk_sub (by omega)]
theorem near_X {A : Nat → Nat} {h g f : Nat} (ha : A (156 + h) ≤ 99) (hb : A (156 + g) ≤ 99) (hf : f ≤ 99) : (nI f < (if 0 ≤ nI (A (156 + h)) - nI (A (156 + g)) then nI (A (156 + h)) - nI (A (156 + g)) else 0 - (nI (A (156 + h)) - nI (A (156 + g))))) ↔ nr A f h g = false := by
  unfold nr
  rw [decide_eq_false_iff_not]
  rcases apart ha hb with ⟨e1, e2, e3⟩ | ⟨e1, e2, e3⟩
  · rw [if_pos e1, e2, nI_ltI (by omega) (by omega)]
    omega
  · rw [if_neg e1, Int32.zero_sub, e2, nI_ltI (by omega) (by omega)]
    omega
theorem X_nearTo {A : Nat → Nat} (hw : wfA A) {ags : Nat → Int32} (hsa : ∀ h, h < A 3 → ags h = nI (A (156 + h))) {f : Nat} (hf : f ≤ 99) (S : Nat → Bool) : fX3_nearTo (nI (A 3)) ags (toB S (A 3)) (nI f) = some (toB (nrs A f S) (A 3)) := by
  have h3 := hw.2.2.2.1
  have hhh := hw.2.2.2.2.2.2
  unfold fX3_nearTo
  refine up2 (A 3) (fun i x3 x4 => x3 = toB (nrs A f S) i ∧ x4 = nI i) ?_ ?_ 2000 0 _ _ (by omega) (by omega) ⟨rfl, rfl⟩
  · rintro K x3 x4 ⟨rfl, rfl⟩
    unfold fX3_nearTo_l5
    rw [if_pos (nI_le (Nat.le_refl _) (by omega))]
  · rintro K i x3 x4 hi ⟨rfl, rfl⟩
    right
    have hai := hhh i hi
    refine ⟨toB (nrs A f S) (i + 1), nI (i + 1), ?_, rfl, rfl⟩
    unfold fX3_nearTo_l5
    rw [if_neg (nI_ge hi (by omega))]
    refine up2 (A 3) (fun j x3 x5 => x3 = (toB (nrs A f S) i ||| (if anyN (fun g => S g && nr A f i g) j = true then (1 : Int32) <<< (nI i &&& 31) else 0)) ∧ x5 = nI j) ?_ ?_ 2000 0 _ _ (by omega) (by omega) ⟨Int32.or_zero.symm, rfl⟩
    · rintro K2 x3 x5 ⟨rfl, rfl⟩
      unfold fX3_nearTo_l17 fX3_nearTo_b71
      rw [if_pos (nI_le (Nat.le_refl _) (by omega)), nI_1]
      rfl
    · rintro K2 j x3 x5 hj ⟨rfl, rfl⟩
      right
      have haj := hhh j hj
      have ea : anyN (fun g => S g && nr A f i g) (j + 1) = (anyN (fun g => S g && nr A f i g) j || (S j && nr A f i j)) := rfl
      refine ⟨_, nI (j + 1), ?_, rfl, rfl⟩
      unfold fX3_nearTo_l17 fX3_nearTo_b65
      rw [if_neg (nI_ge hj (by omega)), ea, nI_1]
      by_cases s : S j = true
      · rw [if_pos ((tb_has S h3 hj).mpr s), gdN (by omega) (by omega), gdN (by omega) (by omega), nI_clamp (by omega), nI_clamp (by omega), hsa i hi, hsa j hj, s, Bool.true_and]
        by_cases d : nr A f i j = true
        · rw [if_neg (fun z => by rw [(near_X hai haj hf).mp z] at d; cases d), d, Bool.or_true, if_pos rfl]
          by_cases y : anyN (fun g => S g && nr A f i g) j = true
          · rw [if_pos y, Int32.or_assoc, Int32.or_self]
          · rw [if_neg y, Int32.or_zero]
        · rw [if_pos ((near_X hai haj hf).mpr (nT d)), nT d, Bool.or_false]
      · rw [if_neg (fun z => s ((tb_has S h3 hj).mp z)), nT s, Bool.false_and, Bool.or_false]
theorem M_isNear {A : Nat → Nat} (hw : wfA A) {f h : Nat} (hf : f ≤ 99) (hh : h < A 3) (S : Nat → Bool) : fX6_isNear (toF A) (nI h) (toB S (A 3)) (nI f) = some (nrs A f S h) := by
  have h3 := hw.2.2.2.1
  have hhh := hw.2.2.2.2.2.2
  have hah := hhh h hh
  unfold fX6_isNear
  refine up2 (A 3) (fun j x4 x5 => x4 = anyN (fun g => S g && nr A f h g) j ∧ x5 = nI j) ?_ ?_ 2000 0 _ _ (by omega) (by omega) ⟨rfl, rfl⟩
  · rintro K x4 x5 ⟨rfl, rfl⟩
    unfold fX6_isNear_l6
    rw [if_pos (show toF A (3 : Int32).toNatClampNeg ≤ nI (A 3) from nI_le (Nat.le_refl _) (by omega))]
    rfl
  · rintro K j x4 x5 hj ⟨rfl, rfl⟩
    have haj := hhh j hj
    by_cases e : anyN (fun g => S g && nr A f h g) j = true
    · left
      have e2 : nrs A f S h = true := by
        have := anyN_up e (A 3 - j)
        rw [show j + (A 3 - j) = A 3 by omega] at this
        exact this
      unfold fX6_isNear_l6
      rw [if_neg (show ¬ toF A (3 : Int32).toNatClampNeg ≤ nI j from nI_ge (b := A 3) hj (by omega)), e, if0t, e2]
    · right
      have ea : anyN (fun g => S g && nr A f h g) (j + 1) = (anyN (fun g => S g && nr A f h g) j || (S j && nr A f h j)) := rfl
      refine ⟨_, nI (j + 1), ?_, rfl, rfl⟩
      unfold fX6_isNear_l6
      rw [if_neg (show ¬ toF A (3 : Int32).toNatClampNeg ≤ nI j from nI_ge (b := A 3) hj (by omega)), ea, nT e, if0f, e_age, e_age, gdN (by omega) (by omega), gdN (by omega) (by omega), nI_clamp (by omega), nI_clamp (by omega), toF_at, toF_at, Bool.false_or]
      unfold fX6_isNear_b69 fX6_isNear_b77 fX6_isNear_b78
      rw [nI_1]
      by_cases s : S j = true
      · rw [if_pos ((tb_has S h3 hj).mpr s), s, Bool.true_and]
        unfold nr
        rcases apart hah haj with ⟨e1, e2, e3⟩ | ⟨e1, e2, e3⟩
        · rw [if_pos e1, e2]
          by_cases d : f < A (156 + h) - A (156 + j)
          · rw [if_pos (nI_lt d (by omega)), decide_eq_false (by omega)]
          · rw [if_neg (nI_nlt (by omega) (by omega)), decide_eq_true (by omega)]
        · rw [if_neg e1, e2]
          by_cases d : f < A (156 + j) - A (156 + h)
          · rw [if_pos (nI_lt d (by omega)), decide_eq_false (by omega)]
          · rw [if_neg (nI_nlt (by omega) (by omega)), decide_eq_true (by omega)]
      · rw [if_neg (fun z => s ((tb_has S h3 hj).mp z)), nT s, Bool.false_and]
theorem stp_eq {A : Nat → Nat} (h3 : A 3 ≤ 10) (f : Nat) (P S : Nat → Bool) : toB S (A 3) ||| toB (fun h => P h && nrs A f S h) (A 3) = toB (stp A f P S) (A 3) := by
  rw [toB_or _ _ h3]
  refine toB_cg h3 fun j hj => ?_
  show _ = (decide (j < A 3) && (S j || (P j && nrs A f S j)))
  rw [decide_eq_true hj, Bool.true_and]
theorem one_B : ∀ n, n < 10 → (1 : Int32) = toB (fun h => decide (h = 0)) (n + 1) := by decide +kernel
theorem X_spr {A : Nat → Nat} (hw : wfA A) {ags : Nat → Int32} (hsa : ∀ h, h < A 3 → ags h = nI (A (156 + h))) {f : Nat} (hf : f ≤ 99) (h1 : 1 ≤ A 3) (P : Nat → Bool) (low hig : Nat → Int64) (spn : Int32) (fnd : Nat → Int32) : fix2 (fX5_spread_l67 (nI (A 3)) ags low hig spn fnd (nI f) (toB P (A 3))) 2000 1 1 = some (toB (itr A f P (A 3 - 1)) (A 3), low, hig, spn, fnd) := by
  have h3 := hw.2.2.2.1
  have e1 : (1 : Int32) = toB (itr A f P 0) (A 3) := by
    have := one_B (A 3 - 1) (by omega)
    rw [show A 3 - 1 + 1 = A 3 by omega] at this
    exact this
  refine up2 (A 3 - 1) (fun k x4 x5 => x4 = toB (itr A f P k) (A 3) ∧ x5 = nI (k + 1)) ?_ ?_ 2000 0 _ _ (by omega) (by omega) ⟨e1, rfl⟩
  · rintro K x4 x5 ⟨rfl, rfl⟩
    unfold fX5_spread_l67
    rw [if_pos (nI_le (by omega) (by omega))]
  · rintro K k x4 x5 hk ⟨rfl, rfl⟩
    right
    refine ⟨toB (itr A f P (k + 1)) (A 3), nI (k + 1 + 1), ?_, rfl, rfl⟩
    unfold fX5_spread_l67
    rw [if_neg (nI_ge (by omega) (by omega)), X_nearTo hw hsa hf, Option.bind_some, toB_and _ _ h3, stp_eq h3, nI_1]
    rfl
theorem M_spr {A : Nat → Nat} (hw : wfA A) {f : Nat} (hf : f ≤ 99) (h1 : 1 ≤ A 3) (P : Nat → Bool) (man nex : Nat → Int64) (fnd : Nat → Int32) : fix2 (fX6_spread_l48 (toF A) fnd man nex (nI f) (toB P (A 3))) 2000 1 0 = some (toB (itr A f P 10) (A 3), fnd, man, nex) := by
  have h3 := hw.2.2.2.1
  have e1 : (1 : Int32) = toB (itr A f P 0) (A 3) := by
    have := one_B (A 3 - 1) (by omega)
    rw [show A 3 - 1 + 1 = A 3 by omega] at this
    exact this
  refine up2 10 (fun k x4 x5 => x4 = toB (itr A f P k) (A 3) ∧ x5 = nI k) ?_ ?_ 2000 0 _ _ (by omega) (by omega) ⟨e1, rfl⟩
  · rintro K x4 x5 ⟨rfl, rfl⟩
    unfold fX6_spread_l48
    rw [if_pos (by decide)]
  · rintro K k x4 x5 hk ⟨rfl, rfl⟩
    right
    refine ⟨toB (itr A f P (k + 1)) (A 3), nI (k + 1), ?_, rfl, rfl⟩
    unfold fX6_spread_l48
    rw [if_neg (show ¬ (10 : Int32) ≤ nI k from nI_ge (b := 10) hk (by omega))]
    refine up2 (A 3) (fun i x6 x7 => x6 = toB (itr A f P k) (A 3) ||| toB (fun h => P h && nrs A f (itr A f P k) h) i ∧ x7 = nI i) ?_ ?_ 2000 0 _ _ (by omega) (by omega) ⟨Int32.or_zero.symm, rfl⟩
    · rintro K2 x6 x7 ⟨rfl, rfl⟩
      unfold fX6_spread_l62 fX6_spread_b114
      rw [if_pos (show toF A (3 : Int32).toNatClampNeg ≤ nI (A 3) from nI_le (Nat.le_refl _) (by omega)), stp_eq h3, nI_1]
      rfl
    · rintro K2 i x6 x7 hi ⟨rfl, rfl⟩
      right
      refine ⟨_, nI (i + 1), ?_, rfl, rfl⟩
      unfold fX6_spread_l62 fX6_spread_b104 fX6_spread_b105
      rw [if_neg (show ¬ toF A (3 : Int32).toNatClampNeg ≤ nI i from nI_ge (b := A 3) hi (by omega)), nI_1]
      by_cases s : P i = true
      · rw [if_pos ((tb_has P h3 hi).mpr s), M_isNear hw hf hi, Option.bind_some]
        by_cases d : nrs A f (itr A f P k) i = true
        · rw [d, if0t, Int32.or_assoc, toB_t (P := fun h => P h && nrs A f (itr A f P k) h) (show (P i && nrs A f (itr A f P k) i) = true by rw [s, d]; rfl)]
        · rw [nT d, if0f, Int32.or_assoc, toB_f0 (P := fun h => P h && nrs A f (itr A f P k) h) (show (P i && nrs A f (itr A f P k) i) = false by rw [s, nT d]; rfl)]
      · rw [if_neg (fun z => s ((tb_has P h3 hi).mp z)), Int32.or_assoc, toB_f0 (P := fun h => P h && nrs A f (itr A f P k) h) (show (P i && nrs A f (itr A f P k) i) = false by rw [nT s]; rfl)]
set_option maxHeartbeats 4000000 in
theorem eq_spread {par : Int32} {kin lea mos wrt : Nat → Int32} {tal : Int32} {siz tol : Nat → Int32} {hrs : Int32} {ags : Nat → Int32} {yea kpar : Int32} {kkin klea kmos kwrt : Nat → Int32} {ktal : Int32} {ksiz ktol : Nat → Int32} {khrs : Int32} {kags : Nat → Int32} {kyea isk : Int32} {tly : Nat → Int64} {gai bes : Nat → Int32} {low hig : Nat → Int64} {spn : Int32} {byt : Nat → Int32} {hld sta beh sor num : Int32} {fnd sbi she : Nat → Int32} {snu : Nat → Nat → Int64} {msv mkep mbef : Nat → Int32} {misk : Int32} {mfnd : Nat → Int32} {mman mnex : Nat → Int64} {mwor msng mhea mlat mtap : Nat → Int32} {mtpd mher mflt mvlu : Int32} {mbit mlon : Nat → Int32} {mcel mbtw : Nat → Int64} (h : Rel par kin lea mos wrt tal siz tol hrs ags yea kpar kkin klea kmos kwrt ktal ksiz ktol khrs kags kyea isk tly gai bes low hig spn byt hld sta beh sor num fnd sbi she snu msv mkep mbef misk mfnd mman mnex mwor msng mhea mlat mtap mtpd mher mflt mvlu mbit mlon mcel mbtw) (x1 : Int32) (x2 : Int32) : ∃ (rx : Int32 × (Nat → Int64) × (Nat → Int64) × Int32 × (Nat → Int32)) (rm : Int32 × (Nat → Int32) × (Nat → Int64) × (Nat → Int64)), fX5_spread kin lea mos tal siz tol hrs ags low hig spn fnd x1 x2 = some rx ∧ fX6_spread msv mfnd mman mnex x1 x2 = some rm ∧ rx.1 = rm.1 ∧ Rel par kin lea mos wrt tal siz tol hrs ags yea kpar kkin klea kmos kwrt ktal ksiz ktol khrs kags kyea isk tly gai bes rx.2.1 rx.2.2.1 rx.2.2.2.1 byt hld sta beh sor num rx.2.2.2.2 sbi she snu msv mkep mbef misk rm.2.1 rm.2.2.1 rm.2.2.2 mwor msng mhea mlat mtap mtpd mher mflt mvlu mbit mlon mcel mbtw := by
  obtain ⟨⟨A, hw, hs, rfl⟩, hk, rfl, htp, hsh⟩ := h
  obtain ⟨hy, h1, h2, h3, hpp, htt, hhh⟩ := id hw
  obtain ⟨rfl, hsp, rfl, hst, rfl, hsa, rfl⟩ := id hs
  by_cases c : hasN (A 2) x1 = true
  · obtain ⟨t, ht, rfl⟩ := hasN_of c
    by_cases d : hasN 100 x2 = true
    · obtain ⟨f, hf, rfl⟩ := hasN_of d
      by_cases e : A 3 = 0
      · refine ⟨((fn fnd 3).1, low, hig, spn, (fn fnd 3).2), ((fn fnd 3).1, (fn fnd 3).2, mman, mnex), ?_, ?_, rfl, ⟨A, hw, hs, rfl⟩, hk, rfl, htp, hsh⟩
        · unfold fX5_spread
          rw [hasT_eq (show A 2 < 2 ^ 31 by omega), c, if0t, X_age, d, if0t, if_pos (show nI (A 3) = 0 by rw [e]; rfl), fo_3, Option.bind_some]
        · unfold fX6_spread
          rw [M_isTale (show A 2 < 2 ^ 30 by omega), Option.bind_some, c, if0t, M_isAge, d, if0t, if_pos (show toF A (3 : Int32).toNatClampNeg = 0 from (show nI (A 3) = 0 by rw [e]; rfl)), no_3, Option.bind_some]
      · obtain ⟨lo, hi, X1, X2⟩ := X_sayT hw hs ht low hig spn
        obtain ⟨m2, n2, M1⟩ := M_toWhom hw ht mman mnex
        have X3 := X_spr hw hsa (show f ≤ 99 by omega) (show 1 ≤ A 3 by omega) (fun h => R A t (A (156 + h))) lo hi (nI (A (68 + 11 * t))) fnd
        have M3 := M_spr hw (show f ≤ 99 by omega) (show 1 ≤ A 3 by omega) (fun h => R A t (A (156 + h))) m2 n2 fnd
        rw [itr_fix (show 1 ≤ A 3 by omega) h3] at M3
        refine ⟨(toB (itr A f (fun h => R A t (A (156 + h))) (A 3 - 1)) (A 3), lo, hi, nI (A (68 + 11 * t)), fnd), (toB (itr A f (fun h => R A t (A (156 + h))) (A 3 - 1)) (A 3), fnd, m2, n2), ?_, ?_, rfl, ⟨A, hw, hs, rfl⟩, hk, rfl, htp, hsh⟩
        · unfold fX5_spread
          rw [hasT_eq (show A 2 < 2 ^ 31 by omega), c, if0t, X_age, d, if0t, if_neg (nI_ne0 (by omega) (by omega)), X1, Option.bind_some, X2, Option.bind_some]
          exact X3
        · unfold fX6_spread
          rw [M_isTale (show A 2 < 2 ^ 30 by omega), Option.bind_some, c, if0t, M_isAge, d, if0t, if_neg (show ¬ toF A (3 : Int32).toNatClampNeg = 0 from nI_ne0 (n := A 3) (by omega) (by omega)), M1, Option.bind_some]
          exact M3
    · have d := nT d
      refine ⟨((fn fnd 0).1, low, hig, spn, (fn fnd 0).2), ((fn fnd 0).1, (fn fnd 0).2, mman, mnex), ?_, ?_, rfl, ⟨A, hw, hs, rfl⟩, hk, rfl, htp, hsh⟩
      · unfold fX5_spread fX5_spread_b21
        rw [hasT_eq (show A 2 < 2 ^ 31 by omega), c, if0t, X_age, d, if0f, fo_0, Option.bind_some]
      · unfold fX6_spread fX6_spread_b15
        rw [M_isTale (show A 2 < 2 ^ 30 by omega), Option.bind_some, c, if0t, M_isAge, d, if0f, no_0, Option.bind_some]
  · have c := nT c
    refine ⟨((fn fnd 0).1, low, hig, spn, (fn fnd 0).2), ((fn fnd 0).1, (fn fnd 0).2, mman, mnex), ?_, ?_, rfl, ⟨A, hw, hs, rfl⟩, hk, rfl, htp, hsh⟩
    · unfold fX5_spread fX5_spread_b21
      rw [hasT_eq (show A 2 < 2 ^ 31 by omega), c, if0f, fo_0, Option.bind_some]
    · unfold fX6_spread fX6_spread_b15
      rw [M_isTale (show A 2 < 2 ^ 30 by omega), Option.bind_some, c, if0f, no_0, Option.bind_some]

