def gb (v : Int64) (n : Nat) : Bool := v.toBitVec.getLsbD n
theorem gb_or (a b : Int64) (n : Nat) : gb (a ||| b) n = (gb a n || gb b n) := by
  show (a.toBitVec ||| b.toBitVec).getLsbD n = _
  rw [BitVec.getLsbD_or]
  rfl
theorem gb_0 (n : Nat) : gb 0 n = false := by
  show (BitVec.ofNat 64 0).getLsbD n = false
  simp
theorem gb_ge (v : Int64) {n : Nat} (h : 64 ≤ n) : gb v n = false := BitVec.getLsbD_of_ge _ _ h
theorem gb_1 (n : Nat) : gb 1 n = decide (n = 0) := by
  by_cases h : n < 64
  · have key : ∀ n, n < 64 → gb 1 n = decide (n = 0) := by decide +kernel
    exact key n h
  · rw [gb_ge _ (by omega), decide_eq_false (by omega)]
theorem gb_shl (v : Int64) {l : Nat} (hl : l < 64) (n : Nat) : gb (v <<< lN l) n = (decide (n < 64) && (decide (l ≤ n) && gb v (n - l))) := by
  have e : (v <<< lN l).toBitVec = v.toBitVec <<< l := by
    show v.toBitVec <<< ((lN l).toBitVec.smod 64) = _
    have key : ∀ l, l < 64 → ((lN l).toBitVec.smod 64).toNat = l := by decide +kernel
    rw [BitVec.shiftLeft_eq', key l hl]
  show (v <<< lN l).toBitVec.getLsbD n = _
  rw [e, BitVec.getLsbD_shiftLeft]
  unfold gb
  by_cases h1 : n < 64
  · by_cases h2 : n < l
    · rw [decide_eq_true h1, decide_eq_true h2, decide_eq_false (show ¬ l ≤ n by omega)]; rfl
    · rw [decide_eq_true h1, decide_eq_false h2, decide_eq_true (show l ≤ n by omega)]; rfl
  · rw [decide_eq_false h1]; rfl
theorem gb_shr (v : Int64) {s : Nat} (hs : s < 64) (n : Nat) : gb (v.toUInt64 >>> UInt64.ofNat s).toInt64 n = gb v (s + n) := by
  have e : (v.toUInt64 >>> UInt64.ofNat s).toInt64.toBitVec = v.toBitVec >>> s := by
    show v.toBitVec >>> ((UInt64.ofNat s).toBitVec % 64) = _
    have key : ∀ s, s < 64 → ((UInt64.ofNat s).toBitVec % 64).toNat = s := by decide +kernel
    rw [BitVec.ushiftRight_eq', key s hs]
  show (v.toUInt64 >>> UInt64.ofNat s).toInt64.toBitVec.getLsbD n = _
  rw [e, BitVec.getLsbD_ushiftRight]
  rfl
theorem am_shl : ∀ l, l < 25 → (nI l).toInt64 &&& 63 = lN l := by decide +kernel
theorem am_shr : ∀ l, l < 25 → (!(decide (1 ≤ l) && decide (l ≤ 24)) || decide (((64 : Int32) - nI l).toInt64.toUInt64 &&& Int64.toUInt64 63 = UInt64.ofNat (64 - l))) = true := by decide +kernel
theorem am_lo : ∀ n, n < 64 → (nI n).toInt64.toUInt64 &&& Int64.toUInt64 63 = UInt64.ofNat n := by decide +kernel
theorem am_hi : ∀ n, n < 57 → (nI (64 + n) - 64).toInt64.toUInt64 &&& Int64.toUInt64 63 = UInt64.ofNat n := by decide +kernel
theorem gb_and1 (v : Int64) : v &&& 1 = if gb v 0 = true then 1 else 0 := by
  apply Int64.toBitVec_inj.1
  show v.toBitVec &&& BitVec.ofNat 64 1 = _
  apply BitVec.eq_of_getLsbD_eq
  intro i hi
  rw [BitVec.getLsbD_and]
  have e1 : (BitVec.ofNat 64 1).getLsbD i = decide (i = 0) := gb_1 i
  rw [e1]
  by_cases h : i = 0
  · subst h
    by_cases g : gb v 0 = true
    · rw [if_pos g]
      have g2 : v.toBitVec.getLsbD 0 = true := g
      rw [g2]; rfl
    · rw [if_neg g]
      have g2 : v.toBitVec.getLsbD 0 = false := nT g
      rw [g2]; rfl
  · rw [decide_eq_false h, Bool.and_false]
    by_cases g : gb v 0 = true
    · rw [if_pos g]
      have e2 : (Int64.toBitVec 1).getLsbD i = decide (i = 0) := gb_1 i
      rw [e2, decide_eq_false h]
    · rw [if_neg g]
      have e2 : (Int64.toBitVec 0).getLsbD i = false := gb_0 i
      rw [e2]
theorem X_b40 (v : Int64) : fX1_isSpanned_b40 v = some (gb v 0) := by
  unfold fX1_isSpanned_b40
  rw [gb_and1]
  by_cases g : gb v 0 = true
  · rw [if_pos g, g]; rfl
  · rw [if_neg g, nT g]; rfl
def orL (f : Nat → Bool) : Nat → Bool
  | 0 => false
  | n + 1 => orL f n || f n
theorem orL_iff (f : Nat → Bool) : ∀ n, orL f n = true ↔ ∃ l, l < n ∧ f l = true
  | 0 => ⟨fun h => (by cases h), fun ⟨l, h, _⟩ => absurd h (Nat.not_lt_zero l)⟩
  | n + 1 => by
    rw [orL, Bool.or_eq_true, orL_iff f n]
    constructor
    · rintro (⟨l, h1, h2⟩ | h)
      · exact ⟨l, by omega, h2⟩
      · exact ⟨n, by omega, h⟩
    · rintro ⟨l, h1, h2⟩
      by_cases h : l = n
      · subst h; exact Or.inr h2
      · exact Or.inl ⟨l, by omega, h2⟩
theorem sumL_pos (f : Nat → Nat) : ∀ n, 0 < sumL f n ↔ ∃ l, l < n ∧ 0 < f l
  | 0 => ⟨fun h => absurd h (Nat.lt_irrefl 0), fun ⟨l, h, _⟩ => absurd h (Nat.not_lt_zero l)⟩
  | n + 1 => by
    have ih := sumL_pos f n
    simp only [sumL]
    constructor
    · intro h
      by_cases h1 : 0 < sumL f n
      · obtain ⟨l, h2, h3⟩ := ih.mp h1
        exact ⟨l, by omega, h3⟩
      · exact ⟨n, by omega, by omega⟩
    · rintro ⟨l, h1, h2⟩
      by_cases h : l = n
      · subst h; omega
      · have := ih.mpr ⟨l, by omega, h2⟩; omega
theorem sumL_le (f : Nat → Nat) (m : Nat) (h : ∀ l, f l ≤ m) : ∀ n, sumL f n ≤ n * m
  | 0 => by simp [sumL]
  | n + 1 => by
    have ih := sumL_le f m h n
    have := h n
    simp only [sumL]
    rw [Nat.add_mul, Nat.one_mul]
    omega
/-- n words can be reached by the first k parts -/
def rc (L : Nat → Nat → Bool) : Nat → Nat → Bool
  | 0, n => decide (n = 0)
  | k + 1, n => orL (fun l => decide (l ≤ n) && (L k l && rc L k (n - l))) 25
theorem wy_le (L : Nat → Nat → Bool) : ∀ k w, wy L k w ≤ 25 ^ k
  | 0, w => by simp only [wy]; split <;> simp
  | k + 1, w => by
    have ih := wy_le L k
    simp only [wy]
    refine Nat.le_trans (sumL_le _ (25 ^ k) (fun l => ?_) 25) (by rw [Nat.pow_succ, Nat.mul_comm]; exact Nat.le_refl _)
    split
    · exact ih _
    · exact Nat.zero_le _
theorem rc_wy (L : Nat → Nat → Bool) : ∀ k w, rc L k w = true ↔ 0 < wy L k w
  | 0, w => by
    simp only [rc, wy, decide_eq_true_eq]
    by_cases h : w = 0
    · rw [if_pos h]; exact ⟨fun _ => by omega, fun _ => h⟩
    · rw [if_neg h]; exact ⟨fun q => absurd q h, fun q => absurd q (Nat.lt_irrefl 0)⟩
  | k + 1, w => by
    have ih := rc_wy L k
    simp only [rc, wy]
    rw [orL_iff, sumL_pos]
    constructor
    · rintro ⟨l, h1, h2⟩
      rw [Bool.and_eq_true, Bool.and_eq_true, decide_eq_true_eq] at h2
      refine ⟨l, h1, ?_⟩
      rw [if_pos ⟨h2.1, h2.2.1⟩]
      exact (ih _).mp h2.2.2
    · rintro ⟨l, h1, h2⟩
      by_cases c : l ≤ w ∧ L k l = true
      · rw [if_pos c] at h2
        refine ⟨l, h1, ?_⟩
        rw [Bool.and_eq_true, Bool.and_eq_true, decide_eq_true_eq]
        exact ⟨c.1, c.2, (ih _).mpr h2⟩
      · rw [if_neg c] at h2
        exact absurd h2 (Nat.lt_irrefl 0)
theorem wy_lt (L : Nat → Nat → Bool) {k : Nat} (hk : k ≤ 10) (w : Nat) : wy L k w < 2 ^ 63 := by
  have h1 := wy_le L k w
  have h2 : 25 ^ k ≤ 25 ^ 10 := Nat.pow_le_pow_right (by omega) hk
  have h3 : 25 ^ 10 < 2 ^ 63 := by decide
  omega
theorem lg_le0 {L : Nat → Nat → Bool} {k w : Nat} (hk : k ≤ 10) : lg_cmp (lN (wy L k w)) 0 ≤ 0 ↔ rc L k w = false := by
  have hlt := wy_lt L hk w
  have e : lg_cmp (lN (wy L k w)) 0 ≤ 0 ↔ ¬ 0 < lg_cmp (lN (wy L k w)) 0 := by
    rw [Int32.le_iff_toInt_le, Int32.lt_iff_toInt_lt]
    omega
  rw [e, lgc_gt, ← Bool.not_eq_true, rc_wy]
  show ¬ (lN 0 < lN (wy L k w)) ↔ _
  rw [pk_lLT (by omega) hlt]
theorem lg_eq0 {L : Nat → Nat → Bool} {k w : Nat} (hk : k ≤ 10) : lg_cmp (lN (wy L k w)) 0 = 0 ↔ rc L k w = false := by
  have hlt := wy_lt L hk w
  rw [lgc_eq, ← Bool.not_eq_true, rc_wy]
  show lN (wy L k w) = lN 0 ↔ _
  rw [pk_lEQ hlt (by omega)]
  omega
/-- the two words hold the first 128 of P -/
def sp2 (lo hi : Int64) (P : Nat → Bool) : Prop := (∀ n, n < 64 → gb lo n = P n) ∧ ∀ n, n < 64 → gb hi n = P (64 + n)
theorem X_spanPart {A : Nat → Nat} (hw : wfA A) {p k : Nat} (hp : p < A 1) (hk : k < 10) {low hig : Nat → Int64} {P : Nat → Bool} (h : sp2 (low k) (hig k) P) :
    ∃ a b, fX1_spanPart low hig (nI k) (nI (lsA A p)) = some (vp_updL low (k + 1) a, vp_updL hig (k + 1) b) ∧ sp2 a b (fun n => orL (fun l => decide (l ≤ n) && (lenA A p l && P (n - l))) 25) := by
  unfold fX1_spanPart
  refine uq3 (fun o => ∃ (a b : Int64), o = some (vp_updL low (k + 1) a, vp_updL hig (k + 1) b) ∧ sp2 a b (fun n => orL (fun l => decide (l ≤ n) && (lenA A p l && P (n - l))) 25)) 25 (fun i x3 x5 x7 => x7 = nI i ∧ sp2 x3 x5 (fun n => orL (fun l => decide (l ≤ n) && (lenA A p l && P (n - l))) i)) ?_ ?_ 2000 0 _ _ _ (by omega) (by omega) ⟨rfl, fun n _ => gb_0 n, fun n _ => gb_0 n⟩
  · rintro K x3 x5 x7 ⟨rfl, h2⟩
    unfold fX1_spanPart_l8
    rw [if_pos (by decide)]
    unfold fX1_spanPart_b79
    rw [nI_1, gdN (by omega) (by omega), gdN (by omega) (by omega), nI_clamp (by omega)]
    exact ⟨x3, x5, rfl, h2⟩
  · rintro K i x3 x5 x7 hi ⟨rfl, h2⟩
    right
    by_cases c : lenA A p i = true
    · have hl : sp2 (x3 ||| (low k <<< lN i)) (x5 ||| ((hig k <<< lN i) ||| (if i = 0 then 0 else ((low k).toUInt64 >>> UInt64.ofNat (64 - i)).toInt64))) (fun n => orL (fun l => decide (l ≤ n) && (lenA A p l && P (n - l))) (i + 1)) := by
        constructor
        · intro n hn
          rw [gb_or, h2.1 n hn, gb_shl _ (by omega), decide_eq_true hn, Bool.true_and]
          show _ = (orL _ i || (decide (i ≤ n) && (lenA A p i && P (n - i))))
          rw [c, Bool.true_and]
          by_cases g : i ≤ n
          · rw [h.1 (n - i) (by omega)]
          · rw [decide_eq_false g]; rfl
        · intro n hn
          rw [gb_or, gb_or, h2.2 n hn, gb_shl _ (by omega), decide_eq_true hn, Bool.true_and]
          show _ = (orL _ i || (decide (i ≤ 64 + n) && (lenA A p i && P (64 + n - i))))
          rw [c, Bool.true_and, decide_eq_true (show i ≤ 64 + n by omega), Bool.true_and]
          by_cases g : i ≤ n
          · rw [h.2 (n - i) (by omega), decide_eq_true g, Bool.true_and, show 64 + (n - i) = 64 + n - i by omega]
            have e0 : gb (if i = 0 then 0 else ((low k).toUInt64 >>> UInt64.ofNat (64 - i)).toInt64) n = false := by
              by_cases g0 : i = 0
              · rw [if_pos g0]; exact gb_0 n
              · rw [if_neg g0, gb_shr _ (by omega)]; exact gb_ge _ (by omega)
            rw [e0, Bool.or_false]
          · rw [decide_eq_false g, Bool.false_and, Bool.false_or, if_neg (by omega), gb_shr _ (by omega), h.1 _ (by omega), show 64 - i + n = 64 + n - i by omega]
      refine ⟨x3 ||| (low k <<< lN i), x5 ||| ((hig k <<< lN i) ||| (if i = 0 then 0 else ((low k).toUInt64 >>> UInt64.ofNat (64 - i)).toInt64)), nI (i + 1), ?_, rfl, hl⟩
      unfold fX1_spanPart_l8
      rw [if_neg (show ¬ (24 : Int32) < nI i from nI_nlt (a := 24) (by omega) (by omega)), if_pos ((bitA hw hp hi).mpr c), gdN (by omega) (by omega), gdN (by omega) (by omega), gdN (by omega) (by omega), nI_clamp (by omega), am_shl i hi]
      unfold fX1_spanPart_b69 fX1_spanPart_b73
      by_cases g0 : i = 0
      · subst g0
        rfl
      · rw [if_neg (nI_ne0 (by omega) (by omega)), if_neg g0, impB (am_shr i hi) (by omega) (by omega), nI_1]
    · refine ⟨x3, x5, nI (i + 1), ?_, rfl, ?_⟩
      · unfold fX1_spanPart_l8
        rw [if_neg (show ¬ (24 : Int32) < nI i from nI_nlt (a := 24) (by omega) (by omega)), if_neg (fun e => c ((bitA hw hp hi).mp e))]
        unfold fX1_spanPart_b73
        rw [nI_1]
      · have e : ∀ n, orL (fun l => decide (l ≤ n) && (lenA A p l && P (n - l))) (i + 1) = orL (fun l => decide (l ≤ n) && (lenA A p l && P (n - l))) i := by
          intro n
          show (orL _ i || (decide (i ≤ n) && (lenA A p i && P (n - i)))) = _
          rw [nT c, Bool.false_and, Bool.and_false, Bool.or_false]
        exact ⟨fun n hn => (h2.1 n hn).trans (e n).symm, fun n hn => (h2.2 n hn).trans (e (64 + n)).symm⟩
/-- the spans of tale t -/
def spA (A : Nat → Nat) (t : Nat) (low hig : Nat → Int64) : Prop := ∀ k, k ≤ A (68 + 11 * t) → sp2 (low k) (hig k) (rc (LA A t) k)
theorem X_spanWords {A : Nat → Nat} (hw : wfA A) {par : Int32} {kin lea mos wrt : Nat → Int32} {tal : Int32} {siz tol : Nat → Int32} {hrs : Int32} {ags : Nat → Int32} {yea : Int32} (hs : stk A par kin lea mos wrt tal siz tol hrs ags yea) {t : Nat} (ht : t < A 2) (low hig : Nat → Int64) (spn : Int32) :
    ∃ low' hig', fX1_spanWords kin lea mos siz tol low hig spn (nI t) = some (low', hig', nI (A (68 + 11 * t))) ∧ spA A t low' hig' := by
  have h8 : t < 8 := by have := hw.2.2.1; omega
  have h10 : A (68 + 11 * t) ≤ 10 := (hw.2.2.2.2.2.1 t ht).1
  unfold fX1_spanWords
  rw [gdN h8 (by omega), nI_clamp (by omega), (hs.2.2.2.1 t ht).1]
  refine uq3 (fun o => ∃ (low' hig' : Nat → Int64), o = some (low', hig', nI (A (68 + 11 * t))) ∧ spA A t low' hig') (A (68 + 11 * t)) (fun i x2 (lo hi : Nat → Int64) => x2 = nI i ∧ ∀ k, k ≤ i → sp2 (lo k) (hi k) (rc (LA A t) k)) ?_ ?_ 2000 0 _ _ _ (by omega) (by omega) ⟨rfl, ?_⟩
  · rintro K x2 lo hi ⟨rfl, h⟩
    unfold fX1_spanWords_l29
    rw [if_pos (nI_le (Nat.le_refl _) (by omega))]
    exact ⟨lo, hi, rfl, h⟩
  · rintro K i x2 lo hi hi2 ⟨rfl, h⟩
    right
    obtain ⟨tp, ti, -⟩ := tale_part hw ht hi2
    obtain ⟨a, b, e, hab⟩ := X_spanPart hw tp ti (h i (Nat.le_refl i))
    refine ⟨nI (i + 1), vp_updL lo (i + 1) a, vp_updL hi (i + 1) b, ?_, rfl, ?_⟩
    · unfold fX1_spanWords_l29
      rw [if_neg (nI_ge hi2 (by omega)), X_told hw hs ht hi2, Option.bind_some, X_len hw hs tp, Option.bind_some, e, Option.bind_some, nI_1]
    · intro k hk
      rw [updL_at, updL_at]
      by_cases hq : k = i + 1
      · subst hq
        rw [if_pos rfl, if_pos rfl]
        exact hab
      · rw [if_neg hq, if_neg hq]
        exact h k (by omega)
  · intro k hk
    have hk0 : k = 0 := by omega
    subst hk0
    show sp2 1 0 _
    refine ⟨fun n _ => gb_1 n, fun n _ => ?_⟩
    rw [gb_0]
    exact (decide_eq_false (by omega)).symm
theorem X_isSpanned {A : Nat → Nat} {t k n : Nat} {low hig : Nat → Int64} (h10 : A (68 + 11 * t) ≤ 10) (hk : k ≤ A (68 + 11 * t)) (hn : n ≤ 120) (h : spA A t low hig) : fX1_isSpanned low hig (nI k) (nI n) = some (rc (LA A t) k n) := by
  have h2 := h k hk
  unfold fX1_isSpanned
  rw [if_neg (nI_pos (by omega)), if_pos (show nI n ≤ (120 : Int32) from nI_le (b := 120) hn (by omega))]
  by_cases c : 64 ≤ n
  · rw [if_pos (show (64 : Int32) ≤ nI n from nI_le (a := 64) c (by omega)), gdN (by omega) (by omega), nI_clamp (by omega), X_b40]
    obtain ⟨m, rfl⟩ : ∃ m, n = 64 + m := ⟨n - 64, by omega⟩
    rw [am_hi m (by omega), gb_shr _ (by omega), Nat.add_zero, h2.2 m (by omega)]
  · rw [if_neg (show ¬ (64 : Int32) ≤ nI n from nI_ge (b := 64) (by omega) (by omega)), gdN (by omega) (by omega), nI_clamp (by omega), X_b40, am_lo n (by omega), gb_shr _ (by omega), Nat.add_zero, h2.1 n (by omega)]
theorem X_canBe {A : Nat → Nat} {t n : Nat} {low hig : Nat → Int64} (h10 : A (68 + 11 * t) ≤ 10) (hn : n ≤ 120) (h : spA A t low hig) : fX1_canBeIn low hig (nI (A (68 + 11 * t))) (nI n) = some (rc (LA A t) (A (68 + 11 * t)) n) := by
  unfold fX1_canBeIn
  rw [X_isSpanned h10 (Nat.le_refl _) hn h, Option.bind_some]
theorem X_canNot {low hig : Nat → Int64} {spn x : Int32} (hx : x < 0) : fX1_canBeIn low hig spn x = some false := by
  unfold fX1_canBeIn fX1_isSpanned
  rw [if_pos hx, Option.bind_some]
/-- what the reference counts -/
def cnA (A : Nat → Nat) (t k : Nat) (man : Nat → Int64) : Prop := ∀ j, j ≤ 120 → man j = lN (wy (LA A t) k j)
theorem M_canBe {A : Nat → Nat} (hw : wfA A) {t k n : Nat} (ht : t < A 2) (hk : k ≤ A (68 + 11 * t)) (hn : n ≤ 120) (man nex : Nat → Int64) : ∃ man' nex', fX6_canBe (toF A) man nex (nI t) (nI k) (nI n) = some (rc (LA A t) k n, man', nex') := by
  have h10 : A (68 + 11 * t) ≤ 10 := (hw.2.2.2.2.2.1 t ht).1
  obtain ⟨m2, n2, e, hv⟩ := M_counts hw ht hk man nex
  refine ⟨m2, n2, ?_⟩
  unfold fX6_canBe
  rw [e, Option.bind_some, gdN (by omega) (by omega), nI_clamp (by omega), show (m2, n2).1 n = _ from hv n hn]
  by_cases c : rc (LA A t) k n = true
  · rw [if_neg (fun q => by rw [(lg_le0 (by omega)).mp q] at c; cases c), c]
  · rw [if_pos ((lg_le0 (by omega)).mpr (nT c)), nT c]

