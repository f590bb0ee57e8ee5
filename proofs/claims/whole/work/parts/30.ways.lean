def sumL (f : Nat → Nat) : Nat → Nat
  | 0 => 0
  | n + 1 => sumL f n + f n
theorem sumL_0 {f : Nat → Nat} {a : Nat} : ∀ {b : Nat}, a ≤ b → (∀ l, a ≤ l → l < b → f l = 0) → sumL f b = sumL f a
  | 0, h, _ => by rw [show a = 0 by omega]
  | b + 1, h, h0 => by
    by_cases hb : a = b + 1
    · rw [hb]
    · have h1 := sumL_0 (f := f) (a := a) (b := b) (by omega) (fun l h2 h3 => h0 l h2 (by omega))
      simp only [sumL]
      rw [h1, h0 b (by omega) (by omega), Nat.add_zero]
/-- WAYS of the first k parts, by words; L i l: l is a LENGTH of the i-th part -/
def wy (L : Nat → Nat → Bool) : Nat → Nat → Nat
  | 0, w => if w = 0 then 1 else 0
  | k + 1, w => sumL (fun l => if l ≤ w ∧ L k l = true then wy L k (w - l) else 0) 25
def LA (A : Nat → Nat) (t i l : Nat) : Bool := lenA A (A (69 + 11 * t + i)) l
theorem updL2 (f : Nat → Int64) (k : Nat) (a b : Int64) : vp_updL (vp_updL f k a) k b = vp_updL f k b := by
  funext j
  unfold vp_updL
  split <;> rfl
theorem updL_at (f : Nat → Int64) (k : Nat) (a : Int64) (j : Nat) : vp_updL f k a j = if j = k then a else f j := rfl
theorem tale_part {A : Nat → Nat} (hw : wfA A) {t i : Nat} (ht : t < A 2) (hi : i < A (68 + 11 * t)) : A (69 + 11 * t + i) < A 1 ∧ i < 10 ∧ t < 8 := by
  obtain ⟨hy, h1, h2, h3, hpp, htt, hhh⟩ := hw
  have := (htt t ht).2 i hi
  have := (htt t ht).1
  omega
theorem M_c57 {A : Nat → Nat} (hw : wfA A) {t i w : Nat} (ht : t < A 2) (hi : i < A (68 + 11 * t)) (hw2 : w ≤ 120) {man nex : Nat → Int64} (hm : ∀ j, j ≤ 120 → man j = lN (wy (LA A t) i j)) (K : Int32 → (Nat → Int64) → Option ((Nat → Int64) × (Nat → Int64))) :
    fix2 (fX6_counts_l57 K (toF A) man (nI t) (nI i) (nI w)) 2000 0 (vp_updL nex w 0) = K (nI (w + 1)) (vp_updL nex w (lN (wy (LA A t) (i + 1) w))) := by
  obtain ⟨tp, ti, tt⟩ := tale_part hw ht hi
  have hfin : ∀ e, (e = 25 ∨ (e = w + 1 ∧ e ≤ 25)) → sumL (fun l => if l ≤ w ∧ LA A t i l = true then wy (LA A t) i (w - l) else 0) e = wy (LA A t) (i + 1) w := by
    intro e he
    show _ = sumL _ 25
    rcases he with rfl | ⟨rfl, h25⟩
    · rfl
    · exact (sumL_0 h25 (fun l h1 h2 => if_neg (fun h => by omega))).symm
  refine up2 (if 25 ≤ w + 1 then 25 else w + 1) (fun l x5 nx => x5 = nI l ∧ nx = vp_updL nex w (lN (sumL (fun l => if l ≤ w ∧ LA A t i l = true then wy (LA A t) i (w - l) else 0) l))) ?_ ?_ 2000 0 0 _ (by split <;> omega) (by omega) ⟨rfl, rfl⟩
  · rintro K2 x5 nx ⟨rfl, rfl⟩
    unfold fX6_counts_l57
    have key : fX6_counts_b116 K (vp_updL nex w (lN (sumL (fun l => if l ≤ w ∧ LA A t i l = true then wy (LA A t) i (w - l) else 0) (if 25 ≤ w + 1 then 25 else w + 1)))) (nI w) = K (nI (w + 1)) (vp_updL nex w (lN (wy (LA A t) (i + 1) w))) := by
      unfold fX6_counts_b116
      rw [hfin _ (by split <;> omega), nI_1]
    by_cases h : 25 ≤ w + 1
    · rw [if_pos h] at key ⊢
      by_cases h2 : nI w < nI 25
      · rw [if_pos h2]; exact key
      · rw [if_neg h2, if_pos (by decide)]; exact key
    · rw [if_neg h] at key ⊢
      rw [if_pos (nI_lt (by omega) (by omega))]
      exact key
  · rintro K2 l x5 nx hl ⟨rfl, rfl⟩
    right
    have hl2 : l < 25 ∧ l ≤ w := by split at hl <;> omega
    refine ⟨nI (l + 1), _, ?_, rfl, rfl⟩
    unfold fX6_counts_l57
    rw [if_neg (nI_nlt (by omega) (by omega)), if_neg (show ¬ (25 : Int32) ≤ nI l from nI_ge (a := l) (b := 25) hl2.1 (by omega)), gdN (by omega) (by omega), nI_clamp (show w < 2 ^ 31 by omega), M_nth tt ti, Option.bind_some, M_len hw tp hl2.1, Option.bind_some, pk_sub hl2.2]
    simp only [updL_at, if_true]
    by_cases c : lenA A (A (69 + 11 * t + i)) l = true
    · have c2 : LA A t i l = true := c
      rw [c, if0t, gdN (by omega) (by omega), nI_clamp (by omega), hm _ (by omega)]
      unfold fX6_counts_b108
      rw [gdN (by omega) (by omega), nI_clamp (by omega), updL2, lN_add, nI_1]
      simp only [sumL, c2, hl2.2, and_self, if_true]
    · have c2 : ¬ LA A t i l = true := c
      rw [nT c, if0f]
      unfold fX6_counts_b108
      rw [gdN (by omega) (by omega), nI_clamp (by omega), updL2, Int64.add_zero, nI_1]
      simp only [sumL, c2, Bool.false_eq_true, and_false, if_false, Nat.add_zero]
theorem M_c125 {man nex : Nat → Int64} {V : Nat → Nat} (hn : ∀ j, j ≤ 120 → nex j = lN (V j)) (i : Nat) (K : Int32 → (Nat → Int64) → (Nat → Int64) → Option ((Nat → Int64) × (Nat → Int64))) : ∃ man', fX6_counts_b122 K man nex (nI i) = K (nI (i + 1)) man' nex ∧ ∀ j, j ≤ 120 → man' j = lN (V j) := by
  unfold fX6_counts_b122
  refine uq2 (fun o => ∃ (man' : Nat → Int64), o = K (nI (i + 1)) man' nex ∧ ∀ j, j ≤ 120 → man' j = lN (V j)) 121 (fun w x4 (mn : Nat → Int64) => x4 = nI w ∧ ∀ j, j < w → mn j = lN (V j)) ?_ ?_ 2000 0 0 man (by omega) (by omega) ⟨rfl, fun j hj => absurd hj (Nat.not_lt_zero j)⟩
  · rintro K2 x4 mn ⟨rfl, h⟩
    unfold fX6_counts_l125
    rw [if_pos (by decide)]
    unfold fX6_counts_b152
    rw [nI_1]
    exact ⟨mn, rfl, fun j hj => h j (by omega)⟩
  · rintro K2 w x4 mn hw ⟨rfl, h⟩
    right
    refine ⟨nI (w + 1), vp_updL mn w (nex w), ?_, rfl, ?_⟩
    · unfold fX6_counts_l125
      rw [if_neg (show ¬ (120 : Int32) < nI w from nI_nlt (a := 120) (b := w) (by omega) (by omega)), gdN (by omega) (by omega), gdN (by omega) (by omega), nI_clamp (by omega), nI_1]
    · intro j hj
      rw [updL_at]
      by_cases hq : j = w
      · subst hq
        rw [if_pos rfl]
        exact hn j (by omega)
      · rw [if_neg hq]
        exact h j (by omega)
theorem M_c39 {A : Nat → Nat} (hw : wfA A) {t i : Nat} (ht : t < A 2) (hi : i < A (68 + 11 * t)) {man nex : Nat → Int64} (hm : ∀ j, j ≤ 120 → man j = lN (wy (LA A t) i j)) (K : Int32 → (Nat → Int64) → (Nat → Int64) → Option ((Nat → Int64) × (Nat → Int64))) :
    ∃ man' nex', fix2 (fX6_counts_l39 K (toF A) man (nI t) (nI i)) 2000 0 nex = K (nI (i + 1)) man' nex' ∧ ∀ j, j ≤ 120 → man' j = lN (wy (LA A t) (i + 1) j) := by
  refine uq2 (fun o => ∃ (man' nex' : Nat → Int64), o = K (nI (i + 1)) man' nex' ∧ ∀ j, j ≤ 120 → man' j = lN (wy (LA A t) (i + 1) j)) 121 (fun w x4 (nx : Nat → Int64) => x4 = nI w ∧ ∀ j, j < w → nx j = lN (wy (LA A t) (i + 1) j)) ?_ ?_ 2000 0 0 nex (by omega) (by omega) ⟨rfl, fun j hj => absurd hj (Nat.not_lt_zero j)⟩
  · rintro K2 x4 nx ⟨rfl, h⟩
    unfold fX6_counts_l39
    rw [if_pos (by decide)]
    obtain ⟨man', e, hv⟩ := M_c125 (man := man) (nex := nx) (V := wy (LA A t) (i + 1)) (fun j hj => h j (by omega)) i K
    exact ⟨man', nx, e, hv⟩
  · rintro K2 w x4 nx hw2 ⟨rfl, h⟩
    right
    refine ⟨nI (w + 1), vp_updL nx w (lN (wy (LA A t) (i + 1) w)), ?_, rfl, ?_⟩
    · unfold fX6_counts_l39
      rw [if_neg (show ¬ (120 : Int32) < nI w from nI_nlt (a := 120) (b := w) (by omega) (by omega)), gdN (by omega) (by omega), nI_clamp (by omega)]
      exact M_c57 hw ht hi (by omega) hm K2
    · intro j hj
      rw [updL_at]
      by_cases hq : j = w
      · subst hq
        rw [if_pos rfl]
      · rw [if_neg hq]
        exact h j (by omega)
theorem M_counts {A : Nat → Nat} (hw : wfA A) {t k : Nat} (ht : t < A 2) (hk : k ≤ A (68 + 11 * t)) (man nex : Nat → Int64) : ∃ man' nex', fX6_counts (toF A) man nex (nI t) (nI k) = some (man', nex') ∧ ∀ j, j ≤ 120 → man' j = lN (wy (LA A t) k j) := by
  unfold fX6_counts
  refine uq2 (fun o => ∃ (man' nex' : Nat → Int64), o = some (man', nex') ∧ ∀ j, j ≤ 120 → man' j = lN (wy (LA A t) k j)) 121 (fun w x3 (mn : Nat → Int64) => x3 = nI w ∧ ∀ j, j < w → mn j = lN (wy (LA A t) 0 j)) ?_ ?_ 2000 0 0 man (by omega) (by omega) ⟨rfl, fun j hj => absurd hj (Nat.not_lt_zero j)⟩
  · rintro K2 x3 mn ⟨rfl, h⟩
    unfold fX6_counts_l2
    rw [if_pos (by decide)]
    unfold fX6_counts_b29
    have hk10 : k ≤ 10 := by have := (hw.2.2.2.2.2.1 t ht).1; omega
    refine uq3 (fun o => ∃ (man' nex' : Nat → Int64), o = some (man', nex') ∧ ∀ j, j ≤ 120 → man' j = lN (wy (LA A t) k j)) k (fun i x3 (m2 n2 : Nat → Int64) => x3 = nI i ∧ ∀ j, j ≤ 120 → m2 j = lN (wy (LA A t) i j)) ?_ ?_ 2000 0 0 mn nex (by omega) (by omega) ⟨rfl, fun j hj => h j (by omega)⟩
    · rintro K3 x3 m2 n2 ⟨rfl, h2⟩
      unfold fX6_counts_l31
      rw [if_pos (nI_le (Nat.le_refl k) (by omega))]
      exact ⟨m2, n2, rfl, h2⟩
    · rintro K3 i x3 m2 n2 hi ⟨rfl, h2⟩
      right
      obtain ⟨man', nex', e, hv⟩ := M_c39 hw ht (show i < A (68 + 11 * t) by omega) (nex := n2) h2 K3
      refine ⟨nI (i + 1), man', nex', ?_, rfl, hv⟩
      unfold fX6_counts_l31
      rw [if_neg (nI_ge hi (by omega))]
      exact e
  · rintro K2 w x3 mn hw2 ⟨rfl, h⟩
    right
    refine ⟨nI (w + 1), vp_updL mn w (lN (wy (LA A t) 0 w)), ?_, rfl, ?_⟩
    · unfold fX6_counts_l2
      rw [if_neg (show ¬ (120 : Int32) < nI w from nI_nlt (a := 120) (b := w) (by omega) (by omega))]
      by_cases h0 : w = 0
      · subst h0
        rfl
      · rw [if_neg (nI_ne0 (by omega) (by omega))]
        unfold fX6_counts_b22
        rw [gdN (by omega) (by omega), nI_clamp (by omega), nI_1]
        simp only [wy, h0, if_false]
        rfl
    · intro j hj
      rw [updL_at]
      by_cases hq : j = w
      · subst hq
        rw [if_pos rfl]
      · rw [if_neg hq]
        exact h j (by omega)
/-- a counter that falls from n -/
def dn (n i : Nat) : Int32 := if i ≤ n then nI (n - i) else -1
theorem dn_0 (n : Nat) : dn n 0 = nI n := by unfold dn; rw [if_pos (Nat.zero_le n), Nat.sub_zero]
theorem dn_in {n i : Nat} (h : i ≤ n) : dn n i = nI (n - i) := if_pos h
theorem dn_s {n i : Nat} (h : i ≤ n) : dn n i + (-1) = dn n (i + 1) := by
  rw [dn_in h]
  unfold dn
  by_cases h2 : i + 1 ≤ n
  · rw [if_pos h2, show n - i = (n - (i + 1)) + 1 by omega, pk_m1]
  · rw [if_neg h2, show n - i = 0 by omega]
    rfl
theorem dn_out (n : Nat) : dn n (n + 1) = -1 := if_neg (by omega)
theorem X_tally {A : Nat → Nat} (hw : wfA A) {t k n : Nat} (ht : t < A 2) (hk : k < A (68 + 11 * t)) (hn : n ≤ 120) {tly : Nat → Int64} (hm : ∀ j, j ≤ n → tly j = lN (wy (LA A t) k j)) : ∃ tly', fX1_tallyPart tly (nI (lsA A (A (69 + 11 * t + k)))) (nI n) = some tly' ∧ ∀ j, j ≤ n → tly' j = lN (wy (LA A t) (k + 1) j) := by
  obtain ⟨tp, ti, tt⟩ := tale_part hw ht hk
  unfold fX1_tallyPart
  refine uq2 (fun o => ∃ (tly' : Nat → Int64), o = some tly' ∧ ∀ j, j ≤ n → tly' j = lN (wy (LA A t) (k + 1) j)) (n + 1) (fun i x3 (tl : Nat → Int64) => x3 = dn n i ∧ ∀ j, j ≤ n → tl j = lN (if n < j + i then wy (LA A t) (k + 1) j else wy (LA A t) k j)) ?_ ?_ 2000 0 _ _ (by omega) (by omega) ⟨(dn_0 n).symm, fun j hj => by rw [if_neg (by omega)]; exact hm j hj⟩
  · rintro K x3 tl ⟨rfl, h⟩
    unfold fX1_tallyPart_l2
    rw [dn_out, if_pos (by decide)]
    exact ⟨tl, rfl, fun j hj => by rw [h j hj, if_pos (by omega)]⟩
  · rintro K i x3 tl hi ⟨rfl, h⟩
    right
    refine ⟨dn n (i + 1), vp_updL tl (n - i) (lN (wy (LA A t) (k + 1) (n - i))), ?_, rfl, ?_⟩
    · unfold fX1_tallyPart_l2
      rw [dn_in (by omega), if_neg (nI_pos (by omega))]
      obtain ⟨w, hwe⟩ : ∃ w, w = n - i := ⟨_, rfl⟩
      rw [← hwe]
      have hfin : ∀ e, (e = 25 ∨ (e = w + 1 ∧ e ≤ 25)) → sumL (fun l => if l ≤ w ∧ LA A t k l = true then wy (LA A t) k (w - l) else 0) e = wy (LA A t) (k + 1) w := by
        intro e he
        show _ = sumL _ 25
        rcases he with rfl | ⟨rfl, h25⟩
        · rfl
        · exact (sumL_0 h25 (fun l h1 h2 => if_neg (fun h => by omega))).symm
      refine up2 (if 25 ≤ w + 1 then 25 else w + 1) (fun l x4 x6 => x6 = nI l ∧ x4 = lN (sumL (fun l => if l ≤ w ∧ LA A t k l = true then wy (LA A t) k (w - l) else 0) l)) ?_ ?_ 2000 0 _ _ (by split <;> omega) (by omega) ⟨rfl, rfl⟩
      · rintro K2 x4 x6 ⟨rfl, rfl⟩
        unfold fX1_tallyPart_l12
        have key : fX1_tallyPart_b55 K tl (nI w) (lN (sumL (fun l => if l ≤ w ∧ LA A t k l = true then wy (LA A t) k (w - l) else 0) (if 25 ≤ w + 1 then 25 else w + 1))) = K (dn n (i + 1)) (vp_updL tl w (lN (wy (LA A t) (k + 1) w))) := by
          unfold fX1_tallyPart_b55
          rw [hfin _ (by split <;> omega), gdN (by omega) (by omega), nI_clamp (by omega), hwe, ← dn_in (show i ≤ n by omega), dn_s (by omega)]
        by_cases h : 25 ≤ w + 1
        · rw [if_pos h] at key ⊢
          by_cases h2 : nI w < nI 25
          · rw [if_pos h2]; exact key
          · rw [if_neg h2, if_pos (by decide)]; exact key
        · rw [if_neg h] at key ⊢
          rw [if_pos (nI_lt (by omega) (by omega))]
          exact key
      · rintro K2 l x4 x6 hl ⟨rfl, rfl⟩
        right
        have hl2 : l < 25 ∧ l ≤ w := by split at hl <;> omega
        refine ⟨_, nI (l + 1), ?_, rfl, rfl⟩
        unfold fX1_tallyPart_l12
        rw [if_neg (nI_nlt (by omega) (by omega)), if_neg (show ¬ (24 : Int32) < nI l from nI_nlt (a := 24) (b := l) (by omega) (by omega)), pk_sub hl2.2]
        by_cases c : lenA A (A (69 + 11 * t + k)) l = true
        · have c2 : LA A t k l = true := c
          rw [if_pos ((bitA hw tp hl2.1).mpr c), gdN (by omega) (by omega), nI_clamp (by omega), h _ (by omega), if_neg (by omega)]
          unfold fX1_tallyPart_b49
          rw [lN_add, nI_1]
          simp only [sumL, c2, hl2.2, and_self, if_true]
        · have c2 : ¬ LA A t k l = true := c
          rw [if_neg (fun e => c ((bitA hw tp hl2.1).mp e))]
          unfold fX1_tallyPart_b49
          rw [nI_1]
          simp only [sumL, c2, Bool.false_eq_true, and_false, if_false, Nat.add_zero]
    · intro j hj
      rw [updL_at]
      by_cases hq : j = n - i
      · subst hq
        rw [if_pos rfl, if_pos (by omega)]
      · rw [if_neg hq, h j hj]
        by_cases h5 : n < j + i
        · rw [if_pos h5, if_pos (by omega)]
        · rw [if_neg h5, if_neg (by omega)]
theorem X_told {A : Nat → Nat} (hw : wfA A) {par : Int32} {kin lea mos wrt : Nat → Int32} {tal : Int32} {siz tol : Nat → Int32} {hrs : Int32} {ags : Nat → Int32} {yea : Int32} (hs : stk A par kin lea mos wrt tal siz tol hrs ags yea) {t i : Nat} (ht : t < A 2) (hi : i < A (68 + 11 * t)) : fX3_toldAt tol (nI t) (nI i) = some (nI (A (69 + 11 * t + i))) := by
  obtain ⟨tp, ti, tt⟩ := tale_part hw ht hi
  rw [X_toldAt tt ti, (hs.2.2.2.1 t ht).2 i hi]
theorem X_waysIn {A : Nat → Nat} (hw : wfA A) {par : Int32} {kin lea mos wrt : Nat → Int32} {tal : Int32} {siz tol : Nat → Int32} {hrs : Int32} {ags : Nat → Int32} {yea : Int32} (hs : stk A par kin lea mos wrt tal siz tol hrs ags yea) {t n : Nat} (ht : t < A 2) (hn : n ≤ 120) (tly : Nat → Int64) : ∃ tly', fX1_waysIn kin lea mos siz tol tly (nI t) (nI n) = some (lN (wy (LA A t) (A (68 + 11 * t)) n), tly') := by
  have h8 : t < 8 := by have := hw.2.2.1; omega
  have h10 : A (68 + 11 * t) ≤ 10 := (hw.2.2.2.2.2.1 t ht).1
  unfold fX1_waysIn
  refine uq2 (fun o => ∃ (tly' : Nat → Int64), o = some (lN (wy (LA A t) (A (68 + 11 * t)) n), tly')) (n + 1) (fun w x3 (mn : Nat → Int64) => x3 = nI w ∧ ∀ j, j < w → mn j = lN (wy (LA A t) 0 j)) ?_ ?_ 2000 0 0 tly (by omega) (by omega) ⟨rfl, fun j hj => absurd hj (Nat.not_lt_zero j)⟩
  · rintro K2 x3 mn ⟨rfl, h⟩
    unfold fX1_waysIn_l2
    rw [if_pos (nI_lt (by omega) (by omega))]
    unfold fX1_waysIn_b28
    refine uq2 (fun o => ∃ (tly' : Nat → Int64), o = some (lN (wy (LA A t) (A (68 + 11 * t)) n), tly')) (A (68 + 11 * t)) (fun i x3 (m2 : Nat → Int64) => x3 = nI i ∧ ∀ j, j ≤ n → m2 j = lN (wy (LA A t) i j)) ?_ ?_ 2000 0 0 mn (by omega) (by omega) ⟨rfl, fun j hj => h j (by omega)⟩
    · rintro K3 x3 m2 ⟨rfl, h2⟩
      unfold fX1_waysIn_l30
      rw [gdN h8 (by omega), nI_clamp (by omega), (hs.2.2.2.1 t ht).1, if_pos (nI_le (Nat.le_refl _) (by omega))]
      unfold fX1_waysIn_b70
      rw [gdN (by omega) (by omega), nI_clamp (by omega), h2 n (Nat.le_refl n)]
      exact ⟨m2, rfl⟩
    · rintro K3 i x3 m2 hi ⟨rfl, h2⟩
      right
      obtain ⟨tl2, e, hv⟩ := X_tally hw ht hi hn h2
      refine ⟨nI (i + 1), tl2, ?_, rfl, hv⟩
      obtain ⟨tp, -, -⟩ := tale_part hw ht hi
      unfold fX1_waysIn_l30
      rw [gdN h8 (by omega), nI_clamp (by omega), (hs.2.2.2.1 t ht).1, if_neg (nI_ge hi (by omega)), X_told hw hs ht hi, Option.bind_some, X_len hw hs tp, Option.bind_some, e, Option.bind_some, nI_1]
  · rintro K2 w x3 mn hw2 ⟨rfl, h⟩
    right
    refine ⟨nI (w + 1), vp_updL mn w (lN (wy (LA A t) 0 w)), ?_, rfl, ?_⟩
    · unfold fX1_waysIn_l2
      rw [if_neg (nI_nlt (by omega) (by omega))]
      by_cases h0 : w = 0
      · subst h0
        rfl
      · rw [if_neg (nI_ne0 (by omega) (by omega))]
        unfold fX1_waysIn_b21
        rw [gdN (by omega) (by omega), nI_clamp (by omega), nI_1]
        simp only [wy, h0, if_false]
        rfl
    · intro j hj
      rw [updL_at]
      by_cases hq : j = w
      · subst hq
        rw [if_pos rfl]
      · rw [if_neg hq]
        exact h j (by omega)
set_option maxHeartbeats 4000000 in
theorem eq_ways {par : Int32} {kin lea mos wrt : Nat → Int32} {tal : Int32} {siz tol : Nat → Int32} {hrs : Int32} {ags : Nat → Int32} {yea kpar : Int32} {kkin klea kmos kwrt : Nat → Int32} {ktal : Int32} {ksiz ktol : Nat → Int32} {khrs : Int32} {kags : Nat → Int32} {kyea isk : Int32} {tly : Nat → Int64} {gai bes : Nat → Int32} {low hig : Nat → Int64} {spn : Int32} {byt : Nat → Int32} {hld sta beh sor num : Int32} {fnd sbi she : Nat → Int32} {snu : Nat → Nat → Int64} {msv mkep mbef : Nat → Int32} {misk : Int32} {mfnd : Nat → Int32} {mman mnex : Nat → Int64} {mwor msng mhea mlat mtap : Nat → Int32} {mtpd mher mflt mvlu : Int32} {mbit mlon : Nat → Int32} {mcel mbtw : Nat → Int64} (h : Rel par kin lea mos wrt tal siz tol hrs ags yea kpar kkin klea kmos kwrt ktal ksiz ktol khrs kags kyea isk tly gai bes low hig spn byt hld sta beh sor num fnd sbi she snu msv mkep mbef misk mfnd mman mnex mwor msng mhea mlat mtap mtpd mher mflt mvlu mbit mlon mcel mbtw) (x1 : Int32) (x2 : Int32) : ∃ (rx : Int64 × (Nat → Int64) × (Nat → Int32)) (rm : Int64 × (Nat → Int32) × (Nat → Int64) × (Nat → Int64)), fX5_ways kin lea mos tal siz tol tly fnd x1 x2 = some rx ∧ fX6_ways msv mfnd mman mnex x1 x2 = some rm ∧ rx.1 = rm.1 ∧ Rel par kin lea mos wrt tal siz tol hrs ags yea kpar kkin klea kmos kwrt ktal ksiz ktol khrs kags kyea isk rx.2.1 gai bes low hig spn byt hld sta beh sor num rx.2.2 sbi she snu msv mkep mbef misk rm.2.1 rm.2.2.1 rm.2.2.2 mwor msng mhea mlat mtap mtpd mher mflt mvlu mbit mlon mcel mbtw := by
  obtain ⟨⟨A, hw, hs, rfl⟩, hk, rfl, htp, hsh⟩ := h
  obtain ⟨hy, h1, h2, h3, hpp, htt, hhh⟩ := id hw
  obtain ⟨rfl, hsp, rfl, hst, rfl, hsa, rfl⟩ := id hs
  by_cases c : hasN (A 2) x1 = true
  · obtain ⟨t, ht, rfl⟩ := hasN_of c
    by_cases d : hasN 121 x2 = true
    · obtain ⟨n, hn, rfl⟩ := hasN_of d
      obtain ⟨tl2, ex⟩ := X_waysIn hw hs ht (show n ≤ 120 by omega) tly
      obtain ⟨m2, n2, em, hv⟩ := M_counts hw ht (Nat.le_refl _) mman mnex
      refine ⟨(lN (wy (LA A t) (A (68 + 11 * t)) n), tl2, fnd), (lN (wy (LA A t) (A (68 + 11 * t)) n), fnd, m2, n2), ?_, ?_, rfl, ⟨A, hw, hs, rfl⟩, hk, rfl, htp, hsh⟩
      · simp only [fX5_ways, hasT_eq (show A 2 < 2 ^ 31 by omega), c, if0t, X_words, d, ex, Option.bind_some]
      · simp only [fX6_ways, M_isTale (show A 2 < 2 ^ 30 by omega), Option.bind_some, c, if0t, M_isWords, d, M_long (A := A) (show t < 8 by omega), em]
        rw [gdN hn (by omega), nI_clamp (by omega), hv n (by omega)]
    · have d := nT d
      refine ⟨((fn fnd 0).1.toInt64, tly, (fn fnd 0).2), ((fn fnd 0).1.toInt64, (fn fnd 0).2, mman, mnex), ?_, ?_, rfl, ⟨A, hw, hs, rfl⟩, hk, rfl, htp, hsh⟩
      · simp only [fX5_ways, hasT_eq (show A 2 < 2 ^ 31 by omega), c, if0t, X_words, d, if0f, fX5_ways_b21, fo_0, Option.bind_some]
      · simp only [fX6_ways, M_isTale (show A 2 < 2 ^ 30 by omega), Option.bind_some, c, if0t, M_isWords, d, if0f, fX6_ways_b15, no_0]
  · have c := nT c
    refine ⟨((fn fnd 0).1.toInt64, tly, (fn fnd 0).2), ((fn fnd 0).1.toInt64, (fn fnd 0).2, mman, mnex), ?_, ?_, rfl, ⟨A, hw, hs, rfl⟩, hk, rfl, htp, hsh⟩
    · simp only [fX5_ways, hasT_eq (show A 2 < 2 ^ 31 by omega), c, if0f, fX5_ways_b21, fo_0, Option.bind_some]
    · simp only [fX6_ways, M_isTale (show A 2 < 2 ^ 30 by omega), Option.bind_some, c, if0f, fX6_ways_b15, no_0]
set_option maxRecDepth 100000 in
theorem ones_ok : ∀ k, k < 6 → ∀ a, a < 13 → ∀ b, b < 13 → (!(decide (1 ≤ a) && decide (a ≤ b)) || decide (fX6_ones (nI (lset k a b)) = some (fJ6_bitCount_0f7a4 (nI (lset k a b))))) = true := by decide +kernel
theorem M_ones {A : Nat → Nat} (hw : wfA A) {p : Nat} (hp : p < A 1) : fX6_ones (nI (lsA A p)) = some (fJ6_bitCount_0f7a4 (nI (lsA A p))) := by
  obtain ⟨hy, h1, h2, h3, hpp, htt, hhh⟩ := hw
  obtain ⟨g1, g2, g3, g4, g5⟩ := hpp p hp
  exact impB (ones_ok _ g1 _ (by omega) _ (by omega)) g2 g3
def prodB (A : Nat → Nat) (t : Nat) : Nat → Int64
  | 0 => 1
  | k + 1 => prodB A t k * (fJ6_bitCount_0f7a4 (nI (lsA A (A (69 + 11 * t + k))))).toInt64
set_option maxHeartbeats 4000000 in
theorem eq_allWays {par : Int32} {kin lea mos wrt : Nat → Int32} {tal : Int32} {siz tol : Nat → Int32} {hrs : Int32} {ags : Nat → Int32} {yea kpar : Int32} {kkin klea kmos kwrt : Nat → Int32} {ktal : Int32} {ksiz ktol : Nat → Int32} {khrs : Int32} {kags : Nat → Int32} {kyea isk : Int32} {tly : Nat → Int64} {gai bes : Nat → Int32} {low hig : Nat → Int64} {spn : Int32} {byt : Nat → Int32} {hld sta beh sor num : Int32} {fnd sbi she : Nat → Int32} {snu : Nat → Nat → Int64} {msv mkep mbef : Nat → Int32} {misk : Int32} {mfnd : Nat → Int32} {mman mnex : Nat → Int64} {mwor msng mhea mlat mtap : Nat → Int32} {mtpd mher mflt mvlu : Int32} {mbit mlon : Nat → Int32} {mcel mbtw : Nat → Int64} (h : Rel par kin lea mos wrt tal siz tol hrs ags yea kpar kkin klea kmos kwrt ktal ksiz ktol khrs kags kyea isk tly gai bes low hig spn byt hld sta beh sor num fnd sbi she snu msv mkep mbef misk mfnd mman mnex mwor msng mhea mlat mtap mtpd mher mflt mvlu mbit mlon mcel mbtw) (x1 : Int32) : ∃ (rx : Int64 × (Nat → Int32)) (rm : Int64 × (Nat → Int32)), fX5_allWays kin lea mos tal siz tol fnd x1 = some rx ∧ fX6_allWays msv mfnd x1 = some rm ∧ rx.1 = rm.1 ∧ Rel par kin lea mos wrt tal siz tol hrs ags yea kpar kkin klea kmos kwrt ktal ksiz ktol khrs kags kyea isk tly gai bes low hig spn byt hld sta beh sor num rx.2 sbi she snu msv mkep mbef misk rm.2 mman mnex mwor msng mhea mlat mtap mtpd mher mflt mvlu mbit mlon mcel mbtw := by
  obtain ⟨⟨A, hw, hs, rfl⟩, hk, rfl, htp, hsh⟩ := h
  obtain ⟨hy, h1, h2, h3, hpp, htt, hhh⟩ := id hw
  obtain ⟨rfl, hsp, rfl, hst, rfl, hsa, rfl⟩ := id hs
  by_cases c : hasN (A 2) x1 = true
  · obtain ⟨t, ht, rfl⟩ := hasN_of c
    have h8 : t < 8 := by omega
    have h10 : A (68 + 11 * t) ≤ 10 := (htt t ht).1
    refine ⟨(prodB A t (A (68 + 11 * t)), fnd), (prodB A t (A (68 + 11 * t)), fnd), ?_, ?_, rfl, ⟨A, hw, hs, rfl⟩, hk, rfl, htp, hsh⟩
    · simp only [fX5_allWays, hasT_eq (show A 2 < 2 ^ 31 by omega), c, if0t]
      have e : fX1_waysInAll kin lea mos siz tol (nI t) = some (prodB A t (A (68 + 11 * t))) := by
        unfold fX1_waysInAll
        refine up2 (A (68 + 11 * t)) (fun i x2 x4 => x4 = nI i ∧ x2 = prodB A t i) ?_ ?_ 2000 0 _ _ (by omega) (by omega) ⟨rfl, rfl⟩
        · rintro K x2 x4 ⟨rfl, rfl⟩
          unfold fX1_waysInAll_l5
          rw [gdN h8 (by omega), nI_clamp (by omega), (hst t ht).1, if_pos (nI_le (Nat.le_refl _) (by omega))]
        · rintro K i x2 x4 hi ⟨rfl, rfl⟩
          right
          obtain ⟨tp, -, -⟩ := tale_part hw ht hi
          refine ⟨_, nI (i + 1), ?_, rfl, rfl⟩
          unfold fX1_waysInAll_l5
          rw [gdN h8 (by omega), nI_clamp (by omega), (hst t ht).1, if_neg (nI_ge hi (by omega)), X_told hw hs ht hi, Option.bind_some, X_len hw hs tp, Option.bind_some, nI_1]
          rfl
      rw [e, Option.bind_some]
    · simp only [fX6_allWays, M_isTale (show A 2 < 2 ^ 30 by omega), Option.bind_some, c, if0t]
      refine up2 (A (68 + 11 * t)) (fun i x2 x4 => x4 = nI i ∧ x2 = prodB A t i) ?_ ?_ 2000 0 _ _ (by omega) (by omega) ⟨rfl, rfl⟩
      · rintro K x2 x4 ⟨rfl, rfl⟩
        unfold fX6_allWays_l20
        rw [M_long h8, Option.bind_some, if_pos (nI_le (Nat.le_refl _) (by omega))]
      · rintro K i x2 x4 hi ⟨rfl, rfl⟩
        right
        obtain ⟨tp, ti, -⟩ := tale_part hw ht hi
        refine ⟨_, nI (i + 1), ?_, rfl, rfl⟩
        unfold fX6_allWays_l20
        rw [M_long h8, Option.bind_some, if_neg (nI_ge hi (by omega)), M_nth h8 ti, Option.bind_some, M_lengths hw tp, Option.bind_some, M_ones hw tp, Option.bind_some, nI_1]
        rfl
  · have c := nT c
    refine ⟨((fn fnd 0).1.toInt64, (fn fnd 0).2), ((fn fnd 0).1.toInt64, (fn fnd 0).2), ?_, ?_, rfl, ⟨A, hw, hs, rfl⟩, hk, rfl, htp, hsh⟩
    · simp only [fX5_allWays, hasT_eq (show A 2 < 2 ^ 31 by omega), c, if0f, fo_0, Option.bind_some]
    · simp only [fX6_allWays, M_isTale (show A 2 < 2 ^ 30 by omega), Option.bind_some, c, if0f, no_0]

