theorem gmax_has {f : Nat → Option Int} {g : Int} : ∀ n, gmax f n = some g → ∃ l, l < n ∧ f l = some g
  | 0, h => by cases h
  | n + 1, h => by
    have h2 : mxo (gmax f n) (f n) = some g := h
    cases e : f n with
    | none =>
      rw [e] at h2
      obtain ⟨l, h3, h4⟩ := gmax_has n h2
      exact ⟨l, by omega, h4⟩
    | some v =>
      rw [e] at h2
      cases e2 : gmax f n with
      | none =>
        rw [e2] at h2
        exact ⟨n, by omega, e.trans h2⟩
      | some u =>
        rw [e2] at h2
        have h3 : (if v ≤ u then some u else some v) = some g := h2
        by_cases q : v ≤ u
        · rw [if_pos q] at h3
          obtain ⟨l, h4, h5⟩ := gmax_has n (e2.trans h3)
          exact ⟨l, by omega, h5⟩
        · rw [if_neg q] at h3
          exact ⟨n, by omega, e.trans h3⟩
def fbl (A : Nat → Nat) (t s j w l : Nat) : Bool := decide (fa A (A (69 + 11 * t + j)) (gn A t s (s - j - 1)) w l = gn A t s (s - j) w)
/-- the first best length of part j, with w words left -/
def bl (A : Nat → Nat) (t s j w : Nat) : Nat := fs (fbl A t s j w) 25
def wr (A : Nat → Nat) (t s w : Nat) : Nat → Nat
  | 0 => w
  | j + 1 => wr A t s w j - bl A t s j (wr A t s w j)
theorem bl_ok {A : Nat → Nat} {t s j w : Nat} (hj : j < s) {g : Int} (h : gn A t s (s - j) w = some g) : bl A t s j w < 25 ∧ bl A t s j w ≤ w ∧ lenA A (A (69 + 11 * t + j)) (bl A t s j w) = true ∧ ∃ v, gn A t s (s - j - 1) (w - bl A t s j w) = some v ∧ v + vA A (A (69 + 11 * t + j)) (bl A t s j w) = g := by
  have hd : s - j = (s - j - 1) + 1 := by omega
  have h2 : gmax (fa A (A (69 + 11 * t + j)) (gn A t s (s - j - 1)) w) 25 = some g := by
    rw [hd] at h
    have h3 : gmax (fa A (A (69 + 11 * t + (s - (s - j - 1 + 1)))) (gn A t s (s - j - 1)) w) 25 = some g := h
    rw [show s - (s - j - 1 + 1) = j by omega] at h3
    exact h3
  obtain ⟨l, hl, e⟩ := gmax_has 25 h2
  have hfl : fbl A t s j w l = true := decide_eq_true (e.trans h.symm)
  have hlt : bl A t s j w < 25 := by
    apply Nat.lt_of_not_le
    intro q
    have := fs_before (fbl A t s j w) 25 l (show l < bl A t s j w by omega)
    rw [this] at hfl
    cases hfl
  have htr : fbl A t s j w (bl A t s j w) = true := fs_lt _ 25 hlt
  have e2 : fa A (A (69 + 11 * t + j)) (gn A t s (s - j - 1)) w (bl A t s j w) = some g := (of_decide_eq_true htr).trans h
  unfold fa at e2
  by_cases q : bl A t s j w ≤ w ∧ lenA A (A (69 + 11 * t + j)) (bl A t s j w) = true
  · rw [if_pos q] at e2
    refine ⟨hlt, q.1, q.2, ?_⟩
    cases e3 : gn A t s (s - j - 1) (w - bl A t s j w) with
    | none => rw [e3] at e2; cases e2
    | some v =>
      rw [e3] at e2
      exact ⟨v, rfl, by simpa using e2⟩
  · rw [if_neg q] at e2
    cases e2
theorem wr_le (A : Nat → Nat) (t s w : Nat) : ∀ j, wr A t s w j ≤ w
  | 0 => Nat.le_refl w
  | j + 1 => by
    have := wr_le A t s w j
    show wr A t s w j - _ ≤ w
    omega
theorem wr_ok {A : Nat → Nat} {t s w : Nat} {g : Int} (h : gn A t s s w = some g) : ∀ j, j ≤ s → ∃ v, gn A t s (s - j) (wr A t s w j) = some v
  | 0, _ => ⟨g, h⟩
  | j + 1, hj => by
    obtain ⟨v, hv⟩ := wr_ok h j (by omega)
    obtain ⟨-, -, -, u, hu, -⟩ := bl_ok (by omega) hv
    exact ⟨u, by rw [show s - (j + 1) = s - j - 1 by omega]; exact hu⟩
theorem fb_false {A : Nat → Nat} {t s j w l : Nat} (h : l < bl A t s j w) : ¬ fa A (A (69 + 11 * t + j)) (gn A t s (s - j - 1)) w l = gn A t s (s - j) w := by
  have := fs_before _ 25 l h
  exact of_decide_eq_false this
theorem X_first {A : Nat → Nat} (hw : wfA A) {par : Int32} {kin lea mos wrt : Nat → Int32} {tal : Int32} {siz tol : Nat → Int32} {hrs : Int32} {ags : Nat → Int32} {yea : Int32} (hs : stk A par kin lea mos wrt tal siz tol hrs ags yea) {t j w : Nat} (ht : t < A 2) {gai : Nat → Int32} (hg : gR A t (-1000000000) gai) (hj : j < A (68 + 11 * t)) (hw2 : w ≤ 120) {g : Int} (h : gn A t (A (68 + 11 * t)) (A (68 + 11 * t) - j) w = some g) : fX1_firstBestLength kin lea mos wrt tol gai (nI t) (nI j) (nI w) = some (nI (bl A t (A (68 + 11 * t)) j w)) := by
  have h10 : A (68 + 11 * t) ≤ 10 := (hw.2.2.2.2.2.1 t ht).1
  obtain ⟨tp, ti, -⟩ := tale_part hw ht hj
  obtain ⟨s, hsz⟩ : ∃ s, A (68 + 11 * t) = s := ⟨_, rfl⟩
  obtain ⟨b1, b2, b3, v0, b4, b5⟩ := bl_ok hj h
  have hgb := gn_bd3 hw ht (d := A (68 + 11 * t) - j) (by omega) w g h
  have htgt := hg j (by omega) w hw2
  rw [h] at htgt
  unfold fX1_firstBestLength
  rw [X_told hw hs ht hj, Option.bind_some, X_len hw hs tp, Option.bind_some, e_row1]
  refine up1 (bl A t (A (68 + 11 * t)) j w) (fun l x7 => x7 = nI l) ?_ ?_ 2000 0 _ (by omega) (by omega) rfl
  · rintro K x7 rfl
    have hsrc := hg (j + 1) (by omega) (w - bl A t (A (68 + 11 * t)) j w) (by omega)
    rw [show A (68 + 11 * t) - (j + 1) = A (68 + 11 * t) - j - 1 by omega, b4] at hsrc
    have hvb := gn_bd3 hw ht (d := A (68 + 11 * t) - j - 1) (by omega) _ v0 b4
    unfold fX1_firstBestLength_l33
    rw [if_neg (show ¬ (24 : Int32) < nI (bl A t (A (68 + 11 * t)) j w) from nI_nlt (a := 24) (by omega) (by omega)), if_neg (nI_nlt b2 (by omega)), if_pos ((bitA hw tp b1).mpr b3), nI_add, pk_sub (by omega), gdN (by omega) (by omega), gdN (by omega) (by omega), nI_clamp (by omega), show 121 * (j + 1) + w - bl A t (A (68 + 11 * t)) j w = 121 * (j + 1) + (w - bl A t (A (68 + 11 * t)) j w) by omega, hsrc, if_neg (show ¬ enc (-1000000000) (some v0) = (-1000000000 : Int32) from (enc_some (by omega) (by omega) (by omega) (by omega)).1), X_val hw hs tp b1, Option.bind_some, e_rowX, gdN (by omega) (by omega), nI_clamp (by omega), htgt]
    have e9 : enc (-1000000000) (some v0) + iI (vA A (A (69 + 11 * t + j)) (bl A t (A (68 + 11 * t)) j w)) = enc (-1000000000) (some g) := by
      show iI v0 + _ = iI g
      rw [iI_add, b5]
    rw [if_pos e9]
  · rintro K l x7 hl rfl
    right
    refine ⟨nI (l + 1), ?_, rfl⟩
    have hl25 : l < 25 := by omega
    have hfb := fb_false hl
    have hvl := vA_lo hw tp hl25
    have hsrc := hg (j + 1) (by omega) (w - l) (by omega)
    rw [show A (68 + 11 * t) - (j + 1) = A (68 + 11 * t) - j - 1 by omega] at hsrc
    unfold fX1_firstBestLength_l33 fX1_firstBestLength_b115
    rw [if_neg (show ¬ (24 : Int32) < nI l from nI_nlt (a := 24) (by omega) (by omega)), if_neg (nI_nlt (show l ≤ w by omega) (by omega)), nI_1]
    by_cases c : lenA A (A (69 + 11 * t + j)) l = true
    · rw [if_pos ((bitA hw tp hl25).mpr c), nI_add, pk_sub (by omega), gdN (by omega) (by omega), gdN (by omega) (by omega), nI_clamp (by omega), show 121 * (j + 1) + w - l = 121 * (j + 1) + (w - l) by omega, hsrc]
      unfold fa at hfb
      rw [if_pos ⟨by omega, c⟩, h] at hfb
      cases e : gn A t (A (68 + 11 * t)) (A (68 + 11 * t) - j - 1) (w - l) with
      | none => rw [if_pos (show enc (-1000000000) none = (-1000000000 : Int32) from rfl)]
      | some v =>
        have hvb := gn_bd3 hw ht (d := A (68 + 11 * t) - j - 1) (by omega) _ v e
        rw [e] at hfb
        rw [if_neg (show ¬ enc (-1000000000) (some v) = (-1000000000 : Int32) from (enc_some (by omega) (by omega) (by omega) (by omega)).1), X_val hw hs tp hl25, Option.bind_some, e_rowX, gdN (by omega) (by omega), nI_clamp (by omega), htgt]
        have e9 : ¬ enc (-1000000000) (some v) + iI (vA A (A (69 + 11 * t + j)) l) = enc (-1000000000) (some g) := by
          show ¬ iI v + _ = iI g
          rw [iI_add, iI_eq (by omega) (by omega) (by omega) (by omega)]
          intro q
          exact hfb (congrArg some q)
        rw [if_neg e9]
    · rw [if_neg (fun e => c ((bitA hw tp hl25).mp e))]
theorem X_findBest {A : Nat → Nat} (hw : wfA A) {par : Int32} {kin lea mos wrt : Nat → Int32} {tal : Int32} {siz tol : Nat → Int32} {hrs : Int32} {ags : Nat → Int32} {yea : Int32} (hs : stk A par kin lea mos wrt tal siz tol hrs ags yea) {t w : Nat} (ht : t < A 2) (hw2 : w ≤ 120) (gai bes : Nat → Int32) :
    (gn A t (A (68 + 11 * t)) (A (68 + 11 * t)) w = none → ∃ ga be, fX1_findBest kin lea mos wrt siz tol gai bes (nI t) (nI w) = some (-1000000000, ga, be)) ∧
    ∀ g, gn A t (A (68 + 11 * t)) (A (68 + 11 * t)) w = some g → ∃ ga be, fX1_findBest kin lea mos wrt siz tol gai bes (nI t) (nI w) = some (iI g, ga, be) ∧ ∀ i, i < A (68 + 11 * t) → be i = nI (bl A t (A (68 + 11 * t)) i (wr A t (A (68 + 11 * t)) w i)) := by
  have h8 : t < 8 := by have := hw.2.2.1; omega
  have h10 : A (68 + 11 * t) ≤ 10 := (hw.2.2.2.2.2.1 t ht).1
  obtain ⟨ga, X1, hX⟩ := X_gains hw hs ht gai
  have h0 := hX 0 (Nat.zero_le _) w hw2
  rw [Nat.mul_zero, Nat.zero_add, Nat.sub_zero] at h0
  constructor
  · intro hn
    rw [hn] at h0
    refine ⟨ga, bes, ?_⟩
    unfold fX1_findBest
    rw [X1, Option.bind_some, gdN (by omega) (by omega), nI_clamp (by omega), h0]
    have key : ∀ K, fX1_findBest_l18 kin lea mos wrt siz tol ga (nI t) (enc (-1000000000) none) K (nI w) 0 bes = some (-1000000000, ga, bes) := by
      intro K
      unfold fX1_findBest_l18
      rw [gdN h8 (by omega)]
      by_cases q : siz (nI t).toNatClampNeg ≤ 0
      · rw [if_pos q]; rfl
      · rw [if_neg q, if_pos (show enc (-1000000000) none = (-1000000000 : Int32) from rfl)]; rfl
    exact up3 0 (fun i x4 x5 (be : Nat → Int32) => x4 = nI w ∧ x5 = 0 ∧ be = bes) (by rintro K x4 x5 be ⟨rfl, rfl, rfl⟩; exact key K) (by rintro K i x4 x5 be hi; exact absurd hi (Nat.not_lt_zero i)) 2000 0 _ _ _ (by omega) (by omega) ⟨rfl, rfl, rfl⟩
  · intro g hg
    have hgb := gn_bd3 hw ht (d := A (68 + 11 * t)) (by omega) w g hg
    rw [hg] at h0
    unfold fX1_findBest
    rw [X1, Option.bind_some, gdN (by omega) (by omega), nI_clamp (by omega), h0]
    refine uq3 (fun o => ∃ (ga be : Nat → Int32), o = some (iI g, ga, be) ∧ ∀ i, i < A (68 + 11 * t) → be i = nI (bl A t (A (68 + 11 * t)) i (wr A t (A (68 + 11 * t)) w i))) (A (68 + 11 * t)) (fun j x4 x5 (be : Nat → Int32) => x4 = nI (wr A t (A (68 + 11 * t)) w j) ∧ x5 = nI j ∧ ∀ i, i < j → be i = nI (bl A t (A (68 + 11 * t)) i (wr A t (A (68 + 11 * t)) w i))) ?_ ?_ 2000 0 _ _ _ (by omega) (by omega) ⟨rfl, rfl, fun i hi => absurd hi (Nat.not_lt_zero i)⟩
    · rintro K x4 x5 be ⟨rfl, rfl, h⟩
      unfold fX1_findBest_l18
      rw [gdN h8 (by omega), nI_clamp (by omega), (hs.2.2.2.1 t ht).1, if_pos (nI_le (Nat.le_refl _) (by omega))]
      exact ⟨ga, be, rfl, h⟩
    · rintro K j x4 x5 be hj ⟨rfl, rfl, h⟩
      right
      obtain ⟨v, hv⟩ := wr_ok hg j (by omega)
      have hwl := wr_le A t (A (68 + 11 * t)) w j
      obtain ⟨b1, b2, -, -⟩ := bl_ok hj hv
      refine ⟨nI (wr A t (A (68 + 11 * t)) w (j + 1)), nI (j + 1), upd be j (nI (bl A t (A (68 + 11 * t)) j (wr A t (A (68 + 11 * t)) w j))), ?_, rfl, rfl, ?_⟩
      · unfold fX1_findBest_l18
        rw [gdN h8 (by omega), nI_clamp (show t < 2 ^ 31 by omega), (hs.2.2.2.1 t ht).1, if_neg (nI_ge hj (by omega)), if_neg (show ¬ enc (-1000000000) (some g) = (-1000000000 : Int32) from (enc_some (by omega) (by omega) (by omega) (by omega)).1), X_first hw hs ht hX hj (by omega) hv, Option.bind_some, gdN (by omega) (by omega), gdN (by omega) (by omega), nI_clamp (by omega), updI_at, if_pos rfl, pk_sub b2, nI_1]
        rfl
      · intro i hi
        rw [updI_at]
        by_cases q : i = j
        · rw [if_pos q, q]
        · rw [if_neg q]
          exact h i (by omega)
theorem M_says {A : Nat → Nat} (hw : wfA A) {t w : Nat} (ht : t < A 2) (hw2 : w ≤ 120) (wor sng : Nat → Int32) :
    (gn A t (A (68 + 11 * t)) (A (68 + 11 * t)) w = none → ∃ wo sn, fX6_says (toF A) wor sng (nI t) (nI w) = some (false, wo, sn)) ∧
    ∀ g, gn A t (A (68 + 11 * t)) (A (68 + 11 * t)) w = some g → ∃ wo sn, fX6_says (toF A) wor sng (nI t) (nI w) = some (true, wo, sn) ∧ wo w = iI g ∧ ∀ i, i < A (68 + 11 * t) → sn i = nI (bl A t (A (68 + 11 * t)) i (wr A t (A (68 + 11 * t)) w i)) := by
  have h8 : t < 8 := by have := hw.2.2.1; omega
  have h10 : A (68 + 11 * t) ≤ 10 := (hw.2.2.2.2.2.1 t ht).1
  obtain ⟨wo, M1, hM⟩ := M_weighs hw ht wor
  have h0 := hM 0 (Nat.zero_le _) w hw2
  rw [Nat.mul_zero, Nat.zero_add, Nat.sub_zero] at h0
  have hw0 : fX6_worthAt wo 0 (nI w) = some (wo w) := by
    have := M_worthAt (A := A) (t := t) (j := 0) h10 (by omega) hw2 wo
    rw [Nat.mul_zero, Nat.zero_add] at this
    exact this
  constructor
  · intro hn
    rw [hn] at h0
    refine ⟨wo, sng, ?_⟩
    unfold fX6_says
    rw [M1, Option.bind_some, hw0, Option.bind_some, h0, if_pos (show enc (-1000000) none = (-1000000 : Int32) from rfl)]
  · intro g hg
    have hgb := gn_bd3 hw ht (d := A (68 + 11 * t)) (by omega) w g hg
    rw [hg] at h0
    unfold fX6_says
    rw [M1, Option.bind_some, hw0, Option.bind_some, h0, if_neg (show ¬ enc (-1000000) (some g) = (-1000000 : Int32) from (enc_some (by omega) (by omega) (by omega) (by omega)).1)]
    refine uq3 (fun o => ∃ (wo sn : Nat → Int32), o = some (true, wo, sn) ∧ wo w = iI g ∧ ∀ i, i < A (68 + 11 * t) → sn i = nI (bl A t (A (68 + 11 * t)) i (wr A t (A (68 + 11 * t)) w i))) (A (68 + 11 * t)) (fun j x3 x4 (sn : Nat → Int32) => x3 = nI (wr A t (A (68 + 11 * t)) w j) ∧ x4 = nI j ∧ ∀ i, i < j → sn i = nI (bl A t (A (68 + 11 * t)) i (wr A t (A (68 + 11 * t)) w i))) ?_ ?_ 2000 0 _ _ _ (by omega) (by omega) ⟨rfl, rfl, fun i hi => absurd hi (Nat.not_lt_zero i)⟩
    · rintro K x3 x4 sn ⟨rfl, rfl, h⟩
      unfold fX6_says_l23
      rw [M_long h8, Option.bind_some, if_pos (nI_le (Nat.le_refl _) (by omega))]
      exact ⟨wo, sn, rfl, h0, h⟩
    · rintro K j x3 x4 sn hj ⟨rfl, rfl, h⟩
      right
      obtain ⟨v, hv⟩ := wr_ok hg j (by omega)
      have hwl := wr_le A t (A (68 + 11 * t)) w j
      obtain ⟨tp, ti, -⟩ := tale_part hw ht hj
      obtain ⟨b1, b2, b3, v0, b4, b5⟩ := bl_ok hj hv
      obtain ⟨W, hW⟩ : ∃ W, wr A t (A (68 + 11 * t)) w j = W := ⟨_, rfl⟩
      have hW1 : wr A t (A (68 + 11 * t)) w (j + 1) = W - bl A t (A (68 + 11 * t)) j W := by
        show wr A t (A (68 + 11 * t)) w j - bl A t (A (68 + 11 * t)) j (wr A t (A (68 + 11 * t)) w j) = _
        rw [hW]
      rw [hW] at hv hwl b1 b2 b3 b4 b5 ⊢
      have hvb0 := gn_bd3 hw ht (d := A (68 + 11 * t) - j) (by omega) W v hv
      have htgt := hM j (by omega) W (by omega)
      rw [hv] at htgt
      refine ⟨nI (wr A t (A (68 + 11 * t)) w (j + 1)), nI (j + 1), upd sn j (nI (bl A t (A (68 + 11 * t)) j W)), ?_, rfl, rfl, ?_⟩
      · unfold fX6_says_l23
        rw [M_long h8, Option.bind_some, if_neg (nI_ge hj (by omega)), M_nth h8 ti, Option.bind_some, hW1]
        refine up1 (bl A t (A (68 + 11 * t)) j W) (fun l x6 => x6 = nI l) ?_ ?_ 2000 0 _ (by omega) (by omega) rfl
        · rintro K2 x6 rfl
          have hsrc := hM (j + 1) (by omega) (W - bl A t (A (68 + 11 * t)) j W) (by omega)
          rw [show A (68 + 11 * t) - (j + 1) = A (68 + 11 * t) - j - 1 by omega, b4] at hsrc
          have hvb := gn_bd3 hw ht (d := A (68 + 11 * t) - j - 1) (by omega) _ v0 b4
          unfold fX6_says_l45
          rw [M_len hw tp b1, Option.bind_some, b3, if0t, pk_sub b2, nI_1, M_worthAt h10 (by omega) (by omega), Option.bind_some, hsrc, if_neg (show ¬ enc (-1000000) (some v0) ≤ (-1000000 : Int32) from (enc_some (by omega) (by omega) (by omega) (by omega)).2), M_val hw tp b1, Option.bind_some, Option.bind_some, M_worthAt h10 (by omega) (by omega), Option.bind_some, htgt]
          have e9 : iI (vA A (A (69 + 11 * t + j)) (bl A t (A (68 + 11 * t)) j W)) + enc (-1000000) (some v0) = enc (-1000000) (some v) := by
            show _ + iI v0 = iI v
            rw [iI_add, Int.add_comm, b5]
          rw [if_pos e9]
          unfold fX6_says_b110
          rw [gdN ti (by omega), nI_clamp (by omega), pk_sub b2, nI_1]
        · rintro K2 l x6 hl rfl
          right
          refine ⟨nI (l + 1), ?_, rfl⟩
          have hl25 : l < 25 := by omega
          have hfb := fb_false hl
          have hvl := vA_lo hw tp hl25
          have hsrc := hM (j + 1) (by omega) (W - l) (by omega)
          rw [show A (68 + 11 * t) - (j + 1) = A (68 + 11 * t) - j - 1 by omega] at hsrc
          unfold fX6_says_l45 fX6_says_b104
          rw [M_len hw tp hl25, Option.bind_some, nI_1]
          by_cases c : lenA A (A (69 + 11 * t + j)) l = true
          · rw [c, if0t, pk_sub (show l ≤ W by omega), nI_1, M_worthAt h10 (by omega) (by omega), Option.bind_some, hsrc]
            unfold fa at hfb
            rw [if_pos ⟨by omega, c⟩, hv] at hfb
            cases e : gn A t (A (68 + 11 * t)) (A (68 + 11 * t) - j - 1) (W - l) with
            | none => rw [if_pos (show enc (-1000000) none ≤ (-1000000 : Int32) by decide)]
            | some u =>
              have hvb := gn_bd3 hw ht (d := A (68 + 11 * t) - j - 1) (by omega) _ u e
              rw [e] at hfb
              rw [if_neg (show ¬ enc (-1000000) (some u) ≤ (-1000000 : Int32) from (enc_some (by omega) (by omega) (by omega) (by omega)).2), M_val hw tp hl25, Option.bind_some, Option.bind_some, M_worthAt h10 (by omega) (by omega), Option.bind_some, htgt]
              have e9 : ¬ iI (vA A (A (69 + 11 * t + j)) l) + enc (-1000000) (some u) = enc (-1000000) (some v) := by
                show ¬ _ + iI u = iI v
                rw [iI_add, iI_eq (by omega) (by omega) (by omega) (by omega)]
                intro q
                exact hfb (congrArg some ((Int.add_comm _ _).trans q))
              rw [if_neg e9]
          · rw [nT c, if0f]
      · intro i hi
        rw [updI_at]
        by_cases q : i = j
        · rw [if_pos q, q, hW]
        · rw [if_neg q]
          exact h i (by omega)

