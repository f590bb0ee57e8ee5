def toB (P : Nat → Bool) : Nat → Int32
  | 0 => 0
  | h + 1 => toB P h ||| (if P h = true then (1 : Int32) <<< (nI h &&& 31) else 0)
theorem toB_t {P : Nat → Bool} {h : Nat} (c : P h = true) : toB P h ||| ((1 : Int32) <<< (nI h &&& 31)) = toB P (h + 1) := by rw [toB, if_pos c]
theorem toB_f0 {P : Nat → Bool} {h : Nat} (c : P h = false) : toB P h ||| 0 = toB P (h + 1) := by rw [toB, if_neg (by rw [c]; exact Bool.false_ne_true)]
theorem toB_f {P : Nat → Bool} {h : Nat} (c : P h = false) : toB P h = toB P (h + 1) := by rw [← toB_f0 c, Int32.or_zero]
/-- tale t can be told to one of that age -/
def R (A : Nat → Nat) (t n : Nat) : Bool := rc (LA A t) (A (68 + 11 * t)) n
set_option maxHeartbeats 4000000 in
theorem eq_to {par : Int32} {kin lea mos wrt : Nat → Int32} {tal : Int32} {siz tol : Nat → Int32} {hrs : Int32} {ags : Nat → Int32} {yea kpar : Int32} {kkin klea kmos kwrt : Nat → Int32} {ktal : Int32} {ksiz ktol : Nat → Int32} {khrs : Int32} {kags : Nat → Int32} {kyea isk : Int32} {tly : Nat → Int64} {gai bes : Nat → Int32} {low hig : Nat → Int64} {spn : Int32} {byt : Nat → Int32} {hld sta beh sor num : Int32} {fnd sbi she : Nat → Int32} {snu : Nat → Nat → Int64} {msv mkep mbef : Nat → Int32} {misk : Int32} {mfnd : Nat → Int32} {mman mnex : Nat → Int64} {mwor msng mhea mlat mtap : Nat → Int32} {mtpd mher mflt mvlu : Int32} {mbit mlon : Nat → Int32} {mcel mbtw : Nat → Int64} (h : Rel par kin lea mos wrt tal siz tol hrs ags yea kpar kkin klea kmos kwrt ktal ksiz ktol khrs kags kyea isk tly gai bes low hig spn byt hld sta beh sor num fnd sbi she snu msv mkep mbef misk mfnd mman mnex mwor msng mhea mlat mtap mtpd mher mflt mvlu mbit mlon mcel mbtw) (x1 : Int32) : ∃ (rx : Int32 × (Nat → Int64) × (Nat → Int64) × Int32 × (Nat → Int32)) (rm : Int32 × (Nat → Int32) × (Nat → Int64) × (Nat → Int64)), fX5_to kin lea mos tal siz tol hrs ags low hig spn fnd x1 = some rx ∧ fX6_to msv mfnd mman mnex x1 = some rm ∧ rx.1 = rm.1 ∧ Rel par kin lea mos wrt tal siz tol hrs ags yea kpar kkin klea kmos kwrt ktal ksiz ktol khrs kags kyea isk tly gai bes rx.2.1 rx.2.2.1 rx.2.2.2.1 byt hld sta beh sor num rx.2.2.2.2 sbi she snu msv mkep mbef misk rm.2.1 rm.2.2.1 rm.2.2.2 mwor msng mhea mlat mtap mtpd mher mflt mvlu mbit mlon mcel mbtw := by
  obtain ⟨⟨A, hw, hs, rfl⟩, hk, rfl, htp, hsh⟩ := h
  obtain ⟨hy, h1, h2, h3, hpp, htt, hhh⟩ := id hw
  obtain ⟨rfl, hsp, rfl, hst, rfl, hsa, rfl⟩ := id hs
  by_cases c : hasN (A 2) x1 = true
  · obtain ⟨t, ht, rfl⟩ := hasN_of c
    have h8 : t < 8 := by omega
    have h10 := (htt t ht).1
    obtain ⟨lo, hi, ex, hsp2⟩ := X_spanWords hw hs ht low hig spn
    obtain ⟨m2, n2, em, hv⟩ := M_counts hw ht (Nat.le_refl _) mman mnex
    have X1 : fX1_sayableTo (nI (A 3)) ags lo hi (nI (A (68 + 11 * t))) = some (toB (fun h => R A t (A (156 + h))) (A 3)) := by
      unfold fX1_sayableTo
      refine up2 (A 3) (fun i x1 x2 => x1 = toB (fun h => R A t (A (156 + h))) i ∧ x2 = nI i) ?_ ?_ 2000 0 _ _ (by omega) (by omega) ⟨rfl, rfl⟩
      · rintro K x1 x2 ⟨rfl, rfl⟩
        unfold fX1_sayableTo_l4
        rw [if_pos (nI_le (Nat.le_refl _) (by omega))]
      · rintro K i x1 x2 hi2 ⟨rfl, rfl⟩
        right
        have ha := hhh i hi2
        refine ⟨_, nI (i + 1), ?_, rfl, rfl⟩
        unfold fX1_sayableTo_l4
        rw [if_neg (nI_ge hi2 (by omega)), gdN (by omega) (by omega), nI_clamp (by omega), hsa i hi2, X_canBe h10 (by omega) hsp2, Option.bind_some]
        unfold fX1_sayableTo_b37
        by_cases d : rc (LA A t) (A (68 + 11 * t)) (A (156 + i)) = true
        · rw [d, if0t, toB_t (P := fun h => R A t (A (156 + h))) d, nI_1]
        · rw [nT d, if0f, toB_f (P := fun h => R A t (A (156 + h))) (nT d), nI_1]
    have M1 : fix2 (fX6_toWhom_l14 (toF A) m2 n2) 2000 0 0 = some (toB (fun h => R A t (A (156 + h))) (A 3), m2, n2) := by
      refine up2 (A 3) (fun i x1 x2 => x1 = toB (fun h => R A t (A (156 + h))) i ∧ x2 = nI i) ?_ ?_ 2000 0 _ _ (by omega) (by omega) ⟨rfl, rfl⟩
      · rintro K x1 x2 ⟨rfl, rfl⟩
        unfold fX6_toWhom_l14
        rw [if_pos (show toF A (3 : Int32).toNatClampNeg ≤ nI (A 3) from nI_le (Nat.le_refl _) (by omega))]
      · rintro K i x1 x2 hi2 ⟨rfl, rfl⟩
        right
        have ha := hhh i hi2
        refine ⟨_, nI (i + 1), ?_, rfl, rfl⟩
        unfold fX6_toWhom_l14
        rw [if_neg (show ¬ toF A (3 : Int32).toNatClampNeg ≤ nI i from nI_ge (b := A 3) hi2 (by omega)), e_age, gdN (by omega) (by omega), nI_clamp (show 156 + i < 2 ^ 31 by omega), toF_at, gdN (by omega) (by omega), nI_clamp (by omega), hv _ (by omega)]
        unfold fX6_toWhom_b52
        by_cases d : rc (LA A t) (A (68 + 11 * t)) (A (156 + i)) = true
        · rw [if_neg (fun q => by rw [(lg_le0 h10).mp q] at d; cases d), toB_t (P := fun h => R A t (A (156 + h))) d, nI_1]
        · rw [if_pos ((lg_le0 h10).mpr (nT d)), toB_f0 (P := fun h => R A t (A (156 + h))) (nT d), nI_1]
    refine ⟨(toB (fun h => R A t (A (156 + h))) (A 3), lo, hi, nI (A (68 + 11 * t)), fnd), (toB (fun h => R A t (A (156 + h))) (A 3), fnd, m2, n2), ?_, ?_, rfl, ⟨A, hw, hs, rfl⟩, hk, rfl, htp, hsh⟩
    · simp only [fX5_to, hasT_eq (show A 2 < 2 ^ 31 by omega), c, if0t, ex, Option.bind_some, X1]
    · simp only [fX6_to, M_isTale (show A 2 < 2 ^ 30 by omega), Option.bind_some, c, if0t, fX6_toWhom, M_long (A := A) h8, em, M1]
  · have c := nT c
    refine ⟨((fn fnd 0).1, low, hig, spn, (fn fnd 0).2), ((fn fnd 0).1, (fn fnd 0).2, mman, mnex), ?_, ?_, rfl, ⟨A, hw, hs, rfl⟩, hk, rfl, htp, hsh⟩
    · simp only [fX5_to, hasT_eq (show A 2 < 2 ^ 31 by omega), c, if0f, fo_0, Option.bind_some]
    · simp only [fX6_to, M_isTale (show A 2 < 2 ^ 30 by omega), Option.bind_some, c, if0f, no_0]
set_option maxHeartbeats 4000000 in
theorem eq_tales {par : Int32} {kin lea mos wrt : Nat → Int32} {tal : Int32} {siz tol : Nat → Int32} {hrs : Int32} {ags : Nat → Int32} {yea kpar : Int32} {kkin klea kmos kwrt : Nat → Int32} {ktal : Int32} {ksiz ktol : Nat → Int32} {khrs : Int32} {kags : Nat → Int32} {kyea isk : Int32} {tly : Nat → Int64} {gai bes : Nat → Int32} {low hig : Nat → Int64} {spn : Int32} {byt : Nat → Int32} {hld sta beh sor num : Int32} {fnd sbi she : Nat → Int32} {snu : Nat → Nat → Int64} {msv mkep mbef : Nat → Int32} {misk : Int32} {mfnd : Nat → Int32} {mman mnex : Nat → Int64} {mwor msng mhea mlat mtap : Nat → Int32} {mtpd mher mflt mvlu : Int32} {mbit mlon : Nat → Int32} {mcel mbtw : Nat → Int64} (h : Rel par kin lea mos wrt tal siz tol hrs ags yea kpar kkin klea kmos kwrt ktal ksiz ktol khrs kags kyea isk tly gai bes low hig spn byt hld sta beh sor num fnd sbi she snu msv mkep mbef misk mfnd mman mnex mwor msng mhea mlat mtap mtpd mher mflt mvlu mbit mlon mcel mbtw) (x1 : Int32) : ∃ (rx : Int32 × (Nat → Int64) × (Nat → Int64) × Int32 × (Nat → Int32)) (rm : Int32 × (Nat → Int32) × (Nat → Int64) × (Nat → Int64)), fX5_tales kin lea mos tal siz tol hrs ags low hig spn fnd x1 = some rx ∧ fX6_tales msv mfnd mman mnex x1 = some rm ∧ rx.1 = rm.1 ∧ Rel par kin lea mos wrt tal siz tol hrs ags yea kpar kkin klea kmos kwrt ktal ksiz ktol khrs kags kyea isk tly gai bes rx.2.1 rx.2.2.1 rx.2.2.2.1 byt hld sta beh sor num rx.2.2.2.2 sbi she snu msv mkep mbef misk rm.2.1 rm.2.2.1 rm.2.2.2 mwor msng mhea mlat mtap mtpd mher mflt mvlu mbit mlon mcel mbtw := by
  obtain ⟨⟨A, hw, hs, rfl⟩, hk, rfl, htp, hsh⟩ := h
  obtain ⟨hy, h1, h2, h3, hpp, htt, hhh⟩ := id hw
  obtain ⟨rfl, hsp, rfl, hst, rfl, hsa, rfl⟩ := id hs
  by_cases c : hasN (A 3) x1 = true
  · obtain ⟨h, hh, rfl⟩ := hasN_of c
    have ha := hhh h hh
    have X1 : ∃ lo hi sp, fix5 (fX5_tales_l22 kin lea mos (nI (A 2)) siz tol ags fnd (nI h)) 2000 0 0 low hig spn = some (toB (fun t => R A t (A (156 + h))) (A 2), lo, hi, sp, fnd) := by
      refine uq5 (fun o => ∃ (lo hi : Nat → Int64) (sp : Int32), o = some (toB (fun t => R A t (A (156 + h))) (A 2), lo, hi, sp, fnd)) (A 2) (fun i x1 x2 (lo hi : Nat → Int64) (sp : Int32) => x1 = toB (fun t => R A t (A (156 + h))) i ∧ x2 = nI i) ?_ ?_ 2000 0 _ _ _ _ _ (by omega) (by omega) ⟨rfl, rfl⟩
      · rintro K x1 x2 lo hi sp ⟨rfl, rfl⟩
        unfold fX5_tales_l22
        rw [if_pos (nI_le (Nat.le_refl _) (by omega))]
        exact ⟨lo, hi, sp, rfl⟩
      · rintro K i x1 x2 lo hi sp hi2 ⟨rfl, rfl⟩
        right
        obtain ⟨lo2, hi3, ex, hsp2⟩ := X_spanWords hw hs hi2 lo hi sp
        refine ⟨_, nI (i + 1), lo2, hi3, nI (A (68 + 11 * i)), ?_, rfl, rfl⟩
        unfold fX5_tales_l22
        rw [if_neg (nI_ge hi2 (by omega)), ex, Option.bind_some, gdN (by omega) (by omega), nI_clamp (by omega), hsa h hh, X_canBe (htt i hi2).1 (by omega) hsp2, Option.bind_some]
        unfold fX5_tales_b66
        by_cases d : rc (LA A i) (A (68 + 11 * i)) (A (156 + h)) = true
        · rw [d, if0t, toB_t (P := fun t => R A t (A (156 + h))) d, nI_1]
        · rw [nT d, if0f, toB_f (P := fun t => R A t (A (156 + h))) (nT d), nI_1]
    have M1 : ∃ m2 n2, fix4 (fX6_tales_l18 (toF A) fnd (nI h)) 2000 0 0 mman mnex = some (toB (fun t => R A t (A (156 + h))) (A 2), fnd, m2, n2) := by
      refine uq4 (fun o => ∃ (m2 n2 : Nat → Int64), o = some (toB (fun t => R A t (A (156 + h))) (A 2), fnd, m2, n2)) (A 2) (fun i x1 x2 (m n : Nat → Int64) => x1 = toB (fun t => R A t (A (156 + h))) i ∧ x2 = nI i) ?_ ?_ 2000 0 _ _ _ _ (by omega) (by omega) ⟨rfl, rfl⟩
      · rintro K x1 x2 m n ⟨rfl, rfl⟩
        unfold fX6_tales_l18
        rw [if_pos (show toF A (2 : Int32).toNatClampNeg ≤ nI (A 2) from nI_le (Nat.le_refl _) (by omega))]
        exact ⟨m, n, rfl⟩
      · rintro K i x1 x2 m n hi2 ⟨rfl, rfl⟩
        right
        obtain ⟨m3, n3, em⟩ := M_canBe hw hi2 (Nat.le_refl _) (show A (156 + h) ≤ 120 by omega) m n
        refine ⟨_, nI (i + 1), m3, n3, ?_, rfl, rfl⟩
        unfold fX6_tales_l18
        rw [if_neg (show ¬ toF A (2 : Int32).toNatClampNeg ≤ nI i from nI_ge (b := A 2) hi2 (by omega)), M_long (by omega), Option.bind_some, e_age, gdN (by omega) (by omega), nI_clamp (show 156 + h < 2 ^ 31 by omega), toF_at, em, Option.bind_some]
        unfold fX6_tales_b59
        by_cases d : rc (LA A i) (A (68 + 11 * i)) (A (156 + h)) = true
        · rw [d, if0t, toB_t (P := fun t => R A t (A (156 + h))) d, nI_1]
        · rw [nT d, if0f, toB_f0 (P := fun t => R A t (A (156 + h))) (nT d), nI_1]
    obtain ⟨lo, hi, sp, X1⟩ := X1
    obtain ⟨m2, n2, M1⟩ := M1
    refine ⟨(toB (fun t => R A t (A (156 + h))) (A 2), lo, hi, sp, fnd), (toB (fun t => R A t (A (156 + h))) (A 2), fnd, m2, n2), ?_, ?_, rfl, ⟨A, hw, hs, rfl⟩, hk, rfl, htp, hsh⟩
    · simp only [fX5_tales, hasH_eq (show A 3 < 2 ^ 31 by omega), c, if0t, X1]
    · simp only [fX6_tales, M_isHearer (show A 3 < 2 ^ 30 by omega), Option.bind_some, c, if0t, M1]
  · have c := nT c
    refine ⟨((fn fnd 0).1, low, hig, spn, (fn fnd 0).2), ((fn fnd 0).1, (fn fnd 0).2, mman, mnex), ?_, ?_, rfl, ⟨A, hw, hs, rfl⟩, hk, rfl, htp, hsh⟩
    · simp only [fX5_tales, hasH_eq (show A 3 < 2 ^ 31 by omega), c, if0f, fo_0, Option.bind_some]
    · simp only [fX6_tales, M_isHearer (show A 3 < 2 ^ 30 by omega), Option.bind_some, c, if0f, no_0]
/-- the first below n, or n -/
def fs (f : Nat → Bool) : Nat → Nat
  | 0 => 0
  | n + 1 => if fs f n < n then fs f n else if f n = true then n else n + 1
theorem fs_none {f : Nat → Bool} : ∀ {n : Nat}, (∀ j, j < n → f j = false) → fs f n = n
  | 0, _ => rfl
  | n + 1, h => by
    rw [fs, fs_none (fun j hj => h j (by omega)), if_neg (Nat.lt_irrefl n), if_neg (by rw [h n (by omega)]; exact Bool.false_ne_true)]
theorem fs_at {f : Nat → Bool} {i : Nat} (h : ∀ j, j < i → f j = false) (c : f i = true) : ∀ {n : Nat}, i < n → fs f n = i
  | 0, hn => absurd hn (Nat.not_lt_zero i)
  | n + 1, hn => by
    by_cases e : i = n
    · subst e
      rw [fs, fs_none h, if_neg (Nat.lt_irrefl i), if_pos c]
    · rw [fs, fs_at h c (n := n) (by omega), if_pos (by omega)]
theorem fs_le (f : Nat → Bool) : ∀ n, fs f n ≤ n
  | 0 => Nat.le_refl 0
  | n + 1 => by
    have := fs_le f n
    rw [fs]
    split
    · omega
    · split <;> omega
theorem fs_lt (f : Nat → Bool) : ∀ n, fs f n < n → f (fs f n) = true
  | 0, h => absurd h (Nat.not_lt_zero _)
  | n + 1, h => by
    rw [fs] at h ⊢
    by_cases c : fs f n < n
    · rw [if_pos c]; exact fs_lt f n c
    · rw [if_neg c] at h ⊢
      by_cases d : f n = true
      · rw [if_pos d]; exact d
      · rw [if_neg d] at h; omega
theorem fs_before (f : Nat → Bool) : ∀ n j, j < fs f n → f j = false
  | 0, j, h => absurd h (Nat.not_lt_zero _)
  | n + 1, j, h => by
    rw [fs] at h
    by_cases c : fs f n < n
    · rw [if_pos c] at h; exact fs_before f n j h
    · rw [if_neg c] at h
      have hle := fs_le f n
      by_cases e : j = n
      · subst e
        by_cases d : f j = true
        · rw [if_pos d] at h; omega
        · exact nT d
      · refine fs_before f n j ?_
        split at h <;> omega
/-- an age after some years -/
def old (a y : Nat) : Nat := if a + y ≤ 99 then a + y else 99
theorem old_le (a y : Nat) : old a y ≤ 99 := by unfold old; split <;> omega
theorem older_eq {a y : Nat} (ha : a ≤ 999) (hy : y ≤ 999) : fX6_older (nI a) (nI y) = nI (old a y) := by
  unfold fX6_older old
  rw [nI_add]
  by_cases c : a + y ≤ 99
  · rw [if_pos (show nI (a + y) ≤ (99 : Int32) from nI_le (b := 99) c (by omega)), if_pos c]
  · rw [if_neg (show ¬ nI (a + y) ≤ (99 : Int32) from nI_ge (a := 99) (by omega) (by omega)), if_neg c]; rfl
theorem X_ageIn {ags : Nat → Int32} {h a y : Nat} (hh : h < 10) (e : ags h = nI a) (ha : a ≤ 999) (hy : y ≤ 999) : fX3_ageIn ags (nI h) (nI y) = some (nI (old a y)) := by
  unfold fX3_ageIn old
  rw [gdN hh (by omega), nI_clamp (by omega), e, nI_add]
  by_cases c : a + y < 99
  · rw [if_pos (show nI (a + y) < (99 : Int32) from nI_lt (b := 99) c (by omega)), if_pos (by omega)]
  · rw [if_neg (show ¬ nI (a + y) < (99 : Int32) from nI_nlt (b := a + y) (a := a + y) (by omega) (by omega) |> fun _ => nI_nlt (b := 99) (a := a + y) (by omega) (by omega))]
    by_cases c2 : a + y ≤ 99
    · rw [if_pos c2, show a + y = 99 by omega]; rfl
    · rw [if_neg c2]; rfl
def yf (A : Nat → Nat) (t h : Nat) (b : Bool) (y : Nat) : Bool := R A t (old (A (156 + h)) y) == b
theorem bI_eq (a b : Bool) : bI a = bI b ↔ (a == b) = true := by cases a <;> cases b <;> decide
theorem X_firstYear {A : Nat → Nat} (hw : wfA A) {par : Int32} {kin lea mos wrt : Nat → Int32} {tal : Int32} {siz tol : Nat → Int32} {hrs : Int32} {ags : Nat → Int32} {yea : Int32} (hs : stk A par kin lea mos wrt tal siz tol hrs ags yea) {t h : Nat} (ht : t < A 2) (hh : h < A 3) (low hig : Nat → Int64) (spn : Int32) (b : Bool) :
    ∃ low' hig' spn', fX5_firstYear kin lea mos siz tol ags low hig spn (nI t) (nI h) b = some (nI (fs (yf A t h b) 100), low', hig', spn') := by
  obtain ⟨lo, hi, ex, hsp2⟩ := X_spanWords hw hs ht low hig spn
  have h10 := (hw.2.2.2.2.2.1 t ht).1
  have ha := hw.2.2.2.2.2.2 h hh
  have h3 := hw.2.2.2.1
  refine ⟨lo, hi, nI (A (68 + 11 * t)), ?_⟩
  unfold fX5_firstYear
  rw [ex, Option.bind_some]
  refine up1 100 (fun i x4 => x4 = nI i ∧ ∀ j, j < i → yf A t h b j = false) ?_ ?_ 2000 0 _ (by omega) (by omega) ⟨rfl, fun j hj => absurd hj (Nat.not_lt_zero j)⟩
  · rintro K x4 ⟨rfl, hn⟩
    unfold fX5_firstYear_l11
    rw [if_pos (by decide), fs_none hn]
    rfl
  · rintro K i x4 hi2 ⟨rfl, hn⟩
    have e0 : fX5_firstYear_l11 ags lo hi (nI (A (68 + 11 * t))) (nI h) b K (nI i) = if bI (R A t (old (A (156 + h)) i)) = bI b then some (nI i, lo, hi, nI (A (68 + 11 * t))) else K (nI (i + 1)) := by
      unfold fX5_firstYear_l11
      rw [if_neg (show ¬ (99 : Int32) < nI i from nI_nlt (a := 99) (by omega) (by omega)), X_ageIn (by omega) (hs.2.2.2.2.2.1 h hh) (by omega) (by omega), Option.bind_some, X_canBe h10 (by have := old_le (A (156 + h)) i; omega) hsp2, Option.bind_some, nI_1]
      rfl
    by_cases c : yf A t h b i = true
    · left
      show fX5_firstYear_l11 ags lo hi (nI (A (68 + 11 * t))) (nI h) b K (nI i) = _
      rw [e0, if_pos ((bI_eq _ _).mpr c), fs_at hn c (by omega)]
    · right
      refine ⟨nI (i + 1), ?_, rfl, ?_⟩
      · show fX5_firstYear_l11 ags lo hi (nI (A (68 + 11 * t))) (nI h) b K (nI i) = _
        rw [e0, if_neg (fun q => c ((bI_eq _ _).mp q))]
      · intro j hj
        by_cases hq : j = i
        · subst hq; exact nT c
        · exact hn j (by omega)
theorem M_firstYear {A : Nat → Nat} (hw : wfA A) {t h : Nat} (ht : t < A 2) (hh : h < A 3) (man nex : Nat → Int64) (b : Bool) :
    ∃ man' nex', fX6_firstYear (toF A) man nex (nI t) (nI h) b = some (nI (fs (yf A t h b) 100), man', nex') := by
  obtain ⟨m2, n2, em, hv⟩ := M_counts hw ht (Nat.le_refl _) man nex
  have h10 := (hw.2.2.2.2.2.1 t ht).1
  have ha := hw.2.2.2.2.2.2 h hh
  have h3 := hw.2.2.2.1
  have h8 := hw.2.2.1
  refine ⟨m2, n2, ?_⟩
  unfold fX6_firstYear
  rw [M_long (by omega), Option.bind_some, em, Option.bind_some]
  refine up1 100 (fun i x4 => x4 = nI i ∧ ∀ j, j < i → yf A t h b j = false) ?_ ?_ 2000 0 _ (by omega) (by omega) ⟨rfl, fun j hj => absurd hj (Nat.not_lt_zero j)⟩
  · rintro K x4 ⟨rfl, hn⟩
    unfold fX6_firstYear_l13
    rw [if_pos (by decide), fs_none hn]
  · rintro K i x4 hi2 ⟨rfl, hn⟩
    have ho := old_le (A (156 + h)) i
    have e0 : fX6_firstYear_l13 (toF A) m2 n2 (nI h) b K (nI i) = if bI (R A t (old (A (156 + h)) i)) = bI b then some (nI i, m2, n2) else K (nI (i + 1)) := by
      unfold fX6_firstYear_l13
      rw [if_neg (show ¬ (99 : Int32) < nI i from nI_nlt (a := 99) (by omega) (by omega)), e_age, gdN (by omega) (by omega), nI_clamp (show 156 + h < 2 ^ 31 by omega), toF_at, older_eq (by omega) (by omega), gdN (by omega) (by omega), nI_clamp (by omega), hv _ (by omega)]
      unfold fX6_firstYear_b50
      by_cases d : rc (LA A t) (A (68 + 11 * t)) (old (A (156 + h)) i) = true
      · rw [if_neg (fun q => by rw [(lg_le0 h10).mp q] at d; cases d), show R A t (old (A (156 + h)) i) = true from d, nI_1]
      · rw [if_pos ((lg_le0 h10).mpr (nT d)), show R A t (old (A (156 + h)) i) = false from nT d, nI_1]
    by_cases c : yf A t h b i = true
    · left
      show fX6_firstYear_l13 (toF A) m2 n2 (nI h) b K (nI i) = _
      rw [e0, if_pos ((bI_eq _ _).mpr c), fs_at hn c (by omega)]
    · right
      refine ⟨nI (i + 1), ?_, rfl, ?_⟩
      · show fX6_firstYear_l13 (toF A) m2 n2 (nI h) b K (nI i) = _
        rw [e0, if_neg (fun q => c ((bI_eq _ _).mp q))]
      · intro j hj
        by_cases hq : j = i
        · subst hq; exact nT c
        · exact hn j (by omega)
set_option maxHeartbeats 4000000 in
theorem eq_when {par : Int32} {kin lea mos wrt : Nat → Int32} {tal : Int32} {siz tol : Nat → Int32} {hrs : Int32} {ags : Nat → Int32} {yea kpar : Int32} {kkin klea kmos kwrt : Nat → Int32} {ktal : Int32} {ksiz ktol : Nat → Int32} {khrs : Int32} {kags : Nat → Int32} {kyea isk : Int32} {tly : Nat → Int64} {gai bes : Nat → Int32} {low hig : Nat → Int64} {spn : Int32} {byt : Nat → Int32} {hld sta beh sor num : Int32} {fnd sbi she : Nat → Int32} {snu : Nat → Nat → Int64} {msv mkep mbef : Nat → Int32} {misk : Int32} {mfnd : Nat → Int32} {mman mnex : Nat → Int64} {mwor msng mhea mlat mtap : Nat → Int32} {mtpd mher mflt mvlu : Int32} {mbit mlon : Nat → Int32} {mcel mbtw : Nat → Int64} (h : Rel par kin lea mos wrt tal siz tol hrs ags yea kpar kkin klea kmos kwrt ktal ksiz ktol khrs kags kyea isk tly gai bes low hig spn byt hld sta beh sor num fnd sbi she snu msv mkep mbef misk mfnd mman mnex mwor msng mhea mlat mtap mtpd mher mflt mvlu mbit mlon mcel mbtw) (x1 : Int32) (x2 : Int32) : ∃ (rx : Int32 × (Nat → Int64) × (Nat → Int64) × Int32 × (Nat → Int32)) (rm : Int32 × (Nat → Int32) × (Nat → Int64) × (Nat → Int64)), fX5_when kin lea mos tal siz tol hrs ags low hig spn fnd x1 x2 = some rx ∧ fX6_when msv mfnd mman mnex x1 x2 = some rm ∧ rx.1 = rm.1 ∧ Rel par kin lea mos wrt tal siz tol hrs ags yea kpar kkin klea kmos kwrt ktal ksiz ktol khrs kags kyea isk tly gai bes rx.2.1 rx.2.2.1 rx.2.2.2.1 byt hld sta beh sor num rx.2.2.2.2 sbi she snu msv mkep mbef misk rm.2.1 rm.2.2.1 rm.2.2.2 mwor msng mhea mlat mtap mtpd mher mflt mvlu mbit mlon mcel mbtw := by
  obtain ⟨⟨A, hw, hs, rfl⟩, hk, rfl, htp, hsh⟩ := h
  obtain ⟨hy, h1, h2, h3, hpp, htt, hhh⟩ := id hw
  obtain ⟨rfl, hsp, rfl, hst, rfl, hsa, rfl⟩ := id hs
  by_cases c : hasN (A 2) x1 = true
  · obtain ⟨t, ht, rfl⟩ := hasN_of c
    by_cases d : hasN (A 3) x2 = true
    · obtain ⟨h, hh, rfl⟩ := hasN_of d
      obtain ⟨lo, hi, sp, X1⟩ := X_firstYear hw hs ht hh low hig spn true
      obtain ⟨m2, n2, M1⟩ := M_firstYear hw ht hh mman mnex true
      have hle := fs_le (yf A t h true) 100
      by_cases f : fs (yf A t h true) 100 ≤ 99
      · refine ⟨(nI (fs (yf A t h true) 100), lo, hi, sp, fnd), (nI (fs (yf A t h true) 100), fnd, m2, n2), ?_, ?_, rfl, ⟨A, hw, hs, rfl⟩, hk, rfl, htp, hsh⟩
        · simp only [fX5_when, hasT_eq (show A 2 < 2 ^ 31 by omega), c, if0t, hasH_eq (show A 3 < 2 ^ 31 by omega), d, X1, Option.bind_some]
          rw [if_pos (show nI (fs (yf A t h true) 100) ≤ (99 : Int32) from nI_le (b := 99) f (by omega))]
        · simp only [fX6_when, M_areTold (show A 2 < 2 ^ 30 by omega) (show A 3 < 2 ^ 30 by omega), Option.bind_some, c, d, Bool.and_self, if0t, M1]
          rw [if_pos (show nI (fs (yf A t h true) 100) ≤ (99 : Int32) from nI_le (b := 99) f (by omega))]
      · refine ⟨((fn fnd 3).1, lo, hi, sp, (fn fnd 3).2), ((fn fnd 3).1, (fn fnd 3).2, m2, n2), ?_, ?_, rfl, ⟨A, hw, hs, rfl⟩, hk, rfl, htp, hsh⟩
        · simp only [fX5_when, hasT_eq (show A 2 < 2 ^ 31 by omega), c, if0t, hasH_eq (show A 3 < 2 ^ 31 by omega), d, X1, Option.bind_some]
          rw [if_neg (show ¬ nI (fs (yf A t h true) 100) ≤ (99 : Int32) from nI_ge (a := 99) (by omega) (by omega)), fo_3, Option.bind_some]
        · simp only [fX6_when, M_areTold (show A 2 < 2 ^ 30 by omega) (show A 3 < 2 ^ 30 by omega), Option.bind_some, c, d, Bool.and_self, if0t, M1]
          rw [if_neg (show ¬ nI (fs (yf A t h true) 100) ≤ (99 : Int32) from nI_ge (a := 99) (by omega) (by omega)), no_3, Option.bind_some]
    · have d := nT d
      refine ⟨((fn fnd 0).1, low, hig, spn, (fn fnd 0).2), ((fn fnd 0).1, (fn fnd 0).2, mman, mnex), ?_, ?_, rfl, ⟨A, hw, hs, rfl⟩, hk, rfl, htp, hsh⟩
      · simp only [fX5_when, hasT_eq (show A 2 < 2 ^ 31 by omega), c, if0t, hasH_eq (show A 3 < 2 ^ 31 by omega), d, if0f, fX5_when_b22, fo_0, Option.bind_some]
      · simp only [fX6_when, M_areTold (show A 2 < 2 ^ 30 by omega) (show A 3 < 2 ^ 30 by omega), Option.bind_some, c, d, Bool.true_and, if0f, no_0]
  · have c := nT c
    refine ⟨((fn fnd 0).1, low, hig, spn, (fn fnd 0).2), ((fn fnd 0).1, (fn fnd 0).2, mman, mnex), ?_, ?_, rfl, ⟨A, hw, hs, rfl⟩, hk, rfl, htp, hsh⟩
    · simp only [fX5_when, hasT_eq (show A 2 < 2 ^ 31 by omega), c, if0f, fX5_when_b22, fo_0, Option.bind_some]
    · simp only [fX6_when, M_areTold (show A 2 < 2 ^ 30 by omega) (show A 3 < 2 ^ 30 by omega), Option.bind_some, c, Bool.false_and, if0f, no_0]
set_option maxHeartbeats 4000000 in
theorem eq_till {par : Int32} {kin lea mos wrt : Nat → Int32} {tal : Int32} {siz tol : Nat → Int32} {hrs : Int32} {ags : Nat → Int32} {yea kpar : Int32} {kkin klea kmos kwrt : Nat → Int32} {ktal : Int32} {ksiz ktol : Nat → Int32} {khrs : Int32} {kags : Nat → Int32} {kyea isk : Int32} {tly : Nat → Int64} {gai bes : Nat → Int32} {low hig : Nat → Int64} {spn : Int32} {byt : Nat → Int32} {hld sta beh sor num : Int32} {fnd sbi she : Nat → Int32} {snu : Nat → Nat → Int64} {msv mkep mbef : Nat → Int32} {misk : Int32} {mfnd : Nat → Int32} {mman mnex : Nat → Int64} {mwor msng mhea mlat mtap : Nat → Int32} {mtpd mher mflt mvlu : Int32} {mbit mlon : Nat → Int32} {mcel mbtw : Nat → Int64} (h : Rel par kin lea mos wrt tal siz tol hrs ags yea kpar kkin klea kmos kwrt ktal ksiz ktol khrs kags kyea isk tly gai bes low hig spn byt hld sta beh sor num fnd sbi she snu msv mkep mbef misk mfnd mman mnex mwor msng mhea mlat mtap mtpd mher mflt mvlu mbit mlon mcel mbtw) (x1 : Int32) (x2 : Int32) : ∃ (rx : Int32 × (Nat → Int64) × (Nat → Int64) × Int32 × (Nat → Int32)) (rm : Int32 × (Nat → Int32) × (Nat → Int64) × (Nat → Int64)), fX5_till kin lea mos tal siz tol hrs ags low hig spn fnd x1 x2 = some rx ∧ fX6_till msv mfnd mman mnex x1 x2 = some rm ∧ rx.1 = rm.1 ∧ Rel par kin lea mos wrt tal siz tol hrs ags yea kpar kkin klea kmos kwrt ktal ksiz ktol khrs kags kyea isk tly gai bes rx.2.1 rx.2.2.1 rx.2.2.2.1 byt hld sta beh sor num rx.2.2.2.2 sbi she snu msv mkep mbef misk rm.2.1 rm.2.2.1 rm.2.2.2 mwor msng mhea mlat mtap mtpd mher mflt mvlu mbit mlon mcel mbtw := by
  obtain ⟨⟨A, hw, hs, rfl⟩, hk, rfl, htp, hsh⟩ := h
  obtain ⟨hy, h1, h2, h3, hpp, htt, hhh⟩ := id hw
  obtain ⟨rfl, hsp, rfl, hst, rfl, hsa, rfl⟩ := id hs
  by_cases c : hasN (A 2) x1 = true
  · obtain ⟨t, ht, rfl⟩ := hasN_of c
    by_cases d : hasN (A 3) x2 = true
    · obtain ⟨h, hh, rfl⟩ := hasN_of d
      obtain ⟨lo, hi, sp, X1⟩ := X_firstYear hw hs ht hh low hig spn false
      obtain ⟨m2, n2, M1⟩ := M_firstYear hw ht hh mman mnex false
      refine ⟨(nI (fs (yf A t h false) 100), lo, hi, sp, fnd), (nI (fs (yf A t h false) 100), fnd, m2, n2), ?_, ?_, rfl, ⟨A, hw, hs, rfl⟩, hk, rfl, htp, hsh⟩
      · simp only [fX5_till, hasT_eq (show A 2 < 2 ^ 31 by omega), c, if0t, hasH_eq (show A 3 < 2 ^ 31 by omega), d, X1, Option.bind_some]
      · simp only [fX6_till, M_areTold (show A 2 < 2 ^ 30 by omega) (show A 3 < 2 ^ 30 by omega), Option.bind_some, c, d, Bool.and_self, if0t, M1]
    · have d := nT d
      refine ⟨((fn fnd 0).1, low, hig, spn, (fn fnd 0).2), ((fn fnd 0).1, (fn fnd 0).2, mman, mnex), ?_, ?_, rfl, ⟨A, hw, hs, rfl⟩, hk, rfl, htp, hsh⟩
      · simp only [fX5_till, hasT_eq (show A 2 < 2 ^ 31 by omega), c, if0t, hasH_eq (show A 3 < 2 ^ 31 by omega), d, if0f, fX5_till_b22, fo_0, Option.bind_some]
      · simp only [fX6_till, M_areTold (show A 2 < 2 ^ 30 by omega) (show A 3 < 2 ^ 30 by omega), Option.bind_some, c, d, Bool.true_and, if0f, no_0]
  · have c := nT c
    refine ⟨((fn fnd 0).1, low, hig, spn, (fn fnd 0).2), ((fn fnd 0).1, (fn fnd 0).2, mman, mnex), ?_, ?_, rfl, ⟨A, hw, hs, rfl⟩, hk, rfl, htp, hsh⟩
    · simp only [fX5_till, hasT_eq (show A 2 < 2 ^ 31 by omega), c, if0f, fX5_till_b22, fo_0, Option.bind_some]
    · simp only [fX6_till, M_areTold (show A 2 < 2 ^ 30 by omega) (show A 3 < 2 ^ 30 by omega), Option.bind_some, c, Bool.false_and, if0f, no_0]

