def mdv (A : Nat → Nat) (t g q h : Nat) : Nat := cp A t (cp A t (cp A t (A (68 + 11 * t)) (A (156 + g))) (A (156 + h))) (A (156 + q))
def md (A : Nat → Nat) (t g q : Nat) : Nat → Int32 × Int32
  | 0 => (-1, -1)
  | h + 1 => if h = g ∨ h = q then md A t g q h else if nI (mdv A t g q h) ≤ (md A t g q h).2 then md A t g q h else (nI h, nI (mdv A t g q h))
theorem nI_gem1 {n : Nat} (h : n < 2 ^ 31) : (-1 : Int32) ≤ nI n := by
  rw [Int32.le_iff_toInt_le, nI_toInt h]
  show (-1 : Int) ≤ _
  omega
theorem md_ge {A : Nat → Nat} {t : Nat} (h10 : A (68 + 11 * t) ≤ 10) (g q : Nat) : ∀ h, (-1 : Int32) ≤ (md A t g q h).2
  | 0 => by show (-1 : Int32) ≤ -1; decide
  | h + 1 => by
    have ih := md_ge h10 g q h
    rw [md]
    split
    · exact ih
    · split
      · exact ih
      · have h1 := cp_le A t (cp A t (cp A t (A (68 + 11 * t)) (A (156 + g))) (A (156 + h))) (A (156 + q))
        have h2 := cp_le A t (cp A t (A (68 + 11 * t)) (A (156 + g))) (A (156 + h))
        have h3 := cp_le A t (A (68 + 11 * t)) (A (156 + g))
        exact nI_gem1 (n := mdv A t g q h) (by unfold mdv; omega)
set_option maxHeartbeats 4000000 in
theorem eq_middle {par : Int32} {kin lea mos wrt : Nat → Int32} {tal : Int32} {siz tol : Nat → Int32} {hrs : Int32} {ags : Nat → Int32} {yea kpar : Int32} {kkin klea kmos kwrt : Nat → Int32} {ktal : Int32} {ksiz ktol : Nat → Int32} {khrs : Int32} {kags : Nat → Int32} {kyea isk : Int32} {tly : Nat → Int64} {gai bes : Nat → Int32} {low hig : Nat → Int64} {spn : Int32} {byt : Nat → Int32} {hld sta beh sor num : Int32} {fnd sbi she : Nat → Int32} {snu : Nat → Nat → Int64} {msv mkep mbef : Nat → Int32} {misk : Int32} {mfnd : Nat → Int32} {mman mnex : Nat → Int64} {mwor msng mhea mlat mtap : Nat → Int32} {mtpd mher mflt mvlu : Int32} {mbit mlon : Nat → Int32} {mcel mbtw : Nat → Int64} (h : Rel par kin lea mos wrt tal siz tol hrs ags yea kpar kkin klea kmos kwrt ktal ksiz ktol khrs kags kyea isk tly gai bes low hig spn byt hld sta beh sor num fnd sbi she snu msv mkep mbef misk mfnd mman mnex mwor msng mhea mlat mtap mtpd mher mflt mvlu mbit mlon mcel mbtw) (x1 : Int32) (x2 : Int32) (x3 : Int32) : ∃ (rx : Int32 × (Nat → Int64) × (Nat → Int64) × Int32 × (Nat → Int32)) (rm : Int32 × (Nat → Int32) × (Nat → Int64) × (Nat → Int64)), fX5_middle kin lea mos tal siz tol hrs ags low hig spn fnd x1 x2 x3 = some rx ∧ fX6_middle msv mfnd mman mnex x1 x2 x3 = some rm ∧ rx.1 = rm.1 ∧ Rel par kin lea mos wrt tal siz tol hrs ags yea kpar kkin klea kmos kwrt ktal ksiz ktol khrs kags kyea isk tly gai bes rx.2.1 rx.2.2.1 rx.2.2.2.1 byt hld sta beh sor num rx.2.2.2.2 sbi she snu msv mkep mbef misk rm.2.1 rm.2.2.1 rm.2.2.2 mwor msng mhea mlat mtap mtpd mher mflt mvlu mbit mlon mcel mbtw := by
  obtain ⟨⟨A, hw, hs, rfl⟩, hk, rfl, htp, hsh⟩ := h
  obtain ⟨hy, h1, h2, h3, hpp, htt, hhh⟩ := id hw
  obtain ⟨rfl, hsp, rfl, hst, rfl, hsa, rfl⟩ := id hs
  by_cases c : hasN (A 2) x1 = true
  · obtain ⟨t, ht, rfl⟩ := hasN_of c
    by_cases d : hasN (A 3) x2 = true
    · obtain ⟨g, hg, rfl⟩ := hasN_of d
      by_cases f : hasN (A 3) x3 = true
      · obtain ⟨q, hq, rfl⟩ := hasN_of f
        by_cases e : nI g = nI q
        · refine ⟨((fn fnd 0).1, low, hig, spn, (fn fnd 0).2), ((fn fnd 0).1, (fn fnd 0).2, mman, mnex), ?_, ?_, rfl, ⟨A, hw, hs, rfl⟩, hk, rfl, htp, hsh⟩
          · simp only [fX5_middle, hasT_eq (show A 2 < 2 ^ 31 by omega), c, if0t, hasH_eq (show A 3 < 2 ^ 31 by omega), d, f]
            rw [if_pos e]
            simp only [fX5_middle_b38, fo_0, Option.bind_some]
          · simp only [fX6_middle, M_areTold (show A 2 < 2 ^ 30 by omega) (show A 3 < 2 ^ 30 by omega), M_isHearer (show A 3 < 2 ^ 30 by omega), Option.bind_some, c, d, f, Bool.and_self, if0t]
            rw [if_pos e]
            simp only [fX6_middle_b22, no_0, Option.bind_some]
        · have h10 := (htt t ht).1
          have hag := hhh g hg
          have haq := hhh q hq
          obtain ⟨lo, hi, X1, hsp2⟩ := X_spanWords hw hs ht low hig spn
          have hle := cp_le A t (A (68 + 11 * t)) (A (156 + g))
          obtain ⟨m2, n2, M1⟩ := M_passed hw ht (Nat.le_refl _) hg mman mnex
          have X2 : fix3 (fX5_middle_l89 (nI (A 3)) ags lo hi (nI (A (68 + 11 * t))) fnd (nI g) (nI q) (nI (cp A t (A (68 + 11 * t)) (A (156 + g))))) 2000 (-1) (-1) 0 = if 0 ≤ (md A t g q (A 3)).1 then some ((md A t g q (A 3)).1, lo, hi, nI (A (68 + 11 * t)), fnd) else some ((fn fnd 3).1, lo, hi, nI (A (68 + 11 * t)), (fn fnd 3).2) := by
            refine up3 (A 3) (fun i x5 x6 x7 => x5 = (md A t g q i).1 ∧ x6 = (md A t g q i).2 ∧ x7 = nI i) ?_ ?_ 2000 0 _ _ _ (by omega) (by omega) ⟨rfl, rfl, rfl⟩
            · rintro K x5 x6 x7 ⟨rfl, rfl, rfl⟩
              unfold fX5_middle_l89
              rw [if_pos (nI_le (Nat.le_refl _) (by omega))]
              unfold fX5_middle_b171
              rw [fo_3, Option.bind_some]
            · rintro K i x5 x6 x7 hi2 ⟨rfl, rfl, rfl⟩
              right
              have ha := hhh i hi2
              have hle2 := cp_le A t (cp A t (A (68 + 11 * t)) (A (156 + g))) (A (156 + i))
              refine ⟨(md A t g q (i + 1)).1, (md A t g q (i + 1)).2, nI (i + 1), ?_, rfl, rfl, rfl⟩
              unfold fX5_middle_l89
              rw [if_neg (nI_ge hi2 (by omega)), gdN (by omega) (by omega), nI_clamp (show i < 2 ^ 31 by omega), hsa i hi2, X_comes h10 hle (by omega) hsp2, Option.bind_some, gdN (by omega) (by omega), nI_clamp (show q < 2 ^ 31 by omega), hsa q hq, X_comes h10 (Nat.le_trans hle2 hle) (by omega) hsp2, Option.bind_some]
              unfold fX5_middle_b165
              rw [nI_1, md]
              by_cases a1 : i = g
              · rw [if_pos (show nI i = nI g by rw [a1]), if_pos (Or.inl a1)]
              · rw [if_neg (fun h => a1 ((nI_eq (by omega) (by omega)).mp h))]
                by_cases a2 : i = q
                · rw [if_pos (show nI i = nI q by rw [a2]), if_pos (Or.inr a2)]
                · rw [if_neg (fun h => a2 ((nI_eq (by omega) (by omega)).mp h)), if_neg (show ¬ (i = g ∨ i = q) by omega)]
                  show (if nI (mdv A t g q i) ≤ _ then _ else _) = _
                  by_cases a3 : nI (mdv A t g q i) ≤ (md A t g q i).2
                  · rw [if_pos a3, if_pos a3]
                  · rw [if_neg a3, if_neg a3]
                    rfl
          have M2 : ∃ m3 n3, fix5 (fX6_middle_l50 (toF A) fnd (nI t) (nI g) (nI q) (nI (cp A t (A (68 + 11 * t)) (A (156 + g))))) 2000 (-1) (-1) 0 m2 n2 = if 0 ≤ (md A t g q (A 3)).1 then some ((md A t g q (A 3)).1, fnd, m3, n3) else some ((fn fnd 3).1, (fn fnd 3).2, m3, n3) := by
            refine uq5 (fun o => ∃ (m3 n3 : Nat → Int64), o = if 0 ≤ (md A t g q (A 3)).1 then some ((md A t g q (A 3)).1, fnd, m3, n3) else some ((fn fnd 3).1, (fn fnd 3).2, m3, n3)) (A 3) (fun i x5 x6 x7 (m n : Nat → Int64) => x5 = (md A t g q i).1 ∧ x6 = (md A t g q i).2 ∧ x7 = nI i) ?_ ?_ 2000 0 _ _ _ _ _ (by omega) (by omega) ⟨rfl, rfl, rfl⟩
            · rintro K x5 x6 x7 m n ⟨rfl, rfl, rfl⟩
              unfold fX6_middle_l50
              rw [if_pos (show toF A (3 : Int32).toNatClampNeg ≤ nI (A 3) from nI_le (Nat.le_refl _) (by omega))]
              unfold fX6_middle_b132
              rw [no_3, Option.bind_some]
              exact ⟨m, n, rfl⟩
            · rintro K i x5 x6 x7 m n hi2 ⟨rfl, rfl, rfl⟩
              right
              have ha := hhh i hi2
              have hle2 := cp_le A t (cp A t (A (68 + 11 * t)) (A (156 + g))) (A (156 + i))
              have hge := md_ge h10 g q i
              have skip : fX6_middle_b73 K m n (md A t g q i).1 (md A t g q i).2 (nI i) = K (md A t g q i).1 (md A t g q i).2 (nI (i + 1)) m n := by
                unfold fX6_middle_b73 fX6_middle_b92
                rw [if_pos hge]
                unfold fX6_middle_b108
                rw [if_pos hge]
                unfold fX6_middle_b124
                rw [nI_1]
              by_cases a1 : i = g
              · refine ⟨(md A t g q (i + 1)).1, (md A t g q (i + 1)).2, nI (i + 1), m, n, ?_, rfl, rfl, rfl⟩
                unfold fX6_middle_l50
                rw [if_neg (show ¬ toF A (3 : Int32).toNatClampNeg ≤ nI i from nI_ge (b := A 3) hi2 (by omega)), if_pos (show nI i = nI g by rw [a1]), skip, md, if_pos (Or.inl a1)]
              · by_cases a2 : i = q
                · refine ⟨(md A t g q (i + 1)).1, (md A t g q (i + 1)).2, nI (i + 1), m, n, ?_, rfl, rfl, rfl⟩
                  unfold fX6_middle_l50
                  rw [if_neg (show ¬ toF A (3 : Int32).toNatClampNeg ≤ nI i from nI_ge (b := A 3) hi2 (by omega)), if_neg (fun h => a1 ((nI_eq (by omega) (by omega)).mp h)), if_pos (show nI i = nI q by rw [a2]), skip, md, if_pos (Or.inr a2)]
                · obtain ⟨m3, n3, M3⟩ := M_passed hw ht hle hi2 m n
                  obtain ⟨m4, n4, M4⟩ := M_passed hw ht (Nat.le_trans hle2 hle) hq m3 n3
                  refine ⟨(md A t g q (i + 1)).1, (md A t g q (i + 1)).2, nI (i + 1), m4, n4, ?_, rfl, rfl, rfl⟩
                  unfold fX6_middle_l50
                  rw [if_neg (show ¬ toF A (3 : Int32).toNatClampNeg ≤ nI i from nI_ge (b := A 3) hi2 (by omega)), if_neg (fun h => a1 ((nI_eq (by omega) (by omega)).mp h)), if_neg (fun h => a2 ((nI_eq (by omega) (by omega)).mp h)), M3, Option.bind_some, M4, Option.bind_some]
                  show fX6_middle_b92 K m4 n4 (md A t g q i).1 (md A t g q i).2 (nI i) (nI (mdv A t g q i)) = _
                  unfold fX6_middle_b92 fX6_middle_b108 fX6_middle_b124
                  rw [md, if_neg (show ¬ (i = g ∨ i = q) by omega), nI_1]
                  by_cases a3 : nI (mdv A t g q i) ≤ (md A t g q i).2
                  · rw [if_pos a3, if_pos a3, if_pos a3]
                  · rw [if_neg a3, if_neg a3, if_neg a3]
          obtain ⟨m3, n3, M2⟩ := M2
          have X3 : fX5_middle kin lea mos (nI (A 2)) siz tol (nI (A 3)) ags low hig spn fnd (nI t) (nI g) (nI q) = if 0 ≤ (md A t g q (A 3)).1 then some ((md A t g q (A 3)).1, lo, hi, nI (A (68 + 11 * t)), fnd) else some ((fn fnd 3).1, lo, hi, nI (A (68 + 11 * t)), (fn fnd 3).2) := by
            simp only [fX5_middle, hasT_eq (show A 2 < 2 ^ 31 by omega), c, if0t, hasH_eq (show A 3 < 2 ^ 31 by omega), d, f]
            rw [if_neg e, X1, Option.bind_some, gdN (by omega) (by omega), gdN (by omega) (by omega), nI_clamp (show t < 2 ^ 31 by omega), nI_clamp (show g < 2 ^ 31 by omega), (hst t ht).1, hsa g hg, X_comes h10 (Nat.le_refl _) (by omega) hsp2, Option.bind_some]
            exact X2
          have M3 : fX6_middle (toF A) fnd mman mnex (nI t) (nI g) (nI q) = if 0 ≤ (md A t g q (A 3)).1 then some ((md A t g q (A 3)).1, fnd, m3, n3) else some ((fn fnd 3).1, (fn fnd 3).2, m3, n3) := by
            simp only [fX6_middle, M_areTold (show A 2 < 2 ^ 30 by omega) (show A 3 < 2 ^ 30 by omega), M_isHearer (show A 3 < 2 ^ 30 by omega), Option.bind_some, c, d, f, Bool.and_self, if0t, M_long (A := A) (show t < 8 by omega), M1]
            rw [if_neg e]
            exact M2
          by_cases z : 0 ≤ (md A t g q (A 3)).1
          · rw [if_pos z] at X3 M3
            exact ⟨_, _, X3, M3, rfl, ⟨A, hw, hs, rfl⟩, hk, rfl, htp, hsh⟩
          · rw [if_neg z] at X3 M3
            exact ⟨_, _, X3, M3, rfl, ⟨A, hw, hs, rfl⟩, hk, rfl, htp, hsh⟩
      · have f := nT f
        refine ⟨((fn fnd 0).1, low, hig, spn, (fn fnd 0).2), ((fn fnd 0).1, (fn fnd 0).2, mman, mnex), ?_, ?_, rfl, ⟨A, hw, hs, rfl⟩, hk, rfl, htp, hsh⟩
        · simp only [fX5_middle, hasT_eq (show A 2 < 2 ^ 31 by omega), c, if0t, hasH_eq (show A 3 < 2 ^ 31 by omega), d, f, if0f, fX5_middle_b38, fo_0, Option.bind_some]
        · simp only [fX6_middle, M_areTold (show A 2 < 2 ^ 30 by omega) (show A 3 < 2 ^ 30 by omega), M_isHearer (show A 3 < 2 ^ 30 by omega), Option.bind_some, c, d, f, Bool.and_self, if0t, if0f, fX6_middle_b22, no_0]
    · have d := nT d
      refine ⟨((fn fnd 0).1, low, hig, spn, (fn fnd 0).2), ((fn fnd 0).1, (fn fnd 0).2, mman, mnex), ?_, ?_, rfl, ⟨A, hw, hs, rfl⟩, hk, rfl, htp, hsh⟩
      · simp only [fX5_middle, hasT_eq (show A 2 < 2 ^ 31 by omega), c, if0t, hasH_eq (show A 3 < 2 ^ 31 by omega), d, if0f, fX5_middle_b38, fo_0, Option.bind_some]
      · simp only [fX6_middle, M_areTold (show A 2 < 2 ^ 30 by omega) (show A 3 < 2 ^ 30 by omega), Option.bind_some, c, d, Bool.true_and, if0f, fX6_middle_b22, no_0]
  · have c := nT c
    refine ⟨((fn fnd 0).1, low, hig, spn, (fn fnd 0).2), ((fn fnd 0).1, (fn fnd 0).2, mman, mnex), ?_, ?_, rfl, ⟨A, hw, hs, rfl⟩, hk, rfl, htp, hsh⟩
    · simp only [fX5_middle, hasT_eq (show A 2 < 2 ^ 31 by omega), c, if0f, fX5_middle_b38, fo_0, Option.bind_some]
    · simp only [fX6_middle, M_areTold (show A 2 < 2 ^ 30 by omega) (show A 3 < 2 ^ 30 by omega), Option.bind_some, c, Bool.false_and, if0f, fX6_middle_b22, no_0]
/-- part p fills tale t to n words, by a length below e -/
def flb (A : Nat → Nat) (t n p e : Nat) : Bool := orL (fun l => decide (l ≤ n) && (lenA A p l && R A t (n - l))) e
def flf (A : Nat → Nat) (t n p : Nat) : Bool := flb A t n p 25
theorem flb_s {A : Nat → Nat} {t n p l : Nat} : flb A t n p (l + 1) = (flb A t n p l || (decide (l ≤ n) && (lenA A p l && R A t (n - l)))) := rfl
theorem flb_true {A : Nat → Nat} {t n p l : Nat} (h : flb A t n p (l + 1) = true) (hl : l < 25) : flf A t n p = true := by
  obtain ⟨j, h1, h2⟩ := (orL_iff _ _).mp h
  exact (orL_iff _ _).mpr ⟨j, by omega, h2⟩
theorem flb_over {A : Nat → Nat} {t n p l : Nat} (h : flb A t n p l = false) (hl : n < l) : flf A t n p = false := by
  apply nT
  intro q
  obtain ⟨j, h1, h2⟩ := (orL_iff _ _).mp q
  have h3 : j ≤ n := by
    rw [Bool.and_eq_true, decide_eq_true_eq] at h2
    exact h2.1
  have : flb A t n p l = true := (orL_iff _ _).mpr ⟨j, by omega, h2⟩
  rw [h] at this
  cases this
theorem X_filled {A : Nat → Nat} (hw : wfA A) {t n p : Nat} (h10 : A (68 + 11 * t) ≤ 10) (hp : p < A 1) (hn : n ≤ 120) {low hig : Nat → Int64} (h : spA A t low hig) : fX1_isFilledBy low hig (nI (A (68 + 11 * t))) (nI (lsA A p)) (nI n) = some (flf A t n p) := by
  unfold fX1_isFilledBy
  refine up1 25 (fun i x3 => x3 = nI i ∧ flb A t n p i = false) ?_ ?_ 2000 0 _ (by omega) (by omega) ⟨rfl, rfl⟩
  · rintro K x3 ⟨rfl, h2⟩
    unfold fX1_isFilledBy_l2
    rw [if_pos (by decide)]
    exact congrArg some h2.symm
  · rintro K i x3 hi ⟨rfl, h2⟩
    have e0 : fX1_isFilledBy_l2 low hig (nI (A (68 + 11 * t))) (nI (lsA A p)) (nI n) K (nI i) = if flb A t n p (i + 1) = true then some true else K (nI (i + 1)) := by
      unfold fX1_isFilledBy_l2 fX1_isFilledBy_b29
      rw [if_neg (show ¬ (24 : Int32) < nI i from nI_nlt (a := 24) (by omega) (by omega)), flb_s, h2, Bool.false_or, nI_1]
      by_cases c : lenA A p i = true
      · rw [if_pos ((bitA hw hp hi).mpr c), c, Bool.true_and]
        by_cases d : i ≤ n
        · rw [pk_sub d, X_canBe h10 (by omega) h, Option.bind_some, decide_eq_true d, Bool.true_and]
          show (if bI (R A t (n - i)) = 0 then _ else _) = _
          by_cases f : R A t (n - i) = true
          · rw [f, if0t, if_pos rfl]
          · rw [nT f, if0f, if_neg Bool.false_ne_true]
        · rw [X_canNot (pk_sneg (by omega) (by omega)), Option.bind_some, if0f, decide_eq_false d, Bool.false_and, if_neg Bool.false_ne_true]
      · rw [if_neg (fun e => c ((bitA hw hp hi).mp e)), nT c, Bool.false_and, Bool.and_false, if_neg Bool.false_ne_true]
    by_cases c : flb A t n p (i + 1) = true
    · left
      rw [e0, if_pos c, flb_true c hi]
    · right
      refine ⟨nI (i + 1), ?_, rfl, nT c⟩
      rw [e0, if_neg c]
set_option maxHeartbeats 4000000 in
theorem eq_fills {par : Int32} {kin lea mos wrt : Nat → Int32} {tal : Int32} {siz tol : Nat → Int32} {hrs : Int32} {ags : Nat → Int32} {yea kpar : Int32} {kkin klea kmos kwrt : Nat → Int32} {ktal : Int32} {ksiz ktol : Nat → Int32} {khrs : Int32} {kags : Nat → Int32} {kyea isk : Int32} {tly : Nat → Int64} {gai bes : Nat → Int32} {low hig : Nat → Int64} {spn : Int32} {byt : Nat → Int32} {hld sta beh sor num : Int32} {fnd sbi she : Nat → Int32} {snu : Nat → Nat → Int64} {msv mkep mbef : Nat → Int32} {misk : Int32} {mfnd : Nat → Int32} {mman mnex : Nat → Int64} {mwor msng mhea mlat mtap : Nat → Int32} {mtpd mher mflt mvlu : Int32} {mbit mlon : Nat → Int32} {mcel mbtw : Nat → Int64} (h : Rel par kin lea mos wrt tal siz tol hrs ags yea kpar kkin klea kmos kwrt ktal ksiz ktol khrs kags kyea isk tly gai bes low hig spn byt hld sta beh sor num fnd sbi she snu msv mkep mbef misk mfnd mman mnex mwor msng mhea mlat mtap mtpd mher mflt mvlu mbit mlon mcel mbtw) (x1 : Int32) (x2 : Int32) : ∃ (rx : Int32 × (Nat → Int64) × (Nat → Int64) × Int32 × (Nat → Int32)) (rm : Int32 × (Nat → Int32) × (Nat → Int64) × (Nat → Int64)), fX5_fills par kin lea mos tal siz tol low hig spn fnd x1 x2 = some rx ∧ fX6_fills msv mfnd mman mnex x1 x2 = some rm ∧ rx.1 = rm.1 ∧ Rel par kin lea mos wrt tal siz tol hrs ags yea kpar kkin klea kmos kwrt ktal ksiz ktol khrs kags kyea isk tly gai bes rx.2.1 rx.2.2.1 rx.2.2.2.1 byt hld sta beh sor num rx.2.2.2.2 sbi she snu msv mkep mbef misk rm.2.1 rm.2.2.1 rm.2.2.2 mwor msng mhea mlat mtap mtpd mher mflt mvlu mbit mlon mcel mbtw := by
  obtain ⟨⟨A, hw, hs, rfl⟩, hk, rfl, htp, hsh⟩ := h
  obtain ⟨hy, h1, h2, h3, hpp, htt, hhh⟩ := id hw
  obtain ⟨rfl, hsp, rfl, hst, rfl, hsa, rfl⟩ := id hs
  by_cases c : hasN (A 2) x1 = true
  · obtain ⟨t, ht, rfl⟩ := hasN_of c
    by_cases d : hasN 121 x2 = true
    · obtain ⟨n, hn, rfl⟩ := hasN_of d
      have h10 := (htt t ht).1
      have h8 : t < 8 := by omega
      by_cases f : A (68 + 11 * t) < 10
      · obtain ⟨lo, hi, X1, hsp2⟩ := X_spanWords hw hs ht low hig spn
        obtain ⟨m2, n2, M1, hv⟩ := M_counts hw ht (Nat.le_refl _) mman mnex
        have X0 : ∀ r, (if bI (R A t n) = 0 then fix1 (fX5_fills_l77 (nI (A 1)) kin lea mos lo hi (nI (A (68 + 11 * t))) fnd (nI n)) 2000 0 else some ((fn fnd 4).1, lo, hi, nI (A (68 + 11 * t)), (fn fnd 4).2)) = r → fX5_fills (nI (A 1)) kin lea mos (nI (A 2)) siz tol low hig spn fnd (nI t) (nI n) = r := by
          intro r hr
          simp only [fX5_fills, hasT_eq (show A 2 < 2 ^ 31 by omega), c, if0t, X_words, d]
          rw [gdN (by omega) (by omega), nI_clamp (by omega), (hst t ht).1, if_pos (show nI (A (68 + 11 * t)) < 10 from nI_lt (b := 10) f (by omega)), X1, Option.bind_some, X_canBe h10 (by omega) hsp2, Option.bind_some, fo_4, Option.bind_some]
          exact hr
        have M0 : ∀ r, (if bI (R A t n) = 0 then fix1 (fX6_fills_l66 (toF A) fnd m2 n2 (nI n)) 2000 0 else some ((fn fnd 4).1, (fn fnd 4).2, m2, n2)) = r → fX6_fills (toF A) fnd mman mnex (nI t) (nI n) = r := by
          intro r hr
          simp only [fX6_fills, M_isTale (show A 2 < 2 ^ 30 by omega), Option.bind_some, c, if0t, M_isWords, d, M_long (A := A) h8, M1]
          rw [if_neg (show ¬ nI (A (68 + 11 * t)) = 10 from fun h => by have := (nI_eq (a := A (68 + 11 * t)) (b := 10) (by omega) (by omega)).mp h; omega), gdN (by omega) (by omega), nI_clamp (by omega), hv n (by omega), no_4, Option.bind_some]
          by_cases g : R A t n = true
          · rw [g, if0t] at hr
            rw [if_neg (fun q => by rw [show R A t n = false from (lg_le0 h10).mp q] at g; cases g)]
            exact hr
          · rw [nT g, if0f] at hr
            rw [if_pos ((lg_le0 h10).mpr (nT g))]
            exact hr
        by_cases g : R A t n = true
        · refine ⟨((fn fnd 4).1, lo, hi, nI (A (68 + 11 * t)), (fn fnd 4).2), ((fn fnd 4).1, (fn fnd 4).2, m2, n2), X0 _ ?_, M0 _ ?_, rfl, ⟨A, hw, hs, rfl⟩, hk, rfl, htp, hsh⟩
          · rw [g, if0t]
          · rw [g, if0t]
        · have X2 : fix1 (fX5_fills_l77 (nI (A 1)) kin lea mos lo hi (nI (A (68 + 11 * t))) fnd (nI n)) 2000 0 = if fs (flf A t n) (A 1) < A 1 then some (nI (fs (flf A t n) (A 1)), lo, hi, nI (A (68 + 11 * t)), fnd) else some ((fn fnd 3).1, lo, hi, nI (A (68 + 11 * t)), (fn fnd 3).2) := by
            refine up1 (A 1) (fun i x3 => x3 = nI i ∧ ∀ j, j < i → flf A t n j = false) ?_ ?_ 2000 0 _ (by omega) (by omega) ⟨rfl, fun j hj => absurd hj (Nat.not_lt_zero j)⟩
            · rintro K x3 ⟨rfl, hn2⟩
              unfold fX5_fills_l77
              rw [if_pos (nI_le (Nat.le_refl _) (by omega)), fs_none hn2, if_neg (Nat.lt_irrefl _)]
              unfold fX5_fills_b115
              rw [fo_3, Option.bind_some]
            · rintro K i x3 hi2 ⟨rfl, hn2⟩
              have e0 : fX5_fills_l77 (nI (A 1)) kin lea mos lo hi (nI (A (68 + 11 * t))) fnd (nI n) K (nI i) = if bI (flf A t n i) = 0 then K (nI (i + 1)) else some (nI i, lo, hi, nI (A (68 + 11 * t)), fnd) := by
                unfold fX5_fills_l77
                rw [if_neg (nI_ge hi2 (by omega)), X_len hw hs hi2, Option.bind_some, X_filled hw h10 hi2 (by omega) hsp2, Option.bind_some, nI_1]
              by_cases z : flf A t n i = true
              · left
                rw [e0, z, if0t, fs_at hn2 z hi2, if_pos hi2]
              · right
                refine ⟨nI (i + 1), ?_, rfl, ?_⟩
                · rw [e0, nT z, if0f]
                · intro j hj
                  by_cases hq : j = i
                  · subst hq; exact nT z
                  · exact hn2 j (by omega)
          have M2 : fix1 (fX6_fills_l66 (toF A) fnd m2 n2 (nI n)) 2000 0 = if fs (flf A t n) (A 1) < A 1 then some (nI (fs (flf A t n) (A 1)), fnd, m2, n2) else some ((fn fnd 3).1, (fn fnd 3).2, m2, n2) := by
            refine up1 (A 1) (fun i x3 => x3 = nI i ∧ ∀ j, j < i → flf A t n j = false) ?_ ?_ 2000 0 _ (by omega) (by omega) ⟨rfl, fun j hj => absurd hj (Nat.not_lt_zero j)⟩
            · rintro K x3 ⟨rfl, hn2⟩
              unfold fX6_fills_l66
              rw [if_pos (show toF A (1 : Int32).toNatClampNeg ≤ nI (A 1) from nI_le (Nat.le_refl _) (by omega)), fs_none hn2, if_neg (Nat.lt_irrefl _)]
              unfold fX6_fills_b130
              rw [no_3, Option.bind_some]
            · rintro K i x3 hi2 ⟨rfl, hn2⟩
              have e0 : fX6_fills_l66 (toF A) fnd m2 n2 (nI n) K (nI i) = if flf A t n i = true then some (nI i, fnd, m2, n2) else K (nI (i + 1)) := by
                unfold fX6_fills_l66
                rw [if_neg (show ¬ toF A (1 : Int32).toNatClampNeg ≤ nI i from nI_ge (b := A 1) hi2 (by omega))]
                refine up1 25 (fun l x4 => x4 = nI l ∧ flb A t n i l = false) ?_ ?_ 2000 0 _ (by omega) (by omega) ⟨rfl, rfl⟩
                · rintro K2 x4 ⟨rfl, h2⟩
                  unfold fX6_fills_l79 fX6_fills_b124
                  have e1 : flf A t n i = false := h2
                  rw [e1, if_neg Bool.false_ne_true, nI_1]
                  by_cases y : nI n < nI 25
                  · rw [if_pos y]
                  · rw [if_neg y, if_pos (by decide)]
                · rintro K2 l x4 hl ⟨rfl, h2⟩
                  by_cases y : l ≤ n
                  · have e1 : fX6_fills_l79 K (toF A) fnd m2 n2 (nI n) (nI i) K2 (nI l) = if flb A t n i (l + 1) = true then some (nI i, fnd, m2, n2) else K2 (nI (l + 1)) := by
                      unfold fX6_fills_l79 fX6_fills_b118
                      rw [if_neg (nI_nlt y (by omega)), if_neg (show ¬ (25 : Int32) ≤ nI l from nI_ge (b := 25) hl (by omega)), M_len hw hi2 hl, Option.bind_some, flb_s, h2, Bool.false_or, decide_eq_true y, Bool.true_and, nI_1]
                      by_cases w : lenA A i l = true
                      · rw [w, if0t, Bool.true_and, pk_sub y, gdN (by omega) (by omega), nI_clamp (by omega), hv _ (by omega)]
                        by_cases v : R A t (n - l) = true
                        · rw [if_neg (fun q => by rw [show R A t (n - l) = false from (lg_le0 h10).mp q] at v; cases v), if_pos v]
                        · rw [if_pos ((lg_le0 h10).mpr (nT v)), if_neg v]
                      · rw [nT w, if0f, Bool.false_and, if_neg Bool.false_ne_true]
                    by_cases w : flb A t n i (l + 1) = true
                    · left
                      rw [e1, if_pos w, if_pos (flb_true w hl)]
                    · right
                      exact ⟨nI (l + 1), by rw [e1, if_neg w], rfl, nT w⟩
                  · left
                    unfold fX6_fills_l79 fX6_fills_b124
                    rw [if_pos (nI_lt (by omega) (by omega)), flb_over h2 (by omega), if_neg Bool.false_ne_true, nI_1]
              by_cases z : flf A t n i = true
              · left
                rw [e0, if_pos z, fs_at hn2 z hi2, if_pos hi2]
              · right
                refine ⟨nI (i + 1), ?_, rfl, ?_⟩
                · rw [e0, if_neg z]
                · intro j hj
                  by_cases hq : j = i
                  · subst hq; exact nT z
                  · exact hn2 j (by omega)
          by_cases z : fs (flf A t n) (A 1) < A 1
          · rw [if_pos z] at X2 M2
            exact ⟨_, _, X0 _ (by rw [nT g, if0f]; exact X2), M0 _ (by rw [nT g, if0f]; exact M2), rfl, ⟨A, hw, hs, rfl⟩, hk, rfl, htp, hsh⟩
          · rw [if_neg z] at X2 M2
            exact ⟨_, _, X0 _ (by rw [nT g, if0f]; exact X2), M0 _ (by rw [nT g, if0f]; exact M2), rfl, ⟨A, hw, hs, rfl⟩, hk, rfl, htp, hsh⟩
      · refine ⟨((fn fnd 1).1, low, hig, spn, (fn fnd 1).2), ((fn fnd 1).1, (fn fnd 1).2, mman, mnex), ?_, ?_, rfl, ⟨A, hw, hs, rfl⟩, hk, rfl, htp, hsh⟩
        · simp only [fX5_fills, hasT_eq (show A 2 < 2 ^ 31 by omega), c, if0t, X_words, d]
          rw [gdN (by omega) (by omega), nI_clamp (by omega), (hst t ht).1, if_neg (show ¬ nI (A (68 + 11 * t)) < 10 from nI_nlt (b := 10) (by omega) (by omega)), fo_1, Option.bind_some]
        · simp only [fX6_fills, M_isTale (show A 2 < 2 ^ 30 by omega), Option.bind_some, c, if0t, M_isWords, d, M_long (A := A) h8]
          rw [if_pos (show nI (A (68 + 11 * t)) = 10 from by rw [show A (68 + 11 * t) = 10 by omega]; rfl), no_1, Option.bind_some]
    · have d := nT d
      refine ⟨((fn fnd 0).1, low, hig, spn, (fn fnd 0).2), ((fn fnd 0).1, (fn fnd 0).2, mman, mnex), ?_, ?_, rfl, ⟨A, hw, hs, rfl⟩, hk, rfl, htp, hsh⟩
      · simp only [fX5_fills, hasT_eq (show A 2 < 2 ^ 31 by omega), c, if0t, X_words, d, if0f, fX5_fills_b21, fo_0, Option.bind_some]
      · simp only [fX6_fills, M_isTale (show A 2 < 2 ^ 30 by omega), Option.bind_some, c, if0t, M_isWords, d, if0f, fX6_fills_b15, no_0]
  · have c := nT c
    refine ⟨((fn fnd 0).1, low, hig, spn, (fn fnd 0).2), ((fn fnd 0).1, (fn fnd 0).2, mman, mnex), ?_, ?_, rfl, ⟨A, hw, hs, rfl⟩, hk, rfl, htp, hsh⟩
    · simp only [fX5_fills, hasT_eq (show A 2 < 2 ^ 31 by omega), c, if0f, fX5_fills_b21, fo_0, Option.bind_some]
    · simp only [fX6_fills, M_isTale (show A 2 < 2 ^ 30 by omega), Option.bind_some, c, if0f, fX6_fills_b15, no_0]

