/-- the number at i is a length of the i-th part of tale t -/
def sdB (A : Nat → Nat) (t : Nat) (v : Nat → Int64) (i : Nat) : Bool := decide (i < A (68 + 11 * t)) && (decide (0 ≤ (v i).toInt ∧ (v i).toInt ≤ 24) && lenA A (A (69 + 11 * t + i)) (v i).toInt.toNat)
theorem v_lN {v : Int64} (h : 0 ≤ v.toInt ∧ v.toInt ≤ 24) : v.toInt32 = nI v.toInt.toNat := by
  have ev : v = lN v.toInt.toNat := by
    apply Int64.toInt_inj.mp
    rw [lN_toInt (by omega)]
    omega
  have := lN_i v.toInt.toNat
  rw [← ev] at this
  exact this
theorem X_said {A : Nat → Nat} (hw : wfA A) {t : Nat} {v : Nat → Int64} {i : Nat} (ht : t < A 2) (hi : i < A (68 + 11 * t)) : fX5_isLength (nI (lsA A (A (69 + 11 * t + i)))) (v i) = sdB A t v i := by
  obtain ⟨tp, -, -⟩ := tale_part hw ht hi
  rw [isLen64]
  unfold sdB
  rw [decide_eq_true hi, Bool.true_and]
  by_cases q : 0 ≤ (v i).toInt ∧ (v i).toInt ≤ 24
  · rw [decide_eq_true q, Bool.true_and, Bool.true_and, v_lN q]
    by_cases z : lenA A (A (69 + 11 * t + i)) (v i).toInt.toNat = true
    · rw [z, decide_eq_true ((bitA hw tp (by omega)).mpr z)]
    · rw [nT z, decide_eq_false (fun y => z ((bitA hw tp (by omega)).mp y))]
  · rw [decide_eq_false q, Bool.false_and, Bool.false_and]
theorem M_said {A : Nat → Nat} (hw : wfA A) {t : Nat} {v : Nat → Int64} {i : Nat} (ht : t < A 2) (hi40 : i < 40) : fX6_isSaid (toF A) (nI t) (nI i) (v i) = some (sdB A t v i) := by
  have h8 : t < 8 := by have := hw.2.2.1; omega
  have h10 := (hw.2.2.2.2.2.1 t ht).1
  unfold fX6_isSaid sdB
  rw [M_long h8, Option.bind_some]
  by_cases hi : i < A (68 + 11 * t)
  · obtain ⟨tp, ti, -⟩ := tale_part hw ht hi
    rw [if_neg (nI_ge hi (by omega)), decide_eq_true hi, Bool.true_and]
    by_cases q0 : (v i).toInt < 0
    · rw [if_pos ((lgc_lt _ _).mpr (Int64.lt_iff_toInt_lt.mpr q0)), decide_eq_false (by omega), Bool.false_and]
    · rw [if_neg (fun y => q0 (Int64.lt_iff_toInt_lt.mp ((lgc_lt _ _).mp y)))]
      by_cases q1 : (v i).toInt ≤ 24
      · have e1 : ¬ 0 ≤ lg_cmp (v i) 25 := by
          have h1 : lg_cmp (v i) 25 < 0 := (lgc_lt _ _).mpr (Int64.lt_iff_toInt_lt.mpr (show (v i).toInt < 25 by omega))
          rw [Int32.lt_iff_toInt_lt] at h1
          rw [Int32.le_iff_toInt_le]
          omega
        rw [if_neg e1, M_nth h8 ti, Option.bind_some, v_lN ⟨by omega, q1⟩, M_len hw tp (by omega), Option.bind_some, decide_eq_true (show 0 ≤ (v i).toInt ∧ (v i).toInt ≤ 24 by omega), Bool.true_and]
        by_cases z : lenA A (A (69 + 11 * t + i)) (v i).toInt.toNat = true
        · rw [z, if0t]
        · rw [nT z, if0f]
      · have e1 : 0 ≤ lg_cmp (v i) 25 := by
          have h1 : ¬ lg_cmp (v i) 25 < 0 := fun y => by
            have h2 : (v i).toInt < 25 := Int64.lt_iff_toInt_lt.mp ((lgc_lt _ _).mp y)
            omega
          rw [Int32.lt_iff_toInt_lt] at h1
          rw [Int32.le_iff_toInt_le]
          omega
        rw [if_pos e1, decide_eq_false (by omega), Bool.false_and]
  · rw [if_pos (nI_le (by omega) (by omega)), decide_eq_false hi, Bool.false_and]
set_option maxHeartbeats 4000000 in
theorem eq_read {par : Int32} {kin lea mos wrt : Nat → Int32} {tal : Int32} {siz tol : Nat → Int32} {hrs : Int32} {ags : Nat → Int32} {yea kpar : Int32} {kkin klea kmos kwrt : Nat → Int32} {ktal : Int32} {ksiz ktol : Nat → Int32} {khrs : Int32} {kags : Nat → Int32} {kyea isk : Int32} {tly : Nat → Int64} {gai bes : Nat → Int32} {low hig : Nat → Int64} {spn : Int32} {byt : Nat → Int32} {hld sta beh sor num : Int32} {fnd sbi she : Nat → Int32} {snu : Nat → Nat → Int64} {msv mkep mbef : Nat → Int32} {misk : Int32} {mfnd : Nat → Int32} {mman mnex : Nat → Int64} {mwor msng mhea mlat mtap : Nat → Int32} {mtpd mher mflt mvlu : Int32} {mbit mlon : Nat → Int32} {mcel mbtw : Nat → Int64} (h : Rel par kin lea mos wrt tal siz tol hrs ags yea kpar kkin klea kmos kwrt ktal ksiz ktol khrs kags kyea isk tly gai bes low hig spn byt hld sta beh sor num fnd sbi she snu msv mkep mbef misk mfnd mman mnex mwor msng mhea mlat mtap mtpd mher mflt mvlu mbit mlon mcel mbtw) (x1 : Int32) (x2 : Int32) (x3 : Int32) : ∃ (rx : Int32 × (Nat → Int32)) (rm : Int32 × (Nat → Int32)), fX5_read kin lea mos tal siz tol hrs ags fnd sbi she snu x1 x2 x3 = some rx ∧ fX6_read msv mfnd mbit mlon mcel x1 x2 x3 = some rm ∧ rx.1 = rm.1 ∧ Rel par kin lea mos wrt tal siz tol hrs ags yea kpar kkin klea kmos kwrt ktal ksiz ktol khrs kags kyea isk tly gai bes low hig spn byt hld sta beh sor num rx.2 sbi she snu msv mkep mbef misk rm.2 mman mnex mwor msng mhea mlat mtap mtpd mher mflt mvlu mbit mlon mcel mbtw := by
  obtain ⟨⟨A, hw, hs, rfl⟩, hk, rfl, htp, hsh⟩ := h
  obtain ⟨hy, h1, h2, h3, hpp, htt, hhh⟩ := id hw
  obtain ⟨rfl, hsp, rfl, hst, rfl, hsa, rfl⟩ := id hs
  obtain ⟨rfl, rfl, hsz, hce⟩ := id hsh
  by_cases c : hasN 4 x1 = true
  · obtain ⟨k, hk4, rfl⟩ := hasN_of c
    by_cases m : sbi k = 0
    · refine ⟨fn fnd 5, fn fnd 5, ?_, ?_, rfl, ⟨A, hw, hs, rfl⟩, hk, rfl, htp, hsh⟩
      · unfold fX5_read
        rw [X_sheet, c, if0t, gdN hk4 (by omega), miss_eq sbi hk4, decide_eq_true m, if0t, fo_5, Option.bind_some]
      · unfold fX6_read
        rw [M_isSheet, c, if0t, gdN hk4 (by omega), nI_clamp (by omega), if_pos m, no_5, Option.bind_some]
    · obtain ⟨-, n, hn, en⟩ := hsz k hk4
      by_cases d : hasN (A 2) x2 = true
      · obtain ⟨t, ht, rfl⟩ := hasN_of d
        by_cases f : hasN (A 3) x3 = true
        · obtain ⟨h, hh, rfl⟩ := hasN_of f
          have h8 : t < 8 := by omega
          have h10 := (htt t ht).1
          obtain ⟨v, hv⟩ : ∃ v : Nat → Int64, v = fun i => mcel (40 * k + i) := ⟨_, rfl⟩
          have hvi : ∀ i, mcel (40 * k + i) = v i := fun i => by rw [hv]
          obtain ⟨F, hF⟩ : ∃ F, F = fs (fun i => !sdB A t v i) n := ⟨_, rfl⟩
          have hFn : F ≤ n := by rw [hF]; exact fs_le _ n
          have hbe : ∀ i, i < F → sdB A t v i = true := fun i hi => by
            have := fs_before (fun i => !sdB A t v i) n i (by rw [← hF]; exact hi)
            simpa using this
          have hat : F < n → sdB A t v F = false := fun hl => by
            have := fs_lt (fun i => !sdB A t v i) n (by rw [← hF]; exact hl)
            rw [← hF] at this
            simpa using this
          have hlt : ∀ i, i < F → i < A (68 + 11 * t) := fun i hi => by
            have := hbe i hi
            unfold sdB at this
            rw [Bool.and_eq_true, decide_eq_true_eq] at this
            exact this.1
          obtain ⟨r, hr⟩ : ∃ r : Int32, r = if F < n then 1 + nI F else if A (68 + 11 * t) ≤ n then (if smI (fun i => (v i).toInt32) n = nI (A (156 + h)) then 0 else 41) else 1 + nI n := ⟨_, rfl⟩
          have X1 : fX5_judge kin lea mos siz tol she snu (nI k) (nI t) (nI (A (156 + h))) = some r := by
            unfold fX5_judge
            rw [gdN h8 (by omega), nI_clamp (by omega), (hst t ht).1]
            refine up2 F (fun i x5 x6 => x5 = smI (fun i => (v i).toInt32) i ∧ x6 = nI i) ?_ ?_ 2000 0 _ _ (by omega) (by omega) ⟨rfl, rfl⟩
            · rintro K x5 x6 ⟨rfl, rfl⟩
              unfold fX5_judge_l17
              rw [nI_clamp (show k < 2 ^ 31 by omega), en]
              by_cases q : F < n
              · rw [if_neg (nI_ge q (by omega)), gdN (by omega) (by omega), nI_clamp (by omega), hce k F hk4 (by omega), hvi, hr, if_pos q]
                by_cases z : F < A (68 + 11 * t)
                · obtain ⟨tp, -, -⟩ := tale_part hw ht z
                  rw [if_neg (nI_ge z (by omega)), X_told hw hs ht z, Option.bind_some, X_len hw hs tp, Option.bind_some, X_said hw ht z, hat q, if0f]
                  rfl
                · rw [if_pos (nI_le (by omega) (by omega))]
                  rfl
              · have e1 : F = n := by omega
                rw [if_pos (nI_le (by omega) (by omega)), hr, if_neg q, e1]
                unfold fX5_judge_b86
                rw [nI_clamp (show k < 2 ^ 31 by omega), en]
                by_cases z : A (68 + 11 * t) ≤ n
                · rw [if_pos (nI_le z (by omega)), if_pos z]
                  by_cases y : smI (fun i => (v i).toInt32) n = nI (A (156 + h))
                  · rw [if_pos y, if_pos y]
                  · rw [if_neg y, if_neg y]
                · rw [if_neg (nI_ge (by omega) (by omega)), if_neg z]
            · rintro K i x5 x6 hi ⟨rfl, rfl⟩
              right
              have hi2 := hlt i hi
              obtain ⟨tp, -, -⟩ := tale_part hw ht hi2
              refine ⟨smI (fun i => (v i).toInt32) (i + 1), nI (i + 1), ?_, rfl, rfl⟩
              unfold fX5_judge_l17
              rw [nI_clamp (show k < 2 ^ 31 by omega), en, if_neg (nI_ge (by omega) (by omega)), gdN (by omega) (by omega), nI_clamp (by omega), if_neg (nI_ge hi2 (by omega)), X_told hw hs ht hi2, Option.bind_some, X_len hw hs tp, Option.bind_some, hce k i hk4 (by omega), hvi, X_said hw ht hi2, hbe i hi, if0t, nI_1]
              rfl
          have M1 : fix2 (fX6_read_l49 (toF A) fnd she mcel (nI k) (nI t) (nI h)) 2000 0 0 = some (r, fnd) := by
            refine up2 F (fun i x4 x5 => x4 = smI (fun i => (v i).toInt32) i ∧ x5 = nI i) ?_ ?_ 2000 0 _ _ (by omega) (by omega) ⟨rfl, rfl⟩
            · rintro K x4 x5 ⟨rfl, rfl⟩
              unfold fX6_read_l49
              rw [gdN hk4 (by omega), nI_clamp (show k < 2 ^ 31 by omega), en]
              by_cases q : F < n
              · rw [if_neg (nI_ge q (by omega)), e_cel, gdN (by omega) (by omega), nI_clamp (by omega), hvi, M_said hw ht (by omega), Option.bind_some, hat q, if0f]
                unfold fX6_read_b106 fX6_read_b127
                rw [gdN hk4 (by omega), nI_clamp (by omega), en, if_pos (nI_lt q (by omega)), hr, if_pos q]
              · have e1 : F = n := by omega
                rw [if_pos (nI_le (by omega) (by omega)), hr, if_neg q, e1]
                unfold fX6_read_b106 fX6_read_b127
                rw [gdN hk4 (by omega), nI_clamp (show k < 2 ^ 31 by omega), en, if_neg (nI_nlt (Nat.le_refl n) (by omega)), M_long h8, Option.bind_some]
                by_cases z : A (68 + 11 * t) ≤ n
                · rw [if_pos (nI_le z (by omega)), if_pos z, e_age, gdN (by omega) (by omega), nI_clamp (by omega), toF_at]
                  by_cases y : smI (fun i => (v i).toInt32) n = nI (A (156 + h))
                  · rw [if_pos y, if_pos y]
                  · rw [if_neg y, if_neg y]
                · rw [if_neg (nI_ge (by omega) (by omega)), if_neg z]
            · rintro K i x4 x5 hi ⟨rfl, rfl⟩
              right
              refine ⟨smI (fun i => (v i).toInt32) (i + 1), nI (i + 1), ?_, rfl, rfl⟩
              unfold fX6_read_l49
              rw [gdN hk4 (by omega), nI_clamp (show k < 2 ^ 31 by omega), en, if_neg (nI_ge (by omega) (by omega)), e_cel, gdN (by omega) (by omega), gdN (by omega) (by omega), nI_clamp (by omega), hvi, M_said hw ht (by omega), Option.bind_some, hbe i hi, if0t, nI_1]
              rfl
          refine ⟨(r, fnd), (r, fnd), ?_, ?_, rfl, ⟨A, hw, hs, rfl⟩, hk, rfl, htp, hsh⟩
          · unfold fX5_read
            rw [X_sheet, c, if0t, gdN hk4 (by omega), miss_eq sbi hk4, decide_eq_false m, if0f, hasT_eq (show A 2 < 2 ^ 31 by omega), d, if0t, hasH_eq (show A 3 < 2 ^ 31 by omega), f, if0t, gdN (by omega) (by omega), nI_clamp (show h < 2 ^ 31 by omega), hsa h hh, X1, Option.bind_some]
          · unfold fX6_read
            rw [M_isSheet, c, if0t, gdN hk4 (by omega), nI_clamp (by omega), if_neg m, M_areTold (show A 2 < 2 ^ 30 by omega) (show A 3 < 2 ^ 30 by omega), Option.bind_some, d, f, Bool.and_self, if0t]
            exact M1
        · have f := nT f
          refine ⟨fn fnd 0, fn fnd 0, ?_, ?_, rfl, ⟨A, hw, hs, rfl⟩, hk, rfl, htp, hsh⟩
          · unfold fX5_read fX5_read_b61
            rw [X_sheet, c, if0t, gdN hk4 (by omega), miss_eq sbi hk4, decide_eq_false m, if0f, hasT_eq (show A 2 < 2 ^ 31 by omega), d, if0t, hasH_eq (show A 3 < 2 ^ 31 by omega), f, if0f, fo_0, Option.bind_some]
          · unfold fX6_read
            rw [M_isSheet, c, if0t, gdN hk4 (by omega), nI_clamp (by omega), if_neg m, M_areTold (show A 2 < 2 ^ 30 by omega) (show A 3 < 2 ^ 30 by omega), Option.bind_some, d, f, Bool.true_and, if0f, no_0, Option.bind_some]
      · have d := nT d
        refine ⟨fn fnd 0, fn fnd 0, ?_, ?_, rfl, ⟨A, hw, hs, rfl⟩, hk, rfl, htp, hsh⟩
        · unfold fX5_read fX5_read_b61
          rw [X_sheet, c, if0t, gdN hk4 (by omega), miss_eq sbi hk4, decide_eq_false m, if0f, hasT_eq (show A 2 < 2 ^ 31 by omega), d, if0f, fo_0, Option.bind_some]
        · unfold fX6_read
          rw [M_isSheet, c, if0t, gdN hk4 (by omega), nI_clamp (by omega), if_neg m, M_areTold (show A 2 < 2 ^ 30 by omega) (show A 3 < 2 ^ 30 by omega), Option.bind_some, d, Bool.false_and, if0f, no_0, Option.bind_some]
  · have c := nT c
    refine ⟨fn fnd 0, fn fnd 0, ?_, ?_, rfl, ⟨A, hw, hs, rfl⟩, hk, rfl, htp, hsh⟩
    · unfold fX5_read
      rw [X_sheet, c, if0f, fo_0, Option.bind_some]
    · unfold fX6_read
      rw [M_isSheet, c, if0f, no_0, Option.bind_some]
/-- the sheet k after i lengths are written -/
def syX (sbi : Nat → Int32) (snu : Nat → Nat → Int64) (k : Nat) (b : Nat → Nat) : Nat → (Nat → Nat → Int64)
  | 0 => snu
  | i + 1 => va_up (syX sbi snu k b i) k (vp_updL (syX sbi snu k b i k) i (fX2_lowest sbi (nI k) (nI (b i)).toInt64))
def syM (sbi : Nat → Int32) (cel : Nat → Int64) (k : Nat) (b : Nat → Nat) : Nat → (Nat → Int64)
  | 0 => cel
  | i + 1 => vp_updL (syM sbi cel k b i) (40 * k + i) (fX2_lowest sbi (nI k) (nI (b i)).toInt64)
theorem sy_ok {sbi : Nat → Int32} {snu : Nat → Nat → Int64} {cel : Nat → Int64} {k : Nat} {b : Nat → Nat} (hk : k < 4) (h : ∀ k i, k < 4 → i < 40 → snu k i = cel (40 * k + i)) : ∀ n, n ≤ 40 → ∀ k2 i2, k2 < 4 → i2 < 40 → syX sbi snu k b n k2 i2 = syM sbi cel k b n (40 * k2 + i2)
  | 0, _ => h
  | n + 1, hn => sh_put hk (by omega) _ (sy_ok hk h n (by omega))
set_option maxHeartbeats 4000000 in
theorem eq_say {par : Int32} {kin lea mos wrt : Nat → Int32} {tal : Int32} {siz tol : Nat → Int32} {hrs : Int32} {ags : Nat → Int32} {yea kpar : Int32} {kkin klea kmos kwrt : Nat → Int32} {ktal : Int32} {ksiz ktol : Nat → Int32} {khrs : Int32} {kags : Nat → Int32} {kyea isk : Int32} {tly : Nat → Int64} {gai bes : Nat → Int32} {low hig : Nat → Int64} {spn : Int32} {byt : Nat → Int32} {hld sta beh sor num : Int32} {fnd sbi she : Nat → Int32} {snu : Nat → Nat → Int64} {msv mkep mbef : Nat → Int32} {misk : Int32} {mfnd : Nat → Int32} {mman mnex : Nat → Int64} {mwor msng mhea mlat mtap : Nat → Int32} {mtpd mher mflt mvlu : Int32} {mbit mlon : Nat → Int32} {mcel mbtw : Nat → Int64} (h : Rel par kin lea mos wrt tal siz tol hrs ags yea kpar kkin klea kmos kwrt ktal ksiz ktol khrs kags kyea isk tly gai bes low hig spn byt hld sta beh sor num fnd sbi she snu msv mkep mbef misk mfnd mman mnex mwor msng mhea mlat mtap mtpd mher mflt mvlu mbit mlon mcel mbtw) (x1 : Int32) (x2 : Int32) (x3 : Int32) : ∃ (rx : Int32 × (Nat → Int32) × (Nat → Int32) × (Nat → Int32) × (Nat → Nat → Int64)) (rm : Int32 × (Nat → Int32) × (Nat → Int32) × (Nat → Int32) × (Nat → Int64)), fX5_say kin lea mos wrt tal siz tol gai bes fnd sbi she snu x1 x2 x3 = some rx ∧ fX6_say msv mfnd mwor msng mbit mlon mcel x1 x2 x3 = some rm ∧ rx.1 = rm.1 ∧ Rel par kin lea mos wrt tal siz tol hrs ags yea kpar kkin klea kmos kwrt ktal ksiz ktol khrs kags kyea isk tly rx.2.1 rx.2.2.1 low hig spn byt hld sta beh sor num rx.2.2.2.1 sbi she rx.2.2.2.2 msv mkep mbef misk rm.2.1 mman mnex rm.2.2.1 rm.2.2.2.1 mhea mlat mtap mtpd mher mflt mvlu mbit mlon rm.2.2.2.2 mbtw := by
  obtain ⟨⟨A, hw, hs, rfl⟩, hk, rfl, htp, hsh⟩ := h
  obtain ⟨hy, h1, h2, h3, hpp, htt, hhh⟩ := id hw
  obtain ⟨rfl, hsp, rfl, hst, rfl, hsa, rfl⟩ := id hs
  obtain ⟨rfl, rfl, hsz, hce⟩ := id hsh
  by_cases c : hasN 4 x1 = true
  · obtain ⟨k, hk4, rfl⟩ := hasN_of c
    by_cases m : sbi k = 0
    · refine ⟨((fn fnd 5).1, gai, bes, (fn fnd 5).2, snu), ((fn fnd 5).1, (fn fnd 5).2, mwor, msng, mcel), ?_, ?_, rfl, ⟨A, hw, hs, rfl⟩, hk, rfl, htp, hsh⟩
      · unfold fX5_say
        rw [X_sheet, c, if0t, gdN hk4 (by omega), miss_eq sbi hk4, decide_eq_true m, if0t, fo_5, Option.bind_some]
      · unfold fX6_say
        rw [M_isSheet, c, if0t, gdN hk4 (by omega), nI_clamp (by omega), if_pos m, no_5, Option.bind_some]
    · obtain ⟨-, n, hn, en⟩ := hsz k hk4
      by_cases d : hasN (A 2) x2 = true
      · obtain ⟨t, ht, rfl⟩ := hasN_of d
        by_cases f : hasN 121 x3 = true
        · obtain ⟨w, hw2, rfl⟩ := hasN_of f
          have h8 : t < 8 := by omega
          have h10 := (htt t ht).1
          obtain ⟨X0, X1⟩ := X_findBest hw hs ht (show w ≤ 120 by omega) gai bes
          obtain ⟨M0, M1⟩ := M_says hw ht (show w ≤ 120 by omega) mwor msng
          cases e : gn A t (A (68 + 11 * t)) (A (68 + 11 * t)) w with
          | none =>
            obtain ⟨ga, be, X0⟩ := X0 e
            obtain ⟨wo, sn, M0⟩ := M0 e
            refine ⟨((fn fnd 3).1, ga, be, (fn fnd 3).2, snu), ((fn fnd 3).1, (fn fnd 3).2, wo, sn, mcel), ?_, ?_, rfl, ⟨A, hw, hs, rfl⟩, hk, rfl, htp, hsh⟩
            · unfold fX5_say
              rw [X_sheet, c, if0t, gdN hk4 (by omega), miss_eq sbi hk4, decide_eq_false m, if0f, hasT_eq (show A 2 < 2 ^ 31 by omega), d, if0t, X_words, f, if0t, X0, Option.bind_some, if_pos rfl, fo_3, Option.bind_some]
            · unfold fX6_say
              rw [M_isSheet, c, if0t, gdN hk4 (by omega), nI_clamp (by omega), if_neg m, M_isTale (show A 2 < 2 ^ 30 by omega), Option.bind_some, d, if0t, M_isWords, f, if0t, M0, Option.bind_some, if0f, no_3, Option.bind_some]
          | some g =>
            have hgb := gn_bd3 hw ht (d := A (68 + 11 * t)) (by omega) w g e
            obtain ⟨ga, be, X1, hbe⟩ := X1 g e
            obtain ⟨wo, sn, M1, hwg, hsn⟩ := M1 g e
            have hne0 : ¬ enc (-1000000000) (some g) = (-1000000000 : Int32) := (enc_some (by omega) (by omega) (by omega) (by omega)).1
            have hne : ¬ iI g = (-1000000000 : Int32) := hne0
            obtain ⟨b, hb⟩ : ∃ b : Nat → Nat, b = fun i => bl A t (A (68 + 11 * t)) i (wr A t (A (68 + 11 * t)) w i) := ⟨_, rfl⟩
            have hbe2 : ∀ i, i < A (68 + 11 * t) → be i = nI (b i) := fun i hi => by rw [hb]; exact hbe i hi
            have hsn2 : ∀ i, i < A (68 + 11 * t) → sn i = nI (b i) := fun i hi => by rw [hb]; exact hsn i hi
            obtain ⟨q, hq⟩ : ∃ q, q = if n < A (68 + 11 * t) then n else A (68 + 11 * t) := ⟨_, rfl⟩
            have hq1 : q ≤ n ∧ q ≤ A (68 + 11 * t) := by rw [hq]; split <;> omega
            have X2 : fix2 (fX5_say_l110 ga be fnd sbi (nI k) (nI q)) 2000 0 snu = some (nI q, ga, be, fnd, syX sbi snu k b q) := by
              refine up2 q (fun i x6 (sn : Nat → Nat → Int64) => x6 = nI i ∧ sn = syX sbi snu k b i) ?_ ?_ 2000 0 _ _ (by omega) (by omega) ⟨rfl, rfl⟩
              · rintro K x6 sn ⟨rfl, rfl⟩
                unfold fX5_say_l110
                rw [if_pos (nI_le (Nat.le_refl _) (by omega))]
              · rintro K i x6 sn hi ⟨rfl, rfl⟩
                right
                refine ⟨nI (i + 1), syX sbi snu k b (i + 1), ?_, rfl, rfl⟩
                unfold fX5_say_l110
                rw [if_neg (nI_ge hi (by omega)), gdN (by omega) (by omega), nI_clamp (by omega), hbe2 i (by omega), X_put hk4 (by omega), Option.bind_some, nI_1]
                rfl
            have M2 : fix2 (fX6_say_l97 fnd wo sn sbi (nI k) (nI q)) 2000 0 mcel = some (nI q, fnd, wo, sn, syM sbi mcel k b q) := by
              refine up2 q (fun i x5 (ce : Nat → Int64) => x5 = nI i ∧ ce = syM sbi mcel k b i) ?_ ?_ 2000 0 _ _ (by omega) (by omega) ⟨rfl, rfl⟩
              · rintro K x5 ce ⟨rfl, rfl⟩
                unfold fX6_say_l97
                rw [if_pos (nI_le (Nat.le_refl _) (by omega))]
              · rintro K i x5 ce hi ⟨rfl, rfl⟩
                right
                refine ⟨nI (i + 1), syM sbi mcel k b (i + 1), ?_, rfl, rfl⟩
                unfold fX6_say_l97
                rw [if_neg (nI_ge hi (by omega)), gdN (by omega) (by omega), nI_clamp (by omega), hsn2 i (by omega), M_writes hk4 (by omega), Option.bind_some, nI_1]
                rfl
            refine ⟨(nI q, ga, be, fnd, syX sbi snu k b q), (nI q, fnd, wo, sn, syM sbi mcel k b q), ?_, ?_, rfl, ⟨A, hw, hs, rfl⟩, hk, rfl, htp, rfl, rfl, hsz, sy_ok hk4 hce q (by omega)⟩
            · unfold fX5_say
              rw [X_sheet, c, if0t, gdN hk4 (by omega), miss_eq sbi hk4, decide_eq_false m, if0f, hasT_eq (show A 2 < 2 ^ 31 by omega), d, if0t, X_words, f, if0t, X1, Option.bind_some, if_neg hne, gdN h8 (by omega), nI_clamp (show k < 2 ^ 31 by omega), nI_clamp (show t < 2 ^ 31 by omega), (hst t ht).1, en]
              have e9 : (if nI n < nI (A (68 + 11 * t)) then nI n else nI (A (68 + 11 * t))) = nI q := by
                rw [hq]
                by_cases z : n < A (68 + 11 * t)
                · rw [if_pos (nI_lt z (by omega)), if_pos z]
                · rw [if_neg (nI_nlt (by omega) (by omega)), if_neg z]
              rw [e9]
              exact X2
            · unfold fX6_say fX6_say_b92
              rw [M_isSheet, c, if0t, gdN hk4 (by omega), nI_clamp (by omega), if_neg m, M_isTale (show A 2 < 2 ^ 30 by omega), Option.bind_some, d, if0t, M_isWords, f, if0t, M1, Option.bind_some, if0t, gdN hk4 (by omega), M_long h8, Option.bind_some, Option.bind_some, gdN hk4 (by omega), en]
              by_cases z : A (68 + 11 * t) ≤ n
              · rw [if_pos (nI_le z (by omega)), show A (68 + 11 * t) = q by rw [hq, if_neg (by omega)]]
                exact M2
              · rw [if_neg (nI_ge (by omega) (by omega)), show n = q by rw [hq, if_pos (by omega)]]
                exact M2
        · have f := nT f
          refine ⟨((fn fnd 0).1, gai, bes, (fn fnd 0).2, snu), ((fn fnd 0).1, (fn fnd 0).2, mwor, msng, mcel), ?_, ?_, rfl, ⟨A, hw, hs, rfl⟩, hk, rfl, htp, hsh⟩
          · unfold fX5_say fX5_say_b60
            rw [X_sheet, c, if0t, gdN hk4 (by omega), miss_eq sbi hk4, decide_eq_false m, if0f, hasT_eq (show A 2 < 2 ^ 31 by omega), d, if0t, X_words, f, if0f, fo_0, Option.bind_some]
          · unfold fX6_say fX6_say_b43
            rw [M_isSheet, c, if0t, gdN hk4 (by omega), nI_clamp (by omega), if_neg m, M_isTale (show A 2 < 2 ^ 30 by omega), Option.bind_some, d, if0t, M_isWords, f, if0f, no_0, Option.bind_some]
      · have d := nT d
        refine ⟨((fn fnd 0).1, gai, bes, (fn fnd 0).2, snu), ((fn fnd 0).1, (fn fnd 0).2, mwor, msng, mcel), ?_, ?_, rfl, ⟨A, hw, hs, rfl⟩, hk, rfl, htp, hsh⟩
        · unfold fX5_say fX5_say_b60
          rw [X_sheet, c, if0t, gdN hk4 (by omega), miss_eq sbi hk4, decide_eq_false m, if0f, hasT_eq (show A 2 < 2 ^ 31 by omega), d, if0f, fo_0, Option.bind_some]
        · unfold fX6_say fX6_say_b43
          rw [M_isSheet, c, if0t, gdN hk4 (by omega), nI_clamp (by omega), if_neg m, M_isTale (show A 2 < 2 ^ 30 by omega), Option.bind_some, d, if0f, no_0, Option.bind_some]
  · have c := nT c
    refine ⟨((fn fnd 0).1, gai, bes, (fn fnd 0).2, snu), ((fn fnd 0).1, (fn fnd 0).2, mwor, msng, mcel), ?_, ?_, rfl, ⟨A, hw, hs, rfl⟩, hk, rfl, htp, hsh⟩
    · unfold fX5_say
      rw [X_sheet, c, if0f, fo_0, Option.bind_some]
    · unfold fX6_say
      rw [M_isSheet, c, if0f, no_0, Option.bind_some]

