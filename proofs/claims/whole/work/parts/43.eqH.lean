theorem isIn_m1 {x : Int32} (h : fX5_isIn x (-1) 9 = true) : x = -1 ∨ ∃ k, k ≤ 9 ∧ x = nI k := by
  rw [isIn_eq, decide_eq_true_eq, show (-1 : Int32).toInt = -1 from rfl, show (9 : Int32).toInt = 9 from rfl] at h
  by_cases q : 0 ≤ x.toInt
  · right
    exact ⟨x.toInt.toNat, by omega, nI_ofInt q⟩
  · left
    apply Int32.toInt_inj.mp
    rw [show (-1 : Int32).toInt = -1 from rfl]
    omega
set_option maxHeartbeats 4000000 in
theorem eq_best {par : Int32} {kin lea mos wrt : Nat → Int32} {tal : Int32} {siz tol : Nat → Int32} {hrs : Int32} {ags : Nat → Int32} {yea kpar : Int32} {kkin klea kmos kwrt : Nat → Int32} {ktal : Int32} {ksiz ktol : Nat → Int32} {khrs : Int32} {kags : Nat → Int32} {kyea isk : Int32} {tly : Nat → Int64} {gai bes : Nat → Int32} {low hig : Nat → Int64} {spn : Int32} {byt : Nat → Int32} {hld sta beh sor num : Int32} {fnd sbi she : Nat → Int32} {snu : Nat → Nat → Int64} {msv mkep mbef : Nat → Int32} {misk : Int32} {mfnd : Nat → Int32} {mman mnex : Nat → Int64} {mwor msng mhea mlat mtap : Nat → Int32} {mtpd mher mflt mvlu : Int32} {mbit mlon : Nat → Int32} {mcel mbtw : Nat → Int64} (h : Rel par kin lea mos wrt tal siz tol hrs ags yea kpar kkin klea kmos kwrt ktal ksiz ktol khrs kags kyea isk tly gai bes low hig spn byt hld sta beh sor num fnd sbi she snu msv mkep mbef misk mfnd mman mnex mwor msng mhea mlat mtap mtpd mher mflt mvlu mbit mlon mcel mbtw) (x1 : Int32) (x2 : Int32) (x3 : Int32) : ∃ (rx : Int32 × (Nat → Int32) × (Nat → Int32) × (Nat → Int32)) (rm : Int32 × (Nat → Int32) × (Nat → Int32) × (Nat → Int32)), fX5_best kin lea mos wrt tal siz tol gai bes fnd x1 x2 x3 = some rx ∧ fX6_best msv mfnd mwor msng x1 x2 x3 = some rm ∧ rx.1 = rm.1 ∧ Rel par kin lea mos wrt tal siz tol hrs ags yea kpar kkin klea kmos kwrt ktal ksiz ktol khrs kags kyea isk tly rx.2.1 rx.2.2.1 low hig spn byt hld sta beh sor num rx.2.2.2 sbi she snu msv mkep mbef misk rm.2.1 mman mnex rm.2.2.1 rm.2.2.2 mhea mlat mtap mtpd mher mflt mvlu mbit mlon mcel mbtw := by
  obtain ⟨⟨A, hw, hs, rfl⟩, hk, rfl, htp, hsh⟩ := h
  obtain ⟨hy, h1, h2, h3, hpp, htt, hhh⟩ := id hw
  obtain ⟨rfl, hsp, rfl, hst, rfl, hsa, rfl⟩ := id hs
  by_cases c : hasN (A 2) x1 = true
  · obtain ⟨t, ht, rfl⟩ := hasN_of c
    by_cases d : hasN 121 x2 = true
    · obtain ⟨w, hw2, rfl⟩ := hasN_of d
      have h10 := (htt t ht).1
      have h8 : t < 8 := by omega
      by_cases f : fX5_isIn x3 (-1) 9 = true
      · have f2 : fX6_in x3 (-1) 9 = true := f
        obtain ⟨X0, X1⟩ := X_findBest hw hs ht (show w ≤ 120 by omega) gai bes
        obtain ⟨M0, M1⟩ := M_says hw ht (show w ≤ 120 by omega) mwor msng
        cases e : gn A t (A (68 + 11 * t)) (A (68 + 11 * t)) w with
        | none =>
          obtain ⟨ga, be, X0⟩ := X0 e
          obtain ⟨wo, sn, M0⟩ := M0 e
          refine ⟨((fn fnd 3).1, ga, be, (fn fnd 3).2), ((fn fnd 3).1, (fn fnd 3).2, wo, sn), ?_, ?_, rfl, ⟨A, hw, hs, rfl⟩, hk, rfl, htp, hsh⟩
          · unfold fX5_best fX5_best_b69
            rw [hasT_eq (show A 2 < 2 ^ 31 by omega), c, if0t, X_words, d, if0t, f, if0t, X0, Option.bind_some, if_pos rfl, fo_3, Option.bind_some]
          · unfold fX6_best fX6_best_b49
            rw [M_isTale (show A 2 < 2 ^ 30 by omega), Option.bind_some, c, if0t, M_isWords, d, if0t, f2, if0t, M0, Option.bind_some, if0f, no_3, Option.bind_some]
        | some g =>
          have hgb := gn_bd3 hw ht (d := A (68 + 11 * t)) (by omega) w g e
          obtain ⟨ga, be, X1, hbe⟩ := X1 g e
          obtain ⟨wo, sn, M1, hwg, hsn⟩ := M1 g e
          have hne0 : ¬ enc (-1000000000) (some g) = (-1000000000 : Int32) := (enc_some (by omega) (by omega) (by omega) (by omega)).1
          have hne : ¬ iI g = (-1000000000 : Int32) := hne0
          have hw0 : fX6_worthAt wo 0 (nI w) = some (wo w) := by
            have := M_worthAt (A := A) (t := t) (j := 0) h10 (by omega) (show w ≤ 120 by omega) wo
            rw [Nat.mul_zero, Nat.zero_add] at this
            exact this
          rcases isIn_m1 f with rfl | ⟨k, hk9, rfl⟩
          · have hlt : (-1 : Int32) < nI (A (68 + 11 * t)) := by
              rw [Int32.lt_iff_toInt_lt, nI_toInt (by omega)]
              show (-1 : Int) < _
              omega
            refine ⟨(iI g, ga, be, fnd), (iI g, fnd, wo, sn), ?_, ?_, rfl, ⟨A, hw, hs, rfl⟩, hk, rfl, htp, hsh⟩
            · unfold fX5_best
              rw [hasT_eq (show A 2 < 2 ^ 31 by omega), c, if0t, X_words, d, if0t, f, if0t, X1, Option.bind_some, if_neg hne, gdN h8 (by omega), nI_clamp (by omega), (hst t ht).1, if_pos hlt, if_neg (by decide)]
            · unfold fX6_best
              rw [M_isTale (show A 2 < 2 ^ 30 by omega), Option.bind_some, c, if0t, M_isWords, d, if0t, f2, if0t, M1, Option.bind_some, if0t, M_long h8, Option.bind_some, if_pos hlt, if_pos rfl, hw0, Option.bind_some, hwg]
          · by_cases q : k < A (68 + 11 * t)
            · refine ⟨(be k, ga, be, fnd), (sn k, fnd, wo, sn), ?_, ?_, (hbe k q).trans (hsn k q).symm, ⟨A, hw, hs, rfl⟩, hk, rfl, htp, hsh⟩
              · unfold fX5_best
                rw [hasT_eq (show A 2 < 2 ^ 31 by omega), c, if0t, X_words, d, if0t, f, if0t, X1, Option.bind_some, if_neg hne, gdN h8 (by omega), nI_clamp (by omega), (hst t ht).1, if_pos (nI_lt q (by omega)), if_pos (nI_pos' (by omega)), gdN (by omega) (by omega), nI_clamp (by omega)]
              · unfold fX6_best
                have hm1 : ¬ nI k = (-1 : Int32) := fun z => by
                  have := congrArg Int32.toInt z
                  rw [nI_toInt (by omega), show (-1 : Int32).toInt = -1 from rfl] at this
                  omega
                rw [M_isTale (show A 2 < 2 ^ 30 by omega), Option.bind_some, c, if0t, M_isWords, d, if0t, f2, if0t, M1, Option.bind_some, if0t, M_long h8, Option.bind_some, if_pos (nI_lt q (by omega)), if_neg hm1, gdN (by omega) (by omega), nI_clamp (by omega)]
            · refine ⟨((fn fnd 3).1, ga, be, (fn fnd 3).2), ((fn fnd 3).1, (fn fnd 3).2, wo, sn), ?_, ?_, rfl, ⟨A, hw, hs, rfl⟩, hk, rfl, htp, hsh⟩
              · unfold fX5_best fX5_best_b69
                rw [hasT_eq (show A 2 < 2 ^ 31 by omega), c, if0t, X_words, d, if0t, f, if0t, X1, Option.bind_some, if_neg hne, gdN h8 (by omega), nI_clamp (by omega), (hst t ht).1, if_neg (nI_nlt (by omega) (by omega)), fo_3, Option.bind_some]
              · unfold fX6_best fX6_best_b49
                rw [M_isTale (show A 2 < 2 ^ 30 by omega), Option.bind_some, c, if0t, M_isWords, d, if0t, f2, if0t, M1, Option.bind_some, if0t, M_long h8, Option.bind_some, if_neg (nI_nlt (by omega) (by omega)), no_3, Option.bind_some]
      · have f := nT f
        have f2 : fX6_in x3 (-1) 9 = false := f
        refine ⟨((fn fnd 0).1, gai, bes, (fn fnd 0).2), ((fn fnd 0).1, (fn fnd 0).2, mwor, msng), ?_, ?_, rfl, ⟨A, hw, hs, rfl⟩, hk, rfl, htp, hsh⟩
        · unfold fX5_best fX5_best_b31
          rw [hasT_eq (show A 2 < 2 ^ 31 by omega), c, if0t, X_words, d, if0t, f, if0f, fo_0, Option.bind_some]
        · unfold fX6_best fX6_best_b25
          rw [M_isTale (show A 2 < 2 ^ 30 by omega), Option.bind_some, c, if0t, M_isWords, d, if0t, f2, if0f, no_0, Option.bind_some]
    · have d := nT d
      refine ⟨((fn fnd 0).1, gai, bes, (fn fnd 0).2), ((fn fnd 0).1, (fn fnd 0).2, mwor, msng), ?_, ?_, rfl, ⟨A, hw, hs, rfl⟩, hk, rfl, htp, hsh⟩
      · unfold fX5_best fX5_best_b31
        rw [hasT_eq (show A 2 < 2 ^ 31 by omega), c, if0t, X_words, d, if0f, fo_0, Option.bind_some]
      · unfold fX6_best fX6_best_b25
        rw [M_isTale (show A 2 < 2 ^ 30 by omega), Option.bind_some, c, if0t, M_isWords, d, if0f, no_0, Option.bind_some]
  · have c := nT c
    refine ⟨((fn fnd 0).1, gai, bes, (fn fnd 0).2), ((fn fnd 0).1, (fn fnd 0).2, mwor, msng), ?_, ?_, rfl, ⟨A, hw, hs, rfl⟩, hk, rfl, htp, hsh⟩
    · unfold fX5_best fX5_best_b31
      rw [hasT_eq (show A 2 < 2 ^ 31 by omega), c, if0f, fo_0, Option.bind_some]
    · unfold fX6_best fX6_best_b25
      rw [M_isTale (show A 2 < 2 ^ 30 by omega), Option.bind_some, c, if0f, no_0, Option.bind_some]
/-- the words of the first i parts -/
def psL (b : Nat → Nat) : Nat → Nat
  | 0 => 0
  | i + 1 => psL b i + b i
theorem ps_mono (b : Nat → Nat) {i j : Nat} (h : i ≤ j) : psL b i ≤ psL b j := by
  induction j with
  | zero => rw [show i = 0 by omega]; exact Nat.le_refl _
  | succ j ih =>
    by_cases q : i = j + 1
    · rw [q]; exact Nat.le_refl _
    · have := ih (by omega)
      show _ ≤ psL b j + b j
      omega
theorem ps_lt {b : Nat → Nat} {n : Nat} (h : ∀ i, i < n → b i < 25) : ∀ i, i ≤ n → psL b i ≤ 24 * i
  | 0, _ => Nat.le_refl 0
  | i + 1, hi => by
    have h1 := ps_lt h i (by omega)
    have h2 := h i (by omega)
    show psL b i + b i ≤ _
    omega
theorem X_under {siz bes : Nat → Int32} {t s a : Nat} {b : Nat → Nat} (h8 : t < 8) (hs10 : s ≤ 10) (hsz : siz t = nI s) (hb : ∀ i, i < s → bes i = nI (b i)) (hb2 : ∀ i, i < s → b i < 25) (ha : a ≤ 99) : fX1_understoodOfBest siz bes (nI t) (nI a) = some (nI (fs (fun i => decide (a < psL b (i + 1))) s)) := by
  have hle := fs_le (fun i => decide (a < psL b (i + 1))) s
  unfold fX1_understoodOfBest
  refine up3 s (fun i x3 x4 x5 => x3 = nI (if i ≤ fs (fun i => decide (a < psL b (i + 1))) s then i else fs (fun i => decide (a < psL b (i + 1))) s) ∧ x4 = nI (psL b i) ∧ x5 = nI i) ?_ ?_ 2000 0 _ _ _ (by omega) (by omega) ⟨by rw [if_pos (Nat.zero_le _)]; rfl, rfl, rfl⟩
  · rintro K x3 x4 x5 ⟨rfl, rfl, rfl⟩
    unfold fX1_understoodOfBest_l8
    rw [gdN h8 (by omega), nI_clamp (by omega), hsz, if_pos (nI_le (Nat.le_refl _) (by omega))]
    by_cases q : s ≤ fs (fun i => decide (a < psL b (i + 1))) s
    · rw [if_pos q, show fs (fun i => decide (a < psL b (i + 1))) s = s by omega]
    · rw [if_neg q]
  · rintro K i x3 x4 x5 hi ⟨rfl, rfl, rfl⟩
    right
    have hpl := ps_lt hb2 (i + 1) (by omega)
    refine ⟨nI (if i + 1 ≤ fs (fun i => decide (a < psL b (i + 1))) s then i + 1 else fs (fun i => decide (a < psL b (i + 1))) s), nI (psL b (i + 1)), nI (i + 1), ?_, rfl, rfl, rfl⟩
    have e1 : nI (psL b i) + nI (b i) = nI (psL b (i + 1)) := nI_add _ _
    unfold fX1_understoodOfBest_l8 fX1_understoodOfBest_b43
    rw [gdN h8 (by omega), nI_clamp (show t < 2 ^ 31 by omega), hsz, if_neg (nI_ge hi (by omega)), gdN (by omega) (by omega), nI_clamp (by omega), hb i hi, e1, nI_1, nI_1]
    by_cases q : a < psL b (i + 1)
    · rw [if_pos (nI_lt q (by omega))]
      have hF : fs (fun i => decide (a < psL b (i + 1))) s ≤ i := by
        apply Nat.le_of_not_lt
        intro z
        have := fs_before _ s i z
        rw [decide_eq_true q] at this
        cases this
      rw [if_neg (show ¬ i + 1 ≤ fs (fun i => decide (a < psL b (i + 1))) s by omega)]
      by_cases q2 : i ≤ fs (fun i => decide (a < psL b (i + 1))) s
      · rw [if_pos q2, show fs (fun i => decide (a < psL b (i + 1))) s = i by omega]
      · rw [if_neg q2]
    · rw [if_neg (nI_nlt (by omega) (by omega))]
      have hF : i < fs (fun i => decide (a < psL b (i + 1))) s := by
        apply Nat.lt_of_not_le
        intro z
        have h1 := fs_lt (fun i => decide (a < psL b (i + 1))) s (by omega)
        have h2 := of_decide_eq_true h1
        have h3 := ps_mono b (show fs (fun i => decide (a < psL b (i + 1))) s + 1 ≤ i + 1 by omega)
        omega
      rw [if_pos (show i ≤ fs (fun i => decide (a < psL b (i + 1))) s by omega), if_pos (show i + 1 ≤ fs (fun i => decide (a < psL b (i + 1))) s by omega)]
set_option maxHeartbeats 4000000 in
theorem eq_heard {par : Int32} {kin lea mos wrt : Nat → Int32} {tal : Int32} {siz tol : Nat → Int32} {hrs : Int32} {ags : Nat → Int32} {yea kpar : Int32} {kkin klea kmos kwrt : Nat → Int32} {ktal : Int32} {ksiz ktol : Nat → Int32} {khrs : Int32} {kags : Nat → Int32} {kyea isk : Int32} {tly : Nat → Int64} {gai bes : Nat → Int32} {low hig : Nat → Int64} {spn : Int32} {byt : Nat → Int32} {hld sta beh sor num : Int32} {fnd sbi she : Nat → Int32} {snu : Nat → Nat → Int64} {msv mkep mbef : Nat → Int32} {misk : Int32} {mfnd : Nat → Int32} {mman mnex : Nat → Int64} {mwor msng mhea mlat mtap : Nat → Int32} {mtpd mher mflt mvlu : Int32} {mbit mlon : Nat → Int32} {mcel mbtw : Nat → Int64} (h : Rel par kin lea mos wrt tal siz tol hrs ags yea kpar kkin klea kmos kwrt ktal ksiz ktol khrs kags kyea isk tly gai bes low hig spn byt hld sta beh sor num fnd sbi she snu msv mkep mbef misk mfnd mman mnex mwor msng mhea mlat mtap mtpd mher mflt mvlu mbit mlon mcel mbtw) (x1 : Int32) (x2 : Int32) (x3 : Int32) : ∃ (rx : Int32 × (Nat → Int32) × (Nat → Int32) × (Nat → Int32)) (rm : Int32 × (Nat → Int32) × (Nat → Int32) × (Nat → Int32)), fX5_heard kin lea mos wrt tal siz tol hrs ags gai bes fnd x1 x2 x3 = some rx ∧ fX6_heard msv mfnd mwor msng x1 x2 x3 = some rm ∧ rx.1 = rm.1 ∧ Rel par kin lea mos wrt tal siz tol hrs ags yea kpar kkin klea kmos kwrt ktal ksiz ktol khrs kags kyea isk tly rx.2.1 rx.2.2.1 low hig spn byt hld sta beh sor num rx.2.2.2 sbi she snu msv mkep mbef misk rm.2.1 mman mnex rm.2.2.1 rm.2.2.2 mhea mlat mtap mtpd mher mflt mvlu mbit mlon mcel mbtw := by
  obtain ⟨⟨A, hw, hs, rfl⟩, hk, rfl, htp, hsh⟩ := h
  obtain ⟨hy, h1, h2, h3, hpp, htt, hhh⟩ := id hw
  obtain ⟨rfl, hsp, rfl, hst, rfl, hsa, rfl⟩ := id hs
  by_cases c : hasN (A 2) x1 = true
  · obtain ⟨t, ht, rfl⟩ := hasN_of c
    by_cases f : hasN (A 3) x3 = true
    · obtain ⟨h, hh, rfl⟩ := hasN_of f
      by_cases d : hasN 121 x2 = true
      · obtain ⟨w, hw2, rfl⟩ := hasN_of d
        have h10 := (htt t ht).1
        have h8 : t < 8 := by omega
        have ha := hhh h hh
        obtain ⟨X0, X1⟩ := X_findBest hw hs ht (show w ≤ 120 by omega) gai bes
        obtain ⟨M0, M1⟩ := M_says hw ht (show w ≤ 120 by omega) mwor msng
        cases e : gn A t (A (68 + 11 * t)) (A (68 + 11 * t)) w with
        | none =>
          obtain ⟨ga, be, X0⟩ := X0 e
          obtain ⟨wo, sn, M0⟩ := M0 e
          refine ⟨((fn fnd 3).1, ga, be, (fn fnd 3).2), ((fn fnd 3).1, (fn fnd 3).2, wo, sn), ?_, ?_, rfl, ⟨A, hw, hs, rfl⟩, hk, rfl, htp, hsh⟩
          · unfold fX5_heard
            rw [hasT_eq (show A 2 < 2 ^ 31 by omega), c, if0t, X_words, d, if0t, hasH_eq (show A 3 < 2 ^ 31 by omega), f, if0t, X0, Option.bind_some, if_pos rfl, fo_3, Option.bind_some]
          · unfold fX6_heard
            rw [M_areTold (show A 2 < 2 ^ 30 by omega) (show A 3 < 2 ^ 30 by omega), Option.bind_some, c, f, Bool.and_self, if0t, M_isWords, d, if0t, M0, Option.bind_some, if0f, no_3, Option.bind_some]
        | some g =>
          have hgb := gn_bd3 hw ht (d := A (68 + 11 * t)) (by omega) w g e
          obtain ⟨ga, be, X1, hbe⟩ := X1 g e
          obtain ⟨wo, sn, M1, hwg, hsn⟩ := M1 g e
          have hne0 : ¬ enc (-1000000000) (some g) = (-1000000000 : Int32) := (enc_some (by omega) (by omega) (by omega) (by omega)).1
          have hne : ¬ iI g = (-1000000000 : Int32) := hne0
          obtain ⟨b, hb⟩ : ∃ b : Nat → Nat, b = fun i => bl A t (A (68 + 11 * t)) i (wr A t (A (68 + 11 * t)) w i) := ⟨_, rfl⟩
          have hb25 : ∀ i, i < A (68 + 11 * t) → b i < 25 := fun i hi => by
            obtain ⟨v, hv⟩ := wr_ok e i (by omega)
            rw [hb]
            exact (bl_ok hi hv).1
          have hbe2 : ∀ i, i < A (68 + 11 * t) → be i = nI (b i) := fun i hi => by rw [hb]; exact hbe i hi
          have hsn2 : ∀ i, i < A (68 + 11 * t) → sn i = nI (b i) := fun i hi => by rw [hb]; exact hsn i hi
          refine ⟨(nI (fs (fun i => decide (A (156 + h) < psL b (i + 1))) (A (68 + 11 * t))), ga, be, fnd), (nI (fs (fun i => decide (A (156 + h) < psL b (i + 1))) (A (68 + 11 * t))), fnd, wo, sn), ?_, ?_, rfl, ⟨A, hw, hs, rfl⟩, hk, rfl, htp, hsh⟩
          · unfold fX5_heard
            rw [hasT_eq (show A 2 < 2 ^ 31 by omega), c, if0t, X_words, d, if0t, hasH_eq (show A 3 < 2 ^ 31 by omega), f, if0t, X1, Option.bind_some, if_neg hne, gdN (by omega) (by omega), nI_clamp (by omega), hsa h hh, X_under h8 h10 (hst t ht).1 hbe2 hb25 ha, Option.bind_some]
          · unfold fX6_heard
            rw [M_areTold (show A 2 < 2 ^ 30 by omega) (show A 3 < 2 ^ 30 by omega), Option.bind_some, c, f, Bool.and_self, if0t, M_isWords, d, if0t, M1, Option.bind_some, if0t]
            refine up2 (A (68 + 11 * t)) (fun i x4 x5 => x4 = nI (psL b i) ∧ x5 = nI i ∧ ∀ j, j < i → decide (A (156 + h) < psL b (j + 1)) = false) ?_ ?_ 2000 0 _ _ (by omega) (by omega) ⟨rfl, rfl, fun j hj => absurd hj (Nat.not_lt_zero j)⟩
            · rintro K x4 x5 ⟨rfl, rfl, hn⟩
              unfold fX6_heard_l43
              rw [M_long h8, Option.bind_some, if_pos (nI_le (Nat.le_refl _) (by omega)), fs_none hn]
            · rintro K i x4 x5 hi ⟨rfl, rfl, hn⟩
              have hpl := ps_lt hb25 (i + 1) (by omega)
              have e1 : nI (psL b i) + nI (b i) = nI (psL b (i + 1)) := nI_add _ _
              have e0 : fX6_heard_l43 (toF A) fnd wo sn (nI t) (nI h) K (nI (psL b i)) (nI i) = if nI (A (156 + h)) < nI (psL b (i + 1)) then some (nI i, fnd, wo, sn) else K (nI (psL b (i + 1))) (nI (i + 1)) := by
                unfold fX6_heard_l43
                rw [M_long h8, Option.bind_some, if_neg (nI_ge hi (by omega)), gdN (by omega) (by omega), e_age, gdN (by omega) (by omega), gdN (by omega) (by omega), nI_clamp (show 156 + h < 2 ^ 31 by omega), toF_at, nI_clamp (by omega), hsn2 i hi, e1, nI_1]
              by_cases q : A (156 + h) < psL b (i + 1)
              · left
                show fX6_heard_l43 (toF A) fnd wo sn (nI t) (nI h) K (nI (psL b i)) (nI i) = _
                rw [e0, if_pos (nI_lt q (by omega)), fs_at hn (decide_eq_true q) hi]
              · right
                refine ⟨nI (psL b (i + 1)), nI (i + 1), ?_, rfl, rfl, ?_⟩
                · show fX6_heard_l43 (toF A) fnd wo sn (nI t) (nI h) K (nI (psL b i)) (nI i) = _
                  rw [e0, if_neg (nI_nlt (by omega) (by omega))]
                · intro j hj
                  by_cases z : j = i
                  · rw [z]; exact decide_eq_false q
                  · exact hn j (by omega)
      · have d := nT d
        refine ⟨((fn fnd 0).1, gai, bes, (fn fnd 0).2), ((fn fnd 0).1, (fn fnd 0).2, mwor, msng), ?_, ?_, rfl, ⟨A, hw, hs, rfl⟩, hk, rfl, htp, hsh⟩
        · unfold fX5_heard fX5_heard_b32
          rw [hasT_eq (show A 2 < 2 ^ 31 by omega), c, if0t, X_words, d, if0f, fo_0, Option.bind_some]
        · unfold fX6_heard fX6_heard_b16
          rw [M_areTold (show A 2 < 2 ^ 30 by omega) (show A 3 < 2 ^ 30 by omega), Option.bind_some, c, f, Bool.and_self, if0t, M_isWords, d, if0f, no_0, Option.bind_some]
    · have f := nT f
      refine ⟨((fn fnd 0).1, gai, bes, (fn fnd 0).2), ((fn fnd 0).1, (fn fnd 0).2, mwor, msng), ?_, ?_, rfl, ⟨A, hw, hs, rfl⟩, hk, rfl, htp, hsh⟩
      · unfold fX5_heard fX5_heard_b32
        rw [hasT_eq (show A 2 < 2 ^ 31 by omega), c, if0t, hasH_eq (show A 3 < 2 ^ 31 by omega), f, if0f, fo_0, Option.bind_some, ite_self]
      · unfold fX6_heard fX6_heard_b16
        rw [M_areTold (show A 2 < 2 ^ 30 by omega) (show A 3 < 2 ^ 30 by omega), Option.bind_some, c, f, Bool.true_and, if0f, no_0, Option.bind_some]
  · have c := nT c
    refine ⟨((fn fnd 0).1, gai, bes, (fn fnd 0).2), ((fn fnd 0).1, (fn fnd 0).2, mwor, msng), ?_, ?_, rfl, ⟨A, hw, hs, rfl⟩, hk, rfl, htp, hsh⟩
    · unfold fX5_heard fX5_heard_b32
      rw [hasT_eq (show A 2 < 2 ^ 31 by omega), c, if0f, fo_0, Option.bind_some]
    · unfold fX6_heard fX6_heard_b16
      rw [M_areTold (show A 2 < 2 ^ 30 by omega) (show A 3 < 2 ^ 30 by omega), Option.bind_some, c, Bool.false_and, if0f, no_0, Option.bind_some]

