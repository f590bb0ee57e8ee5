theorem X_most2 {A : Nat → Nat} (hw : wfA A) {par : Int32} {kin lea mos wrt : Nat → Int32} {tal : Int32} {siz tol : Nat → Int32} {ags : Nat → Int32} {yea : Int32} (hs : stk A par kin lea mos wrt tal siz tol (nI (A 3)) ags yea) {t w0 : Nat} (ht : t < A 2) (hw0 : w0 ≤ 120) (x : Int32) (gai : Nat → Int32) : ∃ gai', fX1_mostUnderstood kin lea mos siz tol (nI (A 3)) ags gai (nI t) (nI w0) x = some (enc (-1000000000) (hu A t x (A (68 + 11 * t)) w0), gai') := by
  have h8 : t < 8 := by have := hw.2.2.1; omega
  have h10 : A (68 + 11 * t) ≤ 10 := (hw.2.2.2.2.2.1 t ht).1
  have h3 : A 3 ≤ 10 := hw.2.2.2.1
  have hsa := hs.2.2.2.2.2.1
  unfold fX1_mostUnderstood
  refine uq2 (fun o => ∃ (gai' : Nat → Int32), o = some (enc (-1000000000) (hu A t x (A (68 + 11 * t)) w0), gai')) (w0 + 1) (fun i x4 (ga : Nat → Int32) => x4 = nI i ∧ ∀ j, j < i → ga j = enc (-1000000000) (hu A t x 0 j)) ?_ ?_ 2000 0 _ _ (by omega) (by omega) ⟨rfl, fun j hj => absurd hj (Nat.not_lt_zero j)⟩
  · rintro K x4 ga ⟨rfl, h⟩
    unfold fX1_mostUnderstood_l3
    rw [if_pos (nI_lt (by omega) (by omega))]
    unfold fX1_mostUnderstood_b33
    refine uq2 (fun o => ∃ (gai' : Nat → Int32), o = some (enc (-1000000000) (hu A t x (A (68 + 11 * t)) w0), gai')) (A (68 + 11 * t)) (fun k x4 (ga : Nat → Int32) => x4 = nI k ∧ ∀ j, j ≤ w0 → ga j = enc (-1000000000) (hu A t x k j)) ?_ ?_ 2000 0 _ _ (by omega) (by omega) ⟨rfl, fun j hj => h j (by omega)⟩
    · rintro K2 x4 g2 ⟨rfl, h2⟩
      unfold fX1_mostUnderstood_l36
      rw [gdN h8 (by omega), nI_clamp (by omega), (hs.2.2.2.1 t ht).1, if_pos (nI_le (Nat.le_refl _) (by omega))]
      unfold fX1_mostUnderstood_b128
      rw [gdN (by omega) (by omega), nI_clamp (by omega), h2 w0 (Nat.le_refl _)]
      exact ⟨g2, rfl⟩
    · rintro K2 k x4 g2 hk ⟨rfl, h2⟩
      right
      obtain ⟨tp, ti, -⟩ := tale_part hw ht hk
      have main : ∃ g3, fix2 (fX1_mostUnderstood_l72 K2 (nI (A 3)) ags x (nI k) (nI (lsA A (A (69 + 11 * t + k))))) 2000 (nI w0) g2 = K2 (nI (k + 1)) g3 ∧ ∀ j, j ≤ w0 → g3 j = enc (-1000000000) (hu A t x (k + 1) j) := by
        refine uq2 (fun o => ∃ (g3 : Nat → Int32), o = K2 (nI (k + 1)) g3 ∧ ∀ j, j ≤ w0 → g3 j = enc (-1000000000) (hu A t x (k + 1) j)) (w0 + 1) (fun i x6 (ga : Nat → Int32) => x6 = dn w0 i ∧ ∀ j, j ≤ w0 → ga j = enc (-1000000000) (if w0 < j + i then hu A t x (k + 1) j else hu A t x k j)) ?_ ?_ 2000 0 _ _ (by omega) (by omega) ⟨(dn_0 w0).symm, fun j hj => by rw [if_neg (by omega)]; exact h2 j hj⟩
        · rintro K3 x6 g3 ⟨rfl, h4⟩
          unfold fX1_mostUnderstood_l72
          rw [dn_out, if_pos (by decide)]
          unfold fX1_mostUnderstood_b122
          rw [nI_1]
          exact ⟨g3, rfl, fun j hj => by rw [h4 j hj, if_pos (by omega)]⟩
        · rintro K3 i x6 g3 hi ⟨rfl, h4⟩
          right
          obtain ⟨w, hwe⟩ : ∃ w, w = w0 - i := ⟨_, rfl⟩
          have e1 := X_ahead hw tp (show w ≤ 120 by omega) (G := hu A t x k) (fun w => hu_bp h3 t x (by omega) w) (gai := g3) (fun j hj => by rw [h4 j (by omega), if_neg (by omega)])
          have e2 : hu A t x (k + 1) w = (gmax (ff A (A (69 + 11 * t + k)) (hu A t x k) w) 25).map (· + (hgc A x w (A 3) : Int)) := rfl
          refine ⟨dn w0 (i + 1), upd g3 w (enc (-1000000000) (hu A t x (k + 1) w)), ?_, rfl, ?_⟩
          · unfold fX1_mostUnderstood_l72 fX1_mostUnderstood_b115
            rw [dn_s (by omega), dn_in (by omega), ← hwe, if_neg (nI_pos (by omega)), e1, Option.bind_some, gdN (by omega) (by omega), nI_clamp (by omega), X_hearing hw hsa x (by omega), Option.bind_some, gdN (by omega) (by omega), e2]
            cases eg : gmax (ff A (A (69 + 11 * t + k)) (hu A t x k) w) 25 with
            | none => rw [if_pos (show enc (-1000000000) none = (-1000000000 : Int32) from rfl)]; rfl
            | some u =>
              have hub := bp_gmax (ff_bp (A := A) (p := A (69 + 11 * t + k)) (fun w => hu_bp h3 t x (k := k) (by omega) w) w) 25 u eg
              have hgl := hgc_le A x w (A 3)
              rw [if_neg (show ¬ enc (-1000000000) (some u) = (-1000000000 : Int32) from (enc_some (by omega) (by omega) (by omega) (by omega)).1), nI_iI (n := hgc A x w (A 3)) (by omega)]
              have e3 : enc (-1000000000) (some u) + iI (hgc A x w (A 3) : Int) = enc (-1000000000) (Option.map (· + (hgc A x w (A 3) : Int)) (some u)) := iI_add _ _
              rw [e3]
          · intro j hj
            rw [updI_at]
            by_cases q : j = w
            · rw [if_pos q, if_pos (by omega), q]
            · rw [if_neg q, h4 j hj]
              by_cases z : w0 < j + i
              · rw [if_pos z, if_pos (by omega)]
              · rw [if_neg z, if_neg (by omega)]
      obtain ⟨g3, e3, h4⟩ := main
      refine ⟨nI (k + 1), g3, ?_, rfl, h4⟩
      unfold fX1_mostUnderstood_l36
      rw [gdN h8 (by omega), nI_clamp (by omega), (hs.2.2.2.1 t ht).1, if_neg (nI_ge hk (by omega)), X_told hw hs ht hk, Option.bind_some, X_len hw hs tp, Option.bind_some]
      exact e3
  · rintro K i x4 ga hi ⟨rfl, h⟩
    right
    refine ⟨nI (i + 1), upd ga i (enc (-1000000000) (hu A t x 0 i)), ?_, rfl, ?_⟩
    · unfold fX1_mostUnderstood_l3 fX1_mostUnderstood_b26
      rw [if_neg (nI_nlt (by omega) (by omega)), gdN (by omega) (by omega), gdN (by omega) (by omega), nI_clamp (by omega), nI_1]
      simp only [hu]
      by_cases q : i = 0
      · subst q
        rfl
      · rw [if_neg (nI_ne0 (by omega) (by omega)), if_neg q]
        rfl
    · intro j hj
      rw [updI_at]
      by_cases q : j = i
      · rw [if_pos q, q]
      · rw [if_neg q]
        exact h j (by omega)
theorem M_hears {A : Nat → Nat} (hw : wfA A) {t : Nat} (ht : t < A 2) (x : Int32) (hea lat : Nat → Int32) : ∃ hea' lat', fX6_hears (toF A) hea lat (nI t) x = some (hea', lat') ∧ ∀ w, w ≤ 120 → hea' w = enc (-1) (hu A t x (A (68 + 11 * t)) w) := by
  have h8 : t < 8 := by have := hw.2.2.1; omega
  have h10 : A (68 + 11 * t) ≤ 10 := (hw.2.2.2.2.2.1 t ht).1
  have h3 : A 3 ≤ 10 := hw.2.2.2.1
  unfold fX6_hears
  refine uq2 (fun o => ∃ (hea' lat' : Nat → Int32), o = some (hea', lat') ∧ ∀ w, w ≤ 120 → hea' w = enc (-1) (hu A t x (A (68 + 11 * t)) w)) 121 (fun i x3 (he : Nat → Int32) => x3 = nI i ∧ ∀ j, j < i → he j = enc (-1) (hu A t x 0 j)) ?_ ?_ 2000 0 _ _ (by omega) (by omega) ⟨rfl, fun j hj => absurd hj (Nat.not_lt_zero j)⟩
  · rintro K x3 he ⟨rfl, h⟩
    unfold fX6_hears_l2
    rw [if_pos (by decide)]
    unfold fX6_hears_b29
    refine uq3 (fun o => ∃ (hea' lat' : Nat → Int32), o = some (hea', lat') ∧ ∀ w, w ≤ 120 → hea' w = enc (-1) (hu A t x (A (68 + 11 * t)) w)) (A (68 + 11 * t)) (fun k x3 (he la : Nat → Int32) => x3 = nI k ∧ ∀ j, j ≤ 120 → he j = enc (-1) (hu A t x k j)) ?_ ?_ 2000 0 _ _ _ (by omega) (by omega) ⟨rfl, fun j hj => h j (by omega)⟩
    · rintro K2 x3 he2 la2 ⟨rfl, h2⟩
      unfold fX6_hears_l31
      rw [M_long h8, Option.bind_some, if_pos (nI_le (Nat.le_refl _) (by omega))]
      exact ⟨he2, la2, rfl, h2⟩
    · rintro K2 k x3 he2 la2 hk ⟨rfl, h2⟩
      right
      obtain ⟨tp, ti, -⟩ := tale_part hw ht hk
      have main : ∃ he3 la3, fix2 (fX6_hears_l43 K2 (toF A) he2 (nI t) x (nI k)) 2000 0 la2 = K2 (nI (k + 1)) he3 la3 ∧ ∀ j, j ≤ 120 → he3 j = enc (-1) (hu A t x (k + 1) j) := by
        refine uq2 (fun o => ∃ (he3 la3 : Nat → Int32), o = K2 (nI (k + 1)) he3 la3 ∧ ∀ j, j ≤ 120 → he3 j = enc (-1) (hu A t x (k + 1) j)) 121 (fun w x4 (la : Nat → Int32) => x4 = nI w ∧ ∀ j, j < w → la j = enc (-1) (hu A t x (k + 1) j)) ?_ ?_ 2000 0 _ _ (by omega) (by omega) ⟨rfl, fun j hj => absurd hj (Nat.not_lt_zero j)⟩
        · rintro K3 x4 la3 ⟨rfl, h4⟩
          unfold fX6_hears_l43
          rw [if_pos (by decide)]
          unfold fX6_hears_b155
          refine uq2 (fun o => ∃ (he3 la3 : Nat → Int32), o = K2 (nI (k + 1)) he3 la3 ∧ ∀ j, j ≤ 120 → he3 j = enc (-1) (hu A t x (k + 1) j)) 121 (fun w x4 (he : Nat → Int32) => x4 = nI w ∧ ∀ j, j < w → he j = enc (-1) (hu A t x (k + 1) j)) ?_ ?_ 2000 0 _ _ (by omega) (by omega) ⟨rfl, fun j hj => absurd hj (Nat.not_lt_zero j)⟩
          · rintro K4 x4 he4 ⟨rfl, h5⟩
            unfold fX6_hears_l158
            rw [if_pos (by decide)]
            unfold fX6_hears_b185
            rw [nI_1]
            exact ⟨he4, la3, rfl, fun j hj => h5 j (by omega)⟩
          · rintro K4 w x4 he4 hw2 ⟨rfl, h5⟩
            right
            refine ⟨nI (w + 1), upd he4 w (la3 w), ?_, rfl, ?_⟩
            · unfold fX6_hears_l158
              rw [if_neg (show ¬ (120 : Int32) < nI w from nI_nlt (a := 120) (by omega) (by omega)), gdN (by omega) (by omega), gdN (by omega) (by omega), nI_clamp (by omega), nI_1]
            · intro j hj
              rw [updI_at]
              by_cases q : j = w
              · rw [if_pos q, q]
                exact h4 w (by omega)
              · rw [if_neg q]
                exact h5 j (by omega)
        · rintro K3 w x4 la3 hw2 ⟨rfl, h4⟩
          right
          have e2 : hu A t x (k + 1) w = (gmax (ff A (A (69 + 11 * t + k)) (hu A t x k) w) 25).map (· + (hgc A x w (A 3) : Int)) := rfl
          refine ⟨nI (w + 1), upd la3 w (enc (-1) (hu A t x (k + 1) w)), ?_, rfl, ?_⟩
          · unfold fX6_hears_l43
            rw [if_neg (show ¬ (120 : Int32) < nI w from nI_nlt (a := 120) (by omega) (by omega))]
            have hfin : ∀ e, (e = 25 ∨ (e = w + 1 ∧ e ≤ 25)) → gmax (ff A (A (69 + 11 * t + k)) (hu A t x k) w) e = gmax (ff A (A (69 + 11 * t + k)) (hu A t x k) w) 25 := by
              intro e he
              rcases he with rfl | ⟨rfl, h25⟩
              · rfl
              · exact (gmax_stay h25 (fun l h1 h2 => if_neg (fun h => by omega))).symm
            have key : fX6_hears_b123 K3 (toF A) la3 x (nI w) (enc (-1) (gmax (ff A (A (69 + 11 * t + k)) (hu A t x k) w) 25)) = K3 (nI (w + 1)) (upd la3 w (enc (-1) (hu A t x (k + 1) w))) := by
              unfold fX6_hears_b123 fX6_hears_b148
              rw [M_hearing hw x (by omega), Option.bind_some, gdN (by omega) (by omega), gdN (by omega) (by omega), nI_clamp (by omega), nI_1, e2]
              cases eg : gmax (ff A (A (69 + 11 * t + k)) (hu A t x k) w) 25 with
              | none => rw [if_neg (show ¬ (0 : Int32) ≤ enc (-1) none by decide)]; rfl
              | some u =>
                have hub := bp_gmax (ff_bp (A := A) (p := A (69 + 11 * t + k)) (fun w => hu_bp h3 t x (k := k) (by omega) w) w) 25 u eg
                have hgl := hgc_le A x w (A 3)
                have h0 : (0 : Int32) ≤ enc (-1) (some u) := (iI_le (a := 0) (b := u) (by omega) (by omega) (by omega) (by omega)).mpr hub.1
                rw [if_pos h0, nI_iI (n := hgc A x w (A 3)) (by omega)]
                have e3 : enc (-1) (some u) + iI (hgc A x w (A 3) : Int) = enc (-1) (Option.map (· + (hgc A x w (A 3) : Int)) (some u)) := iI_add _ _
                rw [e3]
            refine up2 (if 25 ≤ w + 1 then 25 else w + 1) (fun l x5 x6 => x5 = enc (-1) (gmax (ff A (A (69 + 11 * t + k)) (hu A t x k) w) l) ∧ x6 = nI l) ?_ ?_ 2000 0 _ _ (by split <;> omega) (by omega) ⟨rfl, rfl⟩
            · rintro K4 x5 x6 ⟨rfl, rfl⟩
              rw [hfin _ (by split <;> omega)]
              unfold fX6_hears_l56
              by_cases q : 25 ≤ w + 1
              · rw [if_pos q]
                by_cases q2 : nI w < nI 25
                · rw [if_pos q2]; exact key
                · rw [if_neg q2, if_pos (by decide)]; exact key
              · rw [if_neg q, if_pos (nI_lt (by omega) (by omega))]
                exact key
            · rintro K4 l x5 x6 hl ⟨rfl, rfl⟩
              right
              have hl2 : l < 25 ∧ l ≤ w := by split at hl <;> omega
              refine ⟨enc (-1) (gmax (ff A (A (69 + 11 * t + k)) (hu A t x k) w) (l + 1)), nI (l + 1), ?_, rfl, rfl⟩
              unfold fX6_hears_l56 fX6_hears_b113 fX6_hears_b115
              rw [if_neg (nI_nlt hl2.2 (by omega)), if_neg (show ¬ (25 : Int32) ≤ nI l from nI_ge (b := 25) hl2.1 (by omega)), M_nth h8 ti, Option.bind_some, M_len hw tp hl2.1, Option.bind_some, pk_sub hl2.2, gdN (by omega) (by omega), gdN (by omega) (by omega), nI_clamp (by omega), h2 _ (by omega), nI_1]
              by_cases c : lenA A (A (69 + 11 * t + k)) l = true
              · have e1 : gmax (ff A (A (69 + 11 * t + k)) (hu A t x k) w) (l + 1) = mxo (gmax (ff A (A (69 + 11 * t + k)) (hu A t x k) w) l) (hu A t x k (w - l)) := by
                  show mxo _ (ff _ _ _ w l) = _
                  rw [show ff A (A (69 + 11 * t + k)) (hu A t x k) w l = hu A t x k (w - l) from if_pos ⟨hl2.2, c⟩]
                rw [c, if0t, e1, enc_mxB (by omega) (by omega) (bp_gmax (ff_bp (fun w => hu_bp h3 t x (by omega) w) w) l) (hu_bp h3 t x (by omega) _)]
                by_cases z : enc (-1) (hu A t x k (w - l)) ≤ enc (-1) (gmax (ff A (A (69 + 11 * t + k)) (hu A t x k) w) l)
                · rw [if_pos z, if_pos z]
                · rw [if_neg z, if_neg z]
              · rw [nT c, if0f, gmax_none (if_neg (fun z => c z.2))]
          · intro j hj
            rw [updI_at]
            by_cases q : j = w
            · rw [if_pos q, q]
            · rw [if_neg q]
              exact h4 j (by omega)
      obtain ⟨he3, la3, e3, h4⟩ := main
      refine ⟨nI (k + 1), he3, la3, ?_, rfl, h4⟩
      unfold fX6_hears_l31
      rw [M_long h8, Option.bind_some, if_neg (nI_ge hk (by omega))]
      exact e3
  · rintro K i x3 he hi ⟨rfl, h⟩
    right
    refine ⟨nI (i + 1), upd he i (enc (-1) (hu A t x 0 i)), ?_, rfl, ?_⟩
    · unfold fX6_hears_l2 fX6_hears_b22
      rw [if_neg (show ¬ (120 : Int32) < nI i from nI_nlt (a := 120) (by omega) (by omega)), gdN (by omega) (by omega), gdN (by omega) (by omega), nI_clamp (by omega), nI_1]
      simp only [hu]
      by_cases q : i = 0
      · subst q
        rfl
      · rw [if_neg (nI_ne0 (by omega) (by omega)), if_neg q]
        rfl
    · intro j hj
      rw [updI_at]
      by_cases q : j = i
      · rw [if_pos q, q]
      · rw [if_neg q]
        exact h j (by omega)
set_option maxHeartbeats 4000000 in
theorem eq_together {par : Int32} {kin lea mos wrt : Nat → Int32} {tal : Int32} {siz tol : Nat → Int32} {hrs : Int32} {ags : Nat → Int32} {yea kpar : Int32} {kkin klea kmos kwrt : Nat → Int32} {ktal : Int32} {ksiz ktol : Nat → Int32} {khrs : Int32} {kags : Nat → Int32} {kyea isk : Int32} {tly : Nat → Int64} {gai bes : Nat → Int32} {low hig : Nat → Int64} {spn : Int32} {byt : Nat → Int32} {hld sta beh sor num : Int32} {fnd sbi she : Nat → Int32} {snu : Nat → Nat → Int64} {msv mkep mbef : Nat → Int32} {misk : Int32} {mfnd : Nat → Int32} {mman mnex : Nat → Int64} {mwor msng mhea mlat mtap : Nat → Int32} {mtpd mher mflt mvlu : Int32} {mbit mlon : Nat → Int32} {mcel mbtw : Nat → Int64} (h : Rel par kin lea mos wrt tal siz tol hrs ags yea kpar kkin klea kmos kwrt ktal ksiz ktol khrs kags kyea isk tly gai bes low hig spn byt hld sta beh sor num fnd sbi she snu msv mkep mbef misk mfnd mman mnex mwor msng mhea mlat mtap mtpd mher mflt mvlu mbit mlon mcel mbtw) (x1 : Int32) (x2 : Int32) (x3 : Int32) : ∃ (rx : Int32 × (Nat → Int32) × (Nat → Int32)) (rm : Int32 × (Nat → Int32) × (Nat → Int32) × (Nat → Int32)), fX5_together kin lea mos tal siz tol hrs ags gai fnd x1 x2 x3 = some rx ∧ fX6_together msv mfnd mhea mlat x1 x2 x3 = some rm ∧ rx.1 = rm.1 ∧ Rel par kin lea mos wrt tal siz tol hrs ags yea kpar kkin klea kmos kwrt ktal ksiz ktol khrs kags kyea isk tly rx.2.1 bes low hig spn byt hld sta beh sor num rx.2.2 sbi she snu msv mkep mbef misk rm.2.1 mman mnex mwor msng rm.2.2.1 rm.2.2.2 mtap mtpd mher mflt mvlu mbit mlon mcel mbtw := by
  obtain ⟨⟨A, hw, hs, rfl⟩, hk, rfl, htp, hsh⟩ := h
  obtain ⟨hy, h1, h2, h3, hpp, htt, hhh⟩ := id hw
  obtain ⟨rfl, hsp, rfl, hst, rfl, hsa, rfl⟩ := id hs
  by_cases c : hasN (A 2) x1 = true
  · obtain ⟨t, ht, rfl⟩ := hasN_of c
    by_cases d : hasN 121 x2 = true
    · obtain ⟨w, hw2, rfl⟩ := hasN_of d
      by_cases f : fX5_isIn x3 0 (((1 : Int32) <<< (nI (A 3) &&& 31)) - 1) = true
      · have f2 : fX6_in x3 0 (((1 : Int32) <<< (toF A (3 : Int32).toNatClampNeg &&& 31)) - 1) = true := f
        obtain ⟨ga, X1⟩ := X_most2 hw hs ht (show w ≤ 120 by omega) x3 gai
        obtain ⟨he, la, M1, hM⟩ := M_hears hw ht x3 mhea mlat
        have hbp := hu_bp h3 t x3 (htt t ht).1 w
        cases e : hu A t x3 (A (68 + 11 * t)) w with
        | none =>
          rw [e] at X1
          refine ⟨((fn fnd 3).1, ga, (fn fnd 3).2), ((fn fnd 3).1, (fn fnd 3).2, he, la), ?_, ?_, rfl, ⟨A, hw, hs, rfl⟩, hk, rfl, htp, hsh⟩
          · unfold fX5_together
            rw [hasT_eq (show A 2 < 2 ^ 31 by omega), c, if0t, X_words, d, if0t, f, if0t, X1, Option.bind_some, if_pos (show enc (-1000000000) none = (-1000000000 : Int32) from rfl), fo_3, Option.bind_some]
          · unfold fX6_together
            rw [M_isTale (show A 2 < 2 ^ 30 by omega), Option.bind_some, c, if0t, M_isWords, d, if0t, f2, if0t, M1, Option.bind_some, gdN (by omega) (by omega), nI_clamp (by omega), show (he, la).1 w = enc (-1) none from (hM w (by omega)).trans (by rw [e]), if_neg (show ¬ (0 : Int32) ≤ enc (-1) none by decide), no_3, Option.bind_some]
        | some v =>
          have hv := hbp v e
          rw [e] at X1
          refine ⟨(iI v, ga, fnd), (iI v, fnd, he, la), ?_, ?_, rfl, ⟨A, hw, hs, rfl⟩, hk, rfl, htp, hsh⟩
          · unfold fX5_together
            rw [hasT_eq (show A 2 < 2 ^ 31 by omega), c, if0t, X_words, d, if0t, f, if0t, X1, Option.bind_some, if_neg (show ¬ enc (-1000000000) (some v) = (-1000000000 : Int32) from (enc_some (by omega) (by omega) (by omega) (by omega)).1)]
            rfl
          · unfold fX6_together
            have h0 : (0 : Int32) ≤ enc (-1) (some v) := (iI_le (a := 0) (b := v) (by omega) (by omega) (by omega) (by omega)).mpr hv.1
            rw [M_isTale (show A 2 < 2 ^ 30 by omega), Option.bind_some, c, if0t, M_isWords, d, if0t, f2, if0t, M1, Option.bind_some, gdN (by omega) (by omega), nI_clamp (by omega), show (he, la).1 w = enc (-1) (some v) from (hM w (by omega)).trans (by rw [e]), if_pos h0, gdN (by omega) (by omega)]
            rfl
      · have f := nT f
        have f2 : fX6_in x3 0 (((1 : Int32) <<< (toF A (3 : Int32).toNatClampNeg &&& 31)) - 1) = false := f
        refine ⟨((fn fnd 0).1, gai, (fn fnd 0).2), ((fn fnd 0).1, (fn fnd 0).2, mhea, mlat), ?_, ?_, rfl, ⟨A, hw, hs, rfl⟩, hk, rfl, htp, hsh⟩
        · unfold fX5_together fX5_together_b44
          rw [hasT_eq (show A 2 < 2 ^ 31 by omega), c, if0t, X_words, d, if0t, f, if0f, fo_0, Option.bind_some]
        · unfold fX6_together fX6_together_b33
          rw [M_isTale (show A 2 < 2 ^ 30 by omega), Option.bind_some, c, if0t, M_isWords, d, if0t, f2, if0f, no_0, Option.bind_some]
    · have d := nT d
      refine ⟨((fn fnd 0).1, gai, (fn fnd 0).2), ((fn fnd 0).1, (fn fnd 0).2, mhea, mlat), ?_, ?_, rfl, ⟨A, hw, hs, rfl⟩, hk, rfl, htp, hsh⟩
      · unfold fX5_together fX5_together_b44
        rw [hasT_eq (show A 2 < 2 ^ 31 by omega), c, if0t, X_words, d, if0f, fo_0, Option.bind_some]
      · unfold fX6_together fX6_together_b33
        rw [M_isTale (show A 2 < 2 ^ 30 by omega), Option.bind_some, c, if0t, M_isWords, d, if0f, no_0, Option.bind_some]
  · have c := nT c
    refine ⟨((fn fnd 0).1, gai, (fn fnd 0).2), ((fn fnd 0).1, (fn fnd 0).2, mhea, mlat), ?_, ?_, rfl, ⟨A, hw, hs, rfl⟩, hk, rfl, htp, hsh⟩
    · unfold fX5_together fX5_together_b44
      rw [hasT_eq (show A 2 < 2 ^ 31 by omega), c, if0f, fo_0, Option.bind_some]
    · unfold fX6_together fX6_together_b33
      rw [M_isTale (show A 2 < 2 ^ 30 by omega), Option.bind_some, c, if0f, no_0, Option.bind_some]

