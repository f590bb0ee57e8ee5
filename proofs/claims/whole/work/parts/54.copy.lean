theorem sub_toInt {n : Nat} (hn : n ≤ 40) {y : Int32} (hy : 0 ≤ y.toInt) : (nI n - y).toInt = (n : Int) - y.toInt := by
  have h := y.toInt_lt
  rw [Int32.toInt_sub, nI_toInt (by omega)]
  apply Int.bmod_eq_of_le <;> omega
theorem X_holds {she : Nat → Int32} {k n : Nat} (hk : k < 4) (hn : n ≤ 40) (en : she k = nI n) (x y : Int32) : fX2_holds she (nI k) x y = decide (0 ≤ y.toInt ∧ 0 ≤ x.toInt ∧ x.toInt + y.toInt ≤ n) := by
  unfold fX2_holds
  rw [nI_clamp (by omega), en]
  by_cases q0 : y < 0
  · have h0 : y.toInt < 0 := Int32.lt_iff_toInt_lt.mp q0
    rw [if_pos q0, decide_eq_false (by omega)]
  · have h0 : ¬ y.toInt < 0 := fun z => q0 (Int32.lt_iff_toInt_lt.mpr z)
    rw [if_neg q0]
    by_cases q1 : nI n < y
    · have h1 := Int32.lt_iff_toInt_lt.mp q1
      rw [nI_toInt (by omega)] at h1
      rw [if_pos q1, decide_eq_false (by omega)]
    · have h1 : ¬ (n : Int) < y.toInt := fun z => q1 (Int32.lt_iff_toInt_lt.mpr (by rw [nI_toInt (by omega)]; exact z))
      rw [if_neg q1]
      by_cases q2 : x < 0
      · have h2 : x.toInt < 0 := Int32.lt_iff_toInt_lt.mp q2
        rw [if_pos q2, decide_eq_false (by omega)]
      · have h2 : ¬ x.toInt < 0 := fun z => q2 (Int32.lt_iff_toInt_lt.mpr z)
        rw [if_neg q2]
        by_cases q3 : nI n - y < x
        · have h3 := Int32.lt_iff_toInt_lt.mp q3
          rw [sub_toInt hn (by omega)] at h3
          rw [if_pos q3, decide_eq_false (by omega)]
        · have h3 : ¬ (n : Int) - y.toInt < x.toInt := fun z => q3 (Int32.lt_iff_toInt_lt.mpr (by rw [sub_toInt hn (by omega)]; exact z))
          rw [if_neg q3, decide_eq_true (by omega)]
theorem e_cel2 (k a i : Nat) : (((40 : Int32) * nI k) + nI a) + nI i = nI (40 * k + a + i) := by
  rw [e_cel, nI_add]
theorem M_copyB {fnd : Nat → Int32} {cel btw : Nat → Int64} {k b c : Nat} (hk : k < 4) (hb : b + c ≤ 40) : fX6_copy_b149 fnd cel btw (nI k) (nI b) (nI c) = some (nI c, fnd, (fun j => if 40 * k + b ≤ j ∧ j < 40 * k + b + c then btw (j - (40 * k + b)) else cel j), btw) := by
  unfold fX6_copy_b149
  refine up2 c (fun i x6 (ce : Nat → Int64) => x6 = nI i ∧ ce = fun j => if 40 * k + b ≤ j ∧ j < 40 * k + b + i then btw (j - (40 * k + b)) else cel j) ?_ ?_ 2000 0 _ _ (by omega) (by omega) ⟨rfl, ?_⟩
  · rintro K x6 ce ⟨rfl, rfl⟩
    unfold fX6_copy_l152
    rw [if_pos (nI_le (Nat.le_refl _) (by omega))]
  · rintro K i x6 ce hi ⟨rfl, rfl⟩
    right
    refine ⟨nI (i + 1), fun j => if 40 * k + b ≤ j ∧ j < 40 * k + b + (i + 1) then btw (j - (40 * k + b)) else cel j, ?_, rfl, rfl⟩
    unfold fX6_copy_l152
    rw [if_neg (nI_ge hi (by omega)), gdN (by omega) (by omega), e_cel2, gdN (by omega) (by omega), nI_clamp (by omega), nI_clamp (by omega), nI_1]
    congr 1
    funext j
    rw [updL_at]
    by_cases z : j = 40 * k + b + i
    · rw [if_pos z, if_pos (by omega), show j - (40 * k + b) = i by omega]
    · rw [if_neg z]
      by_cases y : 40 * k + b ≤ j ∧ j < 40 * k + b + i
      · rw [if_pos y, if_pos (by omega)]
      · rw [if_neg y, if_neg (by omega)]
  · funext j
    rw [if_neg (by omega)]
theorem M_copyA {fnd : Nat → Int32} {cel btw : Nat → Int64} {k a k2 b c : Nat} (hk : k < 4) (ha : a + c ≤ 40) (hk2 : k2 < 4) (hb : b + c ≤ 40) : ∃ btw', fix2 (fX6_copy_l115 fnd cel (nI k) (nI a) (nI k2) (nI b) (nI c)) 2000 0 btw = some (nI c, fnd, (fun j => if 40 * k2 + b ≤ j ∧ j < 40 * k2 + b + c then cel (40 * k + a + (j - (40 * k2 + b))) else cel j), btw') := by
  refine uq2 (fun o => ∃ (btw' : Nat → Int64), o = some (nI c, fnd, (fun j => if 40 * k2 + b ≤ j ∧ j < 40 * k2 + b + c then cel (40 * k + a + (j - (40 * k2 + b))) else cel j), btw')) c (fun i x6 (bt : Nat → Int64) => x6 = nI i ∧ ∀ j, j < i → bt j = cel (40 * k + a + j)) ?_ ?_ 2000 0 _ _ (by omega) (by omega) ⟨rfl, fun j hj => absurd hj (Nat.not_lt_zero j)⟩
  · rintro K x6 bt ⟨rfl, h⟩
    unfold fX6_copy_l115
    rw [if_pos (nI_le (Nat.le_refl _) (by omega)), M_copyB hk2 hb]
    refine ⟨bt, ?_⟩
    have e : (fun j => if 40 * k2 + b ≤ j ∧ j < 40 * k2 + b + c then bt (j - (40 * k2 + b)) else cel j) = (fun j => if 40 * k2 + b ≤ j ∧ j < 40 * k2 + b + c then cel (40 * k + a + (j - (40 * k2 + b))) else cel j) := by
      funext j
      by_cases y : 40 * k2 + b ≤ j ∧ j < 40 * k2 + b + c
      · rw [if_pos y, if_pos y, h _ (by omega)]
      · rw [if_neg y, if_neg y]
    rw [e]
  · rintro K i x6 bt hi ⟨rfl, h⟩
    right
    refine ⟨nI (i + 1), vp_updL bt i (cel (40 * k + a + i)), ?_, rfl, ?_⟩
    · unfold fX6_copy_l115
      rw [if_neg (nI_ge hi (by omega)), e_cel2, gdN (by omega) (by omega), gdN (by omega) (by omega), nI_clamp (by omega), nI_clamp (by omega), nI_1]
    · intro j hj
      rw [updL_at]
      by_cases z : j = i
      · rw [if_pos z, z]
      · rw [if_neg z]
        exact h j (by omega)
set_option maxHeartbeats 4000000 in
theorem eq_copy {par : Int32} {kin lea mos wrt : Nat → Int32} {tal : Int32} {siz tol : Nat → Int32} {hrs : Int32} {ags : Nat → Int32} {yea kpar : Int32} {kkin klea kmos kwrt : Nat → Int32} {ktal : Int32} {ksiz ktol : Nat → Int32} {khrs : Int32} {kags : Nat → Int32} {kyea isk : Int32} {tly : Nat → Int64} {gai bes : Nat → Int32} {low hig : Nat → Int64} {spn : Int32} {byt : Nat → Int32} {hld sta beh sor num : Int32} {fnd sbi she : Nat → Int32} {snu : Nat → Nat → Int64} {msv mkep mbef : Nat → Int32} {misk : Int32} {mfnd : Nat → Int32} {mman mnex : Nat → Int64} {mwor msng mhea mlat mtap : Nat → Int32} {mtpd mher mflt mvlu : Int32} {mbit mlon : Nat → Int32} {mcel mbtw : Nat → Int64} (h : Rel par kin lea mos wrt tal siz tol hrs ags yea kpar kkin klea kmos kwrt ktal ksiz ktol khrs kags kyea isk tly gai bes low hig spn byt hld sta beh sor num fnd sbi she snu msv mkep mbef misk mfnd mman mnex mwor msng mhea mlat mtap mtpd mher mflt mvlu mbit mlon mcel mbtw) (x1 : Int32) (x2 : Int32) (x3 : Int32) (x4 : Int32) (x5 : Int32) : ∃ (rx : Int32 × (Nat → Int32) × (Nat → Nat → Int64)) (rm : Int32 × (Nat → Int32) × (Nat → Int64) × (Nat → Int64)), fX5_copy fnd sbi she snu x1 x2 x3 x4 x5 = some rx ∧ fX6_copy mfnd mbit mlon mcel mbtw x1 x2 x3 x4 x5 = some rm ∧ rx.1 = rm.1 ∧ Rel par kin lea mos wrt tal siz tol hrs ags yea kpar kkin klea kmos kwrt ktal ksiz ktol khrs kags kyea isk tly gai bes low hig spn byt hld sta beh sor num rx.2.1 sbi she rx.2.2 msv mkep mbef misk rm.2.1 mman mnex mwor msng mhea mlat mtap mtpd mher mflt mvlu mbit mlon rm.2.2.1 rm.2.2.2 := by
  obtain ⟨⟨A, hw, hs, rfl⟩, hk, rfl, htp, hsh⟩ := h
  obtain ⟨hy, h1, h2, h3, hpp, htt, hhh⟩ := id hw
  obtain ⟨rfl, hsp, rfl, hst, rfl, hsa, rfl⟩ := id hs
  obtain ⟨rfl, rfl, hsz, hce⟩ := id hsh
  by_cases c1 : hasN 4 x1 = true
  · obtain ⟨k, hk4, rfl⟩ := hasN_of c1
    by_cases c3 : hasN 4 x3 = true
    · obtain ⟨k2, hk24, rfl⟩ := hasN_of c3
      by_cases m : sbi k = 0
      · refine ⟨((fn fnd 5).1, (fn fnd 5).2, snu), ((fn fnd 5).1, (fn fnd 5).2, mcel, mbtw), ?_, ?_, rfl, ⟨A, hw, hs, rfl⟩, hk, rfl, htp, hsh⟩
        · unfold fX5_copy fX5_copy_b57
          rw [X_sheet, c1, if0t, X_sheet, c3, if0t, gdN hk4 (by omega), gdN hk24 (by omega), miss_eq sbi hk4, decide_eq_true m, if0t, fo_5, Option.bind_some]
        · unfold fX6_copy fX6_copy_b38
          rw [M_isSheet, c1, if0t, M_isSheet, c3, if0t, gdN hk4 (by omega), nI_clamp (show k < 2 ^ 31 by omega), if_pos m, no_5, Option.bind_some]
      · by_cases m2 : sbi k2 = 0
        · refine ⟨((fn fnd 5).1, (fn fnd 5).2, snu), ((fn fnd 5).1, (fn fnd 5).2, mcel, mbtw), ?_, ?_, rfl, ⟨A, hw, hs, rfl⟩, hk, rfl, htp, hsh⟩
          · unfold fX5_copy fX5_copy_b57
            rw [X_sheet, c1, if0t, X_sheet, c3, if0t, gdN hk4 (by omega), gdN hk24 (by omega), miss_eq sbi hk4, decide_eq_false m, if0f, miss_eq sbi hk24, decide_eq_true m2, if0t, fo_5, Option.bind_some]
          · unfold fX6_copy fX6_copy_b38
            rw [M_isSheet, c1, if0t, M_isSheet, c3, if0t, gdN hk4 (by omega), nI_clamp (show k < 2 ^ 31 by omega), if_neg m, gdN hk24 (by omega), nI_clamp (show k2 < 2 ^ 31 by omega), if_pos m2, no_5, Option.bind_some]
        · obtain ⟨-, n, hn, en⟩ := hsz k hk4
          obtain ⟨-, n2, hn2, en2⟩ := hsz k2 hk24
          have X0 : fX5_copy fnd sbi she snu (nI k) x2 (nI k2) x4 x5 = if sbi k = sbi k2 then (if bI (decide (0 ≤ x5.toInt ∧ 0 ≤ x2.toInt ∧ x2.toInt + x5.toInt ≤ n)) = 0 then fX5_copy_b107 fnd snu else if bI (decide (0 ≤ x5.toInt ∧ 0 ≤ x4.toInt ∧ x4.toInt + x5.toInt ≤ n2)) = 0 then fX5_copy_b107 fnd snu else gd (cpk x2 x4 x5 40) (some (x5, fnd, va_up snu k2 (va_cpy (snu k) (snu k2) x2.toNatClampNeg x4.toNatClampNeg x5.toNatClampNeg)))) else (fX5_found fnd (-1000000003)).bind fun q80 => some (q80.1, q80.2, snu) := by
            unfold fX5_copy
            rw [X_sheet, c1, if0t, X_sheet, c3, if0t, gdN hk4 (by omega), gdN hk24 (by omega), miss_eq sbi hk4, decide_eq_false m, if0f, miss_eq sbi hk24, decide_eq_false m2, if0f, nI_clamp (show k < 2 ^ 31 by omega), nI_clamp (show k2 < 2 ^ 31 by omega), X_holds hk4 hn en, X_holds hk24 hn2 en2]
          have M0 : fX6_copy fnd sbi she mcel mbtw (nI k) x2 (nI k2) x4 x5 = if sbi k = sbi k2 then (if x5 < 0 then fX6_copy_b106 fnd mcel mbtw else if x2 < 0 then fX6_copy_b106 fnd mcel mbtw else if x4 < 0 then fX6_copy_b106 fnd mcel mbtw else if nI n - x5 < x2 then fX6_copy_b106 fnd mcel mbtw else if x4 ≤ nI n2 - x5 then fix2 (fX6_copy_l115 fnd mcel (nI k) x2 (nI k2) x4 x5) 2000 0 mbtw else fX6_copy_b106 fnd mcel mbtw) else (fX6_no fnd 2).bind fun q61 => some (q61.1, q61.2, mcel, mbtw) := by
            unfold fX6_copy
            rw [M_isSheet, c1, if0t, M_isSheet, c3, if0t, gdN hk4 (by omega), nI_clamp (show k < 2 ^ 31 by omega), if_neg m, gdN hk24 (by omega), nI_clamp (show k2 < 2 ^ 31 by omega), if_neg m2, gdN hk4 (by omega), gdN hk24 (by omega), gdN hk4 (by omega), gdN hk24 (by omega), en, en2]
          by_cases s : sbi k = sbi k2
          · rw [if_pos s] at X0 M0
            have refuse : ¬ (0 ≤ x5.toInt ∧ 0 ≤ x2.toInt ∧ 0 ≤ x4.toInt ∧ x2.toInt + x5.toInt ≤ n ∧ x4.toInt + x5.toInt ≤ n2) → fX5_copy fnd sbi she snu (nI k) x2 (nI k2) x4 x5 = some ((fn fnd 0).1, (fn fnd 0).2, snu) ∧ fX6_copy fnd sbi she mcel mbtw (nI k) x2 (nI k2) x4 x5 = some ((fn fnd 0).1, (fn fnd 0).2, mcel, mbtw) := by
              intro hno
              have eX : fX5_copy_b107 fnd snu = some ((fn fnd 0).1, (fn fnd 0).2, snu) := by
                unfold fX5_copy_b107
                rw [fo_0, Option.bind_some]
              have eM : fX6_copy_b106 fnd mcel mbtw = some ((fn fnd 0).1, (fn fnd 0).2, mcel, mbtw) := by
                unfold fX6_copy_b106
                rw [no_0, Option.bind_some]
              rw [eX] at X0
              rw [eM] at M0
              constructor
              · rw [X0]
                by_cases q1 : 0 ≤ x5.toInt ∧ 0 ≤ x2.toInt ∧ x2.toInt + x5.toInt ≤ n
                · rw [decide_eq_true q1, if0t, decide_eq_false (by omega), if0f]
                · rw [decide_eq_false q1, if0f]
              · rw [M0]
                by_cases q0 : x5 < 0
                · rw [if_pos q0]
                · have h0 : ¬ x5.toInt < 0 := fun z => q0 (Int32.lt_iff_toInt_lt.mpr z)
                  rw [if_neg q0]
                  by_cases q1 : x2 < 0
                  · rw [if_pos q1]
                  · have h1 : ¬ x2.toInt < 0 := fun z => q1 (Int32.lt_iff_toInt_lt.mpr z)
                    rw [if_neg q1]
                    by_cases q2 : x4 < 0
                    · rw [if_pos q2]
                    · have h2 : ¬ x4.toInt < 0 := fun z => q2 (Int32.lt_iff_toInt_lt.mpr z)
                      rw [if_neg q2]
                      by_cases q3 : nI n - x5 < x2
                      · rw [if_pos q3]
                      · have h3 : ¬ (n : Int) - x5.toInt < x2.toInt := fun z => q3 (Int32.lt_iff_toInt_lt.mpr (by rw [sub_toInt hn (by omega)]; exact z))
                        rw [if_neg q3]
                        have q4 : ¬ x4 ≤ nI n2 - x5 := fun z => by
                          have h4 := Int32.le_iff_toInt_le.mp z
                          rw [sub_toInt hn2 (by omega)] at h4
                          omega
                        rw [if_neg q4]
            by_cases ok : 0 ≤ x5.toInt ∧ 0 ≤ x2.toInt ∧ 0 ≤ x4.toInt ∧ x2.toInt + x5.toInt ≤ n ∧ x4.toInt + x5.toInt ≤ n2
            · obtain ⟨o5, o2, o4, oa, ob⟩ := ok
              have e5 := nI_ofInt o5
              have e2 := nI_ofInt o2
              have e4 := nI_ofInt o4
              obtain ⟨c, hc⟩ : ∃ c, c = x5.toInt.toNat := ⟨_, rfl⟩
              obtain ⟨a, ha⟩ : ∃ a, a = x2.toInt.toNat := ⟨_, rfl⟩
              obtain ⟨b, hb⟩ : ∃ b, b = x4.toInt.toNat := ⟨_, rfl⟩
              have hac : a + c ≤ n := by omega
              have hbc : b + c ≤ n2 := by omega
              rw [← hc] at e5
              rw [← ha] at e2
              rw [← hb] at e4
              rw [decide_eq_true (show 0 ≤ x5.toInt ∧ 0 ≤ x2.toInt ∧ x2.toInt + x5.toInt ≤ n by omega), if0t, decide_eq_true (show 0 ≤ x5.toInt ∧ 0 ≤ x4.toInt ∧ x4.toInt + x5.toInt ≤ n2 by omega), if0t] at X0
              clear refuse
              subst e5 e2 e4
              have ecp : cpk (nI a) (nI b) (nI c) 40 = true := by
                unfold cpk
                rw [nI_clamp (show a < 2 ^ 31 by omega), nI_clamp (show b < 2 ^ 31 by omega), nI_clamp (show c < 2 ^ 31 by omega), decide_eq_true (nI_pos (show a < 2 ^ 31 by omega)), decide_eq_true (nI_pos (show b < 2 ^ 31 by omega)), decide_eq_true (nI_pos (show c < 2 ^ 31 by omega)), decide_eq_true (show a + c ≤ 40 by omega), decide_eq_true (show b + c ≤ 40 by omega)]
                rfl
              rw [gdt ecp, nI_clamp (show a < 2 ^ 31 by omega), nI_clamp (show b < 2 ^ 31 by omega), nI_clamp (show c < 2 ^ 31 by omega)] at X0
              obtain ⟨bt, M1⟩ := M_copyA (fnd := fnd) (cel := mcel) (btw := mbtw) hk4 (show a + c ≤ 40 by omega) hk24 (show b + c ≤ 40 by omega)
              rw [if_neg (nI_pos (by omega)), if_neg (nI_pos (by omega)), if_neg (nI_pos (by omega)), pk_sub (show c ≤ n by omega), if_neg (nI_nlt (by omega) (by omega)), pk_sub (show c ≤ n2 by omega), if_pos (nI_le (by omega) (by omega)), M1] at M0
              refine ⟨_, _, X0, M0, rfl, ⟨A, hw, hs, rfl⟩, hk, rfl, htp, rfl, rfl, hsz, fun k3 i3 hk3 hi3 => ?_⟩
              show va_up snu k2 (va_cpy (snu k) (snu k2) a b c) k3 i3 = (if 40 * k2 + b ≤ 40 * k3 + i3 ∧ 40 * k3 + i3 < 40 * k2 + b + c then mcel (40 * k + a + (40 * k3 + i3 - (40 * k2 + b))) else mcel (40 * k3 + i3))
              rw [up_at]
              by_cases z : k3 = k2
              · rw [if_pos z]
                subst z
                by_cases y : b ≤ i3 ∧ i3 < b + c
                · rw [pk_cpy_in y.1 y.2, if_pos (by omega), hce k _ hk4 (by omega)]
                  congr 1
                  omega
                · rw [pk_cpy_out (by omega), if_neg (by omega)]
                  exact hce k3 i3 hk3 hi3
              · rw [if_neg z, if_neg (by omega)]
                exact hce k3 i3 hk3 hi3
            · obtain ⟨r1, r2⟩ := refuse ok
              exact ⟨_, _, r1, r2, rfl, ⟨A, hw, hs, rfl⟩, hk, rfl, htp, hsh⟩
          · rw [if_neg s, fo_2, Option.bind_some] at X0
            rw [if_neg s, no_2, Option.bind_some] at M0
            exact ⟨_, _, X0, M0, rfl, ⟨A, hw, hs, rfl⟩, hk, rfl, htp, hsh⟩
    · have c3 := nT c3
      refine ⟨((fn fnd 0).1, (fn fnd 0).2, snu), ((fn fnd 0).1, (fn fnd 0).2, mcel, mbtw), ?_, ?_, rfl, ⟨A, hw, hs, rfl⟩, hk, rfl, htp, hsh⟩
      · unfold fX5_copy fX5_copy_b18
        rw [X_sheet, c1, if0t, X_sheet, c3, if0f, fo_0, Option.bind_some]
      · unfold fX6_copy fX6_copy_b14
        rw [M_isSheet, c1, if0t, M_isSheet, c3, if0f, no_0, Option.bind_some]
  · have c1 := nT c1
    refine ⟨((fn fnd 0).1, (fn fnd 0).2, snu), ((fn fnd 0).1, (fn fnd 0).2, mcel, mbtw), ?_, ?_, rfl, ⟨A, hw, hs, rfl⟩, hk, rfl, htp, hsh⟩
    · unfold fX5_copy fX5_copy_b18
      rw [X_sheet, c1, if0f, fo_0, Option.bind_some]
    · unfold fX6_copy fX6_copy_b14
      rw [M_isSheet, c1, if0f, no_0, Option.bind_some]

