theorem inX (x a b : Int32) : fX6_in x a b = fX5_isIn x a b := rfl
theorem isIn_of {x : Int32} {a b : Nat} (hb : b < 2 ^ 31) (ha : a < 2 ^ 31) (h : fX5_isIn x (nI a) (nI b) = true) : ∃ n, a ≤ n ∧ n ≤ b ∧ x = nI n := by
  rw [isIn_eq, decide_eq_true_eq, nI_toInt ha, nI_toInt hb] at h
  exact ⟨x.toInt.toNat, by omega, by omega, nI_ofInt (by omega)⟩
theorem isIn_nI {a b n : Nat} (hb : b < 2 ^ 31) (h1 : a ≤ n) (h2 : n ≤ b) : fX5_isIn (nI n) (nI a) (nI b) = true := by
  rw [isIn_eq, decide_eq_true_eq, nI_toInt (by omega), nI_toInt hb, nI_toInt (by omega)]
  omega
theorem and3 (a b c : Bool) : (if bI a = 0 then false else if bI b = 0 then false else if bI c = 0 then false else true) = (a && (b && c)) := by
  cases a <;> cases b <;> cases c <;> rfl
theorem partly_eq (x2 x3 x4 : Int32) : fX6_isPartly x2 x3 x4 = (fX5_isIn x2 1 12 && (fX5_isIn x3 x2 12 && fX5_isIn x4 0 9)) :=
  (and3 (fX6_in x2 1 12) (fX6_in x3 x2 12) (fX6_in x4 0 9)).trans (by rw [inX, inX, inX])
theorem kind_in (x : Int32) : fX6_isKind x = fX5_isIn x 0 5 := rfl
theorem part_X0 {par : Int32} {kin lea mos wrt fnd : Nat → Int32} {x1 x2 x3 x4 : Int32} (cc : ¬ (fX5_isIn x1 0 5 && (fX5_isIn x2 1 12 && (fX5_isIn x3 x2 12 && fX5_isIn x4 0 9))) = true) : fX5_part par kin lea mos wrt fnd x1 x2 x3 x4 = some ((fn fnd 0).1, par, kin, lea, mos, wrt, (fn fnd 0).2) := by
  simp only [fX5_part, fX5_part_b40, fo_0, Option.bind_some]
  by_cases c1 : fX5_isIn x1 0 5 = true
  · by_cases c2 : fX5_isIn x2 1 12 = true
    · by_cases c3 : fX5_isIn x3 x2 12 = true
      · have c4 : fX5_isIn x4 0 9 = false := by
          rw [c1, c2, c3] at cc
          exact nT cc
        simp only [c1, c2, c3, c4, if0t, if0f]
      · simp only [c1, c2, nT c3, if0t, if0f]
    · simp only [c1, nT c2, if0t, if0f]
  · simp only [nT c1, if0f]
theorem part_M0 {A : Nat → Nat} {fnd : Nat → Int32} {x1 x2 x3 x4 : Int32} (cc : ¬ (fX5_isIn x1 0 5 && (fX5_isIn x2 1 12 && (fX5_isIn x3 x2 12 && fX5_isIn x4 0 9))) = true) : fX6_part (toF A) fnd x1 x2 x3 x4 = some ((fn fnd 0).1, toF A, (fn fnd 0).2) := by
  simp only [fX6_part, fX6_part_b17, no_0, Option.bind_some, kind_in]
  by_cases c1 : fX5_isIn x1 0 5 = true
  · have e3 : fX6_isPartly x2 x3 x4 = false := by
      rw [partly_eq]
      rw [c1, Bool.true_and] at cc
      exact nT cc
    simp only [c1, if0t, e3, if0f]
  · simp only [nT c1, if0f]
set_option maxHeartbeats 4000000 in
theorem eq_partOf {par : Int32} {kin lea mos wrt : Nat → Int32} {tal : Int32} {siz tol : Nat → Int32} {hrs : Int32} {ags : Nat → Int32} {yea kpar : Int32} {kkin klea kmos kwrt : Nat → Int32} {ktal : Int32} {ksiz ktol : Nat → Int32} {khrs : Int32} {kags : Nat → Int32} {kyea isk : Int32} {tly : Nat → Int64} {gai bes : Nat → Int32} {low hig : Nat → Int64} {spn : Int32} {byt : Nat → Int32} {hld sta beh sor num : Int32} {fnd sbi she : Nat → Int32} {snu : Nat → Nat → Int64} {msv mkep mbef : Nat → Int32} {misk : Int32} {mfnd : Nat → Int32} {mman mnex : Nat → Int64} {mwor msng mhea mlat mtap : Nat → Int32} {mtpd mher mflt mvlu : Int32} {mbit mlon : Nat → Int32} {mcel mbtw : Nat → Int64} (h : Rel par kin lea mos wrt tal siz tol hrs ags yea kpar kkin klea kmos kwrt ktal ksiz ktol khrs kags kyea isk tly gai bes low hig spn byt hld sta beh sor num fnd sbi she snu msv mkep mbef misk mfnd mman mnex mwor msng mhea mlat mtap mtpd mher mflt mvlu mbit mlon mcel mbtw) (x1 : Int32) (x2 : Int32) : ∃ (rx : Int32 × (Nat → Int32)) (rm : Int32 × (Nat → Int32)), fX5_partOf par kin lea mos wrt fnd x1 x2 = some rx ∧ fX6_partOf msv mfnd x1 x2 = some rm ∧ rx.1 = rm.1 ∧ Rel par kin lea mos wrt tal siz tol hrs ags yea kpar kkin klea kmos kwrt ktal ksiz ktol khrs kags kyea isk tly gai bes low hig spn byt hld sta beh sor num rx.2 sbi she snu msv mkep mbef misk rm.2 mman mnex mwor msng mhea mlat mtap mtpd mher mflt mvlu mbit mlon mcel mbtw := by
  obtain ⟨⟨A, hw, hs, rfl⟩, hk, rfl, htp, hsh⟩ := h
  obtain ⟨hy, h1, h2, h3, hpp, htt, hhh⟩ := id hw
  obtain ⟨rfl, hsp, rfl, hst, rfl, hsa, rfl⟩ := id hs
  by_cases c : hasN (A 1) x1 = true
  · obtain ⟨p, hp, rfl⟩ := hasN_of c
    have hp16 : p < 16 := by omega
    obtain ⟨s1, s2, s3, s4⟩ := hsp p hp
    by_cases d : hasN 5 x2 = true
    · obtain ⟨v, hv, rfl⟩ := hasN_of d
      have M0 : ∀ r, (if nI v = 4 then (fX6_lengths (toF A) (nI p)).bind fun q30 => some (q30, fnd) else (fX6_has (toF A) (nI p) (nI v)).bind fun q39 => some (q39, fnd)) = r → fX6_partOf (toF A) fnd (nI p) (nI v) = r := by
        intro r hr
        simp only [fX6_partOf, M_isPart (show A 1 < 2 ^ 30 by omega), c, if0t, in_hasL 5 4 rfl, d]
        exact hr
      rcases (show v = 0 ∨ v = 1 ∨ v = 2 ∨ v = 3 ∨ v = 4 by omega) with rfl | rfl | rfl | rfl | rfl
      · refine ⟨(nI (A (4 + 4 * p)), fnd), (nI (A (4 + 4 * p)), fnd), ?_, M0 _ ?_, rfl, ⟨A, hw, hs, rfl⟩, hk, rfl, htp, hsh⟩
        · simp only [fX5_partOf, hasP_eq (show A 1 < 2 ^ 31 by omega), c, if0t]
          rw [if_pos (by decide), gdN hp16 (by omega), nI_clamp (by omega), s1]
        · rw [if_neg (by decide), M_hasN hp16 (by omega), Option.bind_some]
          rfl
      · refine ⟨(nI (A (5 + 4 * p)), fnd), (nI (A (5 + 4 * p)), fnd), ?_, M0 _ ?_, rfl, ⟨A, hw, hs, rfl⟩, hk, rfl, htp, hsh⟩
        · simp only [fX5_partOf, hasP_eq (show A 1 < 2 ^ 31 by omega), c, if0t]
          rw [if_neg (by decide), if_pos (by decide), gdN hp16 (by omega), nI_clamp (by omega), s2]
        · rw [if_neg (by decide), show fX6_has (toF A) (nI p) (nI 1) = _ from M_has1 hp16, Option.bind_some]
      · refine ⟨(nI (A (6 + 4 * p)), fnd), (nI (A (6 + 4 * p)), fnd), ?_, M0 _ ?_, rfl, ⟨A, hw, hs, rfl⟩, hk, rfl, htp, hsh⟩
        · simp only [fX5_partOf, hasP_eq (show A 1 < 2 ^ 31 by omega), c, if0t]
          rw [if_neg (by decide), if_neg (by decide), if_pos (by decide), gdN hp16 (by omega), nI_clamp (by omega), s3]
        · rw [if_neg (by decide), show fX6_has (toF A) (nI p) (nI 2) = _ from M_has2 hp16, Option.bind_some]
      · refine ⟨(nI (A (7 + 4 * p)), fnd), (nI (A (7 + 4 * p)), fnd), ?_, M0 _ ?_, rfl, ⟨A, hw, hs, rfl⟩, hk, rfl, htp, hsh⟩
        · simp only [fX5_partOf, hasP_eq (show A 1 < 2 ^ 31 by omega), c, if0t]
          rw [if_neg (by decide), if_neg (by decide), if_neg (by decide), if_pos (by decide), gdN hp16 (by omega), nI_clamp (by omega), s4]
        · rw [if_neg (by decide), show fX6_has (toF A) (nI p) (nI 3) = _ from M_has3 hp16, Option.bind_some]
      · refine ⟨(nI (lsA A p), fnd), (nI (lsA A p), fnd), ?_, M0 _ ?_, rfl, ⟨A, hw, hs, rfl⟩, hk, rfl, htp, hsh⟩
        · simp only [fX5_partOf, hasP_eq (show A 1 < 2 ^ 31 by omega), c, if0t]
          rw [if_neg (by decide), if_neg (by decide), if_neg (by decide), if_neg (by decide), if_pos (by decide), X_len hw hs hp, Option.bind_some]
        · rw [if_pos (by decide), M_lengths hw hp, Option.bind_some]
    · have d := nT d
      have nd : ∀ k, k < 5 → ¬ x2 = nI k := fun k hk e => by rw [e, hasN_nI hk (by omega)] at d; cases d
      refine ⟨fn fnd 0, fn fnd 0, ?_, ?_, rfl, ⟨A, hw, hs, rfl⟩, hk, rfl, htp, hsh⟩
      · simp only [fX5_partOf, hasP_eq (show A 1 < 2 ^ 31 by omega), c, if0t]
        rw [if_neg (show ¬ x2 = 0 from nd 0 (by omega)), if_neg (show ¬ x2 = 1 from nd 1 (by omega)), if_neg (show ¬ x2 = 2 from nd 2 (by omega)), if_neg (show ¬ x2 = 3 from nd 3 (by omega)), if_neg (show ¬ x2 = 4 from nd 4 (by omega)), fo_0, Option.bind_some]
      · simp only [fX6_partOf, M_isPart (show A 1 < 2 ^ 30 by omega), c, if0t, in_hasL 5 4 rfl, d, if0f, fX6_partOf_b17, no_0, Option.bind_some]
  · have c := nT c
    refine ⟨fn fnd 0, fn fnd 0, ?_, ?_, rfl, ⟨A, hw, hs, rfl⟩, hk, rfl, htp, hsh⟩
    · simp only [fX5_partOf, hasP_eq (show A 1 < 2 ^ 31 by omega), c, if0f, fo_0, Option.bind_some]
    · simp only [fX6_partOf, M_isPart (show A 1 < 2 ^ 30 by omega), c, if0f, fX6_partOf_b17, no_0, Option.bind_some]
set_option maxHeartbeats 4000000 in
theorem eq_as {par : Int32} {kin lea mos wrt : Nat → Int32} {tal : Int32} {siz tol : Nat → Int32} {hrs : Int32} {ags : Nat → Int32} {yea kpar : Int32} {kkin klea kmos kwrt : Nat → Int32} {ktal : Int32} {ksiz ktol : Nat → Int32} {khrs : Int32} {kags : Nat → Int32} {kyea isk : Int32} {tly : Nat → Int64} {gai bes : Nat → Int32} {low hig : Nat → Int64} {spn : Int32} {byt : Nat → Int32} {hld sta beh sor num : Int32} {fnd sbi she : Nat → Int32} {snu : Nat → Nat → Int64} {msv mkep mbef : Nat → Int32} {misk : Int32} {mfnd : Nat → Int32} {mman mnex : Nat → Int64} {mwor msng mhea mlat mtap : Nat → Int32} {mtpd mher mflt mvlu : Int32} {mbit mlon : Nat → Int32} {mcel mbtw : Nat → Int64} (h : Rel par kin lea mos wrt tal siz tol hrs ags yea kpar kkin klea kmos kwrt ktal ksiz ktol khrs kags kyea isk tly gai bes low hig spn byt hld sta beh sor num fnd sbi she snu msv mkep mbef misk mfnd mman mnex mwor msng mhea mlat mtap mtpd mher mflt mvlu mbit mlon mcel mbtw) (x1 : Int32) (x2 : Int32) : ∃ (rx : Int32 × (Nat → Int32)) (rm : Int32 × (Nat → Int32)), fX5_as par kin wrt fnd x1 x2 = some rx ∧ fX6_as msv mfnd x1 x2 = some rm ∧ rx.1 = rm.1 ∧ Rel par kin lea mos wrt tal siz tol hrs ags yea kpar kkin klea kmos kwrt ktal ksiz ktol khrs kags kyea isk tly gai bes low hig spn byt hld sta beh sor num rx.2 sbi she snu msv mkep mbef misk rm.2 mman mnex mwor msng mhea mlat mtap mtpd mher mflt mvlu mbit mlon mcel mbtw := by
  obtain ⟨⟨A, hw, hs, rfl⟩, hk, rfl, htp, hsh⟩ := h
  obtain ⟨hy, h1, h2, h3, hpp, htt, hhh⟩ := id hw
  obtain ⟨rfl, hsp, rfl, hst, rfl, hsa, rfl⟩ := id hs
  by_cases c : hasN (A 1) x1 = true
  · obtain ⟨p, hp, rfl⟩ := hasN_of c
    have hp16 : p < 16 := by omega
    obtain ⟨g1, g2, g3, g4, g5⟩ := hpp p hp
    obtain ⟨s1, s2, s3, s4⟩ := hsp p hp
    by_cases d : hasN 6 x2 = true
    · obtain ⟨v, hv, rfl⟩ := hasN_of d
      by_cases u : fX6_isUnder (nI (A (4 + 4 * p))) (nI v) = true
      · refine ⟨(nI (A (7 + 4 * p)), fnd), (nI (A (7 + 4 * p)), fnd), ?_, ?_, rfl, ⟨A, hw, hs, rfl⟩, hk, rfl, htp, hsh⟩
        · simp only [fX5_as, hasP_eq (show A 1 < 2 ^ 31 by omega), c, if0t, X_kind, d]
          rw [gdN hp16 (by omega), nI_clamp (by omega), s1, under_ok _ g1 _ hv, Option.bind_some, u, if0t, gdN hp16 (by omega), s4]
        · simp only [fX6_as, M_isPart (show A 1 < 2 ^ 30 by omega), c, if0t, M_isKind, d]
          rw [M_has0 hp16, Option.bind_some, u, if0t, M_has3 hp16, Option.bind_some]
      · have u := nT u
        refine ⟨fn fnd 2, fn fnd 2, ?_, ?_, rfl, ⟨A, hw, hs, rfl⟩, hk, rfl, htp, hsh⟩
        · simp only [fX5_as, hasP_eq (show A 1 < 2 ^ 31 by omega), c, if0t, X_kind, d]
          rw [gdN hp16 (by omega), nI_clamp (by omega), s1, under_ok _ g1 _ hv, Option.bind_some, u, if0f, fo_2, Option.bind_some]
        · simp only [fX6_as, M_isPart (show A 1 < 2 ^ 30 by omega), c, if0t, M_isKind, d]
          rw [M_has0 hp16, Option.bind_some, u, if0f, no_2, Option.bind_some]
    · have d := nT d
      refine ⟨fn fnd 0, fn fnd 0, ?_, ?_, rfl, ⟨A, hw, hs, rfl⟩, hk, rfl, htp, hsh⟩
      · simp only [fX5_as, hasP_eq (show A 1 < 2 ^ 31 by omega), c, if0t, X_kind, d, if0f, fX5_as_b20, fo_0, Option.bind_some]
      · simp only [fX6_as, M_isPart (show A 1 < 2 ^ 30 by omega), c, if0t, M_isKind, d, if0f, fX6_as_b15, no_0, Option.bind_some]
  · have c := nT c
    refine ⟨fn fnd 0, fn fnd 0, ?_, ?_, rfl, ⟨A, hw, hs, rfl⟩, hk, rfl, htp, hsh⟩
    · simp only [fX5_as, hasP_eq (show A 1 < 2 ^ 31 by omega), c, if0f, fX5_as_b20, fo_0, Option.bind_some]
    · simp only [fX6_as, M_isPart (show A 1 < 2 ^ 30 by omega), c, if0f, fX6_as_b15, no_0, Option.bind_some]
theorem X_isLen {A : Nat → Nat} (hw : wfA A) {p n : Nat} (hp : p < A 1) (hn : n < 25) : fX5_isLength (nI (lsA A p)) (nI n).toInt64 = lenA A p n := by
  rw [isLen64, nI_l (by omega), lN_toInt (by omega), decide_eq_true (show 0 ≤ (n : Int) ∧ (n : Int) ≤ 24 by omega), Bool.true_and, lN_i]
  cases h : lenA A p n with
  | true => exact decide_eq_true ((bitA hw hp hn).mpr h)
  | false => exact decide_eq_false (fun e => by rw [(bitA hw hp hn).mp e] at h; cases h)
theorem X_notLen (m x : Int32) (h : hasN 25 x = false) : fX5_isLength m x.toInt64 = false := by
  rw [isLen64, Int32.toInt_toInt64]
  have h2 : ¬ (0 ≤ x.toInt ∧ x.toInt ≤ 24) := by
    simp only [hasN, decide_eq_false_iff_not] at h
    omega
  rw [decide_eq_false h2, Bool.false_and]
set_option maxHeartbeats 4000000 in
theorem eq_value {par : Int32} {kin lea mos wrt : Nat → Int32} {tal : Int32} {siz tol : Nat → Int32} {hrs : Int32} {ags : Nat → Int32} {yea kpar : Int32} {kkin klea kmos kwrt : Nat → Int32} {ktal : Int32} {ksiz ktol : Nat → Int32} {khrs : Int32} {kags : Nat → Int32} {kyea isk : Int32} {tly : Nat → Int64} {gai bes : Nat → Int32} {low hig : Nat → Int64} {spn : Int32} {byt : Nat → Int32} {hld sta beh sor num : Int32} {fnd sbi she : Nat → Int32} {snu : Nat → Nat → Int64} {msv mkep mbef : Nat → Int32} {misk : Int32} {mfnd : Nat → Int32} {mman mnex : Nat → Int64} {mwor msng mhea mlat mtap : Nat → Int32} {mtpd mher mflt mvlu : Int32} {mbit mlon : Nat → Int32} {mcel mbtw : Nat → Int64} (h : Rel par kin lea mos wrt tal siz tol hrs ags yea kpar kkin klea kmos kwrt ktal ksiz ktol khrs kags kyea isk tly gai bes low hig spn byt hld sta beh sor num fnd sbi she snu msv mkep mbef misk mfnd mman mnex mwor msng mhea mlat mtap mtpd mher mflt mvlu mbit mlon mcel mbtw) (x1 : Int32) (x2 : Int32) : ∃ (rx : Int32 × (Nat → Int32)) (rm : Int32 × (Nat → Int32)), fX5_value par kin lea mos wrt fnd x1 x2 = some rx ∧ fX6_value msv mfnd x1 x2 = some rm ∧ rx.1 = rm.1 ∧ Rel par kin lea mos wrt tal siz tol hrs ags yea kpar kkin klea kmos kwrt ktal ksiz ktol khrs kags kyea isk tly gai bes low hig spn byt hld sta beh sor num rx.2 sbi she snu msv mkep mbef misk rm.2 mman mnex mwor msng mhea mlat mtap mtpd mher mflt mvlu mbit mlon mcel mbtw := by
  obtain ⟨⟨A, hw, hs, rfl⟩, hk, rfl, htp, hsh⟩ := h
  obtain ⟨hy, h1, h2, h3, hpp, htt, hhh⟩ := id hw
  obtain ⟨rfl, hsp, rfl, hst, rfl, hsa, rfl⟩ := id hs
  by_cases c : hasN (A 1) x1 = true
  · obtain ⟨p, hp, rfl⟩ := hasN_of c
    have hp16 : p < 16 := by omega
    by_cases d : hasN 25 x2 = true
    · obtain ⟨n, hn, rfl⟩ := hasN_of d
      by_cases u : lenA A p n = true
      · refine ⟨(iI (vA A p n), fnd), (iI (vA A p n), fnd), ?_, ?_, rfl, ⟨A, hw, hs, rfl⟩, hk, rfl, htp, hsh⟩
        · simp only [fX5_value, hasP_eq (show A 1 < 2 ^ 31 by omega), c, if0t, X_len hw hs hp, Option.bind_some, X_isLen hw hp hn, u, X_val hw hs hp hn]
        · simp only [fX6_value, M_isPart (show A 1 < 2 ^ 30 by omega), c, if0t, in_hasL 25 24 rfl, d, M_len hw hp hn, Option.bind_some, u, M_val hw hp hn]
      · have u := nT u
        refine ⟨fn fnd 0, fn fnd 0, ?_, ?_, rfl, ⟨A, hw, hs, rfl⟩, hk, rfl, htp, hsh⟩
        · simp only [fX5_value, hasP_eq (show A 1 < 2 ^ 31 by omega), c, if0t, X_len hw hs hp, Option.bind_some, X_isLen hw hp hn, u, if0f, fX5_value_b27, fo_0]
        · simp only [fX6_value, M_isPart (show A 1 < 2 ^ 30 by omega), c, if0t, in_hasL 25 24 rfl, d, M_len hw hp hn, Option.bind_some, u, if0f, no_0]
    · have d := nT d
      refine ⟨fn fnd 0, fn fnd 0, ?_, ?_, rfl, ⟨A, hw, hs, rfl⟩, hk, rfl, htp, hsh⟩
      · simp only [fX5_value, hasP_eq (show A 1 < 2 ^ 31 by omega), c, if0t, X_len hw hs hp, Option.bind_some, X_notLen _ _ d, if0f, fX5_value_b27, fo_0]
      · simp only [fX6_value, M_isPart (show A 1 < 2 ^ 30 by omega), c, if0t, in_hasL 25 24 rfl, d, if0f, fX6_value_b18, no_0, Option.bind_some]
  · have c := nT c
    refine ⟨fn fnd 0, fn fnd 0, ?_, ?_, rfl, ⟨A, hw, hs, rfl⟩, hk, rfl, htp, hsh⟩
    · simp only [fX5_value, hasP_eq (show A 1 < 2 ^ 31 by omega), c, if0f, fX5_value_b27, fo_0, Option.bind_some]
    · simp only [fX6_value, M_isPart (show A 1 < 2 ^ 30 by omega), c, if0f, fX6_value_b18, no_0, Option.bind_some]
set_option maxHeartbeats 4000000 in
theorem eq_part {par : Int32} {kin lea mos wrt : Nat → Int32} {tal : Int32} {siz tol : Nat → Int32} {hrs : Int32} {ags : Nat → Int32} {yea kpar : Int32} {kkin klea kmos kwrt : Nat → Int32} {ktal : Int32} {ksiz ktol : Nat → Int32} {khrs : Int32} {kags : Nat → Int32} {kyea isk : Int32} {tly : Nat → Int64} {gai bes : Nat → Int32} {low hig : Nat → Int64} {spn : Int32} {byt : Nat → Int32} {hld sta beh sor num : Int32} {fnd sbi she : Nat → Int32} {snu : Nat → Nat → Int64} {msv mkep mbef : Nat → Int32} {misk : Int32} {mfnd : Nat → Int32} {mman mnex : Nat → Int64} {mwor msng mhea mlat mtap : Nat → Int32} {mtpd mher mflt mvlu : Int32} {mbit mlon : Nat → Int32} {mcel mbtw : Nat → Int64} (h : Rel par kin lea mos wrt tal siz tol hrs ags yea kpar kkin klea kmos kwrt ktal ksiz ktol khrs kags kyea isk tly gai bes low hig spn byt hld sta beh sor num fnd sbi she snu msv mkep mbef misk mfnd mman mnex mwor msng mhea mlat mtap mtpd mher mflt mvlu mbit mlon mcel mbtw) (x1 : Int32) (x2 : Int32) (x3 : Int32) (x4 : Int32) : ∃ (rx : Int32 × Int32 × (Nat → Int32) × (Nat → Int32) × (Nat → Int32) × (Nat → Int32) × (Nat → Int32)) (rm : Int32 × (Nat → Int32) × (Nat → Int32)), fX5_part par kin lea mos wrt fnd x1 x2 x3 x4 = some rx ∧ fX6_part msv mfnd x1 x2 x3 x4 = some rm ∧ rx.1 = rm.1 ∧ Rel rx.2.1 rx.2.2.1 rx.2.2.2.1 rx.2.2.2.2.1 rx.2.2.2.2.2.1 tal siz tol hrs ags yea kpar kkin klea kmos kwrt ktal ksiz ktol khrs kags kyea isk tly gai bes low hig spn byt hld sta beh sor num rx.2.2.2.2.2.2 sbi she snu rm.2.1 mkep mbef misk rm.2.2 mman mnex mwor msng mhea mlat mtap mtpd mher mflt mvlu mbit mlon mcel mbtw := by
  obtain ⟨⟨A, hw, hs, rfl⟩, hk, rfl, htp, hsh⟩ := h
  obtain ⟨hy, h1, h2, h3, hpp, htt, hhh⟩ := id hw
  obtain ⟨rfl, hsp, rfl, hst, rfl, hsa, rfl⟩ := id hs
  by_cases cc : (fX5_isIn x1 0 5 && (fX5_isIn x2 1 12 && (fX5_isIn x3 x2 12 && fX5_isIn x4 0 9))) = true
  · simp only [Bool.and_eq_true] at cc
    obtain ⟨c1, c2, c3, c4⟩ := cc
    have cM : fX6_isPartly x2 x3 x4 = true := by
      rw [partly_eq, c2, c3, c4]
      rfl
    have cK : fX6_isKind x1 = true := (kind_in x1).trans c1
    obtain ⟨k, -, hk2, rfl⟩ := isIn_of (a := 0) (b := 5) (by omega) (by omega) c1
    obtain ⟨a, ha, ha2, rfl⟩ := isIn_of (a := 1) (b := 12) (by omega) (by omega) c2
    obtain ⟨b, hb, hb2, rfl⟩ := isIn_of (a := a) (b := 12) (by omega) (by omega) c3
    obtain ⟨w, -, hw2, rfl⟩ := isIn_of (a := 0) (b := 9) (by omega) (by omega) c4
    by_cases f : A 1 < 16
    · refine ⟨(nI (A 1), nI (A 1 + 1), upd kin (A 1) (nI k), upd lea (A 1) (nI a), upd mos (A 1) (nI b), upd wrt (A 1) (nI w), fnd), (nI (A 1), toF (aPart A k a b w), fnd), ?_, ?_, rfl, ⟨aPart A k a b w, wf_aPart hw f (by omega) ha hb hb2 hw2, stk_aPart hw hs f, rfl⟩, hk, rfl, htp, hsh⟩
      · simp only [fX5_part, c1, c2, c3, c4, if0t]
        rw [if_pos (show nI (A 1) < 16 from nI_lt (b := 16) f (by omega)), X_addPart f, Option.bind_some]
      · simp only [fX6_part, cK, cM, if0t]
        rw [if_neg (show ¬ toF A (1 : Int32).toNatClampNeg = 16 from fun h => by have := (nI_eq (a := A 1) (b := 16) (by omega) (by omega)).mp h; omega), M_adds f, Option.bind_some]
        have e : toF (aPart A k a b w) (1 : Int32).toNatClampNeg = nI (A 1 + 1) := by
          show nI (aPart A k a b w 1) = _
          simp only [aPart, up_at, if_true]
        rw [e, nI_pred]
    · refine ⟨((fn fnd 1).1, nI (A 1), kin, lea, mos, wrt, (fn fnd 1).2), ((fn fnd 1).1, toF A, (fn fnd 1).2), ?_, ?_, rfl, ⟨A, hw, hs, rfl⟩, hk, rfl, htp, hsh⟩
      · simp only [fX5_part, c1, c2, c3, c4, if0t]
        rw [if_neg (show ¬ nI (A 1) < 16 from nI_nlt (b := 16) (by omega) (by omega)), fo_1, Option.bind_some]
      · simp only [fX6_part, cK, cM, if0t]
        rw [if_pos (show toF A (1 : Int32).toNatClampNeg = 16 from by show nI (A 1) = 16; rw [show A 1 = 16 by omega]; rfl), no_1, Option.bind_some]
  · refine ⟨((fn fnd 0).1, nI (A 1), kin, lea, mos, wrt, (fn fnd 0).2), ((fn fnd 0).1, toF A, (fn fnd 0).2), ?_, ?_, rfl, ⟨A, hw, hs, rfl⟩, hk, rfl, htp, hsh⟩
    · exact part_X0 cc
    · exact part_M0 cc

