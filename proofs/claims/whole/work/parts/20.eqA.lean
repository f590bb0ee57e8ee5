theorem if0t {α : Type} {x y : α} : (if bI true = 0 then x else y) = y := rfl
theorem if0f {α : Type} {x y : α} : (if bI false = 0 then x else y) = x := rfl
theorem nT {b : Bool} (h : ¬ b = true) : b = false := by cases b <;> simp_all
theorem stk_fn {A : Nat → Nat} (h : A 1 ≤ 16) : A 1 < 2 ^ 30 := by omega
set_option maxHeartbeats 4000000 in
theorem eq_size {par : Int32} {kin lea mos wrt : Nat → Int32} {tal : Int32} {siz tol : Nat → Int32} {hrs : Int32} {ags : Nat → Int32} {yea kpar : Int32} {kkin klea kmos kwrt : Nat → Int32} {ktal : Int32} {ksiz ktol : Nat → Int32} {khrs : Int32} {kags : Nat → Int32} {kyea isk : Int32} {tly : Nat → Int64} {gai bes : Nat → Int32} {low hig : Nat → Int64} {spn : Int32} {byt : Nat → Int32} {hld sta beh sor num : Int32} {fnd sbi she : Nat → Int32} {snu : Nat → Nat → Int64} {msv mkep mbef : Nat → Int32} {misk : Int32} {mfnd : Nat → Int32} {mman mnex : Nat → Int64} {mwor msng mhea mlat mtap : Nat → Int32} {mtpd mher mflt mvlu : Int32} {mbit mlon : Nat → Int32} {mcel mbtw : Nat → Int64} (h : Rel par kin lea mos wrt tal siz tol hrs ags yea kpar kkin klea kmos kwrt ktal ksiz ktol khrs kags kyea isk tly gai bes low hig spn byt hld sta beh sor num fnd sbi she snu msv mkep mbef misk mfnd mman mnex mwor msng mhea mlat mtap mtpd mher mflt mvlu mbit mlon mcel mbtw) (x1 : Int32) : ∃ (rx : Int32 × (Nat → Int32)) (rm : Int32 × (Nat → Int32)), fX5_size tal siz fnd x1 = some rx ∧ fX6_size msv mfnd x1 = some rm ∧ rx.1 = rm.1 ∧ Rel par kin lea mos wrt tal siz tol hrs ags yea kpar kkin klea kmos kwrt ktal ksiz ktol khrs kags kyea isk tly gai bes low hig spn byt hld sta beh sor num rx.2 sbi she snu msv mkep mbef misk rm.2 mman mnex mwor msng mhea mlat mtap mtpd mher mflt mvlu mbit mlon mcel mbtw := by
  obtain ⟨⟨A, hw, hs, rfl⟩, hk, rfl, htp, hsh⟩ := h
  obtain ⟨hy, h1, h2, h3, hpp, htt, hhh⟩ := id hw
  obtain ⟨rfl, hsp, rfl, hst, rfl, hsa, rfl⟩ := id hs
  by_cases c : hasN (A 2) x1 = true
  · obtain ⟨t, ht, rfl⟩ := hasN_of c
    refine ⟨(nI (A (68 + 11 * t)), fnd), (nI (A (68 + 11 * t)), fnd), ?_, ?_, rfl, ⟨A, hw, hs, rfl⟩, hk, rfl, htp, hsh⟩
    · simp only [fX5_size, hasT_eq (show A 2 < 2 ^ 31 by omega), c, if0t]
      rw [gdN (by omega) (by omega), nI_clamp (by omega), (hst t ht).1]
    · simp only [fX6_size, M_isTale (show A 2 < 2 ^ 30 by omega), Option.bind_some, c, if0t, M_long (show t < 8 by omega)]
  · have c := nT c
    refine ⟨fn fnd 0, fn fnd 0, ?_, ?_, rfl, ⟨A, hw, hs, rfl⟩, hk, rfl, htp, hsh⟩
    · simp only [fX5_size, hasT_eq (show A 2 < 2 ^ 31 by omega), c, if0f, fo_0, Option.bind_some]
    · simp only [fX6_size, M_isTale (show A 2 < 2 ^ 30 by omega), Option.bind_some, c, if0f, no_0]
set_option maxHeartbeats 4000000 in
theorem eq_ageOf {par : Int32} {kin lea mos wrt : Nat → Int32} {tal : Int32} {siz tol : Nat → Int32} {hrs : Int32} {ags : Nat → Int32} {yea kpar : Int32} {kkin klea kmos kwrt : Nat → Int32} {ktal : Int32} {ksiz ktol : Nat → Int32} {khrs : Int32} {kags : Nat → Int32} {kyea isk : Int32} {tly : Nat → Int64} {gai bes : Nat → Int32} {low hig : Nat → Int64} {spn : Int32} {byt : Nat → Int32} {hld sta beh sor num : Int32} {fnd sbi she : Nat → Int32} {snu : Nat → Nat → Int64} {msv mkep mbef : Nat → Int32} {misk : Int32} {mfnd : Nat → Int32} {mman mnex : Nat → Int64} {mwor msng mhea mlat mtap : Nat → Int32} {mtpd mher mflt mvlu : Int32} {mbit mlon : Nat → Int32} {mcel mbtw : Nat → Int64} (h : Rel par kin lea mos wrt tal siz tol hrs ags yea kpar kkin klea kmos kwrt ktal ksiz ktol khrs kags kyea isk tly gai bes low hig spn byt hld sta beh sor num fnd sbi she snu msv mkep mbef misk mfnd mman mnex mwor msng mhea mlat mtap mtpd mher mflt mvlu mbit mlon mcel mbtw) (x1 : Int32) : ∃ (rx : Int32 × (Nat → Int32)) (rm : Int32 × (Nat → Int32)), fX5_ageOf hrs ags fnd x1 = some rx ∧ fX6_ageOf msv mfnd x1 = some rm ∧ rx.1 = rm.1 ∧ Rel par kin lea mos wrt tal siz tol hrs ags yea kpar kkin klea kmos kwrt ktal ksiz ktol khrs kags kyea isk tly gai bes low hig spn byt hld sta beh sor num rx.2 sbi she snu msv mkep mbef misk rm.2 mman mnex mwor msng mhea mlat mtap mtpd mher mflt mvlu mbit mlon mcel mbtw := by
  obtain ⟨⟨A, hw, hs, rfl⟩, hk, rfl, htp, hsh⟩ := h
  obtain ⟨hy, h1, h2, h3, hpp, htt, hhh⟩ := id hw
  obtain ⟨rfl, hsp, rfl, hst, rfl, hsa, rfl⟩ := id hs
  by_cases c : hasN (A 3) x1 = true
  · obtain ⟨t, ht, rfl⟩ := hasN_of c
    refine ⟨(nI (A (156 + t)), fnd), (nI (A (156 + t)), fnd), ?_, ?_, rfl, ⟨A, hw, hs, rfl⟩, hk, rfl, htp, hsh⟩
    · simp only [fX5_ageOf, hasH_eq (show A 3 < 2 ^ 31 by omega), c, if0t]
      rw [gdN (by omega) (by omega), nI_clamp (by omega), hsa t ht]
    · simp only [fX6_ageOf, M_isHearer (show A 3 < 2 ^ 30 by omega), Option.bind_some, c, if0t, e_age]
      rw [gdN (by omega) (by omega), nI_clamp (by omega), toF_at]
  · have c := nT c
    refine ⟨fn fnd 0, fn fnd 0, ?_, ?_, rfl, ⟨A, hw, hs, rfl⟩, hk, rfl, htp, hsh⟩
    · simp only [fX5_ageOf, hasH_eq (show A 3 < 2 ^ 31 by omega), c, if0f, fo_0, Option.bind_some]
    · simp only [fX6_ageOf, M_isHearer (show A 3 < 2 ^ 30 by omega), Option.bind_some, c, if0f, no_0]
theorem wfA_up {A : Nat → Nat} (hw : wfA A) {k v : Nat} (h : ∀ B, B = va_up A k v → wfA B) : wfA (va_up A k v) := h _ rfl
set_option maxHeartbeats 4000000 in
theorem eq_ith {par : Int32} {kin lea mos wrt : Nat → Int32} {tal : Int32} {siz tol : Nat → Int32} {hrs : Int32} {ags : Nat → Int32} {yea kpar : Int32} {kkin klea kmos kwrt : Nat → Int32} {ktal : Int32} {ksiz ktol : Nat → Int32} {khrs : Int32} {kags : Nat → Int32} {kyea isk : Int32} {tly : Nat → Int64} {gai bes : Nat → Int32} {low hig : Nat → Int64} {spn : Int32} {byt : Nat → Int32} {hld sta beh sor num : Int32} {fnd sbi she : Nat → Int32} {snu : Nat → Nat → Int64} {msv mkep mbef : Nat → Int32} {misk : Int32} {mfnd : Nat → Int32} {mman mnex : Nat → Int64} {mwor msng mhea mlat mtap : Nat → Int32} {mtpd mher mflt mvlu : Int32} {mbit mlon : Nat → Int32} {mcel mbtw : Nat → Int64} (h : Rel par kin lea mos wrt tal siz tol hrs ags yea kpar kkin klea kmos kwrt ktal ksiz ktol khrs kags kyea isk tly gai bes low hig spn byt hld sta beh sor num fnd sbi she snu msv mkep mbef misk mfnd mman mnex mwor msng mhea mlat mtap mtpd mher mflt mvlu mbit mlon mcel mbtw) (x1 : Int32) (x2 : Int32) : ∃ (rx : Int32 × (Nat → Int32)) (rm : Int32 × (Nat → Int32)), fX5_ith tal siz tol fnd x1 x2 = some rx ∧ fX6_ith msv mfnd x1 x2 = some rm ∧ rx.1 = rm.1 ∧ Rel par kin lea mos wrt tal siz tol hrs ags yea kpar kkin klea kmos kwrt ktal ksiz ktol khrs kags kyea isk tly gai bes low hig spn byt hld sta beh sor num rx.2 sbi she snu msv mkep mbef misk rm.2 mman mnex mwor msng mhea mlat mtap mtpd mher mflt mvlu mbit mlon mcel mbtw := by
  obtain ⟨⟨A, hw, hs, rfl⟩, hk, rfl, htp, hsh⟩ := h
  obtain ⟨hy, h1, h2, h3, hpp, htt, hhh⟩ := id hw
  obtain ⟨rfl, hsp, rfl, hst, rfl, hsa, rfl⟩ := id hs
  by_cases c : hasN (A 2) x1 = true
  · obtain ⟨t, ht, rfl⟩ := hasN_of c
    have ht8 : t < 8 := by omega
    obtain ⟨s1, s2⟩ := htt t ht
    by_cases d : hasN (A (68 + 11 * t)) x2 = true
    · obtain ⟨i, hi, rfl⟩ := hasN_of d
      refine ⟨(nI (A (69 + 11 * t + i)), fnd), (nI (A (69 + 11 * t + i)), fnd), ?_, ?_, rfl, ⟨A, hw, hs, rfl⟩, hk, rfl, htp, hsh⟩
      · simp only [fX5_ith, hasT_eq (show A 2 < 2 ^ 31 by omega), c, if0t]
        rw [gdN (by omega) (by omega), nI_clamp (by omega), (hst t ht).1, isIn_has (by omega), d, if0t]
        unfold fX3_toldAt
        rw [e_told, gdN (by omega) (by omega), nI_clamp (by omega), (hst t ht).2 i hi, Option.bind_some]
      · simp only [fX6_ith, M_isTale (show A 2 < 2 ^ 30 by omega), Option.bind_some, c, if0t, M_long ht8]
        rw [in_has (by omega), d, if0t, M_nth ht8 (by omega), Option.bind_some]
    · have d := nT d
      refine ⟨fn fnd 0, fn fnd 0, ?_, ?_, rfl, ⟨A, hw, hs, rfl⟩, hk, rfl, htp, hsh⟩
      · simp only [fX5_ith, hasT_eq (show A 2 < 2 ^ 31 by omega), c, if0t]
        rw [gdN (by omega) (by omega), nI_clamp (by omega), (hst t ht).1, isIn_has (by omega), d, if0f]
        simp only [fX5_ith_b30, fo_0, Option.bind_some]
      · simp only [fX6_ith, M_isTale (show A 2 < 2 ^ 30 by omega), Option.bind_some, c, if0t, M_long ht8]
        rw [in_has (by omega), d, if0f]
        simp only [fX6_ith_b32, no_0, Option.bind_some]
  · have c := nT c
    refine ⟨fn fnd 0, fn fnd 0, ?_, ?_, rfl, ⟨A, hw, hs, rfl⟩, hk, rfl, htp, hsh⟩
    · simp only [fX5_ith, hasT_eq (show A 2 < 2 ^ 31 by omega), c, if0f, fX5_ith_b30, fo_0, Option.bind_some]
    · simp only [fX6_ith, M_isTale (show A 2 < 2 ^ 30 by omega), Option.bind_some, c, if0f, fX6_ith_b32, no_0]
set_option maxHeartbeats 4000000 in
theorem eq_count {par : Int32} {kin lea mos wrt : Nat → Int32} {tal : Int32} {siz tol : Nat → Int32} {hrs : Int32} {ags : Nat → Int32} {yea kpar : Int32} {kkin klea kmos kwrt : Nat → Int32} {ktal : Int32} {ksiz ktol : Nat → Int32} {khrs : Int32} {kags : Nat → Int32} {kyea isk : Int32} {tly : Nat → Int64} {gai bes : Nat → Int32} {low hig : Nat → Int64} {spn : Int32} {byt : Nat → Int32} {hld sta beh sor num : Int32} {fnd sbi she : Nat → Int32} {snu : Nat → Nat → Int64} {msv mkep mbef : Nat → Int32} {misk : Int32} {mfnd : Nat → Int32} {mman mnex : Nat → Int64} {mwor msng mhea mlat mtap : Nat → Int32} {mtpd mher mflt mvlu : Int32} {mbit mlon : Nat → Int32} {mcel mbtw : Nat → Int64} (h : Rel par kin lea mos wrt tal siz tol hrs ags yea kpar kkin klea kmos kwrt ktal ksiz ktol khrs kags kyea isk tly gai bes low hig spn byt hld sta beh sor num fnd sbi she snu msv mkep mbef misk mfnd mman mnex mwor msng mhea mlat mtap mtpd mher mflt mvlu mbit mlon mcel mbtw) (x1 : Int32) : ∃ (rx : Int32 × (Nat → Int32)) (rm : Int32 × (Nat → Int32)), fX5_count par tal hrs yea hld fnd x1 = some rx ∧ fX6_count msv mfnd mtpd x1 = some rm ∧ rx.1 = rm.1 ∧ Rel par kin lea mos wrt tal siz tol hrs ags yea kpar kkin klea kmos kwrt ktal ksiz ktol khrs kags kyea isk tly gai bes low hig spn byt hld sta beh sor num rx.2 sbi she snu msv mkep mbef misk rm.2 mman mnex mwor msng mhea mlat mtap mtpd mher mflt mvlu mbit mlon mcel mbtw := by
  obtain ⟨⟨A, hw, hs, rfl⟩, hk, rfl, htp, hsh⟩ := h
  obtain ⟨hy, h1, h2, h3, hpp, htt, hhh⟩ := id hw
  obtain ⟨rfl, hsp, rfl, hst, rfl, hsa, rfl⟩ := id hs
  by_cases c0 : x1 = 0
  · exact ⟨(nI (A 1), fnd), (nI (A 1), fnd), by unfold fX5_count; rw [if_pos c0], by unfold fX6_count; rw [if_pos c0]; rfl, rfl, ⟨A, hw, hs, rfl⟩, hk, rfl, htp, hsh⟩
  by_cases c1 : x1 = 1
  · exact ⟨(nI (A 2), fnd), (nI (A 2), fnd), by unfold fX5_count; rw [if_neg c0, if_pos c1], by unfold fX6_count; rw [if_neg c0, if_pos c1]; rfl, rfl, ⟨A, hw, hs, rfl⟩, hk, rfl, htp, hsh⟩
  by_cases c2 : x1 = 2
  · exact ⟨(nI (A 3), fnd), (nI (A 3), fnd), by unfold fX5_count; rw [if_neg c0, if_neg c1, if_pos c2], by unfold fX6_count; rw [if_neg c0, if_neg c1, if_pos c2]; rfl, rfl, ⟨A, hw, hs, rfl⟩, hk, rfl, htp, hsh⟩
  by_cases c3 : x1 = 3
  · obtain ⟨b, n, hb, hn, rfl, rfl, rfl, rfl⟩ := id htp
    exact ⟨(nI n, fnd), (nI n, fnd), by unfold fX5_count; rw [if_neg c0, if_neg c1, if_neg c2, if_pos c3], by unfold fX6_count; rw [if_neg c0, if_neg c1, if_neg c2, if_pos c3], rfl, ⟨A, hw, hs, rfl⟩, hk, rfl, htp, hsh⟩
  by_cases c4 : x1 = 4
  · exact ⟨(nI (A 0), fnd), (nI (A 0), fnd), by unfold fX5_count; rw [if_neg c0, if_neg c1, if_neg c2, if_neg c3, if_pos c4], by unfold fX6_count; rw [if_neg c0, if_neg c1, if_neg c2, if_neg c3, if_pos c4]; rfl, rfl, ⟨A, hw, hs, rfl⟩, hk, rfl, htp, hsh⟩
  · refine ⟨fn fnd 0, fn fnd 0, ?_, ?_, rfl, ⟨A, hw, hs, rfl⟩, hk, rfl, htp, hsh⟩
    · unfold fX5_count
      rw [if_neg c0, if_neg c1, if_neg c2, if_neg c3, if_neg c4, fo_0, Option.bind_some]
    · unfold fX6_count
      rw [if_neg c0, if_neg c1, if_neg c2, if_neg c3, if_neg c4, no_0, Option.bind_some]
set_option maxHeartbeats 4000000 in
theorem eq_tear {par : Int32} {kin lea mos wrt : Nat → Int32} {tal : Int32} {siz tol : Nat → Int32} {hrs : Int32} {ags : Nat → Int32} {yea kpar : Int32} {kkin klea kmos kwrt : Nat → Int32} {ktal : Int32} {ksiz ktol : Nat → Int32} {khrs : Int32} {kags : Nat → Int32} {kyea isk : Int32} {tly : Nat → Int64} {gai bes : Nat → Int32} {low hig : Nat → Int64} {spn : Int32} {byt : Nat → Int32} {hld sta beh sor num : Int32} {fnd sbi she : Nat → Int32} {snu : Nat → Nat → Int64} {msv mkep mbef : Nat → Int32} {misk : Int32} {mfnd : Nat → Int32} {mman mnex : Nat → Int64} {mwor msng mhea mlat mtap : Nat → Int32} {mtpd mher mflt mvlu : Int32} {mbit mlon : Nat → Int32} {mcel mbtw : Nat → Int64} (h : Rel par kin lea mos wrt tal siz tol hrs ags yea kpar kkin klea kmos kwrt ktal ksiz ktol khrs kags kyea isk tly gai bes low hig spn byt hld sta beh sor num fnd sbi she snu msv mkep mbef misk mfnd mman mnex mwor msng mhea mlat mtap mtpd mher mflt mvlu mbit mlon mcel mbtw)  : ∃ (rx : Int32 × Int32) (rm : Int32 × Int32), fX5_tear isk = rx ∧ fX6_tear misk = rm ∧ rx.1 = rm.1 ∧ Rel par kin lea mos wrt tal siz tol hrs ags yea kpar kkin klea kmos kwrt ktal ksiz ktol khrs kags kyea rx.2 tly gai bes low hig spn byt hld sta beh sor num fnd sbi she snu msv mkep mbef rm.2 mfnd mman mnex mwor msng mhea mlat mtap mtpd mher mflt mvlu mbit mlon mcel mbtw := by
  obtain ⟨⟨A, hw, hs, rfl⟩, hk, rfl, htp, hsh⟩ := h
  obtain ⟨hy, h1, h2, h3, hpp, htt, hhh⟩ := id hw
  obtain ⟨rfl, hsp, rfl, hst, rfl, hsa, rfl⟩ := id hs
  rcases hk with ⟨rfl, rfl⟩ | ⟨rfl, rfl, hB⟩
  · exact ⟨(0, 0), (0, 0), rfl, rfl, rfl, ⟨A, hw, hs, rfl⟩, Or.inl ⟨rfl, rfl⟩, rfl, htp, hsh⟩
  · exact ⟨(1, 0), (1, 0), rfl, rfl, rfl, ⟨A, hw, hs, rfl⟩, Or.inl ⟨rfl, rfl⟩, rfl, htp, hsh⟩
set_option maxHeartbeats 4000000 in
theorem eq_wipe {par : Int32} {kin lea mos wrt : Nat → Int32} {tal : Int32} {siz tol : Nat → Int32} {hrs : Int32} {ags : Nat → Int32} {yea kpar : Int32} {kkin klea kmos kwrt : Nat → Int32} {ktal : Int32} {ksiz ktol : Nat → Int32} {khrs : Int32} {kags : Nat → Int32} {kyea isk : Int32} {tly : Nat → Int64} {gai bes : Nat → Int32} {low hig : Nat → Int64} {spn : Int32} {byt : Nat → Int32} {hld sta beh sor num : Int32} {fnd sbi she : Nat → Int32} {snu : Nat → Nat → Int64} {msv mkep mbef : Nat → Int32} {misk : Int32} {mfnd : Nat → Int32} {mman mnex : Nat → Int64} {mwor msng mhea mlat mtap : Nat → Int32} {mtpd mher mflt mvlu : Int32} {mbit mlon : Nat → Int32} {mcel mbtw : Nat → Int64} (h : Rel par kin lea mos wrt tal siz tol hrs ags yea kpar kkin klea kmos kwrt ktal ksiz ktol khrs kags kyea isk tly gai bes low hig spn byt hld sta beh sor num fnd sbi she snu msv mkep mbef misk mfnd mman mnex mwor msng mhea mlat mtap mtpd mher mflt mvlu mbit mlon mcel mbtw)  : ∃ (rx : Int32 × Int32) (rm : Int32 × Int32), fX5_wipe hld = rx ∧ fX6_wipe mtpd = rm ∧ rx.1 = rm.1 ∧ Rel par kin lea mos wrt tal siz tol hrs ags yea kpar kkin klea kmos kwrt ktal ksiz ktol khrs kags kyea isk tly gai bes low hig spn byt rx.2 sta beh sor num fnd sbi she snu msv mkep mbef misk mfnd mman mnex mwor msng mhea mlat mtap rm.2 mher mflt mvlu mbit mlon mcel mbtw := by
  obtain ⟨⟨A, hw, hs, rfl⟩, hk, rfl, htp, hsh⟩ := h
  obtain ⟨hy, h1, h2, h3, hpp, htt, hhh⟩ := id hw
  obtain ⟨rfl, hsp, rfl, hst, rfl, hsa, rfl⟩ := id hs
  obtain ⟨b, n, hb, hn, rfl, rfl, rfl, rfl⟩ := id htp
  exact ⟨_, _, rfl, rfl, rfl, ⟨A, hw, hs, rfl⟩, hk, rfl, ⟨b, 0, hb, Nat.zero_le _, rfl, rfl, rfl, rfl⟩, hsh⟩
set_option maxHeartbeats 4000000 in
theorem eq_age {par : Int32} {kin lea mos wrt : Nat → Int32} {tal : Int32} {siz tol : Nat → Int32} {hrs : Int32} {ags : Nat → Int32} {yea kpar : Int32} {kkin klea kmos kwrt : Nat → Int32} {ktal : Int32} {ksiz ktol : Nat → Int32} {khrs : Int32} {kags : Nat → Int32} {kyea isk : Int32} {tly : Nat → Int64} {gai bes : Nat → Int32} {low hig : Nat → Int64} {spn : Int32} {byt : Nat → Int32} {hld sta beh sor num : Int32} {fnd sbi she : Nat → Int32} {snu : Nat → Nat → Int64} {msv mkep mbef : Nat → Int32} {misk : Int32} {mfnd : Nat → Int32} {mman mnex : Nat → Int64} {mwor msng mhea mlat mtap : Nat → Int32} {mtpd mher mflt mvlu : Int32} {mbit mlon : Nat → Int32} {mcel mbtw : Nat → Int64} (h : Rel par kin lea mos wrt tal siz tol hrs ags yea kpar kkin klea kmos kwrt ktal ksiz ktol khrs kags kyea isk tly gai bes low hig spn byt hld sta beh sor num fnd sbi she snu msv mkep mbef misk mfnd mman mnex mwor msng mhea mlat mtap mtpd mher mflt mvlu mbit mlon mcel mbtw) (x1 : Int32) (x2 : Int32) : ∃ (rx : Int32 × (Nat → Int32) × (Nat → Int32)) (rm : Int32 × (Nat → Int32) × (Nat → Int32)), fX5_age hrs ags fnd x1 x2 = some rx ∧ fX6_age msv mfnd x1 x2 = some rm ∧ rx.1 = rm.1 ∧ Rel par kin lea mos wrt tal siz tol hrs rx.2.1 yea kpar kkin klea kmos kwrt ktal ksiz ktol khrs kags kyea isk tly gai bes low hig spn byt hld sta beh sor num rx.2.2 sbi she snu rm.2.1 mkep mbef misk rm.2.2 mman mnex mwor msng mhea mlat mtap mtpd mher mflt mvlu mbit mlon mcel mbtw := by
  obtain ⟨⟨A, hw, hs, rfl⟩, hk, rfl, htp, hsh⟩ := h
  obtain ⟨hy, h1, h2, h3, hpp, htt, hhh⟩ := id hw
  obtain ⟨rfl, hsp, rfl, hst, rfl, hsa, rfl⟩ := id hs
  by_cases c : hasN (A 3) x1 = true
  · obtain ⟨g, hg, rfl⟩ := hasN_of c
    by_cases d : hasN 100 x2 = true
    · obtain ⟨v, hv, rfl⟩ := hasN_of d
      refine ⟨(nI (A (156 + g)), upd ags g (nI v), fnd), (nI (A (156 + g)), toF (va_up A (156 + g) v), fnd), ?_, ?_, rfl, ⟨va_up A (156 + g) v, wf_age hw hg (by omega), stk_age hw hs hg, rfl⟩, hk, rfl, htp, hsh⟩
      · simp only [fX5_age, hasH_eq (show A 3 < 2 ^ 31 by omega), c, if0t, X_age, d]
        unfold fX5_swap_ags
        rw [gdN (by omega) (by omega), gdN (by omega) (by omega), nI_clamp (by omega), hsa g hg, Option.bind_some]
      · simp only [fX6_age, M_isHearer (show A 3 < 2 ^ 30 by omega), Option.bind_some, c, if0t, M_isAge, d, e_age]
        rw [M_puts (by omega), Option.bind_some]
    · have d := nT d
      refine ⟨((fn fnd 0).1, ags, (fn fnd 0).2), ((fn fnd 0).1, toF A, (fn fnd 0).2), ?_, ?_, rfl, ⟨A, hw, hs, rfl⟩, hk, rfl, htp, hsh⟩
      · simp only [fX5_age, hasH_eq (show A 3 < 2 ^ 31 by omega), c, if0t, X_age, d, if0f, fX5_age_b21, fo_0, Option.bind_some]
      · simp only [fX6_age, M_isHearer (show A 3 < 2 ^ 30 by omega), Option.bind_some, c, if0t, M_isAge, d, if0f, fX6_age_b28, no_0]
  · have c := nT c
    refine ⟨((fn fnd 0).1, ags, (fn fnd 0).2), ((fn fnd 0).1, toF A, (fn fnd 0).2), ?_, ?_, rfl, ⟨A, hw, hs, rfl⟩, hk, rfl, htp, hsh⟩
    · simp only [fX5_age, hasH_eq (show A 3 < 2 ^ 31 by omega), c, if0f, fX5_age_b21, fo_0, Option.bind_some]
    · simp only [fX6_age, M_isHearer (show A 3 < 2 ^ 30 by omega), Option.bind_some, c, if0f, fX6_age_b28, no_0]
theorem e_has (p w : Nat) : ((4 : Int32) + (4 : Int32) * nI p) + nI w = nI (4 + 4 * p + w) := by
  show (nI 4 + nI 4 * nI p) + nI w = _
  rw [pk_mul, nI_add, nI_add]
theorem e_has0 (p : Nat) : ((4 : Int32) + (4 : Int32) * nI p) + 0 = nI (4 + 4 * p) := e_has p 0
set_option maxHeartbeats 4000000 in
theorem eq_turn {par : Int32} {kin lea mos wrt : Nat → Int32} {tal : Int32} {siz tol : Nat → Int32} {hrs : Int32} {ags : Nat → Int32} {yea kpar : Int32} {kkin klea kmos kwrt : Nat → Int32} {ktal : Int32} {ksiz ktol : Nat → Int32} {khrs : Int32} {kags : Nat → Int32} {kyea isk : Int32} {tly : Nat → Int64} {gai bes : Nat → Int32} {low hig : Nat → Int64} {spn : Int32} {byt : Nat → Int32} {hld sta beh sor num : Int32} {fnd sbi she : Nat → Int32} {snu : Nat → Nat → Int64} {msv mkep mbef : Nat → Int32} {misk : Int32} {mfnd : Nat → Int32} {mman mnex : Nat → Int64} {mwor msng mhea mlat mtap : Nat → Int32} {mtpd mher mflt mvlu : Int32} {mbit mlon : Nat → Int32} {mcel mbtw : Nat → Int64} (h : Rel par kin lea mos wrt tal siz tol hrs ags yea kpar kkin klea kmos kwrt ktal ksiz ktol khrs kags kyea isk tly gai bes low hig spn byt hld sta beh sor num fnd sbi she snu msv mkep mbef misk mfnd mman mnex mwor msng mhea mlat mtap mtpd mher mflt mvlu mbit mlon mcel mbtw) (x1 : Int32) (x2 : Int32) : ∃ (rx : Int32 × (Nat → Int32) × (Nat → Int32)) (rm : Int32 × (Nat → Int32) × (Nat → Int32)), fX5_turn par kin fnd x1 x2 = some rx ∧ fX6_turn msv mfnd x1 x2 = some rm ∧ rx.1 = rm.1 ∧ Rel par rx.2.1 lea mos wrt tal siz tol hrs ags yea kpar kkin klea kmos kwrt ktal ksiz ktol khrs kags kyea isk tly gai bes low hig spn byt hld sta beh sor num rx.2.2 sbi she snu rm.2.1 mkep mbef misk rm.2.2 mman mnex mwor msng mhea mlat mtap mtpd mher mflt mvlu mbit mlon mcel mbtw := by
  obtain ⟨⟨A, hw, hs, rfl⟩, hk, rfl, htp, hsh⟩ := h
  obtain ⟨hy, h1, h2, h3, hpp, htt, hhh⟩ := id hw
  obtain ⟨rfl, hsp, rfl, hst, rfl, hsa, rfl⟩ := id hs
  by_cases c : hasN (A 1) x1 = true
  · obtain ⟨p, hp, rfl⟩ := hasN_of c
    obtain ⟨g1, g2, g3, g4, g5⟩ := hpp p hp
    obtain ⟨s1, s2, s3, s4⟩ := hsp p hp
    by_cases d : hasN 6 x2 = true
    · obtain ⟨v, hv, rfl⟩ := hasN_of d
      have u0 : va_up A (4 + 4 * p) v (4 + 4 * p) = v := va_up_self _ _ _
      have u1 : va_up A (4 + 4 * p) v (5 + 4 * p) = A (5 + 4 * p) := va_up_ne _ _ (by omega)
      have u2 : va_up A (4 + 4 * p) v (6 + 4 * p) = A (6 + 4 * p) := va_up_ne _ _ (by omega)
      have u3 : va_up A (4 + 4 * p) v (7 + 4 * p) = A (7 + 4 * p) := va_up_ne _ _ (by omega)
      refine ⟨(nI (A (4 + 4 * p)), upd kin p (nI v), fnd), (nI (A (4 + 4 * p)), toF (va_up A (4 + 4 * p) v), fnd), ?_, ?_, rfl, ⟨va_up A (4 + 4 * p) v, wf_put hw hp (by omega) (by omega) (by rw [u0, u1, u2, u3]; exact ⟨hv, g2, g3, g4, g5⟩), stk_put hw hs hp (by omega) (by omega) (fun q hq => ⟨by simp only [updI_at]; rw [if_neg hq], rfl, rfl, rfl⟩) (by rw [u0, u1, u2, u3]; exact ⟨by simp only [updI_at, if_true], s2, s3, s4⟩), rfl⟩, hk, rfl, htp, hsh⟩
      · simp only [fX5_turn, hasP_eq (show A 1 < 2 ^ 31 by omega), c, if0t, X_kind, d]
        unfold fX5_swap_kin
        rw [gdN (by omega) (by omega), gdN (by omega) (by omega), nI_clamp (by omega), s1, Option.bind_some]
      · simp only [fX6_turn, M_isPart (show A 1 < 2 ^ 30 by omega), c, if0t, M_isKind, d, e_has0]
        rw [M_puts (by omega), Option.bind_some]
    · have d := nT d
      refine ⟨((fn fnd 0).1, kin, (fn fnd 0).2), ((fn fnd 0).1, toF A, (fn fnd 0).2), ?_, ?_, rfl, ⟨A, hw, hs, rfl⟩, hk, rfl, htp, hsh⟩
      · simp only [fX5_turn, hasP_eq (show A 1 < 2 ^ 31 by omega), c, if0t, X_kind, d, if0f, fX5_turn_b20, fo_0, Option.bind_some]
      · simp only [fX6_turn, M_isPart (show A 1 < 2 ^ 30 by omega), c, if0t, M_isKind, d, if0f, fX6_turn_b30, no_0, Option.bind_some]
  · have c := nT c
    refine ⟨((fn fnd 0).1, kin, (fn fnd 0).2), ((fn fnd 0).1, toF A, (fn fnd 0).2), ?_, ?_, rfl, ⟨A, hw, hs, rfl⟩, hk, rfl, htp, hsh⟩
    · simp only [fX5_turn, hasP_eq (show A 1 < 2 ^ 31 by omega), c, if0f, fX5_turn_b20, fo_0, Option.bind_some]
    · simp only [fX6_turn, M_isPart (show A 1 < 2 ^ 30 by omega), c, if0f, fX6_turn_b30, no_0, Option.bind_some]
set_option maxHeartbeats 4000000 in
theorem eq_hearer {par : Int32} {kin lea mos wrt : Nat → Int32} {tal : Int32} {siz tol : Nat → Int32} {hrs : Int32} {ags : Nat → Int32} {yea kpar : Int32} {kkin klea kmos kwrt : Nat → Int32} {ktal : Int32} {ksiz ktol : Nat → Int32} {khrs : Int32} {kags : Nat → Int32} {kyea isk : Int32} {tly : Nat → Int64} {gai bes : Nat → Int32} {low hig : Nat → Int64} {spn : Int32} {byt : Nat → Int32} {hld sta beh sor num : Int32} {fnd sbi she : Nat → Int32} {snu : Nat → Nat → Int64} {msv mkep mbef : Nat → Int32} {misk : Int32} {mfnd : Nat → Int32} {mman mnex : Nat → Int64} {mwor msng mhea mlat mtap : Nat → Int32} {mtpd mher mflt mvlu : Int32} {mbit mlon : Nat → Int32} {mcel mbtw : Nat → Int64} (h : Rel par kin lea mos wrt tal siz tol hrs ags yea kpar kkin klea kmos kwrt ktal ksiz ktol khrs kags kyea isk tly gai bes low hig spn byt hld sta beh sor num fnd sbi she snu msv mkep mbef misk mfnd mman mnex mwor msng mhea mlat mtap mtpd mher mflt mvlu mbit mlon mcel mbtw) (x1 : Int32) : ∃ (rx : Int32 × Int32 × (Nat → Int32) × (Nat → Int32)) (rm : Int32 × (Nat → Int32) × (Nat → Int32)), fX5_hearer hrs ags fnd x1 = some rx ∧ fX6_hearer msv mfnd x1 = some rm ∧ rx.1 = rm.1 ∧ Rel par kin lea mos wrt tal siz tol rx.2.1 rx.2.2.1 yea kpar kkin klea kmos kwrt ktal ksiz ktol khrs kags kyea isk tly gai bes low hig spn byt hld sta beh sor num rx.2.2.2 sbi she snu rm.2.1 mkep mbef misk rm.2.2 mman mnex mwor msng mhea mlat mtap mtpd mher mflt mvlu mbit mlon mcel mbtw := by
  obtain ⟨⟨A, hw, hs, rfl⟩, hk, rfl, htp, hsh⟩ := h
  obtain ⟨hy, h1, h2, h3, hpp, htt, hhh⟩ := id hw
  obtain ⟨rfl, hsp, rfl, hst, rfl, hsa, rfl⟩ := id hs
  by_cases d : hasN 100 x1 = true
  · obtain ⟨v, hv, rfl⟩ := hasN_of d
    by_cases c : A 3 < 10
    · refine ⟨(nI (A 3), nI (A 3 + 1), upd ags (A 3) (nI v), fnd), (nI (A 3), toF (aHear A v), fnd), ?_, ?_, rfl, ⟨aHear A v, wf_aHear hw c (by omega), stk_aHear hw hs c, rfl⟩, hk, rfl, htp, hsh⟩
      · simp only [fX5_hearer, X_age, d, if0t]
        rw [if_pos (show nI (A 3) < 10 from nI_lt (b := 10) c (by omega)), X_addHearer c, Option.bind_some]
      · simp only [fX6_hearer, M_isAge, d, if0t]
        rw [if_neg (show ¬ toF A (3 : Int32).toNatClampNeg = 10 from fun h => by have := (nI_eq (a := A 3) (b := 10) (by omega) (by omega)).mp h; omega)]
        have e : (156 : Int32) + toF A (3 : Int32).toNatClampNeg = nI (156 + A 3) := e_age (A 3)
        rw [e, gdN (by omega) (by omega), nI_clamp (by omega), upd_toF]
        have e2 : toF (va_up A (156 + A 3) v) (3 : Int32).toNatClampNeg + (1 : Int32) = nI (A 3 + 1) := by
          show nI (va_up A (156 + A 3) v 3) + 1 = _
          rw [va_up_ne _ _ (by omega), nI_1]
        rw [e2]
        show some (upd (toF (va_up A (156 + A 3) v)) 3 (nI (A 3 + 1)) 3 - 1, upd (toF (va_up A (156 + A 3) v)) 3 (nI (A 3 + 1)), fnd) = _
        rw [upd_toF, toF_at, va_up_self, nI_pred]
        rfl
    · refine ⟨((fn fnd 1).1, nI (A 3), ags, (fn fnd 1).2), ((fn fnd 1).1, toF A, (fn fnd 1).2), ?_, ?_, rfl, ⟨A, hw, hs, rfl⟩, hk, rfl, htp, hsh⟩
      · simp only [fX5_hearer, X_age, d, if0t]
        rw [if_neg (show ¬ nI (A 3) < 10 from nI_nlt (b := 10) (by omega) (by omega)), fo_1, Option.bind_some]
      · simp only [fX6_hearer, M_isAge, d, if0t]
        rw [if_pos (show toF A (3 : Int32).toNatClampNeg = 10 from by show nI (A 3) = 10; rw [show A 3 = 10 by omega]; rfl), no_1, Option.bind_some]
  · have d := nT d
    refine ⟨((fn fnd 0).1, nI (A 3), ags, (fn fnd 0).2), ((fn fnd 0).1, toF A, (fn fnd 0).2), ?_, ?_, rfl, ⟨A, hw, hs, rfl⟩, hk, rfl, htp, hsh⟩
    · simp only [fX5_hearer, X_age, d, if0f, fo_0, Option.bind_some]
    · simp only [fX6_hearer, M_isAge, d, if0f, no_0, Option.bind_some]
set_option maxHeartbeats 4000000 in
theorem eq_tale {par : Int32} {kin lea mos wrt : Nat → Int32} {tal : Int32} {siz tol : Nat → Int32} {hrs : Int32} {ags : Nat → Int32} {yea kpar : Int32} {kkin klea kmos kwrt : Nat → Int32} {ktal : Int32} {ksiz ktol : Nat → Int32} {khrs : Int32} {kags : Nat → Int32} {kyea isk : Int32} {tly : Nat → Int64} {gai bes : Nat → Int32} {low hig : Nat → Int64} {spn : Int32} {byt : Nat → Int32} {hld sta beh sor num : Int32} {fnd sbi she : Nat → Int32} {snu : Nat → Nat → Int64} {msv mkep mbef : Nat → Int32} {misk : Int32} {mfnd : Nat → Int32} {mman mnex : Nat → Int64} {mwor msng mhea mlat mtap : Nat → Int32} {mtpd mher mflt mvlu : Int32} {mbit mlon : Nat → Int32} {mcel mbtw : Nat → Int64} (h : Rel par kin lea mos wrt tal siz tol hrs ags yea kpar kkin klea kmos kwrt ktal ksiz ktol khrs kags kyea isk tly gai bes low hig spn byt hld sta beh sor num fnd sbi she snu msv mkep mbef misk mfnd mman mnex mwor msng mhea mlat mtap mtpd mher mflt mvlu mbit mlon mcel mbtw)  : ∃ (rx : Int32 × Int32 × (Nat → Int32) × (Nat → Int32)) (rm : Int32 × (Nat → Int32) × (Nat → Int32)), fX5_tale tal siz fnd = some rx ∧ fX6_tale msv mfnd = some rm ∧ rx.1 = rm.1 ∧ Rel par kin lea mos wrt rx.2.1 rx.2.2.1 tol hrs ags yea kpar kkin klea kmos kwrt ktal ksiz ktol khrs kags kyea isk tly gai bes low hig spn byt hld sta beh sor num rx.2.2.2 sbi she snu rm.2.1 mkep mbef misk rm.2.2 mman mnex mwor msng mhea mlat mtap mtpd mher mflt mvlu mbit mlon mcel mbtw := by
  obtain ⟨⟨A, hw, hs, rfl⟩, hk, rfl, htp, hsh⟩ := h
  obtain ⟨hy, h1, h2, h3, hpp, htt, hhh⟩ := id hw
  obtain ⟨rfl, hsp, rfl, hst, rfl, hsa, rfl⟩ := id hs
  by_cases c : A 2 < 8
  · refine ⟨(nI (A 2), nI (A 2 + 1), upd siz (A 2) 0, fnd), (nI (A 2), toF (aTale A), fnd), ?_, ?_, rfl, ⟨aTale A, wf_aTale hw c, stk_aTale hw hs c, rfl⟩, hk, rfl, htp, hsh⟩
    · unfold fX5_tale
      rw [if_pos (show nI (A 2) < 8 from nI_lt (b := 8) c (by omega)), X_addTale c, Option.bind_some]
    · unfold fX6_tale
      rw [if_neg (show ¬ toF A (2 : Int32).toNatClampNeg = 8 from fun h => by have := (nI_eq (a := A 2) (b := 8) (by omega) (by omega)).mp h; omega)]
      have e : (68 : Int32) + (11 : Int32) * toF A (2 : Int32).toNatClampNeg = nI (68 + 11 * A 2) := e_tale (A 2)
      rw [e, gdN (by omega) (by omega), nI_clamp (by omega), show upd (toF A) (68 + 11 * A 2) 0 = toF (va_up A (68 + 11 * A 2) 0) from upd_toF A _ 0]
      have e2 : toF (va_up A (68 + 11 * A 2) 0) (2 : Int32).toNatClampNeg + (1 : Int32) = nI (A 2 + 1) := by
        show nI (va_up A (68 + 11 * A 2) 0 2) + 1 = _
        rw [va_up_ne _ _ (by omega), nI_1]
      rw [e2]
      show some (upd (toF (va_up A (68 + 11 * A 2) 0)) 2 (nI (A 2 + 1)) 2 - 1, upd (toF (va_up A (68 + 11 * A 2) 0)) 2 (nI (A 2 + 1)), fnd) = _
      rw [upd_toF, toF_at, va_up_self, nI_pred]
      rfl
  · refine ⟨((fn fnd 1).1, nI (A 2), siz, (fn fnd 1).2), ((fn fnd 1).1, toF A, (fn fnd 1).2), ?_, ?_, rfl, ⟨A, hw, hs, rfl⟩, hk, rfl, htp, hsh⟩
    · unfold fX5_tale
      rw [if_neg (show ¬ nI (A 2) < 8 from nI_nlt (b := 8) (by omega) (by omega)), fo_1, Option.bind_some]
    · unfold fX6_tale
      rw [if_pos (show toF A (2 : Int32).toNatClampNeg = 8 from by show nI (A 2) = 8; rw [show A 2 = 8 by omega]; rfl), no_1, Option.bind_some]
set_option maxHeartbeats 4000000 in
theorem eq_tell {par : Int32} {kin lea mos wrt : Nat → Int32} {tal : Int32} {siz tol : Nat → Int32} {hrs : Int32} {ags : Nat → Int32} {yea kpar : Int32} {kkin klea kmos kwrt : Nat → Int32} {ktal : Int32} {ksiz ktol : Nat → Int32} {khrs : Int32} {kags : Nat → Int32} {kyea isk : Int32} {tly : Nat → Int64} {gai bes : Nat → Int32} {low hig : Nat → Int64} {spn : Int32} {byt : Nat → Int32} {hld sta beh sor num : Int32} {fnd sbi she : Nat → Int32} {snu : Nat → Nat → Int64} {msv mkep mbef : Nat → Int32} {misk : Int32} {mfnd : Nat → Int32} {mman mnex : Nat → Int64} {mwor msng mhea mlat mtap : Nat → Int32} {mtpd mher mflt mvlu : Int32} {mbit mlon : Nat → Int32} {mcel mbtw : Nat → Int64} (h : Rel par kin lea mos wrt tal siz tol hrs ags yea kpar kkin klea kmos kwrt ktal ksiz ktol khrs kags kyea isk tly gai bes low hig spn byt hld sta beh sor num fnd sbi she snu msv mkep mbef misk mfnd mman mnex mwor msng mhea mlat mtap mtpd mher mflt mvlu mbit mlon mcel mbtw) (x1 : Int32) (x2 : Int32) : ∃ (rx : Int32 × (Nat → Int32) × (Nat → Int32) × (Nat → Int32)) (rm : Int32 × (Nat → Int32) × (Nat → Int32)), fX5_tell par tal siz tol fnd x1 x2 = some rx ∧ fX6_tell msv mfnd x1 x2 = some rm ∧ rx.1 = rm.1 ∧ Rel par kin lea mos wrt tal rx.2.1 rx.2.2.1 hrs ags yea kpar kkin klea kmos kwrt ktal ksiz ktol khrs kags kyea isk tly gai bes low hig spn byt hld sta beh sor num rx.2.2.2 sbi she snu rm.2.1 mkep mbef misk rm.2.2 mman mnex mwor msng mhea mlat mtap mtpd mher mflt mvlu mbit mlon mcel mbtw := by
  obtain ⟨⟨A, hw, hs, rfl⟩, hk, rfl, htp, hsh⟩ := h
  obtain ⟨hy, h1, h2, h3, hpp, htt, hhh⟩ := id hw
  obtain ⟨rfl, hsp, rfl, hst, rfl, hsa, rfl⟩ := id hs
  by_cases c : hasN (A 2) x1 = true
  · obtain ⟨t, ht, rfl⟩ := hasN_of c
    obtain ⟨g1, g2⟩ := htt t ht
    obtain ⟨q1, q2⟩ := hst t ht
    by_cases d : hasN (A 1) x2 = true
    · obtain ⟨p, hp, rfl⟩ := hasN_of d
      by_cases f : A (68 + 11 * t) < 10
      · refine ⟨(nI (A (68 + 11 * t) + 1), upd siz t (nI (A (68 + 11 * t) + 1)), upd tol (10 * t + A (68 + 11 * t)) (nI p), fnd), (nI (A (68 + 11 * t) + 1), toF (aTell A t p), fnd), ?_, ?_, rfl, ⟨aTell A t p, wf_aTell hw ht hp f, stk_aTell hw hs ht f, rfl⟩, hk, rfl, htp, hsh⟩
        · simp only [fX5_tell, hasT_eq (show A 2 < 2 ^ 31 by omega), c, if0t, hasP_eq (show A 1 < 2 ^ 31 by omega), d]
          rw [gdN (by omega) (by omega), nI_clamp (by omega), q1, if_pos (show nI (A (68 + 11 * t)) < 10 from nI_lt (b := 10) f (by omega)), X_addTold (by omega) f q1, Option.bind_some]
        · simp only [fX6_tell, M_isTale (show A 2 < 2 ^ 30 by omega), Option.bind_some, c, if0t, M_isPart (show A 1 < 2 ^ 30 by omega), d, M_long (A := A) (show t < 8 by omega)]
          rw [if_neg (show ¬ nI (A (68 + 11 * t)) = 10 from fun h => by have := (nI_eq (a := A (68 + 11 * t)) (b := 10) (by omega) (by omega)).mp h; omega), M_tells (by omega) f, Option.bind_some, M_long (by omega), Option.bind_some]
          have e : aTell A t p (68 + 11 * t) = A (68 + 11 * t) + 1 := by simp only [aTell, up_at]; rw [if_neg (by omega), if_true]
          rw [e]
      · refine ⟨((fn fnd 1).1, siz, tol, (fn fnd 1).2), ((fn fnd 1).1, toF A, (fn fnd 1).2), ?_, ?_, rfl, ⟨A, hw, hs, rfl⟩, hk, rfl, htp, hsh⟩
        · simp only [fX5_tell, hasT_eq (show A 2 < 2 ^ 31 by omega), c, if0t, hasP_eq (show A 1 < 2 ^ 31 by omega), d]
          rw [gdN (by omega) (by omega), nI_clamp (by omega), q1, if_neg (show ¬ nI (A (68 + 11 * t)) < 10 from nI_nlt (b := 10) (by omega) (by omega)), fo_1, Option.bind_some]
        · simp only [fX6_tell, M_isTale (show A 2 < 2 ^ 30 by omega), Option.bind_some, c, if0t, M_isPart (show A 1 < 2 ^ 30 by omega), d, M_long (A := A) (show t < 8 by omega)]
          rw [if_pos (show nI (A (68 + 11 * t)) = 10 from by rw [show A (68 + 11 * t) = 10 by omega]; rfl), no_1, Option.bind_some]
    · have d := nT d
      refine ⟨((fn fnd 0).1, siz, tol, (fn fnd 0).2), ((fn fnd 0).1, toF A, (fn fnd 0).2), ?_, ?_, rfl, ⟨A, hw, hs, rfl⟩, hk, rfl, htp, hsh⟩
      · simp only [fX5_tell, hasT_eq (show A 2 < 2 ^ 31 by omega), c, if0t, hasP_eq (show A 1 < 2 ^ 31 by omega), d, if0f, fX5_tell_b22, fo_0, Option.bind_some]
      · simp only [fX6_tell, M_isTale (show A 2 < 2 ^ 30 by omega), Option.bind_some, c, if0t, M_isPart (show A 1 < 2 ^ 30 by omega), d, if0f, fX6_tell_b16, no_0]
  · have c := nT c
    refine ⟨((fn fnd 0).1, siz, tol, (fn fnd 0).2), ((fn fnd 0).1, toF A, (fn fnd 0).2), ?_, ?_, rfl, ⟨A, hw, hs, rfl⟩, hk, rfl, htp, hsh⟩
    · simp only [fX5_tell, hasT_eq (show A 2 < 2 ^ 31 by omega), c, if0f, fX5_tell_b22, fo_0, Option.bind_some]
    · simp only [fX6_tell, M_isTale (show A 2 < 2 ^ 30 by omega), Option.bind_some, c, if0f, fX6_tell_b16, no_0]
set_option maxHeartbeats 4000000 in
theorem eq_cut {par : Int32} {kin lea mos wrt : Nat → Int32} {tal : Int32} {siz tol : Nat → Int32} {hrs : Int32} {ags : Nat → Int32} {yea kpar : Int32} {kkin klea kmos kwrt : Nat → Int32} {ktal : Int32} {ksiz ktol : Nat → Int32} {khrs : Int32} {kags : Nat → Int32} {kyea isk : Int32} {tly : Nat → Int64} {gai bes : Nat → Int32} {low hig : Nat → Int64} {spn : Int32} {byt : Nat → Int32} {hld sta beh sor num : Int32} {fnd sbi she : Nat → Int32} {snu : Nat → Nat → Int64} {msv mkep mbef : Nat → Int32} {misk : Int32} {mfnd : Nat → Int32} {mman mnex : Nat → Int64} {mwor msng mhea mlat mtap : Nat → Int32} {mtpd mher mflt mvlu : Int32} {mbit mlon : Nat → Int32} {mcel mbtw : Nat → Int64} (h : Rel par kin lea mos wrt tal siz tol hrs ags yea kpar kkin klea kmos kwrt ktal ksiz ktol khrs kags kyea isk tly gai bes low hig spn byt hld sta beh sor num fnd sbi she snu msv mkep mbef misk mfnd mman mnex mwor msng mhea mlat mtap mtpd mher mflt mvlu mbit mlon mcel mbtw) (x1 : Int32) : ∃ (rx : Int32 × (Nat → Int32) × (Nat → Int32)) (rm : Int32 × (Nat → Int32) × (Nat → Int32)), fX5_cut tal siz tol fnd x1 = some rx ∧ fX6_cut msv mfnd x1 = some rm ∧ rx.1 = rm.1 ∧ Rel par kin lea mos wrt tal rx.2.1 tol hrs ags yea kpar kkin klea kmos kwrt ktal ksiz ktol khrs kags kyea isk tly gai bes low hig spn byt hld sta beh sor num rx.2.2 sbi she snu rm.2.1 mkep mbef misk rm.2.2 mman mnex mwor msng mhea mlat mtap mtpd mher mflt mvlu mbit mlon mcel mbtw := by
  obtain ⟨⟨A, hw, hs, rfl⟩, hk, rfl, htp, hsh⟩ := h
  obtain ⟨hy, h1, h2, h3, hpp, htt, hhh⟩ := id hw
  obtain ⟨rfl, hsp, rfl, hst, rfl, hsa, rfl⟩ := id hs
  by_cases c : hasN (A 2) x1 = true
  · obtain ⟨t, ht, rfl⟩ := hasN_of c
    obtain ⟨g1, g2⟩ := htt t ht
    obtain ⟨q1, q2⟩ := hst t ht
    by_cases f : A (68 + 11 * t) = 0
    · refine ⟨((fn fnd 3).1, siz, (fn fnd 3).2), ((fn fnd 3).1, toF A, (fn fnd 3).2), ?_, ?_, rfl, ⟨A, hw, hs, rfl⟩, hk, rfl, htp, hsh⟩
      · simp only [fX5_cut, hasT_eq (show A 2 < 2 ^ 31 by omega), c, if0t]
        rw [gdN (by omega) (by omega), nI_clamp (by omega), q1, f, if_pos nI_0, fo_3, Option.bind_some]
      · simp only [fX6_cut, M_isTale (show A 2 < 2 ^ 30 by omega), Option.bind_some, c, if0t, M_long (A := A) (show t < 8 by omega)]
        rw [f, if_pos nI_0, no_3, Option.bind_some]
    · obtain ⟨n, hn⟩ : ∃ n, A (68 + 11 * t) = n + 1 := ⟨A (68 + 11 * t) - 1, by omega⟩
      refine ⟨(nI (A (69 + 11 * t + n)), upd siz t (nI n), fnd), (nI (A (69 + 11 * t + n)), toF (va_up A (68 + 11 * t) n), fnd), ?_, ?_, rfl, ⟨va_up A (68 + 11 * t) n, wf_cut hw ht (by omega), stk_cut hw hs ht (by omega), rfl⟩, hk, rfl, htp, hsh⟩
      · simp only [fX5_cut, hasT_eq (show A 2 < 2 ^ 31 by omega), c, if0t]
        rw [gdN (by omega) (by omega), nI_clamp (by omega), q1, if_neg (nI_ne0 (by omega) (by omega))]
        unfold fX3_dropTold
        rw [gdN (by omega) (by omega), gdN (by omega) (by omega), gdN (by omega) (by omega), nI_clamp (by omega), q1, hn, nI_pred]
        simp only [updI_at, if_true]
        rw [X_toldAt (by omega) (by omega), Option.bind_some, Option.bind_some, q2 n (by omega)]
      · simp only [fX6_cut, M_isTale (show A 2 < 2 ^ 30 by omega), Option.bind_some, c, if0t, M_long (A := A) (show t < 8 by omega)]
        rw [if_neg (nI_ne0 (by omega) (by omega)), e_tale, gdN (by omega) (by omega), gdN (by omega) (by omega), nI_clamp (by omega), toF_at, hn, nI_pred, upd_toF, M_long (by omega), Option.bind_some, va_up_self, M_nth (by omega) (by omega), Option.bind_some, va_up_ne _ _ (by omega)]
  · have c := nT c
    refine ⟨((fn fnd 0).1, siz, (fn fnd 0).2), ((fn fnd 0).1, toF A, (fn fnd 0).2), ?_, ?_, rfl, ⟨A, hw, hs, rfl⟩, hk, rfl, htp, hsh⟩
    · simp only [fX5_cut, hasT_eq (show A 2 < 2 ^ 31 by omega), c, if0f, fo_0, Option.bind_some]
    · simp only [fX6_cut, M_isTale (show A 2 < 2 ^ 30 by omega), Option.bind_some, c, if0f, no_0]

