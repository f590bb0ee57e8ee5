theorem if0t {α : Type} {x y : α} : (if bI true = 0 then x else y) = y := rfl
theorem if0f {α : Type} {x y : α} : (if bI false = 0 then x else y) = x := rfl
theorem nT {b : Bool} (h : ¬ b = true) : b = false := by cases b <;> simp_all
theorem stk_fn {A : Nat → Nat} (h : A 1 ≤ 16) : A 1 < 2 ^ 30 := by omega
set_option maxHeartbeats 4000000 in
theorem eq_size {par : Int32} {kin lea mos wrt : Nat → Int32} {tal : Int32} {siz tol : Nat → Int32} {hrs : Int32} {ags : Nat → Int32} {yea kpar : Int32} {kkin klea kmos kwrt : Nat → Int32} {ktal : Int32} {ksiz ktol : Nat → Int32} {khrs : Int32} {kags : Nat → Int32} {kyea isk : Int32} {tly : Nat → Int64} {gai bes : Nat → Int32} {low hig : Nat → Int64} {spn : Int32} {byt : Nat → Int32} {hld sta beh sor num : Int32} {fnd sbi she : Nat → Int32} {snu : Nat → Nat → Int64} {msv mkep mbef : Nat → Int32} {misk : Int32} {mfnd : Nat → Int32} {mman mnex : Nat → Int64} {mwor msng mhea mlat mtap : Nat → Int32} {mtpd mher mflt mvlu : Int32} {mbit mlon : Nat → Int32} {mcel mbtw : Nat → Int64} (h : Rel par kin lea mos wrt tal siz tol hrs ags yea kpar kkin klea kmos kwrt ktal ksiz ktol khrs kags kyea isk tly gai bes low hig spn byt hld sta beh sor num fnd sbi she snu msv mkep mbef misk mfnd mman mnex mwor msng mhea mlat mtap mtpd mher mflt mvlu mbit mlon mcel mbtw) (x1 : Int32) : ∃ (rx : Int32 × (Nat → Int32)) (rm : Int32 × (Nat → Int32)), fX5_size tal siz fnd x1 = some rx ∧ fX6_size msv mfnd x1 = some rm ∧ rx.1 = rm.1 ∧ Rel par kin lea mos wrt tal siz tol hrs ags yea kpar kkin klea kmos kwrt ktal ksiz ktol khrs kags kyea isk tly gai bes low hig spn byt hld sta beh sor num rx.2 sbi she snu msv mkep mbef misk rm.2 mman mnex mwor msng mhea mlat mtap mtpd mher mflt mvlu mbit mlon mcel mbtw := by
  obtain ⟨⟨A, hw, hs, rfl⟩, hk, rfl, htp, hsh⟩ := h
  obtain ⟨hy, h1, h2, h3, hpp, htt, hhh⟩ := id hw
  obtain ⟨rfl, hsp, rfl, hst, rfl, hsa, rfl⟩ := id hs
  by_cases c : hasN (A 2) x1 = true
  · obtain ⟨t, ht, rfl⟩ := hasN_of c
    refine ⟨(nI (A (68 + 11 * t)), fnd), (nI (A (68 + 11 * t)), fnd), ?_, ?_, rfl, ⟨A, hw, hs, rfl⟩, hk, rfl, htp, hsh⟩
    · simp only [fX5_size, hasT_eq (show A 2 < 2 ^ 31 by omega), c, if0t]
      rw [gdN (by omega) (by omega), nI_clamp (by omega), (hst t ht).1]
    · simp only [fX6_size, M_isTale (show A 2 < 2 ^ 30 by omega), Option.bind_some, c, if0t, M_long (show t < 8 by omega)]
  · have c := nT c
    refine ⟨fn fnd 0, fn fnd 0, ?_, ?_, rfl, ⟨A, hw, hs, rfl⟩, hk, rfl, htp, hsh⟩
    · simp only [fX5_size, hasT_eq (show A 2 < 2 ^ 31 by omega), c, if0f, fo_0, Option.bind_some]
    · simp only [fX6_size, M_isTale (show A 2 < 2 ^ 30 by omega), Option.bind_some, c, if0f, no_0]
set_option maxHeartbeats 4000000 in
theorem eq_ageOf {par : Int32} {kin lea mos wrt : Nat → Int32} {tal : Int32} {siz tol : Nat → Int32} {hrs : Int32} {ags : Nat → Int32} {yea kpar : Int32} {kkin klea kmos kwrt : Nat → Int32} {ktal : Int32} {ksiz ktol : Nat → Int32} {khrs : Int32} {kags : Nat → Int32} {kyea isk : Int32} {tly : Nat → Int64} {gai bes : Nat → Int32} {low hig : Nat → Int64} {spn : Int32} {byt : Nat → Int32} {hld sta beh sor num : Int32} {fnd sbi she : Nat → Int32} {snu : Nat → Nat → Int64} {msv mkep mbef : Nat → Int32} {misk : Int32} {mfnd : Nat → Int32} {mman mnex : Nat → Int64} {mwor msng mhea mlat mtap : Nat → Int32} {mtpd mher mflt mvlu : Int32} {mbit mlon : Nat → Int32} {mcel mbtw : Nat → Int64} (h : Rel par kin lea mos wrt tal siz tol hrs ags yea kpar kkin klea kmos kwrt ktal ksiz ktol khrs kags kyea isk tly gai bes low hig spn byt hld sta beh sor num fnd sbi she snu msv mkep mbef misk mfnd mman mnex mwor msng mhea mlat mtap mtpd mher mflt mvlu mbit mlon mcel mbtw) (x1 : Int32) : ∃ (rx : Int32 × (Nat → Int32)) (rm : Int32 × (Nat → Int32)), fX5_ageOf hrs ags fnd x1 = some rx ∧ fX6_ageOf msv mfnd x1 = some rm ∧ rx.1 = rm.1 ∧ Rel par kin lea mos wrt tal siz tol hrs ags yea kpar kkin klea kmos kwrt ktal ksiz ktol khrs kags kyea isk tly gai bes low hig spn byt hld sta beh sor num rx.2 sbi she snu msv mkep mbef misk rm.2 mman mnex mwor msng mhea mlat mtap mtpd mher mflt mvlu mbit mlon mcel mbtw := by
  obtain ⟨⟨A, hw, hs, rfl⟩, hk, rfl, htp, hsh⟩ := h
  obtain ⟨hy, h1, h2, h3, hpp, htt, hhh⟩ := id hw
  obtain ⟨rfl, hsp, rfl, hst, rfl, hsa, rfl⟩ := id hs
  by_cases c : hasN (A 3) x1 = true
  · obtain ⟨t, ht, rfl⟩ := hasN_of c
    refine ⟨(nI (A (156 + t)), fnd), (nI (A (156 + t)), fnd), ?_, ?_, rfl, ⟨A, hw, hs, rfl⟩, hk, rfl, htp, hsh⟩
    · simp only [fX5_ageOf, hasH_eq (show A 3 < 2 ^ 31 by omega), c, if0t]
      rw [gdN (by omega) (by omega), nI_clamp (by omega), hsa t ht]
    · simp only [fX6_ageOf, M_isHearer (show A 3 < 2 ^ 30 by omega), Option.bind_some, c, if0t, e_age]
      rw [gdN (by omega) (by omega), nI_clamp (by omega), toF_at]
  · have c := nT c
    refine ⟨fn fnd 0, fn fnd 0, ?_, ?_, rfl, ⟨A, hw, hs, rfl⟩, hk, rfl, htp, hsh⟩
    · simp only [fX5_ageOf, hasH_eq (show A 3 < 2 ^ 31 by omega), c, if0f, fo_0, Option.bind_some]
    · simp only [fX6_ageOf, M_isHearer (show A 3 < 2 ^ 30 by omega), Option.bind_some, c, if0f, no_0]

