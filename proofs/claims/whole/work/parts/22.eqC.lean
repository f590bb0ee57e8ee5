theorem partly1 (x : Int32) {b w : Nat} (hb : b ≤ 12) (hw : w ≤ 9) : fX6_isPartly x (nI b) (nI w) = fX5_isIn x 1 (nI b) := by
  rw [partly_eq, isIn_eq, isIn_eq, isIn_eq, isIn_eq, Bool.eq_iff_iff]
  simp only [Bool.and_eq_true, decide_eq_true_eq]
  rw [nI_toInt (by omega), nI_toInt (by omega), show (1 : Int32).toInt = 1 from rfl, show (12 : Int32).toInt = 12 from rfl, show (0 : Int32).toInt = 0 from rfl, show (9 : Int32).toInt = 9 from rfl]
  omega
theorem partly2 (x : Int32) {a w : Nat} (ha : 1 ≤ a) (hb : a ≤ 12) (hw : w ≤ 9) : fX6_isPartly (nI a) x (nI w) = fX5_isIn x (nI a) 12 := by
  rw [partly_eq, isIn_eq, isIn_eq, isIn_eq, Bool.eq_iff_iff]
  simp only [Bool.and_eq_true, decide_eq_true_eq]
  rw [nI_toInt (by omega), nI_toInt (by omega), show (1 : Int32).toInt = 1 from rfl, show (12 : Int32).toInt = 12 from rfl, show (0 : Int32).toInt = 0 from rfl, show (9 : Int32).toInt = 9 from rfl]
  omega
theorem partly3 (x : Int32) {a b : Nat} (ha : 1 ≤ a) (hab : a ≤ b) (hb : b ≤ 12) : fX6_isPartly (nI a) (nI b) x = fX5_isIn x 0 9 := by
  rw [partly_eq, show fX5_isIn (nI b) (nI a) 12 = true from isIn_nI (a := a) (b := 12) (n := b) (by omega) hab hb, show fX5_isIn (nI a) 1 12 = true from isIn_nI (a := 1) (b := 12) (n := a) (by omega) ha (by omega)]
  rfl
set_option maxHeartbeats 4000000 in
theorem eq_set {par : Int32} {kin lea mos wrt : Nat → Int32} {tal : Int32} {siz tol : Nat → Int32} {hrs : Int32} {ags : Nat → Int32} {yea kpar : Int32} {kkin klea kmos kwrt : Nat → Int32} {ktal : Int32} {ksiz ktol : Nat → Int32} {khrs : Int32} {kags : Nat → Int32} {kyea isk : Int32} {tly : Nat → Int64} {gai bes : Nat → Int32} {low hig : Nat → Int64} {spn : Int32} {byt : Nat → Int32} {hld sta beh sor num : Int32} {fnd sbi she : Nat → Int32} {snu : Nat → Nat → Int64} {msv mkep mbef : Nat → Int32} {misk : Int32} {mfnd : Nat → Int32} {mman mnex : Nat → Int64} {mwor msng mhea mlat mtap : Nat → Int32} {mtpd mher mflt mvlu : Int32} {mbit mlon : Nat → Int32} {mcel mbtw : Nat → Int64} (h : Rel par kin lea mos wrt tal siz tol hrs ags yea kpar kkin klea kmos kwrt ktal ksiz ktol khrs kags kyea isk tly gai bes low hig spn byt hld sta beh sor num fnd sbi she snu msv mkep mbef misk mfnd mman mnex mwor msng mhea mlat mtap mtpd mher mflt mvlu mbit mlon mcel mbtw) (x1 : Int32) (x2 : Int32) (x3 : Int32) : ∃ (rx : Int32 × (Nat → Int32) × (Nat → Int32) × (Nat → Int32) × (Nat → Int32)) (rm : Int32 × (Nat → Int32) × (Nat → Int32)), fX5_set par lea mos wrt fnd x1 x2 x3 = some rx ∧ fX6_set msv mfnd x1 x2 x3 = some rm ∧ rx.1 = rm.1 ∧ Rel par kin rx.2.1 rx.2.2.1 rx.2.2.2.1 tal siz tol hrs ags yea kpar kkin klea kmos kwrt ktal ksiz ktol khrs kags kyea isk tly gai bes low hig spn byt hld sta beh sor num rx.2.2.2.2 sbi she snu rm.2.1 mkep mbef misk rm.2.2 mman mnex mwor msng mhea mlat mtap mtpd mher mflt mvlu mbit mlon mcel mbtw := by
  obtain ⟨⟨A, hw, hs, rfl⟩, hk, rfl, htp, hsh⟩ := h
  obtain ⟨hy, h1, h2, h3, hpp, htt, hhh⟩ := id hw
  obtain ⟨rfl, hsp, rfl, hst, rfl, hsa, rfl⟩ := id hs
  by_cases c : hasN (A 1) x1 = true
  · obtain ⟨p, hp, rfl⟩ := hasN_of c
    have hp16 : p < 16 := by omega
    obtain ⟨g1, g2, g3, g4, g5⟩ := hpp p hp
    obtain ⟨s1, s2, s3, s4⟩ := hsp p hp
    by_cases d1 : x2 = 1
    · subst d1
      have hM : ∀ r, (if bI (fX5_isIn x3 1 (nI (A (6 + 4 * p)))) = 0 then some ((fn fnd 0).1, toF A, (fn fnd 0).2) else (fX6_puts (toF A) (nI (5 + 4 * p)) x3).bind fun q95 => some (q95.1, q95.2, fnd)) = r → fX6_set (toF A) fnd (nI p) 1 x3 = r := by
        intro r hr
        simp only [fX6_set, M_isPart (show A 1 < 2 ^ 30 by omega), c, if0t, show fX6_in 1 1 3 = true from rfl, if_true, fX6_set_b38]
        rw [if_neg (by decide), M_has2 hp16, Option.bind_some]
        unfold fX6_set_b55
        rw [if_neg (by decide), M_has3 hp16, Option.bind_some]
        unfold fX6_set_b72
        rw [partly1 x3 g4 g5, no_0, Option.bind_some, show ((4 : Int32) + (4 : Int32) * nI p) + 1 = nI (5 + 4 * p) from (e_has p 1).trans (by congr 1; omega)]
        exact hr
      by_cases d : fX5_isIn x3 1 (nI (A (6 + 4 * p))) = true
      · obtain ⟨v, hv, hv2, rfl⟩ := isIn_of (a := 1) (by omega) (by omega) d
        have u0 : va_up A (5 + 4 * p) v (4 + 4 * p) = A (4 + 4 * p) := va_up_ne _ _ (by omega)
        have u1 : va_up A (5 + 4 * p) v (5 + 4 * p) = v := va_up_self _ _ _
        have u2 : va_up A (5 + 4 * p) v (6 + 4 * p) = A (6 + 4 * p) := va_up_ne _ _ (by omega)
        have u3 : va_up A (5 + 4 * p) v (7 + 4 * p) = A (7 + 4 * p) := va_up_ne _ _ (by omega)
        refine ⟨(nI (A (5 + 4 * p)), upd lea p (nI v), mos, wrt, fnd), (nI (A (5 + 4 * p)), toF (va_up A (5 + 4 * p) v), fnd), ?_, hM _ ?_, rfl, ⟨va_up A (5 + 4 * p) v, wf_put hw hp (by omega) (by omega) (by rw [u0, u1, u2, u3]; exact ⟨g1, hv, hv2, g4, g5⟩), stk_put hw hs hp (by omega) (by omega) (fun q hq => ⟨rfl, by simp only [updI_at]; rw [if_neg hq], rfl, rfl⟩) (by rw [u0, u1, u2, u3]; exact ⟨s1, by simp only [updI_at, if_true], s3, s4⟩), rfl⟩, hk, rfl, htp, hsh⟩
        · simp only [fX5_set, hasP_eq (show A 1 < 2 ^ 31 by omega), c, if0t]
          rw [if_true, gdN hp16 (by omega), nI_clamp (by omega), s3, d, if0t]
          unfold fX5_swap_lea
          rw [gdN hp16 (by omega), gdN hp16 (by omega), nI_clamp (by omega), s2, Option.bind_some]
        · rw [d, if0t, M_puts (by omega), Option.bind_some]
      · have d := nT d
        refine ⟨((fn fnd 0).1, lea, mos, wrt, (fn fnd 0).2), ((fn fnd 0).1, toF A, (fn fnd 0).2), ?_, hM _ ?_, rfl, ⟨A, hw, hs, rfl⟩, hk, rfl, htp, hsh⟩
        · simp only [fX5_set, hasP_eq (show A 1 < 2 ^ 31 by omega), c, if0t]
          rw [if_true, gdN hp16 (by omega), nI_clamp (by omega), s3, d, if0f, fo_0, Option.bind_some]
        · rw [d, if0f]
    by_cases d2 : x2 = 2
    · subst d2
      have hM : ∀ r, (if bI (fX5_isIn x3 (nI (A (5 + 4 * p))) 12) = 0 then some ((fn fnd 0).1, toF A, (fn fnd 0).2) else (fX6_puts (toF A) (nI (6 + 4 * p)) x3).bind fun q95 => some (q95.1, q95.2, fnd)) = r → fX6_set (toF A) fnd (nI p) 2 x3 = r := by
        intro r hr
        simp only [fX6_set, M_isPart (show A 1 < 2 ^ 30 by omega), c, if0t, show fX6_in 2 1 3 = true from rfl]
        rw [if_neg (by decide), M_has1 hp16, Option.bind_some]
        unfold fX6_set_b38
        rw [if_pos rfl]
        unfold fX6_set_b55
        rw [if_neg (by decide), M_has3 hp16, Option.bind_some]
        unfold fX6_set_b72
        rw [partly2 x3 g2 (by omega) g5, no_0, Option.bind_some, show ((4 : Int32) + (4 : Int32) * nI p) + 2 = nI (6 + 4 * p) from (e_has p 2).trans (by congr 1; omega)]
        exact hr
      by_cases d : fX5_isIn x3 (nI (A (5 + 4 * p))) 12 = true
      · obtain ⟨v, hv, hv2, rfl⟩ := isIn_of (b := 12) (by omega) (by omega) d
        have u0 : va_up A (6 + 4 * p) v (4 + 4 * p) = A (4 + 4 * p) := va_up_ne _ _ (by omega)
        have u1 : va_up A (6 + 4 * p) v (5 + 4 * p) = A (5 + 4 * p) := va_up_ne _ _ (by omega)
        have u2 : va_up A (6 + 4 * p) v (6 + 4 * p) = v := va_up_self _ _ _
        have u3 : va_up A (6 + 4 * p) v (7 + 4 * p) = A (7 + 4 * p) := va_up_ne _ _ (by omega)
        refine ⟨(nI (A (6 + 4 * p)), lea, upd mos p (nI v), wrt, fnd), (nI (A (6 + 4 * p)), toF (va_up A (6 + 4 * p) v), fnd), ?_, hM _ ?_, rfl, ⟨va_up A (6 + 4 * p) v, wf_put hw hp (by omega) (by omega) (by rw [u0, u1, u2, u3]; exact ⟨g1, g2, hv, hv2, g5⟩), stk_put hw hs hp (by omega) (by omega) (fun q hq => ⟨rfl, rfl, by simp only [updI_at]; rw [if_neg hq], rfl⟩) (by rw [u0, u1, u2, u3]; exact ⟨s1, s2, by simp only [updI_at, if_true], s4⟩), rfl⟩, hk, rfl, htp, hsh⟩
        · simp only [fX5_set, hasP_eq (show A 1 < 2 ^ 31 by omega), c, if0t]
          rw [if_neg (by decide), if_true, gdN hp16 (by omega), nI_clamp (by omega), s2, d, if0t]
          unfold fX5_swap_mos
          rw [gdN hp16 (by omega), gdN hp16 (by omega), nI_clamp (by omega), s3, Option.bind_some]
        · rw [d, if0t, M_puts (by omega), Option.bind_some]
      · have d := nT d
        refine ⟨((fn fnd 0).1, lea, mos, wrt, (fn fnd 0).2), ((fn fnd 0).1, toF A, (fn fnd 0).2), ?_, hM _ ?_, rfl, ⟨A, hw, hs, rfl⟩, hk, rfl, htp, hsh⟩
        · simp only [fX5_set, hasP_eq (show A 1 < 2 ^ 31 by omega), c, if0t]
          rw [if_neg (by decide), if_true, gdN hp16 (by omega), nI_clamp (by omega), s2, d, if0f, fo_0, Option.bind_some]
        · rw [d, if0f]
    by_cases d3 : x2 = 3
    · subst d3
      have hM : ∀ r, (if bI (fX5_isIn x3 0 9) = 0 then some ((fn fnd 0).1, toF A, (fn fnd 0).2) else (fX6_puts (toF A) (nI (7 + 4 * p)) x3).bind fun q95 => some (q95.1, q95.2, fnd)) = r → fX6_set (toF A) fnd (nI p) 3 x3 = r := by
        intro r hr
        simp only [fX6_set, M_isPart (show A 1 < 2 ^ 30 by omega), c, if0t, show fX6_in 3 1 3 = true from rfl]
        rw [if_neg (by decide), M_has1 hp16, Option.bind_some]
        unfold fX6_set_b38
        rw [if_neg (by decide), M_has2 hp16, Option.bind_some]
        unfold fX6_set_b55
        rw [if_pos rfl]
        unfold fX6_set_b72
        rw [partly3 x3 g2 g3 g4, no_0, Option.bind_some, show ((4 : Int32) + (4 : Int32) * nI p) + 3 = nI (7 + 4 * p) from (e_has p 3).trans (by congr 1; omega)]
        exact hr
      by_cases d : fX5_isIn x3 0 9 = true
      · obtain ⟨v, hv, hv2, rfl⟩ := isIn_of (a := 0) (b := 9) (by omega) (by omega) d
        have u0 : va_up A (7 + 4 * p) v (4 + 4 * p) = A (4 + 4 * p) := va_up_ne _ _ (by omega)
        have u1 : va_up A (7 + 4 * p) v (5 + 4 * p) = A (5 + 4 * p) := va_up_ne _ _ (by omega)
        have u2 : va_up A (7 + 4 * p) v (6 + 4 * p) = A (6 + 4 * p) := va_up_ne _ _ (by omega)
        have u3 : va_up A (7 + 4 * p) v (7 + 4 * p) = v := va_up_self _ _ _
        refine ⟨(nI (A (7 + 4 * p)), lea, mos, upd wrt p (nI v), fnd), (nI (A (7 + 4 * p)), toF (va_up A (7 + 4 * p) v), fnd), ?_, hM _ ?_, rfl, ⟨va_up A (7 + 4 * p) v, wf_put hw hp (by omega) (by omega) (by rw [u0, u1, u2, u3]; exact ⟨g1, g2, g3, g4, hv2⟩), stk_put hw hs hp (by omega) (by omega) (fun q hq => ⟨rfl, rfl, rfl, by simp only [updI_at]; rw [if_neg hq]⟩) (by rw [u0, u1, u2, u3]; exact ⟨s1, s2, s3, by simp only [updI_at, if_true]⟩), rfl⟩, hk, rfl, htp, hsh⟩
        · simp only [fX5_set, hasP_eq (show A 1 < 2 ^ 31 by omega), c, if0t]
          rw [if_neg (by decide), if_neg (by decide), if_true, d, if0t]
          unfold fX5_swap_wrt
          rw [gdN hp16 (by omega), gdN hp16 (by omega), nI_clamp (by omega), s4, Option.bind_some]
        · rw [d, if0t, M_puts (by omega), Option.bind_some]
      · have d := nT d
        refine ⟨((fn fnd 0).1, lea, mos, wrt, (fn fnd 0).2), ((fn fnd 0).1, toF A, (fn fnd 0).2), ?_, hM _ ?_, rfl, ⟨A, hw, hs, rfl⟩, hk, rfl, htp, hsh⟩
        · simp only [fX5_set, hasP_eq (show A 1 < 2 ^ 31 by omega), c, if0t]
          rw [if_neg (by decide), if_neg (by decide), if_true, d, if0f, fo_0, Option.bind_some]
        · rw [d, if0f]
    · have d : fX6_in x2 1 3 = false := by
        apply nT
        intro h
        obtain ⟨v, h1, h2, rfl⟩ := isIn_of (a := 1) (b := 3) (by omega) (by omega) h
        rcases (show v = 1 ∨ v = 2 ∨ v = 3 by omega) with rfl | rfl | rfl
        · exact d1 rfl
        · exact d2 rfl
        · exact d3 rfl
      refine ⟨((fn fnd 0).1, lea, mos, wrt, (fn fnd 0).2), ((fn fnd 0).1, toF A, (fn fnd 0).2), ?_, ?_, rfl, ⟨A, hw, hs, rfl⟩, hk, rfl, htp, hsh⟩
      · simp only [fX5_set, hasP_eq (show A 1 < 2 ^ 31 by omega), c, if0t]
        rw [if_neg d1, if_neg d2, if_neg d3, fo_0, Option.bind_some]
      · simp only [fX6_set, M_isPart (show A 1 < 2 ^ 30 by omega), c, if0t, d, if0f, fX6_set_b17, no_0, Option.bind_some]
  · have c := nT c
    refine ⟨((fn fnd 0).1, lea, mos, wrt, (fn fnd 0).2), ((fn fnd 0).1, toF A, (fn fnd 0).2), ?_, ?_, rfl, ⟨A, hw, hs, rfl⟩, hk, rfl, htp, hsh⟩
    · simp only [fX5_set, hasP_eq (show A 1 < 2 ^ 31 by omega), c, if0f, fo_0, Option.bind_some]
    · simp only [fX6_set, M_isPart (show A 1 < 2 ^ 30 by omega), c, if0f, fX6_set_b17, no_0, Option.bind_some]

