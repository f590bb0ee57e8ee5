/-- the longest beginning of at most k parts that is Q -/
def cm (Q : Nat → Bool) : Nat → Nat
  | 0 => 0
  | k + 1 => if Q (k + 1) = true then k + 1 else cm Q k
theorem cm_le (Q : Nat → Bool) : ∀ k, cm Q k ≤ k
  | 0 => Nat.le_refl 0
  | k + 1 => by
    have := cm_le Q k
    rw [cm]
    split <;> omega
/-- what of k parts of tale t comes to one of age a -/
def cp (A : Nat → Nat) (t k a : Nat) : Nat := cm (fun j => rc (LA A t) j a) k
theorem cp_le (A : Nat → Nat) (t k a : Nat) : cp A t k a ≤ k := cm_le _ k
theorem X_comes {A : Nat → Nat} {t k a : Nat} {low hig : Nat → Int64} (h10 : A (68 + 11 * t) ≤ 10) (hk : k ≤ A (68 + 11 * t)) (ha : a ≤ 120) (h : spA A t low hig) : fX1_comesOf low hig (nI k) (nI a) = some (nI (cp A t k a)) := by
  unfold fX1_comesOf
  refine up1 k (fun i x3 => i ≤ k ∧ x3 = nI (k - i) ∧ cp A t k a = cp A t (k - i) a) ?_ ?_ 2000 0 _ (by omega) (by omega) ⟨Nat.zero_le _, rfl, rfl⟩
  · rintro K x3 ⟨h1, rfl, h2⟩
    unfold fX1_comesOf_l2
    rw [Nat.sub_self] at h2 ⊢
    rw [if_pos (by decide), h2]
    rfl
  · rintro K i x3 hi ⟨h1, rfl, h2⟩
    obtain ⟨m, hm⟩ : ∃ m, k - i = m + 1 := ⟨k - i - 1, by omega⟩
    rw [hm] at h2 ⊢
    have e0 : fX1_comesOf_l2 low hig (nI a) K (nI (m + 1)) = if bI (rc (LA A t) (m + 1) a) = 0 then K (nI m) else some (nI (m + 1)) := by
      unfold fX1_comesOf_l2
      rw [if_neg (nI_nle (by omega) (by omega)), X_isSpanned h10 (by omega) ha h, Option.bind_some, pk_m1]
    rw [e0, h2]
    by_cases c : rc (LA A t) (m + 1) a = true
    · left
      rw [c, if0t]
      show _ = some (nI (cm _ (m + 1)))
      rw [cm, if_pos c]
    · right
      refine ⟨nI m, ?_, by omega, by rw [show k - (i + 1) = m by omega], ?_⟩
      · rw [nT c, if0f]
      · rw [show k - (i + 1) = m by omega]
        show cm _ (m + 1) = cm _ m
        rw [cm, if_neg c]
theorem M_passed {A : Nat → Nat} (hw : wfA A) {t k h : Nat} (ht : t < A 2) (hk : k ≤ A (68 + 11 * t)) (hh : h < A 3) (man nex : Nat → Int64) : ∃ man' nex', fX6_passed (toF A) man nex (nI t) (nI k) (nI h) = some (nI (cp A t k (A (156 + h))), man', nex') := by
  have h10 := (hw.2.2.2.2.2.1 t ht).1
  have ha := hw.2.2.2.2.2.2 h hh
  have h3 := hw.2.2.2.1
  unfold fX6_passed
  refine uq3 (fun o => ∃ (man' nex' : Nat → Int64), o = some (nI (cp A t k (A (156 + h))), man', nex')) k (fun i x4 (m n : Nat → Int64) => i ≤ k ∧ x4 = nI (k - i) ∧ cp A t k (A (156 + h)) = cp A t (k - i) (A (156 + h))) ?_ ?_ 2000 0 _ _ _ (by omega) (by omega) ⟨Nat.zero_le _, rfl, rfl⟩
  · rintro K x4 m2 n2 ⟨h1, rfl, h2⟩
    unfold fX6_passed_l3
    rw [Nat.sub_self] at h2 ⊢
    rw [if_pos (by decide), h2]
    exact ⟨m2, n2, rfl⟩
  · rintro K i x4 m2 n2 hi ⟨h1, rfl, h2⟩
    obtain ⟨m, hm⟩ : ∃ m, k - i = m + 1 := ⟨k - i - 1, by omega⟩
    rw [hm] at h2 ⊢
    obtain ⟨m3, n3, em⟩ := M_canBe hw ht (show m + 1 ≤ A (68 + 11 * t) by omega) (show A (156 + h) ≤ 120 by omega) m2 n2
    have e0 : fX6_passed_l3 (toF A) (nI t) (nI h) K (nI (m + 1)) m2 n2 = if bI (rc (LA A t) (m + 1) (A (156 + h))) = 0 then K (nI m) m3 n3 else some (nI (m + 1), m3, n3) := by
      unfold fX6_passed_l3
      rw [if_neg (nI_nle (by omega) (by omega)), e_age, gdN (by omega) (by omega), nI_clamp (show 156 + h < 2 ^ 31 by omega), toF_at, em, Option.bind_some, pk_m1]
    rw [e0, h2]
    by_cases c : rc (LA A t) (m + 1) (A (156 + h)) = true
    · left
      rw [c, if0t]
      refine ⟨m3, n3, ?_⟩
      show _ = some (nI (cm _ (m + 1)), m3, n3)
      rw [cm, if_pos c]
    · right
      refine ⟨nI m, m3, n3, ?_, by omega, by rw [show k - (i + 1) = m by omega], ?_⟩
      · rw [nT c, if0f]
      · rw [show k - (i + 1) = m by omega]
        show cm _ (m + 1) = cm _ m
        rw [cm, if_neg c]
set_option maxHeartbeats 4000000 in
theorem eq_pass {par : Int32} {kin lea mos wrt : Nat → Int32} {tal : Int32} {siz tol : Nat → Int32} {hrs : Int32} {ags : Nat → Int32} {yea kpar : Int32} {kkin klea kmos kwrt : Nat → Int32} {ktal : Int32} {ksiz ktol : Nat → Int32} {khrs : Int32} {kags : Nat → Int32} {kyea isk : Int32} {tly : Nat → Int64} {gai bes : Nat → Int32} {low hig : Nat → Int64} {spn : Int32} {byt : Nat → Int32} {hld sta beh sor num : Int32} {fnd sbi she : Nat → Int32} {snu : Nat → Nat → Int64} {msv mkep mbef : Nat → Int32} {misk : Int32} {mfnd : Nat → Int32} {mman mnex : Nat → Int64} {mwor msng mhea mlat mtap : Nat → Int32} {mtpd mher mflt mvlu : Int32} {mbit mlon : Nat → Int32} {mcel mbtw : Nat → Int64} (h : Rel par kin lea mos wrt tal siz tol hrs ags yea kpar kkin klea kmos kwrt ktal ksiz ktol khrs kags kyea isk tly gai bes low hig spn byt hld sta beh sor num fnd sbi she snu msv mkep mbef misk mfnd mman mnex mwor msng mhea mlat mtap mtpd mher mflt mvlu mbit mlon mcel mbtw) (x1 : Int32) (x2 : Int32) : ∃ (rx : Int32 × (Nat → Int64) × (Nat → Int64) × Int32 × (Nat → Int32)) (rm : Int32 × (Nat → Int32) × (Nat → Int64) × (Nat → Int64)), fX5_pass kin lea mos tal siz tol hrs ags low hig spn fnd x1 x2 = some rx ∧ fX6_pass msv mfnd mman mnex x1 x2 = some rm ∧ rx.1 = rm.1 ∧ Rel par kin lea mos wrt tal siz tol hrs ags yea kpar kkin klea kmos kwrt ktal ksiz ktol khrs kags kyea isk tly gai bes rx.2.1 rx.2.2.1 rx.2.2.2.1 byt hld sta beh sor num rx.2.2.2.2 sbi she snu msv mkep mbef misk rm.2.1 rm.2.2.1 rm.2.2.2 mwor msng mhea mlat mtap mtpd mher mflt mvlu mbit mlon mcel mbtw := by
  obtain ⟨⟨A, hw, hs, rfl⟩, hk, rfl, htp, hsh⟩ := h
  obtain ⟨hy, h1, h2, h3, hpp, htt, hhh⟩ := id hw
  obtain ⟨rfl, hsp, rfl, hst, rfl, hsa, rfl⟩ := id hs
  by_cases c : hasN (A 2) x1 = true
  · obtain ⟨t, ht, rfl⟩ := hasN_of c
    by_cases d : hasN (A 3) x2 = true
    · obtain ⟨h, hh, rfl⟩ := hasN_of d
      have h10 := (htt t ht).1
      have ha := hhh h hh
      obtain ⟨lo, hi, X1, hsp2⟩ := X_spanWords hw hs ht low hig spn
      obtain ⟨m2, n2, M1⟩ := M_passed hw ht (Nat.le_refl _) hh mman mnex
      refine ⟨(nI (cp A t (A (68 + 11 * t)) (A (156 + h))), lo, hi, nI (A (68 + 11 * t)), fnd), (nI (cp A t (A (68 + 11 * t)) (A (156 + h))), fnd, m2, n2), ?_, ?_, rfl, ⟨A, hw, hs, rfl⟩, hk, rfl, htp, hsh⟩
      · simp only [fX5_pass, hasT_eq (show A 2 < 2 ^ 31 by omega), c, if0t, hasH_eq (show A 3 < 2 ^ 31 by omega), d, X1, Option.bind_some]
        rw [gdN (by omega) (by omega), gdN (by omega) (by omega), nI_clamp (show t < 2 ^ 31 by omega), nI_clamp (show h < 2 ^ 31 by omega), (hst t ht).1, hsa h hh, X_comes h10 (Nat.le_refl _) (by omega) hsp2, Option.bind_some]
      · simp only [fX6_pass, M_areTold (show A 2 < 2 ^ 30 by omega) (show A 3 < 2 ^ 30 by omega), Option.bind_some, c, d, Bool.and_self, if0t, M_long (A := A) (show t < 8 by omega), M1]
    · have d := nT d
      refine ⟨((fn fnd 0).1, low, hig, spn, (fn fnd 0).2), ((fn fnd 0).1, (fn fnd 0).2, mman, mnex), ?_, ?_, rfl, ⟨A, hw, hs, rfl⟩, hk, rfl, htp, hsh⟩
      · simp only [fX5_pass, hasT_eq (show A 2 < 2 ^ 31 by omega), c, if0t, hasH_eq (show A 3 < 2 ^ 31 by omega), d, if0f, fX5_pass_b22, fo_0, Option.bind_some]
      · simp only [fX6_pass, M_areTold (show A 2 < 2 ^ 30 by omega) (show A 3 < 2 ^ 30 by omega), Option.bind_some, c, d, Bool.true_and, if0f, no_0]
  · have c := nT c
    refine ⟨((fn fnd 0).1, low, hig, spn, (fn fnd 0).2), ((fn fnd 0).1, (fn fnd 0).2, mman, mnex), ?_, ?_, rfl, ⟨A, hw, hs, rfl⟩, hk, rfl, htp, hsh⟩
    · simp only [fX5_pass, hasT_eq (show A 2 < 2 ^ 31 by omega), c, if0f, fX5_pass_b22, fo_0, Option.bind_some]
    · simp only [fX6_pass, M_areTold (show A 2 < 2 ^ 30 by omega) (show A 3 < 2 ^ 30 by omega), Option.bind_some, c, Bool.false_and, if0f, no_0]
set_option maxHeartbeats 4000000 in
theorem eq_through {par : Int32} {kin lea mos wrt : Nat → Int32} {tal : Int32} {siz tol : Nat → Int32} {hrs : Int32} {ags : Nat → Int32} {yea kpar : Int32} {kkin klea kmos kwrt : Nat → Int32} {ktal : Int32} {ksiz ktol : Nat → Int32} {khrs : Int32} {kags : Nat → Int32} {kyea isk : Int32} {tly : Nat → Int64} {gai bes : Nat → Int32} {low hig : Nat → Int64} {spn : Int32} {byt : Nat → Int32} {hld sta beh sor num : Int32} {fnd sbi she : Nat → Int32} {snu : Nat → Nat → Int64} {msv mkep mbef : Nat → Int32} {misk : Int32} {mfnd : Nat → Int32} {mman mnex : Nat → Int64} {mwor msng mhea mlat mtap : Nat → Int32} {mtpd mher mflt mvlu : Int32} {mbit mlon : Nat → Int32} {mcel mbtw : Nat → Int64} (h : Rel par kin lea mos wrt tal siz tol hrs ags yea kpar kkin klea kmos kwrt ktal ksiz ktol khrs kags kyea isk tly gai bes low hig spn byt hld sta beh sor num fnd sbi she snu msv mkep mbef misk mfnd mman mnex mwor msng mhea mlat mtap mtpd mher mflt mvlu mbit mlon mcel mbtw) (x1 : Int32) (x2 : Int32) (x3 : Int32) : ∃ (rx : Int32 × (Nat → Int64) × (Nat → Int64) × Int32 × (Nat → Int32)) (rm : Int32 × (Nat → Int32) × (Nat → Int64) × (Nat → Int64)), fX5_through kin lea mos tal siz tol hrs ags low hig spn fnd x1 x2 x3 = some rx ∧ fX6_through msv mfnd mman mnex x1 x2 x3 = some rm ∧ rx.1 = rm.1 ∧ Rel par kin lea mos wrt tal siz tol hrs ags yea kpar kkin klea kmos kwrt ktal ksiz ktol khrs kags kyea isk tly gai bes rx.2.1 rx.2.2.1 rx.2.2.2.1 byt hld sta beh sor num rx.2.2.2.2 sbi she snu msv mkep mbef misk rm.2.1 rm.2.2.1 rm.2.2.2 mwor msng mhea mlat mtap mtpd mher mflt mvlu mbit mlon mcel mbtw := by
  obtain ⟨⟨A, hw, hs, rfl⟩, hk, rfl, htp, hsh⟩ := h
  obtain ⟨hy, h1, h2, h3, hpp, htt, hhh⟩ := id hw
  obtain ⟨rfl, hsp, rfl, hst, rfl, hsa, rfl⟩ := id hs
  by_cases c : hasN (A 2) x1 = true
  · obtain ⟨t, ht, rfl⟩ := hasN_of c
    by_cases d : hasN (A 3) x2 = true
    · obtain ⟨h, hh, rfl⟩ := hasN_of d
      by_cases f : hasN (A 3) x3 = true
      · obtain ⟨g, hg, rfl⟩ := hasN_of f
        have h10 := (htt t ht).1
        have ha := hhh h hh
        have ha2 := hhh g hg
        obtain ⟨lo, hi, X1, hsp2⟩ := X_spanWords hw hs ht low hig spn
        have hle := cp_le A t (A (68 + 11 * t)) (A (156 + h))
        obtain ⟨m2, n2, M1⟩ := M_passed hw ht (Nat.le_refl _) hh mman mnex
        obtain ⟨m3, n3, M2⟩ := M_passed hw ht hle hg m2 n2
        refine ⟨(nI (cp A t (cp A t (A (68 + 11 * t)) (A (156 + h))) (A (156 + g))), lo, hi, nI (A (68 + 11 * t)), fnd), (nI (cp A t (cp A t (A (68 + 11 * t)) (A (156 + h))) (A (156 + g))), fnd, m3, n3), ?_, ?_, rfl, ⟨A, hw, hs, rfl⟩, hk, rfl, htp, hsh⟩
        · simp only [fX5_through, hasT_eq (show A 2 < 2 ^ 31 by omega), c, if0t, hasH_eq (show A 3 < 2 ^ 31 by omega), d, f, X1, Option.bind_some]
          rw [gdN (by omega) (by omega), gdN (by omega) (by omega), nI_clamp (show t < 2 ^ 31 by omega), nI_clamp (show h < 2 ^ 31 by omega), (hst t ht).1, hsa h hh, X_comes h10 (Nat.le_refl _) (by omega) hsp2, Option.bind_some, gdN (by omega) (by omega), nI_clamp (show g < 2 ^ 31 by omega), hsa g hg, X_comes h10 hle (by omega) hsp2, Option.bind_some]
        · simp only [fX6_through, M_areTold (show A 2 < 2 ^ 30 by omega) (show A 3 < 2 ^ 30 by omega), M_isHearer (show A 3 < 2 ^ 30 by omega), Option.bind_some, c, d, f, Bool.and_self, if0t, M_long (A := A) (show t < 8 by omega), M1, M2]
      · have f := nT f
        refine ⟨((fn fnd 0).1, low, hig, spn, (fn fnd 0).2), ((fn fnd 0).1, (fn fnd 0).2, mman, mnex), ?_, ?_, rfl, ⟨A, hw, hs, rfl⟩, hk, rfl, htp, hsh⟩
        · simp only [fX5_through, hasT_eq (show A 2 < 2 ^ 31 by omega), c, if0t, hasH_eq (show A 3 < 2 ^ 31 by omega), d, f, if0f, fX5_through_b33, fo_0, Option.bind_some]
        · simp only [fX6_through, M_areTold (show A 2 < 2 ^ 30 by omega) (show A 3 < 2 ^ 30 by omega), M_isHearer (show A 3 < 2 ^ 30 by omega), Option.bind_some, c, d, f, Bool.and_self, if0t, if0f, fX6_through_b17, no_0]
    · have d := nT d
      refine ⟨((fn fnd 0).1, low, hig, spn, (fn fnd 0).2), ((fn fnd 0).1, (fn fnd 0).2, mman, mnex), ?_, ?_, rfl, ⟨A, hw, hs, rfl⟩, hk, rfl, htp, hsh⟩
      · simp only [fX5_through, hasT_eq (show A 2 < 2 ^ 31 by omega), c, if0t, hasH_eq (show A 3 < 2 ^ 31 by omega), d, if0f, fX5_through_b33, fo_0, Option.bind_some]
      · simp only [fX6_through, M_areTold (show A 2 < 2 ^ 30 by omega) (show A 3 < 2 ^ 30 by omega), Option.bind_some, c, d, Bool.true_and, if0f, fX6_through_b17, no_0]
  · have c := nT c
    refine ⟨((fn fnd 0).1, low, hig, spn, (fn fnd 0).2), ((fn fnd 0).1, (fn fnd 0).2, mman, mnex), ?_, ?_, rfl, ⟨A, hw, hs, rfl⟩, hk, rfl, htp, hsh⟩
    · simp only [fX5_through, hasT_eq (show A 2 < 2 ^ 31 by omega), c, if0f, fX5_through_b33, fo_0, Option.bind_some]
    · simp only [fX6_through, M_areTold (show A 2 < 2 ^ 30 by omega) (show A 3 < 2 ^ 30 by omega), Option.bind_some, c, Bool.false_and, if0f, fX6_through_b17, no_0]
/-- the tale t as it comes from the first h hearers -/
def ch (A : Nat → Nat) (t : Nat) : Nat → Nat
  | 0 => A (68 + 11 * t)
  | h + 1 => cp A t (ch A t h) (A (156 + h))
theorem ch_le (A : Nat → Nat) (t : Nat) : ∀ h, ch A t h ≤ A (68 + 11 * t)
  | 0 => Nat.le_refl _
  | h + 1 => Nat.le_trans (cp_le A t _ _) (ch_le A t h)
set_option maxHeartbeats 4000000 in
theorem eq_chain {par : Int32} {kin lea mos wrt : Nat → Int32} {tal : Int32} {siz tol : Nat → Int32} {hrs : Int32} {ags : Nat → Int32} {yea kpar : Int32} {kkin klea kmos kwrt : Nat → Int32} {ktal : Int32} {ksiz ktol : Nat → Int32} {khrs : Int32} {kags : Nat → Int32} {kyea isk : Int32} {tly : Nat → Int64} {gai bes : Nat → Int32} {low hig : Nat → Int64} {spn : Int32} {byt : Nat → Int32} {hld sta beh sor num : Int32} {fnd sbi she : Nat → Int32} {snu : Nat → Nat → Int64} {msv mkep mbef : Nat → Int32} {misk : Int32} {mfnd : Nat → Int32} {mman mnex : Nat → Int64} {mwor msng mhea mlat mtap : Nat → Int32} {mtpd mher mflt mvlu : Int32} {mbit mlon : Nat → Int32} {mcel mbtw : Nat → Int64} (h : Rel par kin lea mos wrt tal siz tol hrs ags yea kpar kkin klea kmos kwrt ktal ksiz ktol khrs kags kyea isk tly gai bes low hig spn byt hld sta beh sor num fnd sbi she snu msv mkep mbef misk mfnd mman mnex mwor msng mhea mlat mtap mtpd mher mflt mvlu mbit mlon mcel mbtw) (x1 : Int32) : ∃ (rx : Int32 × (Nat → Int64) × (Nat → Int64) × Int32 × (Nat → Int32)) (rm : Int32 × (Nat → Int32) × (Nat → Int64) × (Nat → Int64)), fX5_chain kin lea mos tal siz tol hrs ags low hig spn fnd x1 = some rx ∧ fX6_chain msv mfnd mman mnex x1 = some rm ∧ rx.1 = rm.1 ∧ Rel par kin lea mos wrt tal siz tol hrs ags yea kpar kkin klea kmos kwrt ktal ksiz ktol khrs kags kyea isk tly gai bes rx.2.1 rx.2.2.1 rx.2.2.2.1 byt hld sta beh sor num rx.2.2.2.2 sbi she snu msv mkep mbef misk rm.2.1 rm.2.2.1 rm.2.2.2 mwor msng mhea mlat mtap mtpd mher mflt mvlu mbit mlon mcel mbtw := by
  obtain ⟨⟨A, hw, hs, rfl⟩, hk, rfl, htp, hsh⟩ := h
  obtain ⟨hy, h1, h2, h3, hpp, htt, hhh⟩ := id hw
  obtain ⟨rfl, hsp, rfl, hst, rfl, hsa, rfl⟩ := id hs
  by_cases c : hasN (A 2) x1 = true
  · obtain ⟨t, ht, rfl⟩ := hasN_of c
    by_cases d : A 3 = 0
    · refine ⟨((fn fnd 3).1, low, hig, spn, (fn fnd 3).2), ((fn fnd 3).1, (fn fnd 3).2, mman, mnex), ?_, ?_, rfl, ⟨A, hw, hs, rfl⟩, hk, rfl, htp, hsh⟩
      · simp only [fX5_chain, hasT_eq (show A 2 < 2 ^ 31 by omega), c, if0t]
        rw [if_pos (show nI (A 3) = 0 by rw [d]; rfl), fo_3, Option.bind_some]
      · simp only [fX6_chain, M_isTale (show A 2 < 2 ^ 30 by omega), Option.bind_some, c, if0t]
        rw [if_pos (show toF A (3 : Int32).toNatClampNeg = 0 by show nI (A 3) = 0; rw [d]; rfl), no_3, Option.bind_some]
    · have h10 := (htt t ht).1
      obtain ⟨lo, hi, X1, hsp2⟩ := X_spanWords hw hs ht low hig spn
      have X2 : fix2 (fX5_chain_l55 (nI (A 3)) ags lo hi (nI (A (68 + 11 * t))) fnd) 2000 (nI (A (68 + 11 * t))) 0 = some (nI (ch A t (A 3)), lo, hi, nI (A (68 + 11 * t)), fnd) := by
        refine up2 (A 3) (fun i x2 x3 => x2 = nI (ch A t i) ∧ x3 = nI i) ?_ ?_ 2000 0 _ _ (by omega) (by omega) ⟨rfl, rfl⟩
        · rintro K x2 x3 ⟨rfl, rfl⟩
          unfold fX5_chain_l55
          rw [if_pos (nI_le (Nat.le_refl _) (by omega))]
        · rintro K i x2 x3 hi2 ⟨rfl, rfl⟩
          right
          have ha := hhh i hi2
          refine ⟨_, nI (i + 1), ?_, rfl, rfl⟩
          unfold fX5_chain_l55
          rw [if_neg (nI_ge hi2 (by omega)), gdN (by omega) (by omega), nI_clamp (by omega), hsa i hi2, X_comes h10 (ch_le A t i) (by omega) hsp2, Option.bind_some, nI_1]
          rfl
      have M2 : ∃ m2 n2, fix4 (fX6_chain_l37 (toF A) fnd (nI t)) 2000 (nI (A (68 + 11 * t))) 0 mman mnex = some (nI (ch A t (A 3)), fnd, m2, n2) := by
        refine uq4 (fun o => ∃ (m2 n2 : Nat → Int64), o = some (nI (ch A t (A 3)), fnd, m2, n2)) (A 3) (fun i x2 x3 (m n : Nat → Int64) => x2 = nI (ch A t i) ∧ x3 = nI i) ?_ ?_ 2000 0 _ _ _ _ (by omega) (by omega) ⟨rfl, rfl⟩
        · rintro K x2 x3 m n ⟨rfl, rfl⟩
          unfold fX6_chain_l37
          rw [if_pos (show toF A (3 : Int32).toNatClampNeg ≤ nI (A 3) from nI_le (Nat.le_refl _) (by omega))]
          exact ⟨m, n, rfl⟩
        · rintro K i x2 x3 m n hi2 ⟨rfl, rfl⟩
          right
          obtain ⟨m3, n3, M1⟩ := M_passed hw ht (ch_le A t i) hi2 m n
          refine ⟨_, nI (i + 1), m3, n3, ?_, rfl, rfl⟩
          unfold fX6_chain_l37
          rw [if_neg (show ¬ toF A (3 : Int32).toNatClampNeg ≤ nI i from nI_ge (b := A 3) hi2 (by omega)), M1, Option.bind_some, nI_1]
          rfl
      obtain ⟨m2, n2, M2⟩ := M2
      refine ⟨(nI (ch A t (A 3)), lo, hi, nI (A (68 + 11 * t)), fnd), (nI (ch A t (A 3)), fnd, m2, n2), ?_, ?_, rfl, ⟨A, hw, hs, rfl⟩, hk, rfl, htp, hsh⟩
      · simp only [fX5_chain, hasT_eq (show A 2 < 2 ^ 31 by omega), c, if0t]
        rw [if_neg (nI_ne0 (by omega) (by omega)), X1, Option.bind_some, gdN (by omega) (by omega), nI_clamp (by omega), (hst t ht).1]
        exact X2
      · simp only [fX6_chain, M_isTale (show A 2 < 2 ^ 30 by omega), Option.bind_some, c, if0t]
        rw [if_neg (show ¬ toF A (3 : Int32).toNatClampNeg = 0 from nI_ne0 (n := A 3) (by omega) (by omega)), M_long (by omega), Option.bind_some, M2]
  · have c := nT c
    refine ⟨((fn fnd 0).1, low, hig, spn, (fn fnd 0).2), ((fn fnd 0).1, (fn fnd 0).2, mman, mnex), ?_, ?_, rfl, ⟨A, hw, hs, rfl⟩, hk, rfl, htp, hsh⟩
    · simp only [fX5_chain, hasT_eq (show A 2 < 2 ^ 31 by omega), c, if0f, fo_0, Option.bind_some]
    · simp only [fX6_chain, M_isTale (show A 2 < 2 ^ 30 by omega), Option.bind_some, c, if0f, no_0]

