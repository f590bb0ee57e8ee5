def okv (v : Int64) : Option Nat := if 0 ≤ v.toInt ∧ v.toInt ≤ 99 then some v.toInt.toNat else none
def lyA (A : Nat → Nat) (v : Nat → Int64) : Nat → (Nat → Nat)
  | 0 => A
  | i + 1 => match okv (v i) with
    | none => lyA A v i
    | some a => va_up (lyA A v i) (156 + i) a
def lyC (v : Nat → Int64) : Nat → Nat
  | 0 => 0
  | i + 1 => match okv (v i) with
    | none => lyC v i
    | some _ => lyC v i + 1
theorem okv_some {v : Int64} {a : Nat} (h : okv v = some a) : a ≤ 99 ∧ v.toInt32 = nI a ∧ ¬ lg_cmp v 0 < 0 ∧ ¬ 0 < lg_cmp v 99 := by
  unfold okv at h
  split at h
  · next q =>
    have e : v.toInt.toNat = a := by simpa using h
    have ev : v = lN a := by
      apply Int64.toInt_inj.mp
      rw [lN_toInt (by omega)]
      omega
    refine ⟨by omega, by rw [ev]; exact lN_i a, fun z => ?_, fun z => ?_⟩
    · have := Int64.lt_iff_toInt_lt.mp ((lgc_lt _ _).mp z)
      have e0 : (0 : Int64).toInt = 0 := rfl
      omega
    · have := Int64.lt_iff_toInt_lt.mp ((lgc_gt _ _).mp z)
      have e0 : (99 : Int64).toInt = 99 := rfl
      omega
  · cases h
theorem okv_none {v : Int64} (h : okv v = none) : lg_cmp v 0 < 0 ∨ (¬ lg_cmp v 0 < 0 ∧ 0 < lg_cmp v 99) := by
  unfold okv at h
  split at h
  · cases h
  · next q =>
    by_cases z : v.toInt < 0
    · left
      exact (lgc_lt _ _).mpr (Int64.lt_iff_toInt_lt.mpr z)
    · right
      refine ⟨fun y => z (Int64.lt_iff_toInt_lt.mp ((lgc_lt _ _).mp y)), (lgc_gt _ _).mpr (Int64.lt_iff_toInt_lt.mpr ?_)⟩
      show (99 : Int) < v.toInt
      omega
theorem ly_lo {A : Nat → Nat} {v : Nat → Int64} {j : Nat} (hj : j < 156) : ∀ i, lyA A v i j = A j
  | 0 => rfl
  | i + 1 => by
    have ih := ly_lo (A := A) (v := v) hj i
    cases e : okv (v i) with
    | none => simp only [lyA, e]; exact ih
    | some a => simp only [lyA, e]; rw [va_up_ne _ _ (by omega)]; exact ih
theorem ly_wf {A : Nat → Nat} (hw : wfA A) {v : Nat → Int64} : ∀ i, i ≤ A 3 → wfA (lyA A v i)
  | 0, _ => hw
  | i + 1, hi => by
    have ih := ly_wf hw (v := v) i (by omega)
    cases e : okv (v i) with
    | none => simp only [lyA, e]; exact ih
    | some a =>
      simp only [lyA, e]
      exact wf_age ih (by rw [ly_lo (by omega)]; omega) (okv_some e).1
set_option maxHeartbeats 4000000 in
theorem eq_lays {par : Int32} {kin lea mos wrt : Nat → Int32} {tal : Int32} {siz tol : Nat → Int32} {hrs : Int32} {ags : Nat → Int32} {yea kpar : Int32} {kkin klea kmos kwrt : Nat → Int32} {ktal : Int32} {ksiz ktol : Nat → Int32} {khrs : Int32} {kags : Nat → Int32} {kyea isk : Int32} {tly : Nat → Int64} {gai bes : Nat → Int32} {low hig : Nat → Int64} {spn : Int32} {byt : Nat → Int32} {hld sta beh sor num : Int32} {fnd sbi she : Nat → Int32} {snu : Nat → Nat → Int64} {msv mkep mbef : Nat → Int32} {misk : Int32} {mfnd : Nat → Int32} {mman mnex : Nat → Int64} {mwor msng mhea mlat mtap : Nat → Int32} {mtpd mher mflt mvlu : Int32} {mbit mlon : Nat → Int32} {mcel mbtw : Nat → Int64} (h : Rel par kin lea mos wrt tal siz tol hrs ags yea kpar kkin klea kmos kwrt ktal ksiz ktol khrs kags kyea isk tly gai bes low hig spn byt hld sta beh sor num fnd sbi she snu msv mkep mbef misk mfnd mman mnex mwor msng mhea mlat mtap mtpd mher mflt mvlu mbit mlon mcel mbtw) (x1 : Int32) : ∃ (rx : Int32 × (Nat → Int32) × (Nat → Int32)) (rm : Int32 × (Nat → Int32) × (Nat → Int32)), fX5_lays hrs ags fnd sbi she snu x1 = some rx ∧ fX6_lays msv mfnd mbit mlon mcel x1 = some rm ∧ rx.1 = rm.1 ∧ Rel par kin lea mos wrt tal siz tol hrs rx.2.1 yea kpar kkin klea kmos kwrt ktal ksiz ktol khrs kags kyea isk tly gai bes low hig spn byt hld sta beh sor num rx.2.2 sbi she snu rm.2.1 mkep mbef misk rm.2.2 mman mnex mwor msng mhea mlat mtap mtpd mher mflt mvlu mbit mlon mcel mbtw := by
  obtain ⟨⟨A, hw, hs, rfl⟩, hk, rfl, htp, hsh⟩ := h
  obtain ⟨hy, h1, h2, h3, hpp, htt, hhh⟩ := id hw
  obtain ⟨rfl, hsp, rfl, hst, rfl, hsa, rfl⟩ := id hs
  obtain ⟨rfl, rfl, hsz, hce⟩ := id hsh
  by_cases c : hasN 4 x1 = true
  · obtain ⟨k, hk4, rfl⟩ := hasN_of c
    by_cases m : sbi k = 0
    · refine ⟨((fn fnd 5).1, ags, (fn fnd 5).2), ((fn fnd 5).1, toF A, (fn fnd 5).2), ?_, ?_, rfl, ⟨A, hw, hs, rfl⟩, hk, rfl, htp, hsh⟩
      · unfold fX5_lays
        rw [X_sheet, c, if0t, gdN hk4 (by omega), miss_eq sbi hk4, decide_eq_true m, if0t, fo_5, Option.bind_some]
      · unfold fX6_lays
        rw [M_isSheet, c, if0t, gdN hk4 (by omega), nI_clamp (by omega), if_pos m, no_5, Option.bind_some]
    · obtain ⟨-, n, hn, en⟩ := hsz k hk4
      obtain ⟨v, hv⟩ : ∃ v : Nat → Int64, v = fun i => mcel (40 * k + i) := ⟨_, rfl⟩
      have hvi : ∀ i, mcel (40 * k + i) = v i := fun i => by rw [hv]
      obtain ⟨e, he⟩ : ∃ e, e = if n ≤ A 3 then n else A 3 := ⟨_, rfl⟩
      have he1 : e ≤ n ∧ e ≤ A 3 ∧ (e = n ∨ e = A 3) := by rw [he]; split <;> omega
      have X1 : ∃ ag, fix3 (fX5_lays_l42 (nI (A 3)) fnd she snu (nI k)) 2000 0 0 ags = some (nI (lyC v e), ag, fnd) ∧ stk (lyA A v e) (nI (A 1)) kin lea mos wrt (nI (A 2)) siz tol (nI (A 3)) ag (nI (A 0)) := by
        refine uq3 (fun o => ∃ (ag : Nat → Int32), o = some (nI (lyC v e), ag, fnd) ∧ stk (lyA A v e) (nI (A 1)) kin lea mos wrt (nI (A 2)) siz tol (nI (A 3)) ag (nI (A 0))) e (fun i x3 x4 (ag : Nat → Int32) => x3 = nI (lyC v i) ∧ x4 = nI i ∧ stk (lyA A v i) (nI (A 1)) kin lea mos wrt (nI (A 2)) siz tol (nI (A 3)) ag (nI (A 0))) ?_ ?_ 2000 0 _ _ _ (by omega) (by omega) ⟨rfl, rfl, hs⟩
        · rintro K x3 x4 ag ⟨rfl, rfl, h⟩
          refine ⟨ag, ?_, h⟩
          unfold fX5_lays_l42
          rw [nI_clamp (show k < 2 ^ 31 by omega), en]
          rcases he1.2.2 with q | q
          · by_cases z : nI (A 3) ≤ nI e
            · rw [if_pos z]
            · rw [if_neg z, if_pos (nI_le (by omega) (by omega))]
          · rw [if_pos (nI_le (by omega) (by omega))]
        · rintro K i x3 x4 ag hi ⟨rfl, rfl, h⟩
          right
          have el : fX5_lays_l42 (nI (A 3)) fnd she snu (nI k) K (nI (lyC v i)) (nI i) ag = if lg_cmp (v i) 0 < 0 then K (nI (lyC v i)) (nI (i + 1)) ag else if 0 < lg_cmp (v i) 99 then K (nI (lyC v i)) (nI (i + 1)) ag else K (nI (lyC v i + 1)) (nI (i + 1)) (upd ag i (v i).toInt32) := by
            unfold fX5_lays_l42 fX5_lays_b104
            rw [nI_clamp (show k < 2 ^ 31 by omega), nI_clamp (show i < 2 ^ 31 by omega), en, if_neg (nI_ge (by omega) (by omega)), if_neg (nI_ge (by omega) (by omega)), gdN (by omega) (by omega), gdN (by omega) (by omega), hce k i hk4 (by omega), hvi, nI_1, nI_1]
          cases q : okv (v i) with
          | none =>
            refine ⟨nI (lyC v (i + 1)), nI (i + 1), ag, ?_, rfl, rfl, ?_⟩
            · rw [el]
              have e1 : lyC v (i + 1) = lyC v i := by simp only [lyC, q]
              rw [e1]
              rcases okv_none q with z | ⟨z, y⟩
              · rw [if_pos z]
              · rw [if_neg z, if_pos y]
            · have e1 : lyA A v (i + 1) = lyA A v i := by simp only [lyA, q]
              rw [e1]
              exact h
          | some a =>
            obtain ⟨a1, a2, a3, a4⟩ := okv_some q
            have e1 : lyA A v (i + 1) = va_up (lyA A v i) (156 + i) a := by simp only [lyA, q]
            have e2 : lyC v (i + 1) = lyC v i + 1 := by simp only [lyC, q]
            refine ⟨nI (lyC v (i + 1)), nI (i + 1), upd ag i (nI a), ?_, rfl, rfl, ?_⟩
            · rw [el, if_neg a3, if_neg a4, a2, e2]
            · rw [e1]
              have l0 := ly_lo (A := A) (v := v) (show 0 < 156 by omega) i
              have l1 := ly_lo (A := A) (v := v) (show 1 < 156 by omega) i
              have l2 := ly_lo (A := A) (v := v) (show 2 < 156 by omega) i
              have l3 := ly_lo (A := A) (v := v) (show 3 < 156 by omega) i
              have hh := stk_age (h := i) (v := a) (ly_wf hw (v := v) i (by omega)) (kin := kin) (lea := lea) (mos := mos) (wrt := wrt) (siz := siz) (tol := tol) (ags := ag) (by rw [l0, l1, l2, l3]; exact h) (by rw [l3]; omega)
              rw [l0, l1, l2, l3] at hh
              exact hh
      have M1 : fix3 (fX6_lays_l32 fnd she mcel (nI k)) 2000 0 0 (toF A) = some (nI (lyC v e), toF (lyA A v e), fnd) := by
        refine up3 e (fun i x2 x3 (sv : Nat → Int32) => x2 = nI (lyC v i) ∧ x3 = nI i ∧ sv = toF (lyA A v i)) ?_ ?_ 2000 0 _ _ _ (by omega) (by omega) ⟨rfl, rfl, rfl⟩
        · rintro K x2 x3 sv ⟨rfl, rfl, rfl⟩
          have l3 := ly_lo (A := A) (v := v) (show 3 < 156 by omega) e
          unfold fX6_lays_l32
          rw [gdN hk4 (by omega), nI_clamp (show k < 2 ^ 31 by omega), en]
          by_cases z : n ≤ e
          · rw [if_pos (nI_le z (by omega))]
          · rw [if_neg (nI_ge (by omega) (by omega)), M_isHearer (by rw [l3]; omega), Option.bind_some, l3]
            have : hasN (A 3) (nI e) = false := by
              apply nT
              intro y
              obtain ⟨p, hp, ep⟩ := hasN_of y
              have := (nI_eq (by omega) (by omega)).mp ep
              omega
            rw [this, if0f]
        · rintro K i x2 x3 sv hi ⟨rfl, rfl, rfl⟩
          right
          have l3 := ly_lo (A := A) (v := v) (show 3 < 156 by omega) i
          have el : fX6_lays_l32 fnd she mcel (nI k) K (nI (lyC v i)) (nI i) (toF (lyA A v i)) = if lg_cmp (v i) 0 < 0 then K (nI (lyC v i)) (nI (i + 1)) (toF (lyA A v i)) else if 0 < lg_cmp (v i) 99 then K (nI (lyC v i)) (nI (i + 1)) (toF (lyA A v i)) else K (nI (lyC v i + 1)) (nI (i + 1)) (upd (toF (lyA A v i)) (156 + i) (v i).toInt32) := by
            unfold fX6_lays_l32 fX6_lays_b95
            rw [gdN hk4 (by omega), nI_clamp (show k < 2 ^ 31 by omega), en, if_neg (nI_ge (by omega) (by omega)), M_isHearer (by rw [l3]; omega), Option.bind_some, l3, hasN_nI (by omega) (by omega), if0t, e_cel, gdN (by omega) (by omega), nI_clamp (show 40 * k + i < 2 ^ 31 by omega), hvi, e_age, gdN (by omega) (by omega), nI_clamp (by omega), nI_1, nI_1]
          cases q : okv (v i) with
          | none =>
            refine ⟨nI (lyC v (i + 1)), nI (i + 1), toF (lyA A v (i + 1)), ?_, rfl, rfl, rfl⟩
            have e1 : lyA A v (i + 1) = lyA A v i := by simp only [lyA, q]
            have e2 : lyC v (i + 1) = lyC v i := by simp only [lyC, q]
            rw [el, e1, e2]
            rcases okv_none q with z | ⟨z, y⟩
            · rw [if_pos z]
            · rw [if_neg z, if_pos y]
          | some a =>
            obtain ⟨a1, a2, a3, a4⟩ := okv_some q
            have e1 : lyA A v (i + 1) = va_up (lyA A v i) (156 + i) a := by simp only [lyA, q]
            have e2 : lyC v (i + 1) = lyC v i + 1 := by simp only [lyC, q]
            refine ⟨nI (lyC v (i + 1)), nI (i + 1), toF (lyA A v (i + 1)), ?_, rfl, rfl, rfl⟩
            rw [el, if_neg a3, if_neg a4, a2, e1, e2, upd_toF]
      obtain ⟨ag, X1, hst2⟩ := X1
      refine ⟨(nI (lyC v e), ag, fnd), (nI (lyC v e), toF (lyA A v e), fnd), ?_, ?_, rfl, ⟨lyA A v e, ly_wf hw e he1.2.1, hst2, rfl⟩, hk, rfl, htp, hsh⟩
      · unfold fX5_lays
        rw [X_sheet, c, if0t, gdN hk4 (by omega), miss_eq sbi hk4, decide_eq_false m, if0f]
        exact X1
      · unfold fX6_lays
        rw [M_isSheet, c, if0t, gdN hk4 (by omega), nI_clamp (by omega), if_neg m]
        exact M1
  · have c := nT c
    refine ⟨((fn fnd 0).1, ags, (fn fnd 0).2), ((fn fnd 0).1, toF A, (fn fnd 0).2), ?_, ?_, rfl, ⟨A, hw, hs, rfl⟩, hk, rfl, htp, hsh⟩
    · unfold fX5_lays
      rw [X_sheet, c, if0f, fo_0, Option.bind_some]
    · unfold fX6_lays
      rw [M_isSheet, c, if0f, no_0, Option.bind_some]

