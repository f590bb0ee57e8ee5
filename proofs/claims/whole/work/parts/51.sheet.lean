theorem e_cel (k i : Nat) : ((40 : Int32) * nI k) + nI i = nI (40 * k + i) := by
  rw [show (40 : Int32) = nI 40 from rfl, pk_mul, nI_add]
theorem M_writes {bit : Nat → Int32} {cel : Nat → Int64} {k i : Nat} (hk : k < 4) (hi : i < 40) (v : Int64) : fX6_writes bit cel (nI k) (nI i) v = some (vp_updL cel (40 * k + i) (fX2_lowest bit (nI k) v)) := by
  unfold fX6_writes fX6_writes_b47 fX2_lowest
  rw [gdN hk (by omega), gdN hk (by omega), e_cel, gdN (by omega) (by omega), gdN (by omega) (by omega), gdN (by omega) (by omega), nI_clamp (show 40 * k + i < 2 ^ 31 by omega)]
  by_cases q : bit (nI k).toNatClampNeg = 8
  · rw [if_pos q, if_pos q]
  · rw [if_neg q, if_neg q]
    by_cases q2 : bit (nI k).toNatClampNeg = 16
    · rw [if_pos q2, if_pos q2]
    · rw [if_neg q2, if_neg q2]
theorem X_put {sbi : Nat → Int32} {snu : Nat → Nat → Int64} {k i : Nat} (hk : k < 4) (hi : i < 40) (v : Int64) : fX2_put sbi snu (nI k) (nI i) v = some (snu k i, va_up snu k (vp_updL (snu k) i (fX2_lowest sbi (nI k) v))) := by
  unfold fX2_put
  rw [gdN hi (by omega), gdN hi (by omega), nI_clamp (by omega), nI_clamp (by omega)]
theorem sh_put {snu : Nat → Nat → Int64} {cel : Nat → Int64} {k i : Nat} (hk : k < 4) (hi : i < 40) (L : Int64) (h : ∀ k i, k < 4 → i < 40 → snu k i = cel (40 * k + i)) : ∀ k2 i2, k2 < 4 → i2 < 40 → va_up snu k (vp_updL (snu k) i L) k2 i2 = vp_updL cel (40 * k + i) L (40 * k2 + i2) := by
  intro k2 i2 hk2 hi2
  rw [up_at, updL_at]
  by_cases q : k2 = k
  · rw [if_pos q, updL_at]
    by_cases z : i2 = i
    · rw [if_pos z, if_pos (by omega)]
    · rw [if_neg z, if_neg (by omega), ← q]
      exact h k2 i2 hk2 hi2
  · rw [if_neg q, if_neg (by omega)]
    exact h k2 i2 hk2 hi2
theorem miss_eq (sbi : Nat → Int32) {k : Nat} (hk : k < 4) : fX2_isMissing sbi (nI k) = decide (sbi k = 0) := by
  unfold fX2_isMissing
  rw [nI_clamp (by omega)]
  by_cases q : sbi k = 0
  · rw [if_pos q, decide_eq_true q]
  · rw [if_neg q, decide_eq_false q]
set_option maxHeartbeats 4000000 in
theorem eq_write {par : Int32} {kin lea mos wrt : Nat → Int32} {tal : Int32} {siz tol : Nat → Int32} {hrs : Int32} {ags : Nat → Int32} {yea kpar : Int32} {kkin klea kmos kwrt : Nat → Int32} {ktal : Int32} {ksiz ktol : Nat → Int32} {khrs : Int32} {kags : Nat → Int32} {kyea isk : Int32} {tly : Nat → Int64} {gai bes : Nat → Int32} {low hig : Nat → Int64} {spn : Int32} {byt : Nat → Int32} {hld sta beh sor num : Int32} {fnd sbi she : Nat → Int32} {snu : Nat → Nat → Int64} {msv mkep mbef : Nat → Int32} {misk : Int32} {mfnd : Nat → Int32} {mman mnex : Nat → Int64} {mwor msng mhea mlat mtap : Nat → Int32} {mtpd mher mflt mvlu : Int32} {mbit mlon : Nat → Int32} {mcel mbtw : Nat → Int64} (h : Rel par kin lea mos wrt tal siz tol hrs ags yea kpar kkin klea kmos kwrt ktal ksiz ktol khrs kags kyea isk tly gai bes low hig spn byt hld sta beh sor num fnd sbi she snu msv mkep mbef misk mfnd mman mnex mwor msng mhea mlat mtap mtpd mher mflt mvlu mbit mlon mcel mbtw) (x1 : Int32) (x2 : Int32) (x3 : Int64) : ∃ (rx : Int64 × (Nat → Int32) × (Nat → Nat → Int64)) (rm : Int64 × (Nat → Int32) × (Nat → Int64)), fX5_write fnd sbi she snu x1 x2 x3 = some rx ∧ fX6_write mfnd mbit mlon mcel x1 x2 x3 = some rm ∧ rx.1 = rm.1 ∧ Rel par kin lea mos wrt tal siz tol hrs ags yea kpar kkin klea kmos kwrt ktal ksiz ktol khrs kags kyea isk tly gai bes low hig spn byt hld sta beh sor num rx.2.1 sbi she rx.2.2 msv mkep mbef misk rm.2.1 mman mnex mwor msng mhea mlat mtap mtpd mher mflt mvlu mbit mlon rm.2.2 mbtw := by
  obtain ⟨⟨A, hw, hs, rfl⟩, hk, rfl, htp, hsh⟩ := h
  obtain ⟨hy, h1, h2, h3, hpp, htt, hhh⟩ := id hw
  obtain ⟨rfl, hsp, rfl, hst, rfl, hsa, rfl⟩ := id hs
  by_cases c : hasN 4 x1 = true
  · obtain ⟨k, hk4, rfl⟩ := hasN_of c
    obtain ⟨rfl, rfl, hsz, hce⟩ := id hsh
    by_cases m : sbi k = 0
    · refine ⟨((fn fnd 5).1.toInt64, (fn fnd 5).2, snu), ((fn fnd 5).1.toInt64, (fn fnd 5).2, mcel), ?_, ?_, rfl, ⟨A, hw, hs, rfl⟩, hk, rfl, htp, hsh⟩
      · unfold fX5_write
        rw [X_sheet, c, if0t, gdN hk4 (by omega), miss_eq sbi hk4, decide_eq_true m, if0t, fo_5, Option.bind_some]
      · unfold fX6_write
        rw [M_isSheet, c, if0t, gdN hk4 (by omega), nI_clamp (by omega), if_pos m, no_5, Option.bind_some]
    · obtain ⟨-, n, hn, en⟩ := hsz k hk4
      by_cases d : hasN n x2 = true
      · obtain ⟨i, hi, rfl⟩ := hasN_of d
        refine ⟨(snu k i, fnd, va_up snu k (vp_updL (snu k) i (fX2_lowest sbi (nI k) x3))), (mcel (40 * k + i), fnd, vp_updL mcel (40 * k + i) (fX2_lowest sbi (nI k) x3)), ?_, ?_, hce k i hk4 (by omega), ⟨A, hw, hs, rfl⟩, hk, rfl, htp, rfl, rfl, hsz, sh_put hk4 (by omega) _ hce⟩
        · unfold fX5_write
          rw [X_sheet, c, if0t, gdN hk4 (by omega), miss_eq sbi hk4, decide_eq_false m, if0f, nI_clamp (by omega), en, isIn_has (by omega), d, if0t, X_put hk4 (by omega), Option.bind_some]
        · unfold fX6_write
          rw [M_isSheet, c, if0t, gdN hk4 (by omega), nI_clamp (by omega), if_neg m, gdN hk4 (by omega), en, in_has (by omega), d, if0t, e_cel, gdN (by omega) (by omega), M_writes hk4 (by omega), Option.bind_some, nI_clamp (by omega)]
      · have d := nT d
        refine ⟨((fn fnd 0).1.toInt64, (fn fnd 0).2, snu), ((fn fnd 0).1.toInt64, (fn fnd 0).2, mcel), ?_, ?_, rfl, ⟨A, hw, hs, rfl⟩, hk, rfl, htp, hsh⟩
        · unfold fX5_write
          rw [X_sheet, c, if0t, gdN hk4 (by omega), miss_eq sbi hk4, decide_eq_false m, if0f, nI_clamp (by omega), en, isIn_has (by omega), d, if0f, fo_0, Option.bind_some]
        · unfold fX6_write
          rw [M_isSheet, c, if0t, gdN hk4 (by omega), nI_clamp (by omega), if_neg m, gdN hk4 (by omega), en, in_has (by omega), d, if0f, no_0, Option.bind_some]
  · have c := nT c
    refine ⟨((fn fnd 0).1.toInt64, (fn fnd 0).2, snu), ((fn fnd 0).1.toInt64, (fn fnd 0).2, mcel), ?_, ?_, rfl, ⟨A, hw, hs, rfl⟩, hk, rfl, htp, hsh⟩
    · unfold fX5_write
      rw [X_sheet, c, if0f, fo_0, Option.bind_some]
    · unfold fX6_write
      rw [M_isSheet, c, if0f, no_0, Option.bind_some]
theorem X_renewL {sbi she : Nat → Int32} {snu : Nat → Nat → Int64} {k : Nat} (hk : k < 4) : fix2 (fX2_renew_l20 sbi she (nI k)) 2000 0 snu = some (she k, sbi, she, va_up snu k (fun i => if i < 40 then 0 else snu k i)) := by
  refine up2 40 (fun i x3 (sn : Nat → Nat → Int64) => x3 = nI i ∧ sn = va_up snu k (fun j => if j < i then 0 else snu k j)) ?_ ?_ 2000 0 _ _ (by omega) (by omega) ⟨rfl, ?_⟩
  · rintro K x3 sn ⟨rfl, rfl⟩
    unfold fX2_renew_l20
    rw [if_pos (by decide)]
    unfold fX2_renew_b39
    rw [nI_clamp (by omega)]
  · rintro K i x3 sn hi ⟨rfl, rfl⟩
    right
    refine ⟨nI (i + 1), va_up snu k (fun j => if j < i + 1 then 0 else snu k j), ?_, rfl, rfl⟩
    unfold fX2_renew_l20
    rw [if_neg (show ¬ (40 : Int32) ≤ nI i from nI_ge (b := 40) hi (by omega)), gdN hi (by omega), nI_clamp (by omega), nI_clamp (by omega), nI_1]
    congr 1
    funext k2 j
    simp only [up_at, updL_at]
    by_cases q : k2 = k
    · simp only [q, if_true, updL_at]
      by_cases z : j = i
      · rw [if_pos z, if_pos (by omega)]
      · rw [if_neg z]
        by_cases y : j < i
        · rw [if_pos y, if_pos (by omega)]
        · rw [if_neg y, if_neg (by omega)]
    · rw [if_neg q, if_neg q, if_neg q]
  · funext k2
    rw [up_at]
    by_cases q : k2 = k
    · rw [if_pos q, q]
      funext j
      rw [if_neg (Nat.not_lt_zero j)]
    · rw [if_neg q]
theorem M_sheetL {fnd bit lon : Nat → Int32} {cel : Nat → Int64} {k : Nat} (hk : k < 4) : fix2 (fX6_sheet_l83 fnd bit lon (nI k)) 2000 0 cel = some (lon k, fnd, bit, lon, fun j => if 40 * k ≤ j ∧ j < 40 * k + 40 then 0 else cel j) := by
  refine up2 40 (fun i x4 (ce : Nat → Int64) => x4 = nI i ∧ ce = fun j => if 40 * k ≤ j ∧ j < 40 * k + i then 0 else cel j) ?_ ?_ 2000 0 _ _ (by omega) (by omega) ⟨rfl, ?_⟩
  · rintro K x4 ce ⟨rfl, rfl⟩
    unfold fX6_sheet_l83
    rw [if_pos (by decide)]
    unfold fX6_sheet_b109
    rw [gdN hk (by omega), nI_clamp (by omega)]
  · rintro K i x4 ce hi ⟨rfl, rfl⟩
    right
    refine ⟨nI (i + 1), fun j => if 40 * k ≤ j ∧ j < 40 * k + (i + 1) then 0 else cel j, ?_, rfl, rfl⟩
    unfold fX6_sheet_l83
    rw [if_neg (show ¬ (40 : Int32) ≤ nI i from nI_ge (b := 40) hi (by omega)), e_cel, gdN (by omega) (by omega), nI_clamp (by omega), nI_1]
    congr 1
    funext j
    rw [updL_at]
    by_cases z : j = 40 * k + i
    · rw [if_pos z, if_pos (by omega)]
    · rw [if_neg z]
      by_cases y : 40 * k ≤ j ∧ j < 40 * k + i
      · rw [if_pos y, if_pos (by omega)]
      · rw [if_neg y, if_neg (by omega)]
  · funext j
    rw [if_neg (by omega)]
theorem sh_new {sbi she : Nat → Int32} {snu : Nat → Nat → Int64} {cel : Nat → Int64} (h : shR sbi she snu sbi she cel) {k n : Nat} (hk : k < 4) (hn : n ≤ 40) {b : Int32} (hb : b = 0 ∨ b = 8 ∨ b = 16 ∨ b = 64) : shR (upd sbi k b) (upd she k (nI n)) (va_up snu k (fun i => if i < 40 then 0 else snu k i)) (upd sbi k b) (upd she k (nI n)) (fun j => if 40 * k ≤ j ∧ j < 40 * k + 40 then 0 else cel j) := by
  obtain ⟨-, -, hsz, hce⟩ := h
  refine ⟨rfl, rfl, fun j hj => ?_, fun k2 i hk2 hi => ?_⟩
  · rw [updI_at, updI_at]
    by_cases q : j = k
    · rw [if_pos q, if_pos q]
      exact ⟨hb, n, hn, rfl⟩
    · rw [if_neg q, if_neg q]
      exact hsz j hj
  · rw [up_at]
    by_cases q : k2 = k
    · rw [if_pos q]
      show (if i < 40 then (0 : Int64) else snu k i) = (if 40 * k ≤ 40 * k2 + i ∧ 40 * k2 + i < 40 * k + 40 then (0 : Int64) else cel (40 * k2 + i))
      rw [if_pos hi, if_pos (by omega)]
    · rw [if_neg q]
      show snu k2 i = (if 40 * k ≤ 40 * k2 + i ∧ 40 * k2 + i < 40 * k + 40 then (0 : Int64) else cel (40 * k2 + i))
      rw [if_neg (by omega)]
      exact hce k2 i hk2 hi
set_option maxHeartbeats 4000000 in
theorem eq_sheet {par : Int32} {kin lea mos wrt : Nat → Int32} {tal : Int32} {siz tol : Nat → Int32} {hrs : Int32} {ags : Nat → Int32} {yea kpar : Int32} {kkin klea kmos kwrt : Nat → Int32} {ktal : Int32} {ksiz ktol : Nat → Int32} {khrs : Int32} {kags : Nat → Int32} {kyea isk : Int32} {tly : Nat → Int64} {gai bes : Nat → Int32} {low hig : Nat → Int64} {spn : Int32} {byt : Nat → Int32} {hld sta beh sor num : Int32} {fnd sbi she : Nat → Int32} {snu : Nat → Nat → Int64} {msv mkep mbef : Nat → Int32} {misk : Int32} {mfnd : Nat → Int32} {mman mnex : Nat → Int64} {mwor msng mhea mlat mtap : Nat → Int32} {mtpd mher mflt mvlu : Int32} {mbit mlon : Nat → Int32} {mcel mbtw : Nat → Int64} (h : Rel par kin lea mos wrt tal siz tol hrs ags yea kpar kkin klea kmos kwrt ktal ksiz ktol khrs kags kyea isk tly gai bes low hig spn byt hld sta beh sor num fnd sbi she snu msv mkep mbef misk mfnd mman mnex mwor msng mhea mlat mtap mtpd mher mflt mvlu mbit mlon mcel mbtw) (x1 : Int32) (x2 : Int32) (x3 : Int32) : ∃ (rx : Int32 × (Nat → Int32) × (Nat → Int32) × (Nat → Int32) × (Nat → Nat → Int64)) (rm : Int32 × (Nat → Int32) × (Nat → Int32) × (Nat → Int32) × (Nat → Int64)), fX5_sheet fnd sbi she snu x1 x2 x3 = some rx ∧ fX6_sheet mfnd mbit mlon mcel x1 x2 x3 = some rm ∧ rx.1 = rm.1 ∧ Rel par kin lea mos wrt tal siz tol hrs ags yea kpar kkin klea kmos kwrt ktal ksiz ktol khrs kags kyea isk tly gai bes low hig spn byt hld sta beh sor num rx.2.1 rx.2.2.1 rx.2.2.2.1 rx.2.2.2.2 msv mkep mbef misk rm.2.1 mman mnex mwor msng mhea mlat mtap mtpd mher mflt mvlu rm.2.2.1 rm.2.2.2.1 rm.2.2.2.2 mbtw := by
  obtain ⟨⟨A, hw, hs, rfl⟩, hk, rfl, htp, hsh⟩ := h
  obtain ⟨hy, h1, h2, h3, hpp, htt, hhh⟩ := id hw
  obtain ⟨rfl, hsp, rfl, hst, rfl, hsa, rfl⟩ := id hs
  obtain ⟨rfl, rfl, hsz, hce⟩ := id hsh
  by_cases c : hasN 4 x1 = true
  · obtain ⟨k, hk4, rfl⟩ := hasN_of c
    by_cases b : x2 = 0 ∨ x2 = 8 ∨ x2 = 16 ∨ x2 = 64
    · have X0 : fX5_sheet fnd sbi she snu (nI k) x2 x3 = fX5_sheet_b22 fnd sbi she snu (nI k) x2 x3 := by
        unfold fX5_sheet
        by_cases b0 : x2 = 0
        · rw [if_pos b0]
        · rw [if_neg b0]
          by_cases b1 : x2 = 8
          · rw [if_pos b1]
          · rw [if_neg b1]
            by_cases b2 : x2 = 16
            · rw [if_pos b2]
            · rw [if_neg b2]
              rcases b with b | b | b | b
              · exact absurd b b0
              · exact absurd b b1
              · exact absurd b b2
              · rw [if_pos b]
      have M0 : fX6_sheet fnd sbi she mcel (nI k) x2 x3 = fX6_sheet_b35 fnd sbi she mcel (nI k) x2 x3 := by
        unfold fX6_sheet
        rw [M_isSheet, c, if0t]
        by_cases b0 : x2 = 0
        · rw [if_pos b0]
        · rw [if_neg b0]
          by_cases b1 : x2 = 8
          · rw [if_pos b1]
          · rw [if_neg b1]
            by_cases b2 : x2 = 16
            · rw [if_pos b2]
            · rw [if_neg b2]
              rcases b with b | b | b | b
              · exact absurd b b0
              · exact absurd b b1
              · exact absurd b b2
              · rw [if_pos b]
      unfold fX5_sheet_b22 fX5_sheet_b27 at X0
      rw [X_sheet, c, if0t, if0t] at X0
      unfold fX6_sheet_b35 at M0
      by_cases q0 : 0 ≤ x3
      · rw [if_pos q0] at X0 M0
        by_cases q1 : x3 ≤ 40
        · have hx3 : 0 ≤ x3.toInt := Int32.le_iff_toInt_le.mp q0
          have hx4 : x3.toInt ≤ (40 : Int32).toInt := Int32.le_iff_toInt_le.mp q1
          have hn40 : x3.toInt.toNat ≤ 40 := by
            have : x3.toInt ≤ (40 : Int32).toInt := hx4
            rw [show (40 : Int32).toInt = 40 from rfl] at this
            omega
          have hx5 : x3 = nI x3.toInt.toNat := nI_ofInt hx3
          obtain ⟨n, hn⟩ : ∃ n, n = x3.toInt.toNat := ⟨_, rfl⟩
          rw [← hn] at hn40 hx5
          subst hx5
          rw [if_pos q1, gdN hk4 (by omega)] at X0 M0
          unfold fX2_renew fX2_renew_b15 at X0
          unfold fX6_sheet_b79 at M0
          rw [gdN hk4 (by omega), gdN hk4 (by omega), nI_clamp (show k < 2 ^ 31 by omega)] at M0
          rw [nI_clamp (show k < 2 ^ 31 by omega)] at X0
          by_cases b0 : x2 = 0
          · rw [if_pos b0, X_renewL hk4, Option.bind_some] at X0
            rw [if_pos b0, M_sheetL hk4] at M0
            exact ⟨_, _, X0, M0, rfl, ⟨A, hw, hs, rfl⟩, hk, rfl, htp, sh_new hsh hk4 (Nat.zero_le 40) b⟩
          · rw [if_neg b0, X_renewL hk4, Option.bind_some] at X0
            rw [if_neg b0, M_sheetL hk4] at M0
            exact ⟨_, _, X0, M0, rfl, ⟨A, hw, hs, rfl⟩, hk, rfl, htp, sh_new hsh hk4 hn40 b⟩
        · rw [if_neg q1, fo_0, Option.bind_some] at X0
          rw [if_neg q1, no_0, Option.bind_some] at M0
          exact ⟨_, _, X0, M0, rfl, ⟨A, hw, hs, rfl⟩, hk, rfl, htp, hsh⟩
      · rw [if_neg q0, fo_6, Option.bind_some] at X0
        rw [if_neg q0, no_6, Option.bind_some] at M0
        exact ⟨_, _, X0, M0, rfl, ⟨A, hw, hs, rfl⟩, hk, rfl, htp, hsh⟩
    · refine ⟨((fn fnd 0).1, (fn fnd 0).2, sbi, she, snu), ((fn fnd 0).1, (fn fnd 0).2, sbi, she, mcel), ?_, ?_, rfl, ⟨A, hw, hs, rfl⟩, hk, rfl, htp, hsh⟩
      · unfold fX5_sheet fX5_sheet_b27 fX5_sheet_b43
        rw [if_neg (fun h => b (Or.inl h)), if_neg (fun h => b (Or.inr (Or.inl h))), if_neg (fun h => b (Or.inr (Or.inr (Or.inl h)))), if_neg (fun h => b (Or.inr (Or.inr (Or.inr h)))), X_sheet, c, if0t, if0f, fo_0, Option.bind_some]
      · unfold fX6_sheet fX6_sheet_b29
        rw [M_isSheet, c, if0t, if_neg (fun h => b (Or.inl h)), if_neg (fun h => b (Or.inr (Or.inl h))), if_neg (fun h => b (Or.inr (Or.inr (Or.inl h)))), if_neg (fun h => b (Or.inr (Or.inr (Or.inr h)))), no_0, Option.bind_some]
  · have c := nT c
    refine ⟨((fn fnd 0).1, (fn fnd 0).2, sbi, she, snu), ((fn fnd 0).1, (fn fnd 0).2, sbi, she, mcel), ?_, ?_, rfl, ⟨A, hw, hs, rfl⟩, hk, rfl, htp, hsh⟩
    · unfold fX5_sheet fX5_sheet_b22 fX5_sheet_b27 fX5_sheet_b43
      rw [X_sheet, c, if0f, if0f, fo_0, Option.bind_some, ite_self, ite_self, ite_self, ite_self]
    · unfold fX6_sheet fX6_sheet_b29
      rw [M_isSheet, c, if0f, no_0, Option.bind_some]

