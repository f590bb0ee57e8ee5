theorem M_worthAt {A : Nat → Nat} {t j w : Nat} (h10 : A (68 + 11 * t) ≤ 10) (hj : j ≤ 10) (hw2 : w ≤ 120) (wor : Nat → Int32) : fX6_worthAt wor (nI j) (nI w) = some (wor (121 * j + w)) := by
  unfold fX6_worthAt
  rw [if_pos (nI_pos' (by omega)), e_row, gdN (by omega) (by omega), nI_clamp (by omega)]
theorem M_weighs {A : Nat → Nat} (hw : wfA A) {t : Nat} (ht : t < A 2) (wor : Nat → Int32) : ∃ wor', fX6_weighs (toF A) wor (nI t) = some wor' ∧ gR A t (-1000000) wor' := by
  have h8 : t < 8 := by have := hw.2.2.1; omega
  have h10 : A (68 + 11 * t) ≤ 10 := (hw.2.2.2.2.2.1 t ht).1
  obtain ⟨s, hsz⟩ : ∃ s, s = A (68 + 11 * t) := ⟨_, rfl⟩
  unfold fX6_weighs
  rw [M_long h8, Option.bind_some, ← hsz]
  refine uq2 (fun o => ∃ (wor' : Nat → Int32), o = some wor' ∧ gR A t (-1000000) wor') 121 (fun i x3 (wo : Nat → Int32) => x3 = nI i ∧ ∀ w, w < i → wo (121 * s + w) = enc (-1000000) (gn A t s 0 w)) ?_ ?_ 2000 0 _ _ (by omega) (by omega) ⟨rfl, fun k hk => absurd hk (Nat.not_lt_zero k)⟩
  · rintro K x3 wo ⟨rfl, h⟩
    unfold fX6_weighs_l8
    rw [if_pos (by decide)]
    unfold fX6_weighs_b41
    refine uq2 (fun o => ∃ (wor' : Nat → Int32), o = some wor' ∧ gR A t (-1000000) wor') s (fun i x3 (wo : Nat → Int32) => i ≤ s ∧ x3 = nI (s - i) - 1 ∧ ∀ j, j ≤ s → s - i ≤ j → ∀ w, w ≤ 120 → wo (121 * j + w) = enc (-1000000) (gn A t s (s - j) w)) ?_ ?_ 2000 0 _ _ (by omega) (by omega) ⟨Nat.zero_le _, rfl, ?_⟩
    · rintro K2 x3 w2 ⟨h1, rfl, h2⟩
      unfold fX6_weighs_l45
      rw [Nat.sub_self, if_pos (by decide)]
      refine ⟨w2, rfl, fun j hj w hw2 => ?_⟩
      rw [← hsz]
      exact h2 j (by omega) (by omega) w hw2
    · rintro K2 i x3 w2 hi ⟨h1, rfl, h2⟩
      right
      obtain ⟨m, hm⟩ : ∃ m, s - i = m + 1 := ⟨s - i - 1, by omega⟩
      obtain ⟨tp, ti, -⟩ := tale_part hw ht (i := m) (by omega)
      have hd : s - m = (s - m - 1) + 1 := by omega
      have hidx : s - (s - m - 1 + 1) = m := by omega
      have gdef : ∀ w, gn A t s (s - m) w = gmax (fa A (A (69 + 11 * t + m)) (gn A t s (s - m - 1)) w) 25 := by
        intro w
        rw [hd]
        show gmax _ 25 = _
        rw [hidx, Nat.add_sub_cancel]
      rw [hm] at h2
      have main : ∃ w3, fix2 (fX6_weighs_l60 K2 (toF A) (nI m) (nI (A (69 + 11 * t + m)))) 2000 0 w2 = K2 (nI m - 1) w3 ∧ ∀ j, j ≤ s → m ≤ j → ∀ w, w ≤ 120 → w3 (121 * j + w) = enc (-1000000) (gn A t s (s - j) w) := by
        refine uq2 (fun o => ∃ (w3 : Nat → Int32), o = K2 (nI m - 1) w3 ∧ ∀ j, j ≤ s → m ≤ j → ∀ w, w ≤ 120 → w3 (121 * j + w) = enc (-1000000) (gn A t s (s - j) w)) 121 (fun e x5 (wo : Nat → Int32) => x5 = nI e ∧ (∀ w, w < e → wo (121 * m + w) = enc (-1000000) (gn A t s (s - m) w)) ∧ ∀ j, j ≤ s → m + 1 ≤ j → ∀ w, w ≤ 120 → wo (121 * j + w) = enc (-1000000) (gn A t s (s - j) w)) ?_ ?_ 2000 0 _ _ (by omega) (by omega) ⟨rfl, fun k hk => absurd hk (Nat.not_lt_zero k), h2⟩
        · rintro K3 x5 w3 ⟨rfl, h3, h4⟩
          unfold fX6_weighs_l60
          rw [if_pos (by decide)]
          unfold fX6_weighs_b192
          refine ⟨w3, by rw [Int32.sub_eq_add_neg], fun j hj hj2 w hw2 => ?_⟩
          by_cases q : j = m
          · subst q; exact h3 w (by omega)
          · exact h4 j hj (by omega) w hw2
        · rintro K3 w x5 w3 hw2 ⟨rfl, h3, h4⟩
          right
          refine ⟨nI (w + 1), upd w3 (121 * m + w) (enc (-1000000) (gn A t s (s - m) w)), ?_, rfl, ?_, ?_⟩
          · unfold fX6_weighs_l60
            rw [if_neg (show ¬ (120 : Int32) < nI w from nI_nlt (a := 120) (by omega) (by omega)), gdef]
            have hfin : ∀ e, (e = 25 ∨ (e = w + 1 ∧ e ≤ 25)) → gmax (fa A (A (69 + 11 * t + m)) (gn A t s (s - m - 1)) w) e = gmax (fa A (A (69 + 11 * t + m)) (gn A t s (s - m - 1)) w) 25 := by
              intro e he
              rcases he with rfl | ⟨rfl, h25⟩
              · rfl
              · exact (gmax_stay h25 (fun l h1 h2 => fa_none (fun h => by omega))).symm
            refine up2 (if 25 ≤ w + 1 then 25 else w + 1) (fun l x6 x7 => x6 = enc (-1000000) (gmax (fa A (A (69 + 11 * t + m)) (gn A t s (s - m - 1)) w) l) ∧ x7 = nI l) ?_ ?_ 2000 0 _ _ (by split <;> omega) (by omega) ⟨rfl, rfl⟩
            · rintro K4 x6 x7 ⟨rfl, rfl⟩
              rw [hfin _ (by split <;> omega)]
              have key : fX6_weighs_b172 K3 w3 (nI m) (nI w) (enc (-1000000) (gmax (fa A (A (69 + 11 * t + m)) (gn A t s (s - m - 1)) w) 25)) = K3 (nI (w + 1)) (upd w3 (121 * m + w) (enc (-1000000) (gmax (fa A (A (69 + 11 * t + m)) (gn A t s (s - m - 1)) w) 25))) := by
                unfold fX6_weighs_b172
                rw [e_row, gdN (by omega) (by omega), nI_clamp (by omega), nI_1]
              unfold fX6_weighs_l74
              by_cases q : 25 ≤ w + 1
              · rw [if_pos q]
                by_cases q2 : nI w < nI 25
                · rw [if_pos q2]; exact key
                · rw [if_neg q2, if_pos (by decide)]; exact key
              · rw [if_neg q, if_pos (nI_lt (by omega) (by omega))]
                exact key
            · rintro K4 l x6 x7 hl ⟨rfl, rfl⟩
              right
              have hl2 : l < 25 ∧ l ≤ w := by split at hl <;> omega
              have hsrc := h4 (m + 1) (by omega) (by omega) (w - l) (by omega)
              rw [show s - (m + 1) = s - m - 1 by omega] at hsrc
              have hv := vA_lo hw tp hl2.1
              have hbf : bd 3000 (gmax (fa A (A (69 + 11 * t + m)) (gn A t s (s - m - 1)) w) l) := gmax_bd l (fun l2 hl3 => by have := fa_bd3 hw ht (d := s - m - 1) (by omega) w l2 (by omega); rw [← hsz, hidx] at this; exact this)
              refine ⟨enc (-1000000) (gmax (fa A (A (69 + 11 * t + m)) (gn A t s (s - m - 1)) w) (l + 1)), nI (l + 1), ?_, rfl, rfl⟩
              unfold fX6_weighs_l74
              rw [if_neg (nI_nlt hl2.2 (by omega)), if_neg (show ¬ (25 : Int32) ≤ nI l from nI_ge (b := 25) hl2.1 (by omega)), pk_sub hl2.2, nI_1, M_worthAt h10 (by omega) (by omega), Option.bind_some, M_len hw tp hl2.1, Option.bind_some, hsrc, M_val hw tp hl2.1, Option.bind_some]
              unfold fX6_weighs_b140 fX6_weighs_b141 fX6_weighs_b164
              rw [if0f, if0t, M_val hw tp hl2.1, Option.bind_some, nI_1]
              by_cases c : lenA A (A (69 + 11 * t + m)) l = true
              · have hfa : fa A (A (69 + 11 * t + m)) (gn A t s (s - m - 1)) w l = (gn A t s (s - m - 1) (w - l)).map (· + vA A (A (69 + 11 * t + m)) l) := if_pos ⟨hl2.2, c⟩
                rw [c, if0t]
                cases eg : gn A t s (s - m - 1) (w - l) with
                | none =>
                  rw [if_pos (show enc (-1000000) none ≤ (-1000000 : Int32) by decide), gmax_none (by rw [hfa, eg]; rfl)]
                | some u =>
                  have hub := gn_bd hw ht (s - m - 1) (by omega) (w - l) u (by rw [← hsz]; exact eg)
                  rw [if_neg (show ¬ enc (-1000000) (some u) ≤ (-1000000 : Int32) from (enc_some (by omega) (by omega) (by omega) (by omega)).2)]
                  have es : iI (vA A (A (69 + 11 * t + m)) l) + enc (-1000000) (some u) = iI (u + vA A (A (69 + 11 * t + m)) l) := by
                    show iI _ + iI u = _
                    rw [iI_add, Int.add_comm]
                  have em := enc_mx (N := -1000000) (by omega) (by omega) hbf (v := u + vA A (A (69 + 11 * t + m)) l) (by omega) (by omega)
                  have eg2 : gmax (fa A (A (69 + 11 * t + m)) (gn A t s (s - m - 1)) w) (l + 1) = mxo (gmax (fa A (A (69 + 11 * t + m)) (gn A t s (s - m - 1)) w) l) (some (u + vA A (A (69 + 11 * t + m)) l)) := by
                    show mxo _ (fa _ _ _ _ _) = _
                    rw [hfa, eg]
                    rfl
                  rw [es, eg2, em]
                  by_cases q : iI (u + vA A (A (69 + 11 * t + m)) l) ≤ enc (-1000000) (gmax (fa A (A (69 + 11 * t + m)) (gn A t s (s - m - 1)) w) l)
                  · rw [if_pos q, if_pos q]
                  · rw [if_neg q, if_neg q]
              · rw [nT c, if0f, gmax_none (fa_none (fun z => c z.2))]
          · intro k hk
            rw [updI_at]
            by_cases q : k = w
            · rw [if_pos (by omega), q]
            · rw [if_neg (by omega)]
              exact h3 k (by omega)
          · intro j hj hj2 k hk
            rw [updI_at, if_neg (by omega)]
            exact h4 j hj hj2 k hk
      obtain ⟨w3, e3, h3⟩ := main
      refine ⟨nI m - 1, w3, ?_, by omega, by rw [show s - (i + 1) = m by omega], by rw [show s - (i + 1) = m by omega]; exact h3⟩
      unfold fX6_weighs_l45
      rw [hm, nI_pred, if_neg (nI_pos (by omega)), M_nth h8 ti, Option.bind_some]
      exact e3
    · intro j hj hj2 w hw2
      have : j = s := by omega
      subst this
      rw [Nat.sub_self]
      exact h w (by omega)
  · rintro K i x3 wo hi ⟨rfl, h⟩
    right
    refine ⟨nI (i + 1), upd wo (121 * s + i) (enc (-1000000) (gn A t s 0 i)), ?_, rfl, ?_⟩
    · unfold fX6_weighs_l8 fX6_weighs_b34
      rw [if_neg (show ¬ (120 : Int32) < nI i from nI_nlt (a := 120) (by omega) (by omega)), e_row, gdN (by omega) (by omega), gdN (by omega) (by omega), nI_clamp (by omega), nI_1]
      simp only [gn]
      by_cases q : i = 0
      · subst q
        rfl
      · rw [if_neg (nI_ne0 (by omega) (by omega)), if_neg q]
        rfl
    · intro k hk
      rw [updI_at]
      by_cases q : k = i
      · rw [if_pos (by omega), q]
      · rw [if_neg (by omega)]
        exact h k (by omega)
/-- the first of the best -/
def am (f : Nat → Option Int) : Nat → Option (Nat × Int)
  | 0 => none
  | n + 1 => match f n with
    | none => am f n
    | some v => match am f n with
      | none => some (n, v)
      | some (k, u) => if v ≤ u then some (k, u) else some (n, v)
theorem am_ok (f : Nat → Option Int) : ∀ n, (am f n = none → ∀ j, j < n → f j = none) ∧ ∀ k u, am f n = some (k, u) → k < n ∧ f k = some u
  | 0 => ⟨fun _ j hj => absurd hj (Nat.not_lt_zero j), fun k u h => by cases h⟩
  | n + 1 => by
    obtain ⟨i1, i2⟩ := am_ok f n
    cases e : f n with
    | none =>
      have e1 : am f (n + 1) = am f n := by simp only [am, e]
      rw [e1]
      refine ⟨fun h j hj => ?_, fun k u h => ⟨by have := (i2 k u h).1; omega, (i2 k u h).2⟩⟩
      by_cases q : j = n
      · rw [q]; exact e
      · exact i1 h j (by omega)
    | some v =>
      cases e2 : am f n with
      | none =>
        have e1 : am f (n + 1) = some (n, v) := by simp only [am, e, e2]
        rw [e1]
        refine ⟨fun h => (by cases h), fun k u h => ?_⟩
        cases h
        exact ⟨by omega, e⟩
      | some ku =>
        obtain ⟨k0, u0⟩ := ku
        have e1 : am f (n + 1) = if v ≤ u0 then some (k0, u0) else some (n, v) := by simp only [am, e, e2]
        rw [e1]
        by_cases q : v ≤ u0
        · rw [if_pos q]
          refine ⟨fun h => (by cases h), fun k u h => ?_⟩
          cases h
          have := i2 k0 u0 e2
          exact ⟨by omega, this.2⟩
        · rw [if_neg q]
          refine ⟨fun h => (by cases h), fun k u h => ?_⟩
          cases h
          exact ⟨by omega, e⟩
theorem am_step {N : Int} (hN : -2147483648 ≤ N) (hN2 : N < -3000) {f : Nat → Option Int} (hb : ∀ w, bd 3000 (f w)) (i : Nat) :
    (enc N (f i) ≤ enc N ((am f i).map (·.2)) ∧ am f (i + 1) = am f i) ∨ (¬ enc N (f i) ≤ enc N ((am f i).map (·.2)) ∧ ∃ v, f i = some v ∧ am f (i + 1) = some (i, v)) := by
  obtain ⟨i1, i2⟩ := am_ok f i
  cases e : f i with
  | none =>
    left
    refine ⟨?_, by simp only [am, e]⟩
    cases e2 : am f i with
    | none => exact (iI_le (a := N) (b := N) (by omega) (by omega) (by omega) (by omega)).mpr (Int.le_refl N)
    | some ku =>
      obtain ⟨k, u⟩ := ku
      have := hb k u (i2 k u e2).2
      exact (iI_le (a := N) (b := u) (by omega) (by omega) (by omega) (by omega)).mpr (by omega)
  | some v =>
    have hv := hb i v e
    cases e2 : am f i with
    | none =>
      right
      refine ⟨fun h => ?_, v, rfl, by simp only [am, e, e2]⟩
      have := (iI_le (a := v) (b := N) (by omega) (by omega) (by omega) (by omega)).mp h
      omega
    | some ku =>
      obtain ⟨k, u⟩ := ku
      have hu := hb k u (i2 k u e2).2
      have e1 : am f (i + 1) = if v ≤ u then some (k, u) else some (i, v) := by simp only [am, e, e2]
      rw [e1]
      by_cases q : v ≤ u
      · left
        rw [if_pos q]
        exact ⟨(iI_le (a := v) (b := u) (by omega) (by omega) (by omega) (by omega)).mpr q, rfl⟩
      · right
        rw [if_neg q]
        exact ⟨fun h => q ((iI_le (a := v) (b := u) (by omega) (by omega) (by omega) (by omega)).mp h), v, rfl, rfl⟩
def amI (o : Option (Nat × Int)) (z : Int32) : Int32 := match o with
  | none => z
  | some ku => nI ku.1
theorem X_rich {f : Nat → Option Int} (hb : ∀ w, bd 3000 (f w)) {ga : Nat → Int32} (hX0 : ∀ w, w ≤ 120 → ga w = enc (-1000000000) (f w)) : fix3 (fX1_richestWords_l13 ga) 2000 (-1) (-1000000000) 0 = some (amI (am f 121) (-1), ga) := by
  refine up3 121 (fun i x2 x3 x4 => x2 = amI (am f i) (-1) ∧ x3 = enc (-1000000000) ((am f i).map (·.2)) ∧ x4 = nI i) ?_ ?_ 2000 0 _ _ _ (by omega) (by omega) ⟨rfl, rfl, rfl⟩
  · rintro K x2 x3 x4 ⟨rfl, rfl, rfl⟩
    unfold fX1_richestWords_l13
    rw [if_pos (by decide)]
  · rintro K i x2 x3 x4 hi ⟨rfl, rfl, rfl⟩
    right
    refine ⟨amI (am f (i + 1)) (-1), enc (-1000000000) ((am f (i + 1)).map (·.2)), nI (i + 1), ?_, rfl, rfl, rfl⟩
    unfold fX1_richestWords_l13 fX1_richestWords_b42
    rw [if_neg (show ¬ (121 : Int32) ≤ nI i from nI_ge (b := 121) hi (by omega)), gdN (by omega) (by omega), gdN (by omega) (by omega), nI_clamp (by omega), hX0 i (by omega), nI_1]
    rcases am_step (N := -1000000000) (by omega) (by omega) hb i with ⟨q1, q2⟩ | ⟨q1, v, q2, q3⟩
    · rw [if_pos q1, q2]
    · rw [if_neg q1, q3, q2]
      rfl
theorem M_rich {f : Nat → Option Int} (hb : ∀ w, bd 3000 (f w)) {fnd wo : Nat → Int32} (hMw : ∀ w, w ≤ 120 → fX6_worthAt wo 0 (nI w) = some (enc (-1000000) (f w))) : fix2 (fX6_richest_l23 fnd wo) 2000 0 1 = fX6_richest_b56 fnd wo (amI (am f 121) 0) := by
  refine up2 120 (fun i x2 x3 => x2 = amI (am f (i + 1)) 0 ∧ x3 = nI (i + 1)) ?_ ?_ 2000 0 _ _ (by omega) (by omega) ⟨?_, rfl⟩
  · rintro K x2 x3 ⟨rfl, rfl⟩
    unfold fX6_richest_l23
    rw [if_pos (by decide)]
  · rintro K i x2 x3 hi ⟨rfl, rfl⟩
    right
    have hx2 : fX6_worthAt wo 0 (amI (am f (i + 1)) 0) = some (enc (-1000000) ((am f (i + 1)).map (·.2))) := by
      obtain ⟨i1, i2⟩ := am_ok f (i + 1)
      cases e : am f (i + 1) with
      | none =>
        have := hMw 0 (by omega)
        rw [i1 e 0 (by omega)] at this
        exact this
      | some ku =>
        obtain ⟨k, u⟩ := ku
        obtain ⟨j1, j2⟩ := i2 k u e
        have := hMw k (by omega)
        rw [j2] at this
        exact this
    refine ⟨amI (am f (i + 2)) 0, nI (i + 2), ?_, rfl, rfl⟩
    unfold fX6_richest_l23 fX6_richest_b49
    rw [if_neg (show ¬ (120 : Int32) < nI (i + 1) from nI_nlt (a := 120) (by omega) (by omega)), hMw (i + 1) (by omega), Option.bind_some, hx2, Option.bind_some, nI_1]
    rcases am_step (N := -1000000) (by omega) (by omega) hb (i + 1) with ⟨q1, q2⟩ | ⟨q1, v, q2, q3⟩
    · rw [if_pos q1, q2]
    · rw [if_neg q1, q3]
      rfl
  · show (0 : Int32) = amI (am f 1) 0
    cases e : am f 1 with
    | none => rfl
    | some ku =>
      obtain ⟨k, u⟩ := ku
      have := ((am_ok f 1).2 k u e).1
      show (0 : Int32) = nI k
      rw [show k = 0 by omega]
      rfl
set_option maxHeartbeats 4000000 in
theorem eq_richest {par : Int32} {kin lea mos wrt : Nat → Int32} {tal : Int32} {siz tol : Nat → Int32} {hrs : Int32} {ags : Nat → Int32} {yea kpar : Int32} {kkin klea kmos kwrt : Nat → Int32} {ktal : Int32} {ksiz ktol : Nat → Int32} {khrs : Int32} {kags : Nat → Int32} {kyea isk : Int32} {tly : Nat → Int64} {gai bes : Nat → Int32} {low hig : Nat → Int64} {spn : Int32} {byt : Nat → Int32} {hld sta beh sor num : Int32} {fnd sbi she : Nat → Int32} {snu : Nat → Nat → Int64} {msv mkep mbef : Nat → Int32} {misk : Int32} {mfnd : Nat → Int32} {mman mnex : Nat → Int64} {mwor msng mhea mlat mtap : Nat → Int32} {mtpd mher mflt mvlu : Int32} {mbit mlon : Nat → Int32} {mcel mbtw : Nat → Int64} (h : Rel par kin lea mos wrt tal siz tol hrs ags yea kpar kkin klea kmos kwrt ktal ksiz ktol khrs kags kyea isk tly gai bes low hig spn byt hld sta beh sor num fnd sbi she snu msv mkep mbef misk mfnd mman mnex mwor msng mhea mlat mtap mtpd mher mflt mvlu mbit mlon mcel mbtw) (x1 : Int32) : ∃ (rx : Int32 × (Nat → Int32) × (Nat → Int32)) (rm : Int32 × (Nat → Int32) × (Nat → Int32)), fX5_richest kin lea mos wrt tal siz tol gai fnd x1 = some rx ∧ fX6_richest msv mfnd mwor x1 = some rm ∧ rx.1 = rm.1 ∧ Rel par kin lea mos wrt tal siz tol hrs ags yea kpar kkin klea kmos kwrt ktal ksiz ktol khrs kags kyea isk tly rx.2.1 bes low hig spn byt hld sta beh sor num rx.2.2 sbi she snu msv mkep mbef misk rm.2.1 mman mnex rm.2.2 msng mhea mlat mtap mtpd mher mflt mvlu mbit mlon mcel mbtw := by
  obtain ⟨⟨A, hw, hs, rfl⟩, hk, rfl, htp, hsh⟩ := h
  obtain ⟨hy, h1, h2, h3, hpp, htt, hhh⟩ := id hw
  obtain ⟨rfl, hsp, rfl, hst, rfl, hsa, rfl⟩ := id hs
  by_cases c : hasN (A 2) x1 = true
  · obtain ⟨t, ht, rfl⟩ := hasN_of c
    have h10 := (htt t ht).1
    obtain ⟨ga, X1, hX⟩ := X_gains hw hs ht gai
    obtain ⟨wo, M1, hM⟩ := M_weighs hw ht mwor
    obtain ⟨f, hf⟩ : ∃ f, f = gn A t (A (68 + 11 * t)) (A (68 + 11 * t)) := ⟨_, rfl⟩
    have hb : ∀ w, bd 3000 (f w) := fun w => by rw [hf]; exact gn_bd3 hw ht (Nat.le_refl _) w
    have hX0 : ∀ w, w ≤ 120 → ga w = enc (-1000000000) (f w) := fun w hw2 => by
      have := hX 0 (Nat.zero_le _) w hw2
      rw [Nat.mul_zero, Nat.zero_add, Nat.sub_zero] at this
      rw [hf]; exact this
    have hM0 : ∀ w, w ≤ 120 → wo w = enc (-1000000) (f w) := fun w hw2 => by
      have := hM 0 (Nat.zero_le _) w hw2
      rw [Nat.mul_zero, Nat.zero_add, Nat.sub_zero] at this
      rw [hf]; exact this
    have hMw : ∀ w, w ≤ 120 → fX6_worthAt wo 0 (nI w) = some (enc (-1000000) (f w)) := fun w hw2 => by
      have := M_worthAt (A := A) (t := t) (j := 0) h10 (by omega) hw2 wo
      rw [Nat.mul_zero, Nat.zero_add, hM0 w hw2] at this
      exact this
    have X2 := X_rich hb hX0
    have M2 := M_rich hb (fnd := fnd) hMw
    obtain ⟨i1, i2⟩ := am_ok f 121
    obtain ⟨a, ha⟩ : ∃ a, am f 121 = a := ⟨_, rfl⟩
    rw [ha] at X2 M2 i1 i2
    have X3 : fX5_richest kin lea mos wrt (nI (A 2)) siz tol gai fnd (nI t) = if 0 ≤ amI a (-1) then some (amI a (-1), ga, fnd) else some ((fn fnd 3).1, ga, (fn fnd 3).2) := by
      unfold fX5_richest
      rw [hasT_eq (show A 2 < 2 ^ 31 by omega), c, if0t]
      unfold fX1_richestWords
      rw [X1, Option.bind_some, X2, Option.bind_some, fo_3, Option.bind_some]
    have M3 : fX6_richest (toF A) fnd mwor (nI t) = fX6_richest_b56 fnd wo (amI a 0) := by
      unfold fX6_richest
      rw [M_isTale (show A 2 < 2 ^ 30 by omega), Option.bind_some, c, if0t, M1, Option.bind_some, M2]
    cases a with
    | none =>
      refine ⟨((fn fnd 3).1, ga, (fn fnd 3).2), ((fn fnd 3).1, (fn fnd 3).2, wo), ?_, ?_, rfl, ⟨A, hw, hs, rfl⟩, hk, rfl, htp, hsh⟩
      · rw [X3, if_neg (show ¬ (0 : Int32) ≤ amI none (-1) by decide)]
      · rw [M3]
        unfold fX6_richest_b56
        have := hMw 0 (by omega)
        rw [i1 rfl 0 (by omega)] at this
        rw [show fX6_worthAt wo 0 (amI none 0) = _ from this, Option.bind_some, if_pos (by rfl), no_3, Option.bind_some]
    | some ku =>
      obtain ⟨k, u⟩ := ku
      obtain ⟨j1, j2⟩ := i2 k u rfl
      have hu := hb k u j2
      refine ⟨(nI k, ga, fnd), (nI k, fnd, wo), ?_, ?_, rfl, ⟨A, hw, hs, rfl⟩, hk, rfl, htp, hsh⟩
      · rw [X3, if_pos (show (0 : Int32) ≤ amI (some (k, u)) (-1) from nI_pos' (by omega))]
        rfl
      · rw [M3]
        unfold fX6_richest_b56
        have := hMw k (by omega)
        rw [j2] at this
        rw [show fX6_worthAt wo 0 (amI (some (k, u)) 0) = _ from this, Option.bind_some, if_neg (show ¬ enc (-1000000) (some u) = (-1000000 : Int32) from (enc_some (by omega) (by omega) (by omega) (by omega)).1)]
        rfl
  · have c := nT c
    refine ⟨((fn fnd 0).1, gai, (fn fnd 0).2), ((fn fnd 0).1, (fn fnd 0).2, mwor), ?_, ?_, rfl, ⟨A, hw, hs, rfl⟩, hk, rfl, htp, hsh⟩
    · simp only [fX5_richest, hasT_eq (show A 2 < 2 ^ 31 by omega), c, if0f, fo_0, Option.bind_some]
    · simp only [fX6_richest, M_isTale (show A 2 < 2 ^ 30 by omega), Option.bind_some, c, if0f, no_0]

