def lst (P : Nat → Bool) : Nat → Int32
  | 0 => -1
  | n + 1 => if P n = true then nI n else lst P n
theorem lst_ge {P : Nat → Bool} {f : Nat} (hf : P f = true) : ∀ n, f < n → ∃ m, lst P n = nI m ∧ f ≤ m ∧ m < n ∧ P m = true
  | 0, h => absurd h (Nat.not_lt_zero f)
  | n + 1, h => by
    rw [lst]
    by_cases c : P n = true
    · rw [if_pos c]
      exact ⟨n, rfl, by omega, by omega, c⟩
    · rw [if_neg c]
      have hne : f ≠ n := fun e => c (e ▸ hf)
      obtain ⟨m, h1, h2, h3, h4⟩ := lst_ge hf n (by omega)
      exact ⟨m, h1, h2, by omega, h4⟩
theorem lst_t {P : Nat → Bool} {n : Nat} (c : P n = true) : lst P (n + 1) = nI n := if_pos c
theorem lst_f {P : Nat → Bool} {n : Nat} (c : ¬ P n = true) : lst P (n + 1) = lst P n := if_neg c
theorem lst_none {P : Nat → Bool} : ∀ n, (∀ j, j < n → P j = false) → lst P n = -1
  | 0, _ => rfl
  | n + 1, h => by
    rw [lst, if_neg (by rw [h n (by omega)]; exact Bool.false_ne_true)]
    exact lst_none n (fun j hj => h j (by omega))
def gp (P : Nat → Bool) (a : Nat) : Nat → Nat
  | 0 => 0
  | n + 1 => gp P a n + if P (a + n) = true then 0 else 1
theorem X_fewest {A : Nat → Nat} {t : Nat} {low hig : Nat → Int64} (h10 : A (68 + 11 * t) ≤ 10) (h : spA A t low hig) : fX1_fewestWords low hig (nI (A (68 + 11 * t))) = some (nI (fs (R A t) 121)) := by
  unfold fX1_fewestWords
  refine up1 121 (fun i x1 => x1 = nI i ∧ ∀ j, j < i → R A t j = false) ?_ ?_ 2000 0 _ (by omega) (by omega) ⟨rfl, fun j hj => absurd hj (Nat.not_lt_zero j)⟩
  · rintro K x1 ⟨rfl, hn⟩
    unfold fX1_fewestWords_l2
    rw [if_pos (by decide), fs_none hn]
    rfl
  · rintro K i x1 hi ⟨rfl, hn⟩
    have e0 : fX1_fewestWords_l2 low hig (nI (A (68 + 11 * t))) K (nI i) = if bI (R A t i) = 0 then K (nI (i + 1)) else some (nI i) := by
      unfold fX1_fewestWords_l2
      rw [if_neg (show ¬ (120 : Int32) < nI i from nI_nlt (a := 120) (by omega) (by omega)), X_canBe h10 (by omega) h, Option.bind_some, nI_1]
      rfl
    by_cases c : R A t i = true
    · left
      rw [e0, c, if0t, fs_at hn c hi]
    · right
      refine ⟨nI (i + 1), ?_, rfl, ?_⟩
      · rw [e0, nT c, if0f]
      · intro j hj
        by_cases hq : j = i
        · subst hq; exact nT c
        · exact hn j (by omega)
theorem X_most {A : Nat → Nat} {t : Nat} {low hig : Nat → Int64} (h10 : A (68 + 11 * t) ≤ 10) (h : spA A t low hig) : fX1_mostWords low hig (nI (A (68 + 11 * t))) = some (lst (R A t) 121) := by
  unfold fX1_mostWords
  refine up1 121 (fun i x1 => x1 = dn 120 i ∧ lst (R A t) 121 = lst (R A t) (121 - i)) ?_ ?_ 2000 0 _ (by omega) (by omega) ⟨rfl, rfl⟩
  · rintro K x1 ⟨rfl, h2⟩
    unfold fX1_mostWords_l3
    rw [if_pos (by decide), h2]
    rfl
  · rintro K i x1 hi ⟨rfl, h2⟩
    obtain ⟨m, hm⟩ : ∃ m, 121 - i = m + 1 := ⟨120 - i, by omega⟩
    have e0 : fX1_mostWords_l3 low hig (nI (A (68 + 11 * t))) K (dn 120 i) = if bI (R A t m) = 0 then K (dn 120 (i + 1)) else some (nI m) := by
      unfold fX1_mostWords_l3
      rw [dn_s (by omega), dn_in (by omega), show 120 - i = m by omega, if_neg (nI_pos (by omega)), X_canBe h10 (by omega) h, Option.bind_some]
      rfl
    rw [hm] at h2
    by_cases c : R A t m = true
    · left
      rw [e0, c, if0t, h2, lst, if_pos c]
    · right
      refine ⟨dn 120 (i + 1), ?_, rfl, ?_⟩
      · rw [e0, nT c, if0f]
      · rw [h2, show 121 - (i + 1) = m by omega, lst, if_neg c]
theorem X_gaps {A : Nat → Nat} {t f m : Nat} {low hig : Nat → Int64} (h10 : A (68 + 11 * t) ≤ 10) (h : spA A t low hig) (hf : f ≤ m) (hm : m ≤ 120) : fX1_gapsBetween low hig (nI (A (68 + 11 * t))) (nI f) (nI m) = some (nI (gp (R A t) f (m + 1 - f))) := by
  unfold fX1_gapsBetween
  refine up2 (m + 1 - f) (fun i x3 x4 => x3 = nI (gp (R A t) f i) ∧ x4 = nI (f + i)) ?_ ?_ 2000 0 _ _ (by omega) (by omega) ⟨rfl, rfl⟩
  · rintro K x3 x4 ⟨rfl, rfl⟩
    unfold fX1_gapsBetween_l5
    rw [if_pos (nI_lt (by omega) (by omega))]
  · rintro K i x3 x4 hi ⟨rfl, rfl⟩
    right
    refine ⟨nI (gp (R A t) f (i + 1)), nI (f + (i + 1)), ?_, rfl, rfl⟩
    unfold fX1_gapsBetween_l5 fX1_gapsBetween_b23
    rw [if_neg (nI_nlt (by omega) (by omega)), X_canBe h10 (by omega) h, Option.bind_some, nI_1, nI_1]
    show (if bI (R A t (f + i)) = 0 then _ else _) = _
    by_cases c : R A t (f + i) = true
    · rw [c, if0t, gp, if_pos c]
      rfl
    · rw [nT c, if0f, gp, if_neg c]
      rfl
set_option maxHeartbeats 4000000 in
theorem eq_length {par : Int32} {kin lea mos wrt : Nat → Int32} {tal : Int32} {siz tol : Nat → Int32} {hrs : Int32} {ags : Nat → Int32} {yea kpar : Int32} {kkin klea kmos kwrt : Nat → Int32} {ktal : Int32} {ksiz ktol : Nat → Int32} {khrs : Int32} {kags : Nat → Int32} {kyea isk : Int32} {tly : Nat → Int64} {gai bes : Nat → Int32} {low hig : Nat → Int64} {spn : Int32} {byt : Nat → Int32} {hld sta beh sor num : Int32} {fnd sbi she : Nat → Int32} {snu : Nat → Nat → Int64} {msv mkep mbef : Nat → Int32} {misk : Int32} {mfnd : Nat → Int32} {mman mnex : Nat → Int64} {mwor msng mhea mlat mtap : Nat → Int32} {mtpd mher mflt mvlu : Int32} {mbit mlon : Nat → Int32} {mcel mbtw : Nat → Int64} (h : Rel par kin lea mos wrt tal siz tol hrs ags yea kpar kkin klea kmos kwrt ktal ksiz ktol khrs kags kyea isk tly gai bes low hig spn byt hld sta beh sor num fnd sbi she snu msv mkep mbef misk mfnd mman mnex mwor msng mhea mlat mtap mtpd mher mflt mvlu mbit mlon mcel mbtw) (x1 : Int32) (x2 : Int32) : ∃ (rx : Int32 × (Nat → Int64) × (Nat → Int64) × Int32 × (Nat → Int32)) (rm : Int32 × (Nat → Int32) × (Nat → Int64) × (Nat → Int64)), fX5_length kin lea mos tal siz tol low hig spn fnd x1 x2 = some rx ∧ fX6_length msv mfnd mman mnex x1 x2 = some rm ∧ rx.1 = rm.1 ∧ Rel par kin lea mos wrt tal siz tol hrs ags yea kpar kkin klea kmos kwrt ktal ksiz ktol khrs kags kyea isk tly gai bes rx.2.1 rx.2.2.1 rx.2.2.2.1 byt hld sta beh sor num rx.2.2.2.2 sbi she snu msv mkep mbef misk rm.2.1 rm.2.2.1 rm.2.2.2 mwor msng mhea mlat mtap mtpd mher mflt mvlu mbit mlon mcel mbtw := by
  obtain ⟨⟨A, hw, hs, rfl⟩, hk, rfl, htp, hsh⟩ := h
  obtain ⟨hy, h1, h2, h3, hpp, htt, hhh⟩ := id hw
  obtain ⟨rfl, hsp, rfl, hst, rfl, hsa, rfl⟩ := id hs
  by_cases c : hasN (A 2) x1 = true
  · obtain ⟨t, ht, rfl⟩ := hasN_of c
    by_cases d : hasN 3 x2 = true
    · have h10 := (htt t ht).1
      have h8 : t < 8 := by omega
      obtain ⟨lo, hi, X1, hsp2⟩ := X_spanWords hw hs ht low hig spn
      obtain ⟨m2, n2, M1, hv⟩ := M_counts hw ht (Nat.le_refl _) mman mnex
      have hfle := fs_le (R A t) 121
      have M2 : fX6_length (toF A) fnd mman mnex (nI t) x2 = fX6_length_b58 fnd m2 n2 x2 (nI (fs (R A t) 121)) := by
        simp only [fX6_length, M_isTale (show A 2 < 2 ^ 30 by omega), Option.bind_some, c, if0t, in_hasL 3 2 rfl, d, M_long (A := A) h8, M1]
        refine up1 121 (fun i x1 => x1 = nI i ∧ ∀ j, j < i → R A t j = false) ?_ ?_ 2000 0 _ (by omega) (by omega) ⟨rfl, fun j hj => absurd hj (Nat.not_lt_zero j)⟩
        · rintro K x1 ⟨rfl, hn⟩
          unfold fX6_length_l35
          rw [if_pos (by decide), fs_none hn]
        · rintro K i x1 hi2 ⟨rfl, hn⟩
          have e0 : fX6_length_l35 fnd m2 n2 x2 K (nI i) = if R A t i = true then fX6_length_b58 fnd m2 n2 x2 (nI i) else K (nI (i + 1)) := by
            unfold fX6_length_l35
            rw [if_neg (show ¬ (120 : Int32) < nI i from nI_nlt (a := 120) (by omega) (by omega)), gdN (by omega) (by omega), nI_clamp (by omega), hv i (by omega), nI_1]
            by_cases z : R A t i = true
            · rw [if_pos z, if_neg (fun q => by rw [show R A t i = false from (lg_eq0 h10).mp q] at z; cases z)]
            · rw [if_neg z, if_pos ((lg_eq0 h10).mpr (nT z))]
          by_cases z : R A t i = true
          · left
            rw [e0, if_pos z, fs_at hn z hi2]
          · right
            refine ⟨nI (i + 1), ?_, rfl, ?_⟩
            · rw [e0, if_neg z]
            · intro j hj
              by_cases hq : j = i
              · subst hq; exact nT z
              · exact hn j (by omega)
      obtain ⟨f0, hf0⟩ : ∃ f0, fs (R A t) 121 = f0 := ⟨_, rfl⟩
      rw [hf0] at M2 hfle
      by_cases f : f0 < 121
      · have hfP : R A t f0 = true := by
          have h9 := fs_lt (R A t) 121 (by rw [hf0]; exact f)
          rw [hf0] at h9
          exact h9
        obtain ⟨m, em, hfm, hm, hmP⟩ := lst_ge hfP 121 f
        have M3 : fX6_length_b58 fnd m2 n2 x2 (nI (f0)) = fX6_length_b92 fnd m2 n2 x2 (nI (f0)) (nI m) := by
          unfold fX6_length_b58
          rw [if_pos (show nI (f0) ≤ (120 : Int32) from nI_le (b := 120) (by omega) (by omega))]
          refine up1 (120 - f0) (fun i x4 => x4 = nI (120 - i) ∧ lst (R A t) 121 = lst (R A t) (121 - i)) ?_ ?_ 2000 0 _ (by omega) (by omega) ⟨rfl, rfl⟩
          · rintro K x4 ⟨rfl, h2⟩
            rw [show 121 - (120 - f0) = f0 + 1 by omega, lst_t hfP] at h2
            rw [em] at h2
            have h3 := (nI_eq (by omega) (by omega)).mp h2
            unfold fX6_length_l74
            rw [show 120 - (120 - f0) = f0 by omega, gdN (by omega) (by omega), nI_clamp (by omega), hv _ (by omega), if_neg (fun q => by rw [show R A t (f0) = false from (lg_eq0 h10).mp q] at hfP; cases hfP), h3]
          · rintro K i x4 hi2 ⟨rfl, h2⟩
            obtain ⟨k, hk2⟩ : ∃ k, 120 - i = k + 1 := ⟨119 - i, by omega⟩
            rw [show 121 - i = (k + 1) + 1 by omega] at h2
            have e0 : fX6_length_l74 fnd m2 n2 x2 (nI (f0)) K (nI (120 - i)) = if R A t (k + 1) = true then fX6_length_b92 fnd m2 n2 x2 (nI (f0)) (nI (k + 1)) else K (nI k) := by
              unfold fX6_length_l74
              rw [hk2, gdN (by omega) (by omega), nI_clamp (by omega), hv _ (by omega), pk_m1]
              by_cases z : R A t (k + 1) = true
              · rw [if_pos z, if_neg (fun q => by rw [show R A t (k + 1) = false from (lg_eq0 h10).mp q] at z; cases z)]
              · rw [if_neg z, if_pos ((lg_eq0 h10).mpr (nT z))]
            by_cases z : R A t (k + 1) = true
            · left
              rw [lst_t z, em] at h2
              have h3 := (nI_eq (by omega) (by omega)).mp h2
              rw [e0, if_pos z, h3]
            · right
              rw [lst_f z] at h2
              refine ⟨nI k, by rw [e0, if_neg z], by rw [show 120 - (i + 1) = k by omega], ?_⟩
              rw [h2, show 121 - (i + 1) = k + 1 by omega]
        have M4 : fX6_length_b92 fnd m2 n2 x2 (nI (f0)) (nI m) = fX6_length_b133 fnd m2 n2 x2 (nI (f0)) (nI m) (nI (gp (R A t) (f0) (m + 1 - f0))) := by
          unfold fX6_length_b92
          refine up2 (m + 1 - f0) (fun i x5 x6 => x5 = nI (gp (R A t) (f0) i) ∧ x6 = nI (f0 + i)) ?_ ?_ 2000 0 _ _ (by omega) (by omega) ⟨rfl, rfl⟩
          · rintro K x5 x6 ⟨rfl, rfl⟩
            unfold fX6_length_l98
            rw [if_pos (nI_lt (by omega) (by omega))]
          · rintro K i x5 x6 hi2 ⟨rfl, rfl⟩
            right
            refine ⟨nI (gp (R A t) (f0) (i + 1)), nI (f0 + (i + 1)), ?_, rfl, rfl⟩
            unfold fX6_length_l98 fX6_length_b124
            rw [if_neg (nI_nlt (by omega) (by omega)), gdN (by omega) (by omega), nI_clamp (by omega), hv _ (by omega), nI_1]
            by_cases z : R A t (f0 + i) = true
            · rw [if_neg (fun q => by rw [show R A t (f0 + i) = false from (lg_eq0 h10).mp q] at z; cases z), gp, if_pos z, show bI false = 0 from rfl, Int32.add_zero]
              rfl
            · rw [if_pos ((lg_eq0 h10).mpr (nT z)), gp, if_neg z, show bI true = 1 from rfl, nI_1]
              rfl
        have X2 : fX5_length kin lea mos (nI (A 2)) siz tol low hig spn fnd (nI t) x2 = if x2 = 0 then some (nI (f0), lo, hi, nI (A (68 + 11 * t)), fnd) else if x2 = 1 then some (nI m, lo, hi, nI (A (68 + 11 * t)), fnd) else some (nI (gp (R A t) (f0) (m + 1 - f0)), lo, hi, nI (A (68 + 11 * t)), fnd) := by
          simp only [fX5_length, hasT_eq (show A 2 < 2 ^ 31 by omega), c, if0t, isIn_hasL 3 2 rfl, d, X1, Option.bind_some, X_fewest h10 hsp2, hf0, X_most h10 hsp2, em]
          rw [if_pos (nI_le hfm (by omega)), X_gaps h10 hsp2 hfm (by omega), Option.bind_some]
        rw [M3, M4] at M2
        unfold fX6_length_b133 at M2
        by_cases z0 : x2 = 0
        · rw [if_pos z0] at X2 M2
          exact ⟨_, _, X2, M2, rfl, ⟨A, hw, hs, rfl⟩, hk, rfl, htp, hsh⟩
        · rw [if_neg z0] at X2 M2
          by_cases z1 : x2 = 1
          · rw [if_pos z1] at X2 M2
            exact ⟨_, _, X2, M2, rfl, ⟨A, hw, hs, rfl⟩, hk, rfl, htp, hsh⟩
          · rw [if_neg z1] at X2 M2
            exact ⟨_, _, X2, M2, rfl, ⟨A, hw, hs, rfl⟩, hk, rfl, htp, hsh⟩
      · have hf : f0 = 121 := by omega
        have hno : ∀ j, j < 121 → R A t j = false := fun j hj => fs_before (R A t) 121 j (by rw [hf0]; omega)
        refine ⟨((fn fnd 3).1, lo, hi, nI (A (68 + 11 * t)), (fn fnd 3).2), ((fn fnd 3).1, (fn fnd 3).2, m2, n2), ?_, ?_, rfl, ⟨A, hw, hs, rfl⟩, hk, rfl, htp, hsh⟩
        · simp only [fX5_length, hasT_eq (show A 2 < 2 ^ 31 by omega), c, if0t, isIn_hasL 3 2 rfl, d, X1, Option.bind_some, X_fewest h10 hsp2, hf0, X_most h10 hsp2]
          rw [hf, lst_none 121 hno, if_neg (by decide), fo_3, Option.bind_some]
        · rw [M2, hf]
          unfold fX6_length_b58
          rw [if_neg (by decide), no_3, Option.bind_some]
    · have d := nT d
      refine ⟨((fn fnd 0).1, low, hig, spn, (fn fnd 0).2), ((fn fnd 0).1, (fn fnd 0).2, mman, mnex), ?_, ?_, rfl, ⟨A, hw, hs, rfl⟩, hk, rfl, htp, hsh⟩
      · simp only [fX5_length, hasT_eq (show A 2 < 2 ^ 31 by omega), c, if0t, isIn_hasL 3 2 rfl, d, if0f, fX5_length_b20, fo_0, Option.bind_some]
      · simp only [fX6_length, M_isTale (show A 2 < 2 ^ 30 by omega), Option.bind_some, c, if0t, in_hasL 3 2 rfl, d, if0f, fX6_length_b17, no_0]
  · have c := nT c
    refine ⟨((fn fnd 0).1, low, hig, spn, (fn fnd 0).2), ((fn fnd 0).1, (fn fnd 0).2, mman, mnex), ?_, ?_, rfl, ⟨A, hw, hs, rfl⟩, hk, rfl, htp, hsh⟩
    · simp only [fX5_length, hasT_eq (show A 2 < 2 ^ 31 by omega), c, if0f, fX5_length_b20, fo_0, Option.bind_some]
    · simp only [fX6_length, M_isTale (show A 2 < 2 ^ 30 by omega), Option.bind_some, c, if0f, fX6_length_b17, no_0]
/-- the tales that are lost to hearers in y years -/
def yT (A : Nat → Nat) (y t : Nat) : Nat → Nat
  | 0 => 0
  | h + 1 => yT A y t h + if R A t (A (156 + h)) = true ∧ R A t (old (A (156 + h)) y) = false then 1 else 0
def yS (A : Nat → Nat) (y : Nat) : Nat → Nat
  | 0 => 0
  | t + 1 => yS A y t + yT A y t (A 3)
def gOld (A : Nat → Nat) (y i : Nat) : Nat → Nat := fun j => if 156 ≤ j ∧ j < 156 + i then old (A j) y else A j
def gYear (A : Nat → Nat) (y : Nat) : Nat → Nat := va_up (gOld A y (A 3)) 0 (A 0 + y)
theorem gO_lo {A : Nat → Nat} {y i j : Nat} (h : j < 156) : gOld A y i j = A j := if_neg (by omega)
theorem gO_hi {A : Nat → Nat} {y i h : Nat} (hh : h < i) : gOld A y i (156 + h) = old (A (156 + h)) y := if_pos (by omega)
theorem gY_lo {A : Nat → Nat} {y j : Nat} (h : j < 156) (h0 : j ≠ 0) : gYear A y j = A j := by
  unfold gYear
  rw [va_up_ne _ _ h0, gO_lo h]
theorem gY_hi {A : Nat → Nat} {y h : Nat} (hh : h < A 3) : gYear A y (156 + h) = old (A (156 + h)) y := by
  unfold gYear
  rw [va_up_ne _ _ (by omega), gO_hi hh]
theorem gY_0 (A : Nat → Nat) (y : Nat) : gYear A y 0 = A 0 + y := va_up_self _ _ _
theorem wf_gY {A : Nat → Nat} (hw : wfA A) {y : Nat} (hy : A 0 + y ≤ 999) : wfA (gYear A y) := by
  obtain ⟨hy0, h1, h2, h3, hpp, htt, hhh⟩ := hw
  refine ⟨by rw [gY_0]; exact hy, by rw [gY_lo (by omega) (by omega)]; exact h1, by rw [gY_lo (by omega) (by omega)]; exact h2, by rw [gY_lo (by omega) (by omega)]; exact h3, ?_, ?_, ?_⟩
  · intro p hp
    rw [gY_lo (by omega) (by omega)] at hp
    rw [gY_lo (by omega) (by omega), gY_lo (by omega) (by omega), gY_lo (by omega) (by omega), gY_lo (by omega) (by omega)]
    exact hpp p hp
  · intro t ht
    rw [gY_lo (by omega) (by omega)] at ht
    obtain ⟨g1, g2⟩ := htt t ht
    rw [gY_lo (by omega) (by omega), gY_lo (by omega) (by omega)]
    refine ⟨g1, fun i hi => ?_⟩
    rw [gY_lo (by omega) (by omega)]
    exact g2 i hi
  · intro h hh
    rw [gY_lo (by omega) (by omega)] at hh
    rw [gY_hi hh]
    exact old_le _ _
theorem stk_gY {A : Nat → Nat} (hw : wfA A) {kin lea mos wrt siz tol ags ag2 : Nat → Int32} (hs : stk A (nI (A 1)) kin lea mos wrt (nI (A 2)) siz tol (nI (A 3)) ags (nI (A 0))) {y : Nat} (ha : ∀ h, h < A 3 → ag2 h = nI (old (A (156 + h)) y)) : stk (gYear A y) (nI (A 1)) kin lea mos wrt (nI (A 2)) siz tol (nI (A 3)) ag2 (nI (A 0 + y)) := by
  obtain ⟨hy0, h1, h2, h3, hpp, htt, hhh⟩ := hw
  obtain ⟨-, hsp, -, hst, -, hsa, -⟩ := hs
  refine ⟨by rw [gY_lo (by omega) (by omega)], ?_, by rw [gY_lo (by omega) (by omega)], ?_, by rw [gY_lo (by omega) (by omega)], ?_, by rw [gY_0]⟩
  · intro p hp
    rw [gY_lo (by omega) (by omega)] at hp
    rw [gY_lo (by omega) (by omega), gY_lo (by omega) (by omega), gY_lo (by omega) (by omega), gY_lo (by omega) (by omega)]
    exact hsp p hp
  · intro t ht
    rw [gY_lo (by omega) (by omega)] at ht
    obtain ⟨g1, g2⟩ := htt t ht
    obtain ⟨q1, q2⟩ := hst t ht
    rw [gY_lo (by omega) (by omega)]
    refine ⟨q1, fun i hi => ?_⟩
    rw [gY_lo (by omega) (by omega)]
    exact q2 i hi
  · intro h hh
    rw [gY_lo (by omega) (by omega)] at hh
    rw [gY_hi hh]
    exact ha h hh
theorem X_grow {A : Nat → Nat} (hw : wfA A) {ags : Nat → Int32} (hsa : ∀ h, h < A 3 → ags h = nI (A (156 + h))) {y : Nat} (hy : y ≤ 60) : ∃ ag2, fX3_growOlder (nI (A 3)) ags (nI (A 0)) (nI y) = some (ag2, nI (A 0 + y)) ∧ ∀ h, h < A 3 → ag2 h = nI (old (A (156 + h)) y) := by
  obtain ⟨hy0, h1, h2, h3, hpp, htt, hhh⟩ := hw
  unfold fX3_growOlder
  refine uq2 (fun o => ∃ (ag2 : Nat → Int32), o = some (ag2, nI (A 0 + y)) ∧ ∀ h, h < A 3 → ag2 h = nI (old (A (156 + h)) y)) (A 3) (fun i x2 (ag : Nat → Int32) => x2 = nI i ∧ ∀ h, h < A 3 → ag h = nI (if h < i then old (A (156 + h)) y else A (156 + h))) ?_ ?_ 2000 0 _ _ (by omega) (by omega) ⟨rfl, fun h hh => by rw [if_neg (Nat.not_lt_zero h)]; exact hsa h hh⟩
  · rintro K x2 ag ⟨rfl, h⟩
    unfold fX3_growOlder_l2
    rw [if_pos (nI_le (Nat.le_refl _) (by omega))]
    unfold fX3_growOlder_b28
    rw [nI_add]
    exact ⟨ag, rfl, fun k hk => by rw [h k hk, if_pos hk]⟩
  · rintro K i x2 ag hi ⟨rfl, h⟩
    right
    have ha := hhh i hi
    refine ⟨nI (i + 1), upd ag i (nI (old (A (156 + i)) y)), ?_, rfl, ?_⟩
    · unfold fX3_growOlder_l2
      have e := h i hi
      rw [if_neg (Nat.lt_irrefl i)] at e
      rw [if_neg (nI_ge hi (by omega)), X_ageIn (by omega) e (by omega) (by omega), Option.bind_some, gdN (by omega) (by omega), nI_clamp (by omega), nI_1]
    · intro k hk
      rw [updI_at]
      by_cases hq : k = i
      · subst hq
        rw [if_pos rfl, if_pos (by omega)]
      · rw [if_neg hq, h k hk]
        by_cases h5 : k < i
        · rw [if_pos h5, if_pos (by omega)]
        · rw [if_neg h5, if_neg (by omega)]
set_option maxHeartbeats 4000000 in
theorem eq_years {par : Int32} {kin lea mos wrt : Nat → Int32} {tal : Int32} {siz tol : Nat → Int32} {hrs : Int32} {ags : Nat → Int32} {yea kpar : Int32} {kkin klea kmos kwrt : Nat → Int32} {ktal : Int32} {ksiz ktol : Nat → Int32} {khrs : Int32} {kags : Nat → Int32} {kyea isk : Int32} {tly : Nat → Int64} {gai bes : Nat → Int32} {low hig : Nat → Int64} {spn : Int32} {byt : Nat → Int32} {hld sta beh sor num : Int32} {fnd sbi she : Nat → Int32} {snu : Nat → Nat → Int64} {msv mkep mbef : Nat → Int32} {misk : Int32} {mfnd : Nat → Int32} {mman mnex : Nat → Int64} {mwor msng mhea mlat mtap : Nat → Int32} {mtpd mher mflt mvlu : Int32} {mbit mlon : Nat → Int32} {mcel mbtw : Nat → Int64} (h : Rel par kin lea mos wrt tal siz tol hrs ags yea kpar kkin klea kmos kwrt ktal ksiz ktol khrs kags kyea isk tly gai bes low hig spn byt hld sta beh sor num fnd sbi she snu msv mkep mbef misk mfnd mman mnex mwor msng mhea mlat mtap mtpd mher mflt mvlu mbit mlon mcel mbtw) (x1 : Int32) : ∃ (rx : Int32 × (Nat → Int32) × Int32 × (Nat → Int64) × (Nat → Int64) × Int32 × (Nat → Int32)) (rm : Int32 × (Nat → Int32) × (Nat → Int32) × (Nat → Int64) × (Nat → Int64)), fX5_years kin lea mos tal siz tol hrs ags yea low hig spn fnd x1 = some rx ∧ fX6_years msv mfnd mman mnex x1 = some rm ∧ rx.1 = rm.1 ∧ Rel par kin lea mos wrt tal siz tol hrs rx.2.1 rx.2.2.1 kpar kkin klea kmos kwrt ktal ksiz ktol khrs kags kyea isk tly gai bes rx.2.2.2.1 rx.2.2.2.2.1 rx.2.2.2.2.2.1 byt hld sta beh sor num rx.2.2.2.2.2.2 sbi she snu rm.2.1 mkep mbef misk rm.2.2.1 rm.2.2.2.1 rm.2.2.2.2 mwor msng mhea mlat mtap mtpd mher mflt mvlu mbit mlon mcel mbtw := by
  obtain ⟨⟨A, hw, hs, rfl⟩, hk, rfl, htp, hsh⟩ := h
  obtain ⟨hy, h1, h2, h3, hpp, htt, hhh⟩ := id hw
  obtain ⟨rfl, hsp, rfl, hst, rfl, hsa, rfl⟩ := id hs
  by_cases d : fX5_isIn x1 1 60 = true
  · obtain ⟨y, hy1, hy2, rfl⟩ := isIn_of (a := 1) (b := 60) (by omega) (by omega) d
    have d2 : fX6_in (nI y) 1 60 = true := d
    by_cases f : A 0 + y ≤ 999
    · have X1 : ∃ ag2 lo hi sp, fix5 (fX5_years_l43 kin lea mos (nI (A 2)) siz tol (nI (A 3)) ags (nI (A 0)) fnd (nI y)) 2000 0 0 low hig spn = some (nI (yS A y (A 2)), ag2, nI (A 0 + y), lo, hi, sp, fnd) ∧ ∀ h, h < A 3 → ag2 h = nI (old (A (156 + h)) y) := by
        refine uq5 (fun o => ∃ (ag2 : Nat → Int32) (lo hi : Nat → Int64) (sp : Int32), o = some (nI (yS A y (A 2)), ag2, nI (A 0 + y), lo, hi, sp, fnd) ∧ ∀ h, h < A 3 → ag2 h = nI (old (A (156 + h)) y)) (A 2) (fun i x2 x3 (lo hi : Nat → Int64) (sp : Int32) => x2 = nI (yS A y i) ∧ x3 = nI i) ?_ ?_ 2000 0 _ _ _ _ _ (by omega) (by omega) ⟨rfl, rfl⟩
        · rintro K x2 x3 lo hi sp ⟨rfl, rfl⟩
          obtain ⟨ag2, e, hag⟩ := X_grow hw hsa hy2
          unfold fX5_years_l43
          rw [if_pos (nI_le (Nat.le_refl _) (by omega))]
          unfold fX5_years_b132
          rw [e, Option.bind_some]
          exact ⟨ag2, lo, hi, sp, rfl, hag⟩
        · rintro K i x2 x3 lo hi sp hi2 ⟨rfl, rfl⟩
          right
          have h10 := (htt i hi2).1
          obtain ⟨lo2, hi3, ex, hsp2⟩ := X_spanWords hw hs hi2 lo hi sp
          refine ⟨nI (yS A y (i + 1)), nI (i + 1), lo2, hi3, nI (A (68 + 11 * i)), ?_, rfl, rfl⟩
          unfold fX5_years_l43
          rw [if_neg (nI_ge hi2 (by omega)), ex, Option.bind_some]
          refine up2 (A 3) (fun h x2 x4 => x2 = nI (yS A y i + yT A y i h) ∧ x4 = nI h) ?_ ?_ 2000 0 _ _ (by omega) (by omega) ⟨rfl, rfl⟩
          · rintro K2 x2 x4 ⟨rfl, rfl⟩
            unfold fX5_years_l65
            rw [if_pos (nI_le (Nat.le_refl _) (by omega))]
            unfold fX5_years_b126
            rw [nI_1]
            rfl
          · rintro K2 h x2 x4 hh ⟨rfl, rfl⟩
            right
            have ha := hhh h hh
            have ho := old_le (A (156 + h)) y
            refine ⟨nI (yS A y i + yT A y i (h + 1)), nI (h + 1), ?_, rfl, rfl⟩
            unfold fX5_years_l65 fX5_years_b120
            rw [if_neg (nI_ge hh (by omega)), gdN (by omega) (by omega), nI_clamp (by omega), hsa h hh, X_canBe h10 (by omega) hsp2, Option.bind_some, X_ageIn (by omega) (hsa h hh) (by omega) (by omega), Option.bind_some, X_canBe h10 (by omega) hsp2, Option.bind_some, nI_1, nI_1, yT]
            show (if bI (R A i (A (156 + h))) = 0 then _ else (if bI (R A i (old (A (156 + h)) y)) = 0 then _ else _)) = _
            by_cases z1 : R A i (A (156 + h)) = true
            · rw [z1, if0t]
              by_cases z2 : R A i (old (A (156 + h)) y) = true
              · rw [z2, if0t, if_neg (fun q => by cases q.2)]
                rfl
              · rw [nT z2, if0f, if_pos ⟨rfl, rfl⟩]
                rfl
            · rw [nT z1, if0f, if_neg (fun q => by cases q.1)]
              rfl
      have M1 : ∃ m2 n2, fix4 (fX6_years_l40 (toF A) fnd (nI y)) 2000 0 0 mman mnex = some (nI (yS A y (A 2)), toF (gYear A y), fnd, m2, n2) := by
        refine uq4 (fun o => ∃ (m2 n2 : Nat → Int64), o = some (nI (yS A y (A 2)), toF (gYear A y), fnd, m2, n2)) (A 2) (fun i x2 x3 (m n : Nat → Int64) => x2 = nI (yS A y i) ∧ x3 = nI i) ?_ ?_ 2000 0 _ _ _ _ (by omega) (by omega) ⟨rfl, rfl⟩
        · rintro K x2 x3 m n ⟨rfl, rfl⟩
          unfold fX6_years_l40
          rw [if_pos (show toF A (2 : Int32).toNatClampNeg ≤ nI (A 2) from nI_le (Nat.le_refl _) (by omega))]
          refine ⟨m, n, ?_⟩
          unfold fX6_years_b140
          refine up2 (A 3) (fun i x3 (sv : Nat → Int32) => x3 = nI i ∧ sv = toF (gOld A y i)) ?_ ?_ 2000 0 _ _ (by omega) (by omega) ⟨rfl, ?_⟩
          · rintro K2 x3 sv ⟨rfl, rfl⟩
            unfold fX6_years_l142
            rw [if_pos (show toF (gOld A y (A 3)) (3 : Int32).toNatClampNeg ≤ nI (A 3) from by show nI (gOld A y (A 3) 3) ≤ nI (A 3); rw [gO_lo (by omega)]; exact nI_le (Nat.le_refl _) (by omega))]
            unfold fX6_years_b182
            have e : toF (gOld A y (A 3)) (0 : Int32).toNatClampNeg + nI y = nI (A 0 + y) := by
              show nI (gOld A y (A 3) 0) + nI y = _
              rw [gO_lo (by omega), nI_add]
            rw [e]
            show some (_, upd (toF (gOld A y (A 3))) 0 (nI (A 0 + y)), _, _, _) = _
            rw [upd_toF]
            rfl
          · rintro K2 i x3 sv hi2 ⟨rfl, rfl⟩
            right
            have ha := hhh i hi2
            refine ⟨nI (i + 1), toF (gOld A y (i + 1)), ?_, rfl, rfl⟩
            unfold fX6_years_l142
            rw [if_neg (show ¬ toF (gOld A y i) (3 : Int32).toNatClampNeg ≤ nI i from by show ¬ nI (gOld A y i 3) ≤ nI i; rw [gO_lo (by omega)]; exact nI_ge hi2 (by omega)), e_age, gdN (by omega) (by omega), gdN (by omega) (by omega), nI_clamp (by omega), toF_at]
            have e1 : gOld A y i (156 + i) = A (156 + i) := if_neg (by omega)
            rw [e1, older_eq (by omega) (by omega), upd_toF, nI_1]
            have e2 : va_up (gOld A y i) (156 + i) (old (A (156 + i)) y) = gOld A y (i + 1) := by
              funext j
              rw [up_at]
              unfold gOld
              by_cases hq : j = 156 + i
              · rw [if_pos hq, if_pos (by omega), hq]
              · rw [if_neg hq]
                by_cases h5 : 156 ≤ j ∧ j < 156 + i
                · rw [if_pos h5, if_pos (by omega)]
                · rw [if_neg h5, if_neg (by omega)]
            rw [e2]
          · funext j
            show nI (A j) = nI (gOld A y 0 j)
            rw [show gOld A y 0 j = A j from if_neg (by omega)]
        · rintro K i x2 x3 m n hi2 ⟨rfl, rfl⟩
          right
          have h10 := (htt i hi2).1
          obtain ⟨m2, n2, em, hv⟩ := M_counts hw hi2 (Nat.le_refl _) m n
          refine ⟨nI (yS A y (i + 1)), nI (i + 1), m2, n2, ?_, rfl, rfl⟩
          unfold fX6_years_l40
          rw [if_neg (show ¬ toF A (2 : Int32).toNatClampNeg ≤ nI i from nI_ge (b := A 2) hi2 (by omega)), M_long (by omega), Option.bind_some, em, Option.bind_some]
          refine up2 (A 3) (fun h x2 x4 => x2 = nI (yS A y i + yT A y i h) ∧ x4 = nI h) ?_ ?_ 2000 0 _ _ (by omega) (by omega) ⟨rfl, rfl⟩
          · rintro K2 x2 x4 ⟨rfl, rfl⟩
            unfold fX6_years_l63
            rw [if_pos (show toF A (3 : Int32).toNatClampNeg ≤ nI (A 3) from nI_le (Nat.le_refl _) (by omega))]
            unfold fX6_years_b134
            rw [nI_1]
            rfl
          · rintro K2 h x2 x4 hh ⟨rfl, rfl⟩
            right
            have ha := hhh h hh
            have ho := old_le (A (156 + h)) y
            refine ⟨nI (yS A y i + yT A y i (h + 1)), nI (h + 1), ?_, rfl, rfl⟩
            unfold fX6_years_l63 fX6_years_b125 fX6_years_b126
            rw [if_neg (show ¬ toF A (3 : Int32).toNatClampNeg ≤ nI h from nI_ge (b := A 3) hh (by omega)), e_age, gdN (by omega) (by omega), nI_clamp (show 156 + h < 2 ^ 31 by omega), toF_at, older_eq (by omega) (by omega), gdN (by omega) (by omega), gdN (by omega) (by omega), gdN (by omega) (by omega), nI_clamp (by omega), nI_clamp (by omega)]
            show (if lg_cmp (m2 (A (156 + h))) 0 ≤ 0 then _ else (if lg_cmp (m2 (old (A (156 + h)) y)) 0 = 0 then _ else _)) = _
            rw [hv _ (by omega), hv _ (by omega), yT, nI_1]
            by_cases z1 : R A i (A (156 + h)) = true
            · rw [if_neg (fun q => by rw [show R A i (A (156 + h)) = false from (lg_le0 h10).mp q] at z1; cases z1)]
              by_cases z2 : R A i (old (A (156 + h)) y) = true
              · rw [if_neg (fun q => by rw [show R A i (old (A (156 + h)) y) = false from (lg_eq0 h10).mp q] at z2; cases z2), if_neg (fun q => by rw [z2] at q; cases q.2), show bI false = 0 from rfl, Int32.add_zero]
                rfl
              · rw [if_pos ((lg_eq0 h10).mpr (nT z2)), if_pos ⟨z1, nT z2⟩, show bI true = 1 from rfl, nI_1]
                rfl
            · rw [if_pos ((lg_le0 h10).mpr (nT z1)), if_neg (fun q => z1 q.1), show bI false = 0 from rfl, Int32.add_zero]
              rfl
      obtain ⟨ag2, lo, hi, sp, X1, hag⟩ := X1
      obtain ⟨m2, n2, M1⟩ := M1
      refine ⟨(nI (yS A y (A 2)), ag2, nI (A 0 + y), lo, hi, sp, fnd), (nI (yS A y (A 2)), toF (gYear A y), fnd, m2, n2), ?_, ?_, rfl, ⟨gYear A y, wf_gY hw f, stk_gY hw hs hag, rfl⟩, hk, rfl, htp, hsh⟩
      · simp only [fX5_years, d, if0t]
        rw [nI_add, if_pos (show nI (A 0 + y) ≤ (999 : Int32) from nI_le (b := 999) f (by omega))]
        exact X1
      · simp only [fX6_years, d2, if0t]
        rw [show toF A (0 : Int32).toNatClampNeg + nI y = nI (A 0 + y) from nI_add _ _, if_pos (show nI (A 0 + y) ≤ (999 : Int32) from nI_le (b := 999) f (by omega))]
        exact M1
    · refine ⟨((fn fnd 4).1, ags, nI (A 0), low, hig, spn, (fn fnd 4).2), ((fn fnd 4).1, toF A, (fn fnd 4).2, mman, mnex), ?_, ?_, rfl, ⟨A, hw, hs, rfl⟩, hk, rfl, htp, hsh⟩
      · simp only [fX5_years, d, if0t]
        rw [nI_add, if_neg (show ¬ nI (A 0 + y) ≤ (999 : Int32) from nI_ge (a := 999) (by omega) (by omega)), fo_4, Option.bind_some]
      · simp only [fX6_years, d2, if0t]
        rw [show toF A (0 : Int32).toNatClampNeg + nI y = nI (A 0 + y) from nI_add _ _, if_neg (show ¬ nI (A 0 + y) ≤ (999 : Int32) from nI_ge (a := 999) (by omega) (by omega)), no_4, Option.bind_some]
  · have d := nT d
    have d2 : fX6_in x1 1 60 = false := d
    refine ⟨((fn fnd 0).1, ags, nI (A 0), low, hig, spn, (fn fnd 0).2), ((fn fnd 0).1, toF A, (fn fnd 0).2, mman, mnex), ?_, ?_, rfl, ⟨A, hw, hs, rfl⟩, hk, rfl, htp, hsh⟩
    · simp only [fX5_years, d, if0f, fo_0, Option.bind_some]
    · simp only [fX6_years, d2, if0f, no_0, Option.bind_some]

