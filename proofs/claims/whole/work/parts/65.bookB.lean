theorem tale_both {b : Nat → Nat} (hb : ∀ k, b k < 256) {n : Nat} (hn : n ≤ 120) {A0 A : Nat → Nat} (hw0 : wfA A0) {par : Int32} {kin lea mos wrt : Nat → Int32} {tal : Int32} {siz tol : Nat → Int32} {hrs : Int32} {ags : Nat → Int32} (h : St A0 A par kin lea mos wrt tal siz tol hrs ags) (hl : A 2 < 8) {s : Nat} (hs : s ≤ n) (fnd : Nat → Int32) (num vlu : Int32) :
    ∃ (okX okM : Bool) (s' : Nat) (tal' : Int32) (siz' tol' : Nat → Int32) (num' : Int32) (A' : Nat → Nat) (sv' : Nat → Int32) (her' flt' vlu' : Int32),
      fX0_readTale par tal siz tol (toF b) (nI n) (nI s) (nI (en b n s)) (nI (srt b n s)) num = some (okX, tal', siz', tol', nI s', nI (en b n s'), nI (srt b n s'), num') ∧
      fX6_taleTold (toF A) fnd (toF b) (nI n) (nI (en b n s)) (-1) vlu = some (okM, sv', fnd, her', flt', vlu') ∧
      St A0 A' par kin lea mos wrt tal' siz' tol' hrs ags ∧ s' ≤ n ∧ en b n s ≤ s' ∧ Res b n okX okM s' A' sv' her' flt' := by
  have et : tal = nI (A 2) := h.2.1.2.2.1
  have e0 := en_le (b := b) hs
  obtain ⟨s1, hs1⟩ : ∃ s1, sk b n (en b n s) = s1 := ⟨_, rfl⟩
  have l1 := sk_le (b := b) e0.2
  have k1 := sk_sk (b := b) e0.2
  rw [hs1] at l1 k1
  have e1 := en_le (b := b) l1.2
  have hT := st_tale h hl
  unfold fX0_readTale fX6_taleTold
  rw [et, if_pos (show nI (A 2) < 8 from nI_lt (b := 8) hl (by omega)), X_addTale hl, M_tale hl, Option.bind_some, Option.bind_some, X_step hb hn e0.2, Option.bind_some, hs1, X_isText hb hn l1.2 (by omega), Option.bind_some, M_may hb hn e0.2 hs1 (by omega), Option.bind_some]
  by_cases c : tx b n s1 10 = true
  · rw [c, if0t, if0t, if_pos rfl, X_step hb hn e1.2, Option.bind_some]
    have l2 := sk_le (b := b) e1.2
    have hT2 : A 2 < aTale A 2 := by simp only [aTale, up_at, if_true]; omega
    have hTA : aTale A (68 + 11 * A 2) = 0 := by
      simp only [aTale, up_at]
      rw [if_neg (by omega), if_true]
    obtain ⟨okX, okM, s', siz', tol', num', A', sv', her', flt', vlu', r1, r2, r3, r4, r5, r6⟩ := tale_loop hb hn hw0 (t := A 2) h.2.2.1.2.1 fnd 10 0 (by omega) (aTale A) (upd siz (A 2) 0) tol (sk b n (en b n s1)) (en b n s1) num vlu 2000 2000 (by omega) (by omega) hT hT2 hTA e1.2 rfl (fun z => absurd rfl z)
    exact ⟨okX, okM, s', _, siz', tol', num', A', sv', her', flt', vlu', r1, r2, r3, r4, by omega, r6⟩
  · rw [nT c, if0f, if0f, if_neg Bool.false_ne_true]
    exact ⟨true, true, s1, _, _, _, _, aTale A, _, _, _, _, rfl, rfl, hT, l1.2, by omega, res_t l1.2 k1⟩
theorem hear_both {b : Nat → Nat} (hb : ∀ k, b k < 256) {n : Nat} (hn : n ≤ 120) {A0 A : Nat → Nat} {par : Int32} {kin lea mos wrt : Nat → Int32} {tal : Int32} {siz tol : Nat → Int32} {hrs : Int32} {ags : Nat → Int32} (h : St A0 A par kin lea mos wrt tal siz tol hrs ags) (hl : A 3 < 10) {s p : Nat} (hp : p ≤ n) (hps : sk b n p = s) (c : tx b n s 7 = true) (fnd : Nat → Int32) (num vlu : Int32) :
    ∃ (ok : Bool) (s' : Nat) (hrs' : Int32) (ags' : Nat → Int32) (num' : Int32) (A' : Nat → Nat) (sv' : Nat → Int32) (her' flt' vlu' : Int32),
      fX0_readHearer hrs ags (toF b) (nI n) (nI s) (nI (en b n s)) (nI (srt b n s)) num = some (ok, hrs', ags', nI s', nI (en b n s'), nI (srt b n s'), num') ∧
      fX6_item_b125 (toF A) fnd (toF b) (nI n) (nI p) (-1) vlu = some (ok, sv', fnd, her', flt', vlu') ∧
      St A0 A' par kin lea mos wrt tal siz tol hrs' ags' ∧ s' ≤ n ∧ en b n s ≤ s' ∧ Res b n ok ok s' A' sv' her' flt' := by
  have hs : s ≤ n := by have := (sk_le (b := b) hp).2; omega
  have eh : hrs = nI (A 3) := h.2.1.2.2.2.2.1
  have e0 := en_le (b := b) hs
  obtain ⟨s1, hs1⟩ : ∃ s1, sk b n (en b n s) = s1 := ⟨_, rfl⟩
  have l1 := sk_le (b := b) e0.2
  rw [hs1] at l1
  have e1 := en_le (b := b) l1.2
  obtain ⟨w, X1, hw⟩ := X_stn hb hn (p := en b n s) (s := s1) (lo := 0) (hx := 100) (y := 99) e0.2 hs1 (by omega) (by omega) rfl (nI s) (nI (srt b n s)) num
  have M1 := M_number hb hn (p := en b n s) (s := s1) (lo := 0) (hx := 100) (y := 99) e0.2 hs1 (by omega) (by omega) rfl vlu
  have X1 : fX0_stepToNumber (toF b) (nI n) (nI s) (nI (en b n s)) (nI (srt b n s)) num 0 99 = _ := X1
  have M1 : fX6_number (toF b) (nI n) (nI (en b n s)) (-1) vlu 0 99 = _ := M1
  unfold fX0_readHearer fX6_item_b125
  rw [if_neg (show ¬ (10 : Int32) ≤ hrs by rw [eh]; exact nI_ge (b := 10) hl (by omega)), X1, Option.bind_some, M_must hb hn hp hps (by omega), Option.bind_some, c, if_pos rfl, if0t, M1, Option.bind_some]
  by_cases d : okN b n s1 0 100 = true
  · obtain ⟨d1, d2, d3⟩ := okN_of d
    rw [hw d, d, if_pos rfl, if0t, if0t, eh, X_addHearer hl, Option.bind_some, X_step hb hn e1.2, Option.bind_some]
    have l2 := sk_le (b := b) e1.2
    refine ⟨true, sk b n (en b n s1), _, _, _, aHear A (vl b n s1), toF (aHear A (vl b n s1)), nI (en b n s1), -1, nI (vl b n s1), rfl, ?_, st_hear h hl (by omega), l2.2, by omega, res_t e1.2 rfl⟩
    have e : (156 : Int32) + toF A (3 : Int32).toNatClampNeg = nI (156 + A 3) := e_age (A 3)
    rw [e, gdN (by omega) (by omega), nI_clamp (by omega), upd_toF]
    have e2 : toF (va_up A (156 + A 3) (vl b n s1)) (3 : Int32).toNatClampNeg + (1 : Int32) = nI (A 3 + 1) := by
      show nI (va_up A (156 + A 3) (vl b n s1) 3) + 1 = _
      rw [va_up_ne _ _ (by omega), nI_1]
    rw [e2]
    show some (true, upd (toF (va_up A (156 + A 3) (vl b n s1))) 3 (nI (A 3 + 1)), fnd, nI (en b n s1), -1, nI (vl b n s1)) = _
    rw [upd_toF]
    rfl
  · rw [nT d, if_neg Bool.false_ne_true, if0f, if0f]
    exact ⟨false, s1, _, _, _, A, _, _, _, _, rfl, rfl, h, l1.2, by omega, res_f⟩
theorem kindX : ∀ κ, κ < 6 → fX0_kindText (nI κ) = κ := by decide
theorem kindM : ∀ κ, κ < 6 → fX6_kindName (nI κ) = κ := by decide
theorem X_item_k {b : Nat → Nat} (hb : ∀ k, b k < 256) {n : Nat} (hn : n ≤ 120) {s κ : Nat} (hs : s ≤ n) (hκ : κ < 6) (c : tx b n s κ = true) (c0 : ∀ j, j < κ → tx b n s j = false) (par : Int32) (kin lea mos wrt : Nat → Int32) (tal : Int32) (siz tol : Nat → Int32) (hrs : Int32) (ags : Nat → Int32) (num : Int32) : fX0_readItem par kin lea mos wrt tal siz tol hrs ags (toF b) (nI n) (nI s) (nI (en b n s)) (nI (srt b n s)) num = fX0_readItem_b19 par kin lea mos wrt tal siz tol hrs ags (toF b) (nI n) (nI s) (nI (en b n s)) (nI (srt b n s)) num (nI κ) := by
  unfold fX0_readItem
  refine up1 κ (fun i x => x = nI i) ?_ ?_ 2000 0 _ (by omega) (by omega) rfl
  · rintro K x rfl
    unfold fX0_readItem_l2
    rw [if_neg (show ¬ (6 : Int32) ≤ nI κ from nI_ge (b := 6) hκ (by omega)), kindX κ hκ, X_isText hb hn hs (by omega), Option.bind_some, c, if0t]
  · rintro K i x hi rfl
    right
    refine ⟨nI (i + 1), ?_, rfl⟩
    unfold fX0_readItem_l2
    rw [if_neg (show ¬ (6 : Int32) ≤ nI i from nI_ge (b := 6) (by omega) (by omega)), kindX i (by omega), X_isText hb hn hs (by omega), Option.bind_some, c0 i hi, if0f, nI_1]
theorem X_item_n {b : Nat → Nat} (hb : ∀ k, b k < 256) {n : Nat} (hn : n ≤ 120) {s : Nat} (hs : s ≤ n) (c0 : ∀ j, j < 6 → tx b n s j = false) (par : Int32) (kin lea mos wrt : Nat → Int32) (tal : Int32) (siz tol : Nat → Int32) (hrs : Int32) (ags : Nat → Int32) (num : Int32) : fX0_readItem par kin lea mos wrt tal siz tol hrs ags (toF b) (nI n) (nI s) (nI (en b n s)) (nI (srt b n s)) num = fX0_readItem_b31 par kin lea mos wrt tal siz tol hrs ags (toF b) (nI n) (nI s) (nI (en b n s)) (nI (srt b n s)) num := by
  unfold fX0_readItem
  refine up1 6 (fun i x => x = nI i) ?_ ?_ 2000 0 _ (by omega) (by omega) rfl
  · rintro K x rfl
    unfold fX0_readItem_l2
    rw [if_pos (by decide)]
  · rintro K i x hi rfl
    right
    refine ⟨nI (i + 1), ?_, rfl⟩
    unfold fX0_readItem_l2
    rw [if_neg (show ¬ (6 : Int32) ≤ nI i from nI_ge (b := 6) hi (by omega)), kindX i hi, X_isText hb hn hs (by omega), Option.bind_some, c0 i hi, if0f, nI_1]
theorem M_item_k {b : Nat → Nat} (hb : ∀ k, b k < 256) {n : Nat} (hn : n ≤ 120) {s p κ : Nat} (hp : p ≤ n) (hps : sk b n p = s) (hκ : κ < 6) (c : tx b n s κ = true) (c0 : ∀ j, j < κ → tx b n s j = false) {A : Nat → Nat} (h1 : A 1 ≤ 16) (fnd : Nat → Int32) (vlu : Int32) : fX6_item (toF A) fnd (toF b) (nI n) (nI p) (-1) vlu = if A 1 = 16 then some (false, toF A, fnd, nI s, nI s, vlu) else fX6_item_b46 (toF A) fnd (toF b) (nI n) (nI (en b n s)) (-1) vlu (nI κ) := by
  have hs : s ≤ n := by have := (sk_le (b := b) hp).2; omega
  have hss : sk b n s = s := by rw [← hps]; exact sk_sk hp
  unfold fX6_item
  refine up2 κ (fun i x y => x = nI i ∧ ∃ p, p ≤ n ∧ y = nI p ∧ sk b n p = s) ?_ ?_ 2000 0 _ _ (by omega) (by omega) ⟨rfl, p, hp, rfl, hps⟩
  · rintro K x y ⟨rfl, p, hp, rfl, hps⟩
    unfold fX6_item_l2
    rw [if_neg (show ¬ (6 : Int32) ≤ nI κ from nI_ge (b := 6) hκ (by omega)), kindM κ hκ, M_isWord hb hn hp hps (by omega), Option.bind_some, c, if0t]
    by_cases z : A 1 = 16
    · rw [if_pos z, if_pos (show toF A (1 : Int32).toNatClampNeg = 16 from (show nI (A 1) = 16 by rw [z]; rfl))]
      unfold fX6_item_b30
      rw [fails_1]
    · rw [if_neg z, if_neg (show ¬ toF A (1 : Int32).toNatClampNeg = 16 from fun q => z ((nI_eq (a := A 1) (b := 16) (by omega) (by omega)).mp q))]
      unfold fX6_item_b35
      rw [kindM κ hκ, M_may hb hn hs hss (by omega), Option.bind_some, c, if_pos rfl, if0t]
  · rintro K i x y hi ⟨rfl, p, hp, rfl, hps⟩
    right
    refine ⟨nI (i + 1), nI s, ?_, rfl, s, hs, rfl, hss⟩
    unfold fX6_item_l2 fX6_item_b35
    rw [if_neg (show ¬ (6 : Int32) ≤ nI i from nI_ge (b := 6) (by omega) (by omega)), kindM i (by omega), M_isWord hb hn hp hps (by omega), Option.bind_some, c0 i hi, if0f, M_may hb hn hs hss (by omega), Option.bind_some, c0 i hi, if_neg Bool.false_ne_true, if0f, nI_1]
theorem M_item_n {b : Nat → Nat} (hb : ∀ k, b k < 256) {n : Nat} (hn : n ≤ 120) {s p : Nat} (hp : p ≤ n) (hps : sk b n p = s) (c0 : ∀ j, j < 6 → tx b n s j = false) (A : Nat → Nat) (fnd : Nat → Int32) (vlu : Int32) : ∃ q, q ≤ n ∧ sk b n q = s ∧ fX6_item (toF A) fnd (toF b) (nI n) (nI p) (-1) vlu = fX6_item_b58 (toF A) fnd (toF b) (nI n) (nI q) (-1) vlu := by
  have hs : s ≤ n := by have := (sk_le (b := b) hp).2; omega
  have hss : sk b n s = s := by rw [← hps]; exact sk_sk hp
  unfold fX6_item
  refine uq2 (fun o => ∃ q, q ≤ n ∧ sk b n q = s ∧ o = fX6_item_b58 (toF A) fnd (toF b) (nI n) (nI q) (-1) vlu) 6 (fun i x y => x = nI i ∧ ∃ p, p ≤ n ∧ y = nI p ∧ sk b n p = s) ?_ ?_ 2000 0 _ _ (by omega) (by omega) ⟨rfl, p, hp, rfl, hps⟩
  · rintro K x y ⟨rfl, p, hp, rfl, hps⟩
    unfold fX6_item_l2
    rw [if_pos (by decide)]
    exact ⟨p, hp, hps, rfl⟩
  · rintro K i x y hi ⟨rfl, p, hp, rfl, hps⟩
    right
    refine ⟨nI (i + 1), nI s, ?_, rfl, s, hs, rfl, hss⟩
    unfold fX6_item_l2 fX6_item_b35
    rw [if_neg (show ¬ (6 : Int32) ≤ nI i from nI_ge (b := 6) hi (by omega)), kindM i hi, M_isWord hb hn hp hps (by omega), Option.bind_some, c0 i hi, if0f, M_may hb hn hs hss (by omega), Option.bind_some, c0 i hi, if_neg Bool.false_ne_true, if0f, nI_1]
theorem item_both {b : Nat → Nat} (hb : ∀ k, b k < 256) {n : Nat} (hn : n ≤ 120) {A0 A : Nat → Nat} (hw0 : wfA A0) {par : Int32} {kin lea mos wrt : Nat → Int32} {tal : Int32} {siz tol : Nat → Int32} {hrs : Int32} {ags : Nat → Int32} (h : St A0 A par kin lea mos wrt tal siz tol hrs ags) {s p : Nat} (hp : p ≤ n) (hps : sk b n p = s) (fnd : Nat → Int32) (num vlu : Int32) :
    ∃ (okX okM : Bool) (s' : Nat) (par' : Int32) (kin' lea' mos' wrt' : Nat → Int32) (tal' : Int32) (siz' tol' : Nat → Int32) (hrs' : Int32) (ags' : Nat → Int32) (num' : Int32) (A' : Nat → Nat) (sv' : Nat → Int32) (her' flt' vlu' : Int32),
      fX0_readItem par kin lea mos wrt tal siz tol hrs ags (toF b) (nI n) (nI s) (nI (en b n s)) (nI (srt b n s)) num = some (okX, par', kin', lea', mos', wrt', tal', siz', tol', hrs', ags', nI s', nI (en b n s'), nI (srt b n s'), num') ∧
      fX6_item (toF A) fnd (toF b) (nI n) (nI p) (-1) vlu = some (okM, sv', fnd, her', flt', vlu') ∧
      St A0 A' par' kin' lea' mos' wrt' tal' siz' tol' hrs' ags' ∧ s' ≤ n ∧ (okM = true → s + 1 ≤ s') ∧ Res b n okX okM s' A' sv' her' flt' := by
  have hs : s ≤ n := by have := (sk_le (b := b) hp).2; omega
  have hss : sk b n s = s := by rw [← hps]; exact sk_sk hp
  have h16 : A 1 ≤ 16 := h.1.2.1
  have h8 : A 2 ≤ 8 := h.1.2.2.1
  have h10 : A 3 ≤ 10 := h.1.2.2.2.1
  have ep : par = nI (A 1) := h.2.1.1
  have et : tal = nI (A 2) := h.2.1.2.2.1
  have eh : hrs = nI (A 3) := h.2.1.2.2.2.2.1
  by_cases f : fs (fun k => tx b n s k) 6 < 6
  · have c : tx b n s (fs (fun k => tx b n s k) 6) = true := fs_lt (fun k => tx b n s k) 6 f
    have c0 : ∀ j, j < fs (fun k => tx b n s k) 6 → tx b n s j = false := fs_before (fun k => tx b n s k) 6
    obtain ⟨κ, hκ⟩ : ∃ κ, κ = fs (fun k => tx b n s k) 6 := ⟨_, rfl⟩
    rw [← hκ] at f c c0
    have ls := tx_en hs (by omega) c
    have len := str_len κ (by omega)
    rw [X_item_k hb hn hs f c c0, M_item_k hb hn hp hps f c c0 h16]
    unfold fX0_readItem_b19
    by_cases z : A 1 = 16
    · rw [if_pos z]
      refine ⟨false, false, s, par, kin, lea, mos, wrt, tal, siz, tol, hrs, ags, num, A, _, _, _, _, ?_, rfl, h, hs, fun q => absurd q Bool.false_ne_true, res_f⟩
      · unfold fX0_readPart
        rw [if_pos (show (16 : Int32) ≤ par by rw [ep]; exact nI_le (a := 16) (by omega) (by omega)), Option.bind_some]
    · rw [if_neg z]
      unfold fX6_item_b46
      obtain ⟨ok, s', par', kin', lea', mos', wrt', num', A', sv', her', flt', vlu', r1, r2, r3, r4, r5, r6⟩ := part_both hb hn h (show A 1 < 16 by omega) hs f num vlu
      rw [r1, r2, Option.bind_some, Option.bind_some]
      exact ⟨ok, ok, s', _, _, _, _, _, _, _, _, _, _, _, A', _, _, _, _, rfl, rfl, r3, r4, fun _ => by omega, r6⟩
  · have c0 : ∀ j, j < 6 → tx b n s j = false := fun j hj => fs_before (fun k => tx b n s k) 6 j (by omega)
    obtain ⟨q, hq, hqs, M0⟩ := M_item_n hb hn hp hps c0 A fnd vlu
    rw [X_item_n hb hn hs c0, M0]
    unfold fX0_readItem_b31 fX6_item_b58
    rw [X_isText hb hn hs (by omega), Option.bind_some, M_isWord hb hn hq hqs (by omega), Option.bind_some]
    by_cases c : tx b n s 6 = true
    · have ls := tx_en hs (by omega) c
      have len := str_len 6 (by omega)
      rw [c, if0t, if0t]
      by_cases z : A 2 = 8
      · rw [if_pos (show toF A (2 : Int32).toNatClampNeg = 8 from (show nI (A 2) = 8 by rw [z]; rfl)), fails_1]
        refine ⟨false, false, s, par, kin, lea, mos, wrt, tal, siz, tol, hrs, ags, num, A, _, _, _, _, ?_, rfl, h, hs, fun q => absurd q Bool.false_ne_true, res_f⟩
        unfold fX0_readTale
        rw [if_neg (show ¬ tal < 8 by rw [et]; exact nI_nlt (b := 8) (by omega) (by omega)), Option.bind_some]
      · rw [if_neg (show ¬ toF A (2 : Int32).toNatClampNeg = 8 from fun q => z ((nI_eq (a := A 2) (b := 8) (by omega) (by omega)).mp q))]
        unfold fX6_item_b84
        rw [M_may hb hn hs hss (by omega), Option.bind_some, c, if_pos rfl, if0t]
        obtain ⟨okX, okM, s', tal', siz', tol', num', A', sv', her', flt', vlu', r1, r2, r3, r4, r5, r6⟩ := tale_both hb hn hw0 h (show A 2 < 8 by omega) hs fnd num vlu
        rw [r1, r2, Option.bind_some, Option.bind_some]
        exact ⟨okX, okM, s', _, _, _, _, _, _, _, _, _, _, _, A', _, _, _, _, rfl, rfl, r3, r4, fun _ => by omega, r6⟩
    · have c := nT c
      rw [c, if0f, if0f]
      unfold fX6_item_b84
      rw [M_may hb hn hs hss (by omega), Option.bind_some, c, if_neg Bool.false_ne_true, if0f, X_isText hb hn hs (by omega), Option.bind_some, M_isWord hb hn hs hss (by omega), Option.bind_some]
      by_cases d : tx b n s 7 = true
      · have ls := tx_en hs (by omega) d
        have len := str_len 7 (by omega)
        rw [d, if0t, if0t]
        by_cases z : A 3 = 10
        · rw [if_pos (show toF A (3 : Int32).toNatClampNeg = 10 from (show nI (A 3) = 10 by rw [z]; rfl)), fails_1]
          refine ⟨false, false, s, par, kin, lea, mos, wrt, tal, siz, tol, hrs, ags, num, A, _, _, _, _, ?_, rfl, h, hs, fun q => absurd q Bool.false_ne_true, res_f⟩
          unfold fX0_readHearer
          rw [if_pos (show (10 : Int32) ≤ hrs by rw [eh]; exact nI_le (a := 10) (by omega) (by omega)), Option.bind_some, if0f]
        · rw [if_neg (show ¬ toF A (3 : Int32).toNatClampNeg = 10 from fun q => z ((nI_eq (a := A 3) (b := 10) (by omega) (by omega)).mp q))]
          obtain ⟨ok, s', hrs', ags', num', A', sv', her', flt', vlu', r1, r2, r3, r4, r5, r6⟩ := hear_both hb hn h (show A 3 < 10 by omega) hs hss d fnd num vlu
          rw [r1, r2, Option.bind_some]
          refine ⟨ok, ok, s', par, kin, lea, mos, wrt, tal, siz, tol, hrs', ags', num', A', _, _, _, _, ?_, rfl, r3, r4, fun _ => by omega, r6⟩
          cases ok
          · rw [if0f]
          · rw [if0t]
      · have d := nT d
        rw [d, if0f, if0f]
        unfold fX6_item_b125
        rw [M_must hb hn hs hss (by omega), Option.bind_some, d, if_neg Bool.false_ne_true, if0f]
        exact ⟨false, false, s, _, _, _, _, _, _, _, _, _, _, _, A, _, _, _, _, rfl, rfl, h, hs, fun q => absurd q Bool.false_ne_true, res_f⟩

