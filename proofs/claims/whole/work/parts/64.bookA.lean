/-- what book has told so far: the stock A, and the stock A0 from which it began -/
def St (A0 A : Nat → Nat) (par : Int32) (kin lea mos wrt : Nat → Int32) (tal : Int32) (siz tol : Nat → Int32) (hrs : Int32) (ags : Nat → Int32) : Prop := wfA A ∧ stk A par kin lea mos wrt tal siz tol hrs ags (nI (A0 0)) ∧ (A0 1 ≤ A 1 ∧ A0 2 ≤ A 2 ∧ A0 3 ≤ A 3) ∧ stk A0 (nI (A0 1)) kin lea mos wrt (nI (A0 2)) siz tol (nI (A0 3)) ags (nI (A0 0))
theorem st_part {A0 A : Nat → Nat} {par : Int32} {kin lea mos wrt : Nat → Int32} {tal : Int32} {siz tol : Nat → Int32} {hrs : Int32} {ags : Nat → Int32} (h : St A0 A par kin lea mos wrt tal siz tol hrs ags) (hl : A 1 < 16) {k a c w : Nat} (hk : k < 6) (ha : 1 ≤ a) (hac : a ≤ c) (hc : c ≤ 12) (hv : w ≤ 9) : St A0 (aPart A k a c w) (nI (A 1 + 1)) (upd kin (A 1) (nI k)) (upd lea (A 1) (nI a)) (upd mos (A 1) (nI c)) (upd wrt (A 1) (nI w)) tal siz tol hrs ags := by
  obtain ⟨hw, hs, ⟨l1, l2, l3⟩, h0⟩ := h
  obtain ⟨rfl, -, rfl, -, rfl, -, ey⟩ := id hs
  rw [ey] at hs
  have hs2 := stk_aPart hw hs (k := k) (a := a) (b := c) (w := w) hl
  have e1 : aPart A k a c w 1 = A 1 + 1 := by simp only [aPart, up_at, if_true]
  have e0 : ∀ j, j ≠ 1 → j < 4 → aPart A k a c w j = A j := by
    intro j hj1 hj
    simp only [aPart, up_at]
    rw [if_neg hj1, if_neg (by omega), if_neg (by omega), if_neg (by omega), if_neg (by omega)]
  refine ⟨wf_aPart hw hl hk ha hac hc hv, by rw [ey]; exact hs2, ⟨by omega, by rw [e0 2 (by omega) (by omega)]; exact l2, by rw [e0 3 (by omega) (by omega)]; exact l3⟩, rfl, ?_, rfl, h0.2.2.2.1, rfl, h0.2.2.2.2.2.1, rfl⟩
  intro p hp
  have g := h0.2.1 p hp
  simp only [updI_at]
  rw [if_neg (by omega), if_neg (by omega), if_neg (by omega), if_neg (by omega)]
  exact g
theorem st_tale {A0 A : Nat → Nat} {par : Int32} {kin lea mos wrt : Nat → Int32} {tal : Int32} {siz tol : Nat → Int32} {hrs : Int32} {ags : Nat → Int32} (h : St A0 A par kin lea mos wrt tal siz tol hrs ags) (hl : A 2 < 8) : St A0 (aTale A) par kin lea mos wrt (nI (A 2 + 1)) (upd siz (A 2) 0) tol hrs ags := by
  obtain ⟨hw, hs, ⟨l1, l2, l3⟩, h0⟩ := h
  obtain ⟨rfl, -, rfl, -, rfl, -, ey⟩ := id hs
  rw [ey] at hs
  have hs2 := stk_aTale hw hs hl
  have e2 : aTale A 2 = A 2 + 1 := by simp only [aTale, up_at, if_true]
  have e0 : ∀ j, j ≠ 2 → j < 4 → aTale A j = A j := by
    intro j hj1 hj
    simp only [aTale, up_at]
    rw [if_neg hj1, if_neg (by omega)]
  refine ⟨wf_aTale hw hl, by rw [ey]; exact hs2, ⟨by rw [e0 1 (by omega) (by omega)]; exact l1, by omega, by rw [e0 3 (by omega) (by omega)]; exact l3⟩, rfl, h0.2.1, rfl, ?_, rfl, h0.2.2.2.2.2.1, rfl⟩
  intro t ht
  have g := h0.2.2.2.1 t ht
  rw [updI_at, if_neg (by omega)]
  exact g
theorem st_told {A0 A : Nat → Nat} (hw0 : wfA A0) {par : Int32} {kin lea mos wrt : Nat → Int32} {tal : Int32} {siz tol : Nat → Int32} {hrs : Int32} {ags : Nat → Int32} (h : St A0 A par kin lea mos wrt tal siz tol hrs ags) {t v : Nat} (ht0 : A0 2 ≤ t) (ht : t < A 2) (hv : v < A 1) (hl : A (68 + 11 * t) < 10) : St A0 (aTell A t v) par kin lea mos wrt tal (upd siz t (nI (A (68 + 11 * t) + 1))) (upd tol (10 * t + A (68 + 11 * t)) (nI v)) hrs ags := by
  obtain ⟨hw, hs, ⟨l1, l2, l3⟩, h0⟩ := h
  obtain ⟨rfl, -, rfl, -, rfl, -, ey⟩ := id hs
  rw [ey] at hs
  have hs2 := stk_aTell hw hs (p := v) ht hl
  have e0 : ∀ j, j < 4 → aTell A t v j = A j := by
    intro j hj
    simp only [aTell, up_at]
    rw [if_neg (by omega), if_neg (by omega)]
  refine ⟨wf_aTell hw ht hv hl, by rw [ey]; exact hs2, ⟨by rw [e0 1 (by omega)]; exact l1, by rw [e0 2 (by omega)]; exact l2, by rw [e0 3 (by omega)]; exact l3⟩, rfl, h0.2.1, rfl, ?_, rfl, h0.2.2.2.2.2.1, rfl⟩
  intro u hu
  obtain ⟨g1, g2⟩ := h0.2.2.2.1 u hu
  have g3 := (hw0.2.2.2.2.2.1 u hu).1
  refine ⟨by rw [updI_at, if_neg (by omega)]; exact g1, fun i hi => ?_⟩
  rw [updI_at, if_neg (by omega)]
  exact g2 i hi
theorem st_hear {A0 A : Nat → Nat} {par : Int32} {kin lea mos wrt : Nat → Int32} {tal : Int32} {siz tol : Nat → Int32} {hrs : Int32} {ags : Nat → Int32} (h : St A0 A par kin lea mos wrt tal siz tol hrs ags) (hl : A 3 < 10) {v : Nat} (hv : v ≤ 99) : St A0 (aHear A v) par kin lea mos wrt tal siz tol (nI (A 3 + 1)) (upd ags (A 3) (nI v)) := by
  obtain ⟨hw, hs, ⟨l1, l2, l3⟩, h0⟩ := h
  obtain ⟨rfl, -, rfl, -, rfl, -, ey⟩ := id hs
  rw [ey] at hs
  have hs2 := stk_aHear hw hs (v := v) hl
  have e3 : aHear A v 3 = A 3 + 1 := by simp only [aHear, up_at, if_true]
  have e0 : ∀ j, j ≠ 3 → j < 4 → aHear A v j = A j := by
    intro j hj1 hj
    simp only [aHear, up_at]
    rw [if_neg hj1, if_neg (by omega)]
  refine ⟨wf_aHear hw hl hv, by rw [ey]; exact hs2, ⟨by rw [e0 1 (by omega) (by omega)]; exact l1, by rw [e0 2 (by omega) (by omega)]; exact l2, by omega⟩, rfl, h0.2.1, rfl, h0.2.2.2.1, rfl, ?_, rfl⟩
  intro u hu
  have g := h0.2.2.2.2.2.1 u hu
  rw [updI_at, if_neg (by omega)]
  exact g
/-- how the two readings stand to each other behind an item -/
def Res (b : Nat → Nat) (n : Nat) (okX okM : Bool) (s : Nat) (A : Nat → Nat) (sv : Nat → Int32) (her flt : Int32) : Prop := (okX = true ∧ okM = true ∧ sv = toF A ∧ flt = -1 ∧ ∃ p, p ≤ n ∧ her = nI p ∧ sk b n p = s) ∨ (okM = false ∧ flt = nI s ∧ (okX = false ∨ (okX = true ∧ srt b n s = 2)))
theorem res_t {b : Nat → Nat} {n s p : Nat} {A : Nat → Nat} (hp : p ≤ n) (h : sk b n p = s) : Res b n true true s A (toF A) (nI p) (-1) := Or.inl ⟨rfl, rfl, rfl, rfl, p, hp, rfl, h⟩
theorem res_f {b : Nat → Nat} {n s : Nat} {A : Nat → Nat} {sv : Nat → Int32} {her : Int32} : Res b n false false s A sv her (nI s) := Or.inr ⟨rfl, rfl, Or.inl rfl⟩
theorem part_tail {b : Nat → Nat} (hb : ∀ k, b k < 256) {n : Nat} (hn : n ≤ 120) {A0 A : Nat → Nat} {par : Int32} {kin lea mos wrt : Nat → Int32} {tal : Int32} {siz tol : Nat → Int32} {hrs : Int32} {ags : Nat → Int32} (h : St A0 A par kin lea mos wrt tal siz tol hrs ags) (hl : A 1 < 16) {s p κ a m : Nat} (hp : p ≤ n) (hps : sk b n p = s) (hκ : κ < 6) (ha : 1 ≤ a) (ham : a ≤ m) (hm : m ≤ 12) (num vlu : Int32) :
    ∃ (ok : Bool) (s' : Nat) (par' : Int32) (kin' lea' mos' wrt' : Nat → Int32) (num' : Int32) (A' : Nat → Nat) (sv' : Nat → Int32) (her' flt' vlu' : Int32),
      fX0_readPart_b68 par kin lea mos wrt (toF b) (nI n) (nI s) (nI (en b n s)) (nI (srt b n s)) num (nI κ) (nI a) (nI m) true = some (ok, par', kin', lea', mos', wrt', nI s', nI (en b n s'), nI (srt b n s'), num') ∧
      fX6_partTold_b51 (toF A) (toF b) (nI n) (nI p) (-1) vlu (nI κ) (nI a) (nI m) true = some (ok, sv', her', flt', vlu') ∧
      St A0 A' par' kin' lea' mos' wrt' tal siz tol hrs ags ∧ s' ≤ n ∧ s ≤ s' ∧ Res b n ok ok s' A' sv' her' flt' := by
  have hs : s ≤ n := by have := (sk_le (b := b) hp).2; omega
  have hss : sk b n s = s := by rw [← hps]; exact sk_sk hp
  have ep : par = nI (A 1) := h.2.1.1
  have e0 := en_le (b := b) hs
  unfold fX0_readPart_b68 fX6_partTold_b51
  rw [X_isText hb hn hs (by omega), Option.bind_some, M_may hb hn hp hps (by omega), Option.bind_some]
  by_cases c : tx b n s 9 = true
  · obtain ⟨s3, hs3⟩ : ∃ s3, sk b n (en b n s) = s3 := ⟨_, rfl⟩
    have l3 := sk_le (b := b) e0.2
    rw [hs3] at l3
    obtain ⟨w, X1, hw⟩ := X_stn hb hn (p := en b n s) (s := s3) (lo := 0) (hx := 10) (y := 9) e0.2 hs3 (by omega) (by omega) rfl (nI s) (nI (srt b n s)) num
    have M1 := M_number hb hn (p := en b n s) (s := s3) (lo := 0) (hx := 10) (y := 9) e0.2 hs3 (by omega) (by omega) rfl vlu
    have X1 : fX0_stepToNumber (toF b) (nI n) (nI s) (nI (en b n s)) (nI (srt b n s)) num 0 9 = _ := X1
    have M1 : fX6_number (toF b) (nI n) (nI (en b n s)) (-1) vlu 0 9 = _ := M1
    rw [c, if0t, if0t, if_pos rfl, X1, M1, Option.bind_some, Option.bind_some]
    by_cases d : okN b n s3 0 10 = true
    · obtain ⟨d1, d2, d3⟩ := okN_of d
      have e3 := en_le (b := b) l3.2
      have l4 := sk_le (b := b) e3.2
      rw [hw d, d, if_pos rfl, if0t, if0t, X_step hb hn e3.2, Option.bind_some]
      unfold fX0_readPart_b99 fX6_partTold_b78
      rw [ep, X_addPart hl, M_adds hl, Option.bind_some, Option.bind_some]
      exact ⟨true, sk b n (en b n s3), _, _, _, _, _, _, aPart A κ a m (vl b n s3), _, _, _, _, rfl, rfl, st_part h hl hκ ha ham hm (by omega), l4.2, by omega, res_t e3.2 rfl⟩
    · rw [nT d, if_neg Bool.false_ne_true, if0f, if0f]
      exact ⟨false, s3, _, _, _, _, _, _, A, _, _, _, _, rfl, rfl, h, l3.2, by omega, res_f⟩
  · rw [nT c, if0f, if0f, if_neg Bool.false_ne_true]
    unfold fX0_readPart_b99 fX6_partTold_b78
    rw [show bI true = nI 1 from rfl, ep, X_addPart hl, M_adds hl, Option.bind_some, Option.bind_some]
    exact ⟨true, s, _, _, _, _, _, _, aPart A κ a m 1, _, _, _, _, rfl, rfl, st_part h hl hκ ha ham hm (by omega), hs, Nat.le_refl s, res_t hs hss⟩
theorem part_both {b : Nat → Nat} (hb : ∀ k, b k < 256) {n : Nat} (hn : n ≤ 120) {A0 A : Nat → Nat} {par : Int32} {kin lea mos wrt : Nat → Int32} {tal : Int32} {siz tol : Nat → Int32} {hrs : Int32} {ags : Nat → Int32} (h : St A0 A par kin lea mos wrt tal siz tol hrs ags) (hl : A 1 < 16) {s κ : Nat} (hs : s ≤ n) (hκ : κ < 6) (num vlu : Int32) :
    ∃ (ok : Bool) (s' : Nat) (par' : Int32) (kin' lea' mos' wrt' : Nat → Int32) (num' : Int32) (A' : Nat → Nat) (sv' : Nat → Int32) (her' flt' vlu' : Int32),
      fX0_readPart par kin lea mos wrt (toF b) (nI n) (nI s) (nI (en b n s)) (nI (srt b n s)) num (nI κ) = some (ok, par', kin', lea', mos', wrt', nI s', nI (en b n s'), nI (srt b n s'), num') ∧
      fX6_partTold (toF A) (toF b) (nI n) (nI (en b n s)) (-1) vlu (nI κ) = some (ok, sv', her', flt', vlu') ∧
      St A0 A' par' kin' lea' mos' wrt' tal siz tol hrs ags ∧ s' ≤ n ∧ en b n s ≤ s' ∧ Res b n ok ok s' A' sv' her' flt' := by
  have ep : par = nI (A 1) := h.2.1.1
  have e0 := en_le (b := b) hs
  obtain ⟨s1, hs1⟩ : ∃ s1, sk b n (en b n s) = s1 := ⟨_, rfl⟩
  have l1 := sk_le (b := b) e0.2
  rw [hs1] at l1
  have e1 := en_le (b := b) l1.2
  obtain ⟨w, X1, hw⟩ := X_stn hb hn (p := en b n s) (s := s1) (lo := 1) (hx := 13) (y := 12) e0.2 hs1 (by omega) (by omega) rfl (nI s) (nI (srt b n s)) num
  have M1 := M_number hb hn (p := en b n s) (s := s1) (lo := 1) (hx := 13) (y := 12) e0.2 hs1 (by omega) (by omega) rfl vlu
  have X1 : fX0_stepToNumber (toF b) (nI n) (nI s) (nI (en b n s)) (nI (srt b n s)) num 1 12 = _ := X1
  have M1 : fX6_number (toF b) (nI n) (nI (en b n s)) (-1) vlu 1 12 = _ := M1
  unfold fX0_readPart fX6_partTold
  rw [if_neg (show ¬ (16 : Int32) ≤ par by rw [ep]; exact nI_ge (b := 16) hl (by omega)), X1, M1, Option.bind_some, Option.bind_some]
  by_cases d : okN b n s1 1 13 = true
  · obtain ⟨d1, d2, d3⟩ := okN_of d
    obtain ⟨s2, hs2⟩ : ∃ s2, sk b n (en b n s1) = s2 := ⟨_, rfl⟩
    have l2 := sk_le (b := b) e1.2
    rw [hs2] at l2
    have e2 := en_le (b := b) l2.2
    rw [hw d, d, if_pos rfl, if0t, if0t, X_step hb hn e1.2, Option.bind_some, hs2, X_isText hb hn l2.2 (by omega), Option.bind_some, M_may hb hn e1.2 hs2 (by omega), Option.bind_some]
    by_cases c : tx b n s2 8 = true
    · obtain ⟨s3, hs3⟩ : ∃ s3, sk b n (en b n s2) = s3 := ⟨_, rfl⟩
      have l3 := sk_le (b := b) e2.2
      rw [hs3] at l3
      have e3 := en_le (b := b) l3.2
      obtain ⟨w2, X2, hw2⟩ := X_stn hb hn (p := en b n s2) (s := s3) (lo := vl b n s1) (hx := 13) (y := 12) e2.2 hs3 (by omega) (by omega) rfl (nI s2) (nI (srt b n s2)) (nI (vl b n s1))
      have M2 := M_number hb hn (p := en b n s2) (s := s3) (lo := vl b n s1) (hx := 13) (y := 12) e2.2 hs3 (by omega) (by omega) rfl (nI (vl b n s1))
      rw [c, if0t, if0t, if_pos rfl, X2, M2, Option.bind_some, Option.bind_some]
      by_cases f : okN b n s3 (vl b n s1) 13 = true
      · obtain ⟨f1, f2, f3⟩ := okN_of f
        rw [hw2 f, f, if_pos rfl, if0t, if0t, X_step hb hn e3.2, Option.bind_some]
        have l4 := sk_le (b := b) e3.2
        obtain ⟨ok, s', par', kin', lea', mos', wrt', num', A', sv', her', flt', vlu', r1, r2, r3, r4, r5, r6⟩ := part_tail hb hn h hl (p := en b n s3) e3.2 rfl hκ d2 f2 (by omega) (nI (vl b n s3)) (nI (vl b n s3))
        exact ⟨ok, s', par', kin', lea', mos', wrt', num', A', sv', her', flt', vlu', r1, r2, r3, r4, by omega, r6⟩
      · rw [nT f, if_neg Bool.false_ne_true, if0f, if0f]
        exact ⟨false, s3, _, _, _, _, _, _, A, _, _, _, _, rfl, rfl, h, l3.2, by omega, res_f⟩
    · rw [nT c, if0f, if0f, if_neg Bool.false_ne_true]
      obtain ⟨ok, s', par', kin', lea', mos', wrt', num', A', sv', her', flt', vlu', r1, r2, r3, r4, r5, r6⟩ := part_tail hb hn h hl (p := s2) (s := s2) l2.2 (by rw [← hs2]; exact sk_sk e1.2) hκ d2 (Nat.le_refl _) (show vl b n s1 ≤ 12 by omega) (nI (vl b n s1)) (nI (vl b n s1))
      exact ⟨ok, s', par', kin', lea', mos', wrt', num', A', sv', her', flt', vlu', r1, r2, r3, r4, by omega, r6⟩
  · rw [nT d, if_neg Bool.false_ne_true, if0f, if0f]
    exact ⟨false, s1, _, _, _, _, _, _, A, _, _, _, _, rfl, rfl, h, l1.2, by omega, res_f⟩
theorem M_tale {A : Nat → Nat} (hl : A 2 < 8) (fnd : Nat → Int32) : fX6_tale (toF A) fnd = some (nI (A 2), toF (aTale A), fnd) := by
  unfold fX6_tale
  rw [if_neg (show ¬ toF A (2 : Int32).toNatClampNeg = 8 from fun h => by have := (nI_eq (a := A 2) (b := 8) (by omega) (by omega)).mp h; omega)]
  have e : (68 : Int32) + (11 : Int32) * toF A (2 : Int32).toNatClampNeg = nI (68 + 11 * A 2) := e_tale (A 2)
  rw [e, gdN (by omega) (by omega), nI_clamp (by omega), show upd (toF A) (68 + 11 * A 2) 0 = toF (va_up A (68 + 11 * A 2) 0) from upd_toF A _ 0]
  have e2 : toF (va_up A (68 + 11 * A 2) 0) (2 : Int32).toNatClampNeg + (1 : Int32) = nI (A 2 + 1) := by
    show nI (va_up A (68 + 11 * A 2) 0 2) + 1 = _
    rw [va_up_ne _ _ (by omega), nI_1]
  rw [e2]
  show some (upd (toF (va_up A (68 + 11 * A 2) 0)) 2 (nI (A 2 + 1)) 2 - 1, upd (toF (va_up A (68 + 11 * A 2) 0)) 2 (nI (A 2 + 1)), fnd) = _
  rw [upd_toF, toF_at, va_up_self, nI_pred]
  rfl
theorem tale_loop {b : Nat → Nat} (hb : ∀ k, b k < 256) {n : Nat} (hn : n ≤ 120) {A0 : Nat → Nat} (hw0 : wfA A0) {par : Int32} {kin lea mos wrt : Nat → Int32} {tal : Int32} {hrs : Int32} {ags : Nat → Int32} {t : Nat} (ht0 : A0 2 ≤ t) (fnd : Nat → Int32) : ∀ (d i : Nat), i + d = 10 → ∀ (A : Nat → Nat) (siz tol : Nat → Int32) (s p : Nat) (num vlu : Int32) (m m' : Nat), d + 2 ≤ m → d + 1 ≤ m' → St A0 A par kin lea mos wrt tal siz tol hrs ags → t < A 2 → A (68 + 11 * t) = i → p ≤ n → sk b n p = s → (i ≠ 0 → p = s ∧ srt b n s = 2) →
    ∃ (okX okM : Bool) (s' : Nat) (siz' tol' : Nat → Int32) (num' : Int32) (A' : Nat → Nat) (sv' : Nat → Int32) (her' flt' vlu' : Int32),
      fix7 (fX0_readTale_l43 par tal (toF b) (nI n) (nI t)) m (nI i) siz tol (nI s) (nI (en b n s)) (nI (srt b n s)) num = some (okX, tal, siz', tol', nI s', nI (en b n s'), nI (srt b n s'), num') ∧
      fix4 (fX6_taleTold_l16 fnd (toF b) (nI n) (nI t)) m' (toF A) (nI p) (-1) vlu = some (okM, sv', fnd, her', flt', vlu') ∧
      St A0 A' par kin lea mos wrt tal siz' tol' hrs ags ∧ s' ≤ n ∧ s ≤ s' ∧ Res b n okX okM s' A' sv' her' flt' := by
  intro d
  induction d with
  | zero =>
    intro i hi A siz tol s p num vlu m m' hm hm' h ht hA hp hps hc
    have hs : s ≤ n := by have := (sk_le (b := b) hp).2; omega
    have h8 : t < 8 := by have := h.1.2.2.1; omega
    obtain ⟨m, rfl⟩ : ∃ k, m = k + 1 := ⟨m - 1, by omega⟩
    obtain ⟨m', rfl⟩ : ∃ k, m' = k + 1 := ⟨m' - 1, by omega⟩
    obtain ⟨rfl, h2⟩ := hc (by omega)
    have hi : i = 10 := by omega
    subst hi
    refine ⟨true, false, p, siz, tol, num, A, toF A, nI p, nI p, vlu, ?_, ?_, h, hs, Nat.le_refl p, Or.inr ⟨rfl, rfl, Or.inr ⟨rfl, h2⟩⟩⟩
    · show fX0_readTale_l43 par tal (toF b) (nI n) (nI t) (fix7 _ m) (nI 10) siz tol (nI p) (nI (en b n p)) (nI (srt b n p)) num = _
      unfold fX0_readTale_l43
      rw [if_pos (by decide)]
    · show fX6_taleTold_l16 fnd (toF b) (nI n) (nI t) (fix4 _ m') (toF A) (nI p) (-1) vlu = _
      unfold fX6_taleTold_l16 fX6_taleTold_b26
      rw [M_long h8, Option.bind_some, hA, if_pos (by decide), fails_1]
  | succ d ih =>
    intro i hi A siz tol s p num vlu m m' hm hm' h ht hA hp hps hc
    have hs : s ≤ n := by have := (sk_le (b := b) hp).2; omega
    have h8 : t < 8 := by have := h.1.2.2.1; omega
    have h16 : A 1 ≤ 16 := h.1.2.1
    have ep : par = nI (A 1) := h.2.1.1
    have hsz : siz t = nI i := by rw [← hA]; exact (h.2.1.2.2.2.1 t ht).1
    obtain ⟨m, rfl⟩ : ∃ k, m = k + 1 := ⟨m - 1, by omega⟩
    obtain ⟨m', rfl⟩ : ∃ k, m' = k + 1 := ⟨m' - 1, by omega⟩
    have e0 := en_le (b := b) hs
    have hy : (nI (A 1) - 1 : Int32).toInt = (A 1 : Int) - 1 := pk_sub_toInt (a := A 1) (b := 1) (by omega) (by omega)
    obtain ⟨w, X1, hw⟩ := X_isNumber hb hn (s := s) (lo := 0) (hx := A 1) hs (by omega) (by omega) hy num
    have M1 := M_number hb hn (p := p) (s := s) (lo := 0) (hx := A 1) hp hps (by omega) (by omega) hy vlu
    have X1 : fX0_isNumber (toF b) (nI n) (nI s) (nI (en b n s)) (nI (srt b n s)) num 0 (nI (A 1) - 1) = _ := X1
    have M1 : fX6_number (toF b) (nI n) (nI p) (-1) vlu 0 (toF A (1 : Int32).toNatClampNeg - 1) = _ := M1
    have X0 : fX0_readTale_l43 par tal (toF b) (nI n) (nI t) (fix7 (fX0_readTale_l43 par tal (toF b) (nI n) (nI t)) m) (nI i) siz tol (nI s) (nI (en b n s)) (nI (srt b n s)) num = fX0_readTale_b61 (fix7 (fX0_readTale_l43 par tal (toF b) (nI n) (nI t)) m) par tal siz tol (toF b) (nI n) (nI s) (nI (en b n s)) (nI (srt b n s)) num (nI t) (nI i) := by
      unfold fX0_readTale_l43
      rw [if_neg (show ¬ (10 : Int32) ≤ nI i from nI_ge (b := 10) (by omega) (by omega))]
      by_cases z : i = 0
      · rw [if_pos (show nI i = 0 by rw [z]; rfl)]
      · rw [if_neg (nI_ne0 (by omega) (by omega)), if_pos (show nI (srt b n s) = 2 by rw [(hc z).2]; rfl)]
    have goX : fix7 (fX0_readTale_l43 par tal (toF b) (nI n) (nI t)) (m + 1) (nI i) siz tol (nI s) (nI (en b n s)) (nI (srt b n s)) num = if okN b n s 0 (A 1) = true then fix7 (fX0_readTale_l43 par tal (toF b) (nI n) (nI t)) m (nI (i + 1)) (upd siz t (nI (i + 1))) (upd tol (10 * t + i) w) (nI (sk b n (en b n s))) (nI (en b n (sk b n (en b n s)))) (nI (srt b n (sk b n (en b n s)))) w else some (false, tal, siz, tol, nI s, nI (en b n s), nI (srt b n s), w) := by
      refine Eq.trans X0 ?_
      unfold fX0_readTale_b61
      rw [ep, X1, Option.bind_some]
      by_cases z : okN b n s 0 (A 1) = true
      · rw [z, if0t, if_pos rfl, X_addTold h8 (by omega) hsz, Option.bind_some, X_step hb hn e0.2, Option.bind_some, nI_1]
      · rw [nT z, if0f, if_neg Bool.false_ne_true]
    have goM : fix4 (fX6_taleTold_l16 fnd (toF b) (nI n) (nI t)) (m' + 1) (toF A) (nI p) (-1) vlu = if okN b n s 0 (A 1) = true then (if srt b n (sk b n (en b n s)) = 2 then fix4 (fX6_taleTold_l16 fnd (toF b) (nI n) (nI t)) m' (toF (aTell A t (vl b n s))) (nI (sk b n (en b n s))) (-1) (nI (vl b n s)) else some (true, toF (aTell A t (vl b n s)), fnd, nI (sk b n (en b n s)), -1, nI (vl b n s))) else some (false, toF A, fnd, nI s, nI s, vlu) := by
      show fX6_taleTold_l16 fnd (toF b) (nI n) (nI t) (fix4 (fX6_taleTold_l16 fnd (toF b) (nI n) (nI t)) m') (toF A) (nI p) (-1) vlu = _
      unfold fX6_taleTold_l16
      rw [M_long h8, Option.bind_some, hA, if_neg (show ¬ nI i = (10 : Int32) from fun q => by have := (nI_eq (a := i) (b := 10) (by omega) (by omega)).mp q; omega), M1, Option.bind_some]
      by_cases z : okN b n s 0 (A 1) = true
      · rw [if_pos z, if_pos z, if0t, M_tells h8 (by omega), Option.bind_some, M_isNumber hb hn e0.2 rfl, Option.bind_some]
        by_cases y : srt b n (sk b n (en b n s)) = 2
        · rw [decide_eq_true y, if0t, if_pos y]
        · rw [decide_eq_false y, if0f, if_neg y]
      · rw [if_neg z, if_neg z, if0f]
    rw [goX, goM]
    by_cases z : okN b n s 0 (A 1) = true
    · obtain ⟨z1, z2, z3⟩ := okN_of z
      have l2 := sk_le (b := b) e0.2
      have hst := st_told hw0 h ht0 ht z3 (by omega)
      rw [hA] at hst
      rw [if_pos z, if_pos z, hw z]
      by_cases y : srt b n (sk b n (en b n s)) = 2
      · rw [if_pos y]
        have hT2 : t < aTell A t (vl b n s) 2 := by
          simp only [aTell, up_at]
          rw [if_neg (by omega), if_neg (by omega)]
          exact ht
        have hTA : aTell A t (vl b n s) (68 + 11 * t) = i + 1 := by
          simp only [aTell, up_at]
          rw [if_neg (by omega), if_true, hA]
        obtain ⟨okX, okM, s', siz', tol', num', A', sv', her', flt', vlu', r1, r2, r3, r4, r5, r6⟩ := ih (i + 1) (by omega) (aTell A t (vl b n s)) (upd siz t (nI (i + 1))) (upd tol (10 * t + i) (nI (vl b n s))) (sk b n (en b n s)) (sk b n (en b n s)) (nI (vl b n s)) (nI (vl b n s)) m m' (by omega) (by omega) hst hT2 hTA l2.2 (sk_sk e0.2) (fun _ => ⟨rfl, y⟩)
        exact ⟨okX, okM, s', siz', tol', num', A', sv', her', flt', vlu', r1, r2, r3, r4, by omega, r6⟩
      · rw [if_neg y]
        obtain ⟨m, rfl⟩ : ∃ k, m = k + 1 := ⟨m - 1, by omega⟩
        refine ⟨true, true, sk b n (en b n s), upd siz t (nI (i + 1)), upd tol (10 * t + i) (nI (vl b n s)), nI (vl b n s), aTell A t (vl b n s), _, _, _, _, ?_, rfl, hst, l2.2, by omega, res_t l2.2 (sk_sk e0.2)⟩
        · show fX0_readTale_l43 par tal (toF b) (nI n) (nI t) (fix7 (fX0_readTale_l43 par tal (toF b) (nI n) (nI t)) m) (nI (i + 1)) (upd siz t (nI (i + 1))) (upd tol (10 * t + i) (nI (vl b n s))) (nI (sk b n (en b n s))) (nI (en b n (sk b n (en b n s)))) (nI (srt b n (sk b n (en b n s)))) (nI (vl b n s)) = _
          have h4 := srt_le b n (sk b n (en b n s))
          unfold fX0_readTale_l43
          by_cases q : 10 ≤ i + 1
          · rw [if_pos (show (10 : Int32) ≤ nI (i + 1) from nI_le (a := 10) q (by omega))]
          · rw [if_neg (show ¬ (10 : Int32) ≤ nI (i + 1) from nI_ge (b := 10) (by omega) (by omega)), if_neg (nI_ne0 (by omega) (by omega)), if_neg (show ¬ nI (srt b n (sk b n (en b n s))) = (2 : Int32) from fun q => y ((nI_eq (b := 2) (by omega) (by omega)).mp q))]
    · rw [if_neg z, if_neg z]
      exact ⟨false, false, s, _, _, _, A, _, _, _, _, rfl, rfl, h, hs, Nat.le_refl s, res_f⟩

