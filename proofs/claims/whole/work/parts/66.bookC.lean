theorem neg_s : ∀ s, s < 121 → ¬ 0 ≤ (-1 : Int32) - nI s := by decide +kernel
theorem en_3 {b : Nat → Nat} {n s : Nat} (c : srt b n s = 3) : en b n s = s + 1 := by
  unfold en
  rw [if_neg (by omega), if_neg (by omega)]
theorem M_bad {bef sv : Nat → Int32} {n s : Nat} (hs : s ≤ 120) (fnd : Nat → Int32) (her vlu x1 : Int32) : fX6_book_b106 sv bef fnd (nI n) her (nI s) vlu x1 = some ((-1 : Int32) - nI s, (fun j => if j < 166 then bef j else sv j), bef, fnd, 0, her, nI s, vlu) := by
  unfold fX6_book_b106
  rw [if_neg (nI_pos (by omega)), M_lay_bef_sv, Option.bind_some]
theorem book_step {b : Nat → Nat} (hb : ∀ k, b k < 256) {n : Nat} (hn : n ≤ 120) {A0 : Nat → Nat} (hw0 : wfA A0) (bef fnd : Nat → Int32) (K7 : Int32 → Int32 → (Nat → Int32) → (Nat → Int32) → (Nat → Int32) → (Nat → Int32) → Int32 → (Nat → Int32) → (Nat → Int32) → Int32 → (Nat → Int32) → Int32 → Int32 → Int32 → Int32 → Option (Int32 × Int32 × (Nat → Int32) × (Nat → Int32) × (Nat → Int32) × (Nat → Int32) × Int32 × (Nat → Int32) × (Nat → Int32) × Int32 × (Nat → Int32) × Int32 × Int32 × Int32 × Int32)) (K25 : Int32 → Bool → (Nat → Int32) → (Nat → Int32) → Int32 → Int32 → Int32 → Option (Int32 × (Nat → Int32) × (Nat → Int32) × (Nat → Int32) × Int32 × Int32 × Int32 × Int32)) {i : Nat} {A : Nat → Nat} {par : Int32} {kin lea mos wrt : Nat → Int32} {tal : Int32} {siz tol : Nat → Int32} {hrs : Int32} {ags : Nat → Int32} {p : Nat} (sta sor num vlu : Int32) (h : St A0 A par kin lea mos wrt tal siz tol hrs ags) (hp : p ≤ n) (hi : 2 * i ≤ p) :
    ∃ (s' : Nat) (par' : Int32) (kin' lea' mos' wrt' : Nat → Int32) (tal' : Int32) (siz' tol' : Nat → Int32) (hrs' : Int32) (ags' : Nat → Int32) (num' : Int32) (A' : Nat → Nat) (sv' : Nat → Int32) (her' vlu' : Int32), s' ≤ n ∧ St A0 A' par' kin' lea' mos' wrt' tal' siz' tol' hrs' ags' ∧
      ((fX0_readText_l7 (toF b) (nI n) K7 (nI (i + 1)) par kin lea mos wrt tal siz tol hrs ags sta (nI p) sor num = some ((-1 : Int32) - nI s', par', kin', lea', mos', wrt', tal', siz', tol', hrs', ags', nI s', nI (en b n s'), nI (srt b n s'), num') ∧ fX6_book_l25 bef (toF b) (nI n) K25 (nI i) true (toF A) fnd (nI p) (-1) vlu = some ((-1 : Int32) - nI s', (fun j => if j < 166 then bef j else sv' j), bef, fnd, 0, her', nI s', vlu')) ∨
       (srt b n s' ≠ 3 ∧ fX0_readText_l7 (toF b) (nI n) K7 (nI (i + 1)) par kin lea mos wrt tal siz tol hrs ags sta (nI p) sor num = some (if srt b n s' = 0 then nI (i + 1) else (-1 : Int32) - nI s', par', kin', lea', mos', wrt', tal', siz', tol', hrs', ags', nI s', nI (en b n s'), nI (srt b n s'), num') ∧ fX6_book_l25 bef (toF b) (nI n) K25 (nI i) true (toF A) fnd (nI p) (-1) vlu = K25 (nI (i + 1)) false (toF A') fnd (nI s') (-1) vlu') ∨
       (p + 1 ≤ s' ∧ s' < n ∧ fX0_readText_l7 (toF b) (nI n) K7 (nI (i + 1)) par kin lea mos wrt tal siz tol hrs ags sta (nI p) sor num = K7 (nI (i + 1 + 1)) par' kin' lea' mos' wrt' tal' siz' tol' hrs' ags' (nI s') (nI (s' + 1)) (nI (srt b n s')) num' ∧ fX6_book_l25 bef (toF b) (nI n) K25 (nI i) true (toF A) fnd (nI p) (-1) vlu = K25 (nI (i + 1)) true (toF A') fnd (nI (s' + 1)) (-1) vlu')) := by
  have l0 := sk_le (b := b) hp
  obtain ⟨okX, okM, s', par', kin', lea', mos', wrt', tal', siz', tol', hrs', ags', num', A', sv', her', flt', vlu', r1, r2, r3, r4, r5, r6⟩ := item_both hb hn hw0 h hp rfl fnd num vlu
  have h4 := srt_le b n s'
  refine ⟨s', par', kin', lea', mos', wrt', tal', siz', tol', hrs', ags', num', A', sv', her', vlu', r4, r3, ?_⟩
  unfold fX0_readText_l7 fX6_book_l25
  rw [if_neg (show ¬ (120 : Int32) < nI (i + 1) from nI_nlt (a := 120) (by omega) (by omega)), X_step hb hn hp, Option.bind_some, r1, Option.bind_some, if0t, r2, Option.bind_some]
  rcases r6 with ⟨rfl, rfl, rfl, rfl, q, hq, rfl, hqs⟩ | ⟨rfl, rfl, rfl | ⟨rfl, e2⟩⟩
  · right
    have r5 := r5 rfl
    rw [if0t, if0t, M_blanks hb hn hq, Option.bind_some, hqs, M_byte hn (by omega), Option.bind_some, nI_1]
    by_cases c3 : srt b n s' = 3
    · right
      refine ⟨by omega, srt_lt (b := b) (by omega), ?_, ?_⟩
      · rw [if_neg (nI_ne0 (by omega) (by omega)), if_pos (show nI (srt b n s') = 3 by rw [c3]; rfl), en_3 c3] <;> rfl
      · rw [if_pos ((sg_eq hb).mpr c3)]
        unfold fX6_book_b61 fX6_book_b76
        rw [if0t, show bI true = 1 from rfl, nI_1, nI_1] <;> rfl
    · left
      refine ⟨c3, ?_, ?_⟩
      · by_cases c0 : srt b n s' = 0
        · rw [if_pos (show nI (srt b n s') = 0 by rw [c0]; rfl), if_pos c0]
        · rw [if_neg (nI_ne0 (by omega) (by omega)), if_neg (show ¬ nI (srt b n s') = (3 : Int32) from fun z => c3 ((nI_eq (b := 3) (by omega) (by omega)).mp z)), if_neg c0]
          rfl
      · rw [if_neg (fun z => c3 ((sg_eq hb).mp z))]
        unfold fX6_book_b61 fX6_book_b76
        rw [if0f, show bI false = 0 from rfl, Int32.add_zero, nI_1] <;> rfl
  · left
    rw [if0f, if0f]
    unfold fX6_book_b83
    rw [if_pos (nI_pos' (by omega)), M_bad (by omega)]
    exact ⟨rfl, rfl⟩
  · left
    rw [if0t, if0f]
    unfold fX6_book_b83
    rw [if_pos (nI_pos' (by omega)), M_bad (by omega), if_neg (nI_ne0 (by omega) (by omega)), if_neg (show ¬ nI (srt b n s') = (3 : Int32) from fun z => by have := (nI_eq (b := 3) (by omega) (by omega)).mp z; omega)]
    exact ⟨rfl, rfl⟩
theorem book_loop {b : Nat → Nat} (hb : ∀ k, b k < 256) {n : Nat} (hn : n ≤ 120) {A0 : Nat → Nat} (hw0 : wfA A0) (bef fnd : Nat → Int32) (d : Nat) : ∀ (i : Nat) (A : Nat → Nat) (par : Int32) (kin lea mos wrt : Nat → Int32) (tal : Int32) (siz tol : Nat → Int32) (hrs : Int32) (ags : Nat → Int32) (p : Nat) (sta sor num vlu : Int32) (m m' : Nat), n ≤ p + d → d + 1 ≤ m → d + 2 ≤ m' → St A0 A par kin lea mos wrt tal siz tol hrs ags → p ≤ n → 2 * i ≤ p →
    ∃ (r : Int32) (par' : Int32) (kin' lea' mos' wrt' : Nat → Int32) (tal' : Int32) (siz' tol' : Nat → Int32) (hrs' : Int32) (ags' : Nat → Int32) (sta' beh' sor' num' : Int32) (A' : Nat → Nat) (sv' : Nat → Int32) (her' flt' vlu' : Int32),
      fix15 (fX0_readText_l7 (toF b) (nI n)) m (nI (i + 1)) par kin lea mos wrt tal siz tol hrs ags sta (nI p) sor num = some (r, par', kin', lea', mos', wrt', tal', siz', tol', hrs', ags', sta', beh', sor', num') ∧
      fix7 (fX6_book_l25 bef (toF b) (nI n)) m' (nI i) true (toF A) fnd (nI p) (-1) vlu = some (r, sv', bef, fnd, 0, her', flt', vlu') ∧
      St A0 A' par' kin' lea' mos' wrt' tal' siz' tol' hrs' ags' ∧ ((∃ k, k ≤ 1000 ∧ r = nI k ∧ sv' = toF A') ∨ (∃ s', s' ≤ 120 ∧ r = (-1 : Int32) - nI s' ∧ ∃ sv2 : Nat → Int32, sv' = fun j => if j < 166 then bef j else sv2 j)) := by
  induction d using Nat.strongRecOn with
  | _ d ih =>
    intro i A par kin lea mos wrt tal siz tol hrs ags p sta sor num vlu m m' hd hm hm' h hp hi
    obtain ⟨m, rfl⟩ : ∃ k, m = k + 1 := ⟨m - 1, by omega⟩
    obtain ⟨m', rfl⟩ : ∃ k, m' = k + 1 := ⟨m' - 1, by omega⟩
    obtain ⟨s', par', kin', lea', mos', wrt', tal', siz', tol', hrs', ags', num', A', sv', her', vlu', hs', h', r⟩ := book_step hb hn hw0 bef fnd (fix15 (fX0_readText_l7 (toF b) (nI n)) m) (fix7 (fX6_book_l25 bef (toF b) (nI n)) m') sta sor num vlu h hp hi
    rcases r with ⟨r1, r2⟩ | ⟨c3, r1, r2⟩ | ⟨q1, q2, r1, r2⟩
    · exact ⟨_, par', kin', lea', mos', wrt', tal', siz', tol', hrs', ags', _, _, _, num', A', _, her', _, vlu', r1, r2, h', Or.inr ⟨s', by omega, rfl, sv', rfl⟩⟩
    · obtain ⟨m', rfl⟩ : ∃ k, m' = k + 1 := ⟨m' - 1, by omega⟩
      by_cases c0 : srt b n s' = 0
      · rw [if_pos c0] at r1
        have hge : n ≤ s' := by
          by_cases z : s' < n
          · exact absurd c0 (srt_0 z)
          · omega
        refine ⟨_, par', kin', lea', mos', wrt', tal', siz', tol', hrs', ags', _, _, _, num', A', toF A', nI s', -1, vlu', r1, r2.trans ?_, h', Or.inl ⟨i + 1, by omega, rfl, rfl⟩⟩
        show fX6_book_l25 bef (toF b) (nI n) (fix7 (fX6_book_l25 bef (toF b) (nI n)) m') (nI (i + 1)) false (toF A') fnd (nI s') (-1) vlu' = _
        unfold fX6_book_l25 fX6_book_b83
        rw [if0f, if_neg (by decide), if_pos (nI_le hge (by omega))]
        unfold fX6_book_b106
        rw [if_pos (by decide)]
      · rw [if_neg c0] at r1
        refine ⟨_, par', kin', lea', mos', wrt', tal', siz', tol', hrs', ags', _, _, _, num', A', (fun j => if j < 166 then bef j else toF A' j), nI s', nI s', vlu', r1, r2.trans ?_, h', Or.inr ⟨s', by omega, rfl, toF A', rfl⟩⟩
        show fX6_book_l25 bef (toF b) (nI n) (fix7 (fX6_book_l25 bef (toF b) (nI n)) m') (nI (i + 1)) false (toF A') fnd (nI s') (-1) vlu' = _
        unfold fX6_book_l25 fX6_book_b83
        rw [if0f, if_neg (by decide), if_neg (nI_ge (srt_lt c0) (by omega)), fails_1, M_bad (by omega)]
    · obtain ⟨r, par2, kin2, lea2, mos2, wrt2, tal2, siz2, tol2, hrs2, ags2, sta2, beh2, sor2, num2, A2, sv2, her2, flt2, vlu2, w1, w2, w3, w4⟩ := ih (d - 1) (by omega) (i + 1) A' par' kin' lea' mos' wrt' tal' siz' tol' hrs' ags' (s' + 1) (nI s') (nI (srt b n s')) num' vlu' m m' (by omega) (by omega) (by omega) h' (by omega) (by omega)
      exact ⟨r, par2, kin2, lea2, mos2, wrt2, tal2, siz2, tol2, hrs2, ags2, sta2, beh2, sor2, num2, A2, sv2, her2, flt2, vlu2, Eq.trans r1 w1, Eq.trans r2 w2, w3, w4⟩
theorem stk_ag {A B : Nat → Nat} (hw : wfA A) (h : ∀ j, j < 166 → B j = A j) {par : Int32} {kin lea mos wrt : Nat → Int32} {tal : Int32} {siz tol : Nat → Int32} {hrs : Int32} {ags : Nat → Int32} {yea : Int32} (hs : stk A par kin lea mos wrt tal siz tol hrs ags yea) : stk B par kin lea mos wrt tal siz tol hrs ags yea := by
  obtain ⟨hy, h1, h2, h3, hpp, htt, hhh⟩ := hw
  obtain ⟨e1, e2, e3, e4, e5, e6, e7⟩ := hs
  refine ⟨by rw [h 1 (by omega)]; exact e1, fun p hp => ?_, by rw [h 2 (by omega)]; exact e3, fun t ht => ?_, by rw [h 3 (by omega)]; exact e5, fun k hk => ?_, by rw [h 0 (by omega)]; exact e7⟩
  · rw [h 1 (by omega)] at hp
    rw [h _ (by omega), h _ (by omega), h _ (by omega), h _ (by omega)]
    exact e2 p hp
  · rw [h 2 (by omega)] at ht
    obtain ⟨g1, g2⟩ := htt t ht
    rw [h (68 + 11 * t) (by omega)]
    refine ⟨(e4 t ht).1, fun i hi => ?_⟩
    rw [h _ (by omega)]
    exact (e4 t ht).2 i hi
  · rw [h 3 (by omega)] at hk
    rw [h _ (by omega)]
    exact e6 k hk
set_option maxHeartbeats 4000000 in
theorem eq_book {par : Int32} {kin lea mos wrt : Nat → Int32} {tal : Int32} {siz tol : Nat → Int32} {hrs : Int32} {ags : Nat → Int32} {yea kpar : Int32} {kkin klea kmos kwrt : Nat → Int32} {ktal : Int32} {ksiz ktol : Nat → Int32} {khrs : Int32} {kags : Nat → Int32} {kyea isk : Int32} {tly : Nat → Int64} {gai bes : Nat → Int32} {low hig : Nat → Int64} {spn : Int32} {byt : Nat → Int32} {hld sta beh sor num : Int32} {fnd sbi she : Nat → Int32} {snu : Nat → Nat → Int64} {msv mkep mbef : Nat → Int32} {misk : Int32} {mfnd : Nat → Int32} {mman mnex : Nat → Int64} {mwor msng mhea mlat mtap : Nat → Int32} {mtpd mher mflt mvlu : Int32} {mbit mlon : Nat → Int32} {mcel mbtw : Nat → Int64} (h : Rel par kin lea mos wrt tal siz tol hrs ags yea kpar kkin klea kmos kwrt ktal ksiz ktol khrs kags kyea isk tly gai bes low hig spn byt hld sta beh sor num fnd sbi she snu msv mkep mbef misk mfnd mman mnex mwor msng mhea mlat mtap mtpd mher mflt mvlu mbit mlon mcel mbtw)  : ∃ (rx : Int32 × Int32 × (Nat → Int32) × (Nat → Int32) × (Nat → Int32) × (Nat → Int32) × Int32 × (Nat → Int32) × (Nat → Int32) × Int32 × (Nat → Int32) × Int32 × Int32 × Int32 × Int32 × Int32) (rm : Int32 × (Nat → Int32) × (Nat → Int32) × (Nat → Int32) × Int32 × Int32 × Int32 × Int32), fX5_book par kin lea mos wrt tal siz tol hrs ags byt hld sta beh sor num = some rx ∧ fX6_book msv mbef mfnd mtap mtpd mher mflt mvlu = some rm ∧ rx.1 = rm.1 ∧ Rel rx.2.1 rx.2.2.1 rx.2.2.2.1 rx.2.2.2.2.1 rx.2.2.2.2.2.1 rx.2.2.2.2.2.2.1 rx.2.2.2.2.2.2.2.1 rx.2.2.2.2.2.2.2.2.1 rx.2.2.2.2.2.2.2.2.2.1 rx.2.2.2.2.2.2.2.2.2.2.1 yea kpar kkin klea kmos kwrt ktal ksiz ktol khrs kags kyea isk tly gai bes low hig spn byt rx.2.2.2.2.2.2.2.2.2.2.2.1 rx.2.2.2.2.2.2.2.2.2.2.2.2.1 rx.2.2.2.2.2.2.2.2.2.2.2.2.2.1 rx.2.2.2.2.2.2.2.2.2.2.2.2.2.2.1 rx.2.2.2.2.2.2.2.2.2.2.2.2.2.2.2 fnd sbi she snu rm.2.1 mkep rm.2.2.1 misk rm.2.2.2.1 mman mnex mwor msng mhea mlat mtap rm.2.2.2.2.1 rm.2.2.2.2.2.1 rm.2.2.2.2.2.2.1 rm.2.2.2.2.2.2.2 mbit mlon mcel mbtw := by
  obtain ⟨⟨A, hw, hs, rfl⟩, hk, rfl, htp, hsh⟩ := h
  obtain ⟨hy, h1, h2, h3, hpp, htt, hhh⟩ := id hw
  obtain ⟨rfl, hsp, rfl, hst, rfl, hsa, rfl⟩ := id hs
  obtain ⟨b, n, hb, hn, rfl, rfl, rfl, rfl⟩ := htp
  have h0 : St A A (nI (A 1)) kin lea mos wrt (nI (A 2)) siz tol (nI (A 3)) ags := ⟨hw, hs, ⟨Nat.le_refl _, Nat.le_refl _, Nat.le_refl _⟩, hs⟩
  obtain ⟨r, par2, kin2, lea2, mos2, wrt2, tal2, siz2, tol2, hrs2, ags2, sta2, beh2, sor2, num2, A2, sv2, her2, flt2, vlu2, w1, w2, w3, w4⟩ := book_loop hb hn hw (fun j => if j < 166 then toF A j else mbef j) fnd n 0 A (nI (A 1)) kin lea mos wrt (nI (A 2)) siz tol (nI (A 3)) ags 0 sta sor num mvlu 2000 2000 (by omega) (by omega) (by omega) h0 (by omega) (by omega)
  have X0 : fX0_readText (nI (A 1)) kin lea mos wrt (nI (A 2)) siz tol (nI (A 3)) ags (toF b) (nI n) sta beh sor num = some (r, par2, kin2, lea2, mos2, wrt2, tal2, siz2, tol2, hrs2, ags2, sta2, beh2, sor2, num2) := w1
  have M0 : fX6_book (toF A) mbef fnd (toF b) (nI n) mher mflt mvlu = some (r, sv2, (fun j => if j < 166 then toF A j else mbef j), fnd, 0, her2, flt2, vlu2) := by
    unfold fX6_book
    rw [M_lay_sv_bef, Option.bind_some]
    exact w2
  have htp2 : tapR (toF b) 0 (toF b) 0 := ⟨b, 0, hb, by omega, rfl, rfl, rfl, rfl⟩
  rcases w4 with ⟨k, hk1, rfl, rfl⟩ | ⟨s', hs1, rfl, sv3, rfl⟩
  · refine ⟨(nI k, par2, kin2, lea2, mos2, wrt2, tal2, siz2, tol2, hrs2, ags2, 0, sta2, beh2, sor2, num2), _, ?_, M0, rfl, ⟨A2, w3.1, w3.2.1, rfl⟩, hk, rfl, htp2, hsh⟩
    unfold fX5_book fX5_book_b48
    rw [X0, Option.bind_some, if_pos (nI_pos' (by omega))]
    rfl
  · have hB : ∀ j, j < 166 → (fun j => if j < 166 then A j else (sv3 j).toBitVec.toNat) j = A j := fun j hj => if_pos hj
    have eB : (fun j => if j < 166 then (if j < 166 then toF A j else mbef j) else sv3 j) = toF (fun j => if j < 166 then A j else (sv3 j).toBitVec.toNat) := by
      rw [← lay_toF]
      funext j
      by_cases z : j < 166
      · rw [if_pos z, if_pos z, if_pos z]
      · rw [if_neg z, if_neg z]
    refine ⟨((-1 : Int32) - nI s', nI (A 1), kin2, lea2, mos2, wrt2, nI (A 2), siz2, tol2, nI (A 3), ags2, 0, sta2, beh2, sor2, num2), _, ?_, M0, rfl, ⟨_, wf_cp hw hB, stk_ag hw hB w3.2.2.2, eB⟩, hk, rfl, htp2, hsh⟩
    unfold fX5_book fX5_book_b48
    rw [X0, Option.bind_some, if_neg (neg_s s' (by omega))]
    rfl

