theorem M_lay_sv_kep (f g : Nat → Int32) : fX6_lay_sv_kep f g = some (fun j => if j < 166 then f j else g j) := by
  unfold fX6_lay_sv_kep
  refine up2 166 (fun i x2 (h : Nat → Int32) => x2 = nI i ∧ h = fun j => if j < i then f j else g j) ?_ ?_ 2000 0 _ _ (by omega) (by omega) ⟨rfl, ?_⟩
  · rintro K x2 h ⟨rfl, rfl⟩
    unfold fX6_lay_sv_kep_l2
    rw [if_pos (by decide)]
  · rintro K i x2 h hi ⟨rfl, rfl⟩
    right
    refine ⟨nI (i + 1), fun j => if j < i + 1 then f j else g j, ?_, rfl, rfl⟩
    unfold fX6_lay_sv_kep_l2
    rw [if_neg (show ¬ (166 : Int32) ≤ nI i from nI_ge (b := 166) hi (by omega)), gdN hi (by omega), gdN hi (by omega), nI_clamp (by omega), nI_1]
    congr 1
    funext j
    rw [updI_at]
    by_cases q : j = i
    · rw [if_pos q, if_pos (by omega), q]
    · rw [if_neg q]
      by_cases z : j < i
      · rw [if_pos z, if_pos (by omega)]
      · rw [if_neg z, if_neg (by omega)]
  · funext j
    rw [if_neg (Nat.not_lt_zero j)]
theorem M_lay_kep_sv (f g : Nat → Int32) : fX6_lay_kep_sv g f = some (fun j => if j < 166 then f j else g j) := by
  unfold fX6_lay_kep_sv
  refine up2 166 (fun i x2 (h : Nat → Int32) => x2 = nI i ∧ h = fun j => if j < i then f j else g j) ?_ ?_ 2000 0 _ _ (by omega) (by omega) ⟨rfl, ?_⟩
  · rintro K x2 h ⟨rfl, rfl⟩
    unfold fX6_lay_kep_sv_l2
    rw [if_pos (by decide)]
  · rintro K i x2 h hi ⟨rfl, rfl⟩
    right
    refine ⟨nI (i + 1), fun j => if j < i + 1 then f j else g j, ?_, rfl, rfl⟩
    unfold fX6_lay_kep_sv_l2
    rw [if_neg (show ¬ (166 : Int32) ≤ nI i from nI_ge (b := 166) hi (by omega)), gdN hi (by omega), gdN hi (by omega), nI_clamp (by omega), nI_1]
    congr 1
    funext j
    rw [updI_at]
    by_cases q : j = i
    · rw [if_pos q, if_pos (by omega), q]
    · rw [if_neg q]
      by_cases z : j < i
      · rw [if_pos z, if_pos (by omega)]
      · rw [if_neg z, if_neg (by omega)]
  · funext j
    rw [if_neg (Nat.not_lt_zero j)]
theorem M_lay_sv_bef (f g : Nat → Int32) : fX6_lay_sv_bef f g = some (fun j => if j < 166 then f j else g j) := by
  unfold fX6_lay_sv_bef
  refine up2 166 (fun i x2 (h : Nat → Int32) => x2 = nI i ∧ h = fun j => if j < i then f j else g j) ?_ ?_ 2000 0 _ _ (by omega) (by omega) ⟨rfl, ?_⟩
  · rintro K x2 h ⟨rfl, rfl⟩
    unfold fX6_lay_sv_bef_l2
    rw [if_pos (by decide)]
  · rintro K i x2 h hi ⟨rfl, rfl⟩
    right
    refine ⟨nI (i + 1), fun j => if j < i + 1 then f j else g j, ?_, rfl, rfl⟩
    unfold fX6_lay_sv_bef_l2
    rw [if_neg (show ¬ (166 : Int32) ≤ nI i from nI_ge (b := 166) hi (by omega)), gdN hi (by omega), gdN hi (by omega), nI_clamp (by omega), nI_1]
    congr 1
    funext j
    rw [updI_at]
    by_cases q : j = i
    · rw [if_pos q, if_pos (by omega), q]
    · rw [if_neg q]
      by_cases z : j < i
      · rw [if_pos z, if_pos (by omega)]
      · rw [if_neg z, if_neg (by omega)]
  · funext j
    rw [if_neg (Nat.not_lt_zero j)]
theorem M_lay_bef_sv (f g : Nat → Int32) : fX6_lay_bef_sv g f = some (fun j => if j < 166 then f j else g j) := by
  unfold fX6_lay_bef_sv
  refine up2 166 (fun i x2 (h : Nat → Int32) => x2 = nI i ∧ h = fun j => if j < i then f j else g j) ?_ ?_ 2000 0 _ _ (by omega) (by omega) ⟨rfl, ?_⟩
  · rintro K x2 h ⟨rfl, rfl⟩
    unfold fX6_lay_bef_sv_l2
    rw [if_pos (by decide)]
  · rintro K i x2 h hi ⟨rfl, rfl⟩
    right
    refine ⟨nI (i + 1), fun j => if j < i + 1 then f j else g j, ?_, rfl, rfl⟩
    unfold fX6_lay_bef_sv_l2
    rw [if_neg (show ¬ (166 : Int32) ≤ nI i from nI_ge (b := 166) hi (by omega)), gdN hi (by omega), gdN hi (by omega), nI_clamp (by omega), nI_1]
    congr 1
    funext j
    rw [updI_at]
    by_cases q : j = i
    · rw [if_pos q, if_pos (by omega), q]
    · rw [if_neg q]
      by_cases z : j < i
      · rw [if_pos z, if_pos (by omega)]
      · rw [if_neg z, if_neg (by omega)]
  · funext j
    rw [if_neg (Nat.not_lt_zero j)]
theorem nI_back (x : Int32) : nI x.toBitVec.toNat = x := by
  apply Int32.toBitVec_inj.1
  show BitVec.ofNat 32 x.toBitVec.toNat = _
  apply BitVec.eq_of_toNat_eq
  rw [BitVec.toNat_ofNat, Nat.mod_eq_of_lt x.toBitVec.isLt]
theorem wf_cp {A B : Nat → Nat} (hw : wfA A) (h : ∀ j, j < 166 → B j = A j) : wfA B := by
  obtain ⟨hy, h1, h2, h3, hpp, htt, hhh⟩ := hw
  refine ⟨by rw [h 0 (by omega)]; exact hy, by rw [h 1 (by omega)]; exact h1, by rw [h 2 (by omega)]; exact h2, by rw [h 3 (by omega)]; exact h3, ?_, ?_, ?_⟩
  · intro p hp
    rw [h 1 (by omega)] at hp
    rw [h _ (by omega), h _ (by omega), h _ (by omega), h _ (by omega)]
    exact hpp p hp
  · intro t ht
    rw [h 2 (by omega)] at ht
    obtain ⟨g1, g2⟩ := htt t ht
    rw [h _ (by omega), h 1 (by omega)]
    refine ⟨g1, fun i hi => ?_⟩
    rw [h _ (by omega)]
    exact g2 i hi
  · intro k hk
    rw [h 3 (by omega)] at hk
    rw [h _ (by omega)]
    exact hhh k hk
theorem stk_cp {A B : Nat → Nat} (hw : wfA A) (h : ∀ j, j < 166 → B j = A j) {par : Int32} {kin lea mos wrt : Nat → Int32} {tal : Int32} {siz tol : Nat → Int32} {hrs : Int32} {ags : Nat → Int32} {yea : Int32} (hs : stk A par kin lea mos wrt tal siz tol hrs ags yea) (kin2 lea2 mos2 wrt2 siz2 tol2 ags2 : Nat → Int32) : stk B par (va_cpy kin kin2 0 0 16) (va_cpy lea lea2 0 0 16) (va_cpy mos mos2 0 0 16) (va_cpy wrt wrt2 0 0 16) tal (va_cpy siz siz2 0 0 8) (va_cpy tol tol2 0 0 80) hrs (va_cpy ags ags2 0 0 10) yea := by
  obtain ⟨hy, h1, h2, h3, hpp, htt, hhh⟩ := hw
  obtain ⟨e1, hsp, e2, hst, e3, hsa, e0⟩ := hs
  have cp : ∀ (f g : Nat → Int32) (n j : Nat), j < n → va_cpy f g 0 0 n j = f j := by
    intro f g n j hj
    rw [pk_cpy_in (by omega) (by omega)]
    congr 1
    omega
  refine ⟨by rw [h 1 (by omega)]; exact e1, ?_, by rw [h 2 (by omega)]; exact e2, ?_, by rw [h 3 (by omega)]; exact e3, ?_, by rw [h 0 (by omega)]; exact e0⟩
  · intro p hp
    rw [h 1 (by omega)] at hp
    rw [h _ (by omega), h _ (by omega), h _ (by omega), h _ (by omega), cp _ _ _ _ (by omega), cp _ _ _ _ (by omega), cp _ _ _ _ (by omega), cp _ _ _ _ (by omega)]
    exact hsp p hp
  · intro t ht
    rw [h 2 (by omega)] at ht
    obtain ⟨g1, g2⟩ := htt t ht
    obtain ⟨q1, q2⟩ := hst t ht
    rw [h _ (by omega), cp _ _ _ _ (by omega)]
    refine ⟨q1, fun i hi => ?_⟩
    rw [h _ (by omega), cp _ _ _ _ (by omega)]
    exact q2 i hi
  · intro k hk
    rw [h 3 (by omega)] at hk
    rw [h _ (by omega), cp _ _ _ _ (by omega)]
    exact hsa k hk
theorem lay_toF (A : Nat → Nat) (g : Nat → Int32) : (fun j => if j < 166 then toF A j else g j) = toF (fun j => if j < 166 then A j else (g j).toBitVec.toNat) := by
  funext j
  show _ = nI (if j < 166 then A j else (g j).toBitVec.toNat)
  by_cases q : j < 166
  · rw [if_pos q, if_pos q]; rfl
  · rw [if_neg q, if_neg q, nI_back]
set_option maxHeartbeats 4000000 in
theorem eq_image {par : Int32} {kin lea mos wrt : Nat → Int32} {tal : Int32} {siz tol : Nat → Int32} {hrs : Int32} {ags : Nat → Int32} {yea kpar : Int32} {kkin klea kmos kwrt : Nat → Int32} {ktal : Int32} {ksiz ktol : Nat → Int32} {khrs : Int32} {kags : Nat → Int32} {kyea isk : Int32} {tly : Nat → Int64} {gai bes : Nat → Int32} {low hig : Nat → Int64} {spn : Int32} {byt : Nat → Int32} {hld sta beh sor num : Int32} {fnd sbi she : Nat → Int32} {snu : Nat → Nat → Int64} {msv mkep mbef : Nat → Int32} {misk : Int32} {mfnd : Nat → Int32} {mman mnex : Nat → Int64} {mwor msng mhea mlat mtap : Nat → Int32} {mtpd mher mflt mvlu : Int32} {mbit mlon : Nat → Int32} {mcel mbtw : Nat → Int64} (h : Rel par kin lea mos wrt tal siz tol hrs ags yea kpar kkin klea kmos kwrt ktal ksiz ktol khrs kags kyea isk tly gai bes low hig spn byt hld sta beh sor num fnd sbi she snu msv mkep mbef misk mfnd mman mnex mwor msng mhea mlat mtap mtpd mher mflt mvlu mbit mlon mcel mbtw)  : ∃ (rx : Int32 × Int32 × (Nat → Int32) × (Nat → Int32) × (Nat → Int32) × (Nat → Int32) × Int32 × (Nat → Int32) × (Nat → Int32) × Int32 × (Nat → Int32) × Int32 × Int32) (rm : Int32 × (Nat → Int32) × Int32), fX5_image par kin lea mos wrt tal siz tol hrs ags yea kpar kkin klea kmos kwrt ktal ksiz ktol khrs kags kyea isk = some rx ∧ fX6_image msv mkep misk = some rm ∧ rx.1 = rm.1 ∧ Rel par kin lea mos wrt tal siz tol hrs ags yea rx.2.1 rx.2.2.1 rx.2.2.2.1 rx.2.2.2.2.1 rx.2.2.2.2.2.1 rx.2.2.2.2.2.2.1 rx.2.2.2.2.2.2.2.1 rx.2.2.2.2.2.2.2.2.1 rx.2.2.2.2.2.2.2.2.2.1 rx.2.2.2.2.2.2.2.2.2.2.1 rx.2.2.2.2.2.2.2.2.2.2.2.1 rx.2.2.2.2.2.2.2.2.2.2.2.2 tly gai bes low hig spn byt hld sta beh sor num fnd sbi she snu msv rm.2.1 mbef rm.2.2 mfnd mman mnex mwor msng mhea mlat mtap mtpd mher mflt mvlu mbit mlon mcel mbtw := by
  obtain ⟨⟨A, hw, hs, rfl⟩, hk, rfl, htp, hsh⟩ := h
  obtain ⟨hy, h1, h2, h3, hpp, htt, hhh⟩ := id hw
  obtain ⟨rfl, hsp, rfl, hst, rfl, hsa, rfl⟩ := id hs
  have hB : ∀ j, j < 166 → (fun j => if j < 166 then A j else (mkep j).toBitVec.toNat) j = A j := fun j hj => if_pos hj
  refine ⟨_, (1, toF (fun j => if j < 166 then A j else (mkep j).toBitVec.toNat), 1), rfl, ?_, rfl, ⟨A, hw, hs, rfl⟩, Or.inr ⟨rfl, rfl, _, wf_cp hw hB, stk_cp hw hB hs _ _ _ _ _ _ _, rfl⟩, rfl, htp, hsh⟩
  unfold fX6_image
  rw [M_lay_sv_kep, Option.bind_some, lay_toF]
set_option maxHeartbeats 4000000 in
theorem eq_undo {par : Int32} {kin lea mos wrt : Nat → Int32} {tal : Int32} {siz tol : Nat → Int32} {hrs : Int32} {ags : Nat → Int32} {yea kpar : Int32} {kkin klea kmos kwrt : Nat → Int32} {ktal : Int32} {ksiz ktol : Nat → Int32} {khrs : Int32} {kags : Nat → Int32} {kyea isk : Int32} {tly : Nat → Int64} {gai bes : Nat → Int32} {low hig : Nat → Int64} {spn : Int32} {byt : Nat → Int32} {hld sta beh sor num : Int32} {fnd sbi she : Nat → Int32} {snu : Nat → Nat → Int64} {msv mkep mbef : Nat → Int32} {misk : Int32} {mfnd : Nat → Int32} {mman mnex : Nat → Int64} {mwor msng mhea mlat mtap : Nat → Int32} {mtpd mher mflt mvlu : Int32} {mbit mlon : Nat → Int32} {mcel mbtw : Nat → Int64} (h : Rel par kin lea mos wrt tal siz tol hrs ags yea kpar kkin klea kmos kwrt ktal ksiz ktol khrs kags kyea isk tly gai bes low hig spn byt hld sta beh sor num fnd sbi she snu msv mkep mbef misk mfnd mman mnex mwor msng mhea mlat mtap mtpd mher mflt mvlu mbit mlon mcel mbtw)  : ∃ (rx : Int32 × Int32 × (Nat → Int32) × (Nat → Int32) × (Nat → Int32) × (Nat → Int32) × Int32 × (Nat → Int32) × (Nat → Int32) × Int32 × (Nat → Int32) × Int32 × (Nat → Int32)) (rm : Int32 × (Nat → Int32) × (Nat → Int32)), fX5_undo par kin lea mos wrt tal siz tol hrs ags yea kpar kkin klea kmos kwrt ktal ksiz ktol khrs kags kyea isk fnd = some rx ∧ fX6_undo msv mkep misk mfnd = some rm ∧ rx.1 = rm.1 ∧ Rel rx.2.1 rx.2.2.1 rx.2.2.2.1 rx.2.2.2.2.1 rx.2.2.2.2.2.1 rx.2.2.2.2.2.2.1 rx.2.2.2.2.2.2.2.1 rx.2.2.2.2.2.2.2.2.1 rx.2.2.2.2.2.2.2.2.2.1 rx.2.2.2.2.2.2.2.2.2.2.1 rx.2.2.2.2.2.2.2.2.2.2.2.1 kpar kkin klea kmos kwrt ktal ksiz ktol khrs kags kyea isk tly gai bes low hig spn byt hld sta beh sor num rx.2.2.2.2.2.2.2.2.2.2.2.2 sbi she snu rm.2.1 mkep mbef misk rm.2.2 mman mnex mwor msng mhea mlat mtap mtpd mher mflt mvlu mbit mlon mcel mbtw := by
  obtain ⟨⟨A, hw, hs, rfl⟩, hk, rfl, htp, hsh⟩ := h
  obtain ⟨hy, h1, h2, h3, hpp, htt, hhh⟩ := id hw
  obtain ⟨rfl, hsp, rfl, hst, rfl, hsa, rfl⟩ := id hs
  rcases hk with ⟨rfl, rfl⟩ | ⟨rfl, rfl, B, hwB, hsB, rfl⟩
  · exact ⟨((fn fnd 3).1, nI (A 1), kin, lea, mos, wrt, nI (A 2), siz, tol, nI (A 3), ags, nI (A 0), (fn fnd 3).2), ((fn fnd 3).1, toF A, (fn fnd 3).2), rfl, rfl, rfl, ⟨A, hw, hs, rfl⟩, Or.inl ⟨rfl, rfl⟩, rfl, htp, hsh⟩
  · have hB : ∀ j, j < 166 → (fun j => if j < 166 then B j else (toF A j).toBitVec.toNat) j = B j := fun j hj => if_pos hj
    refine ⟨_, (nI (B 1), toF (fun j => if j < 166 then B j else (toF A j).toBitVec.toNat), fnd), rfl, ?_, hsB.1, ⟨_, wf_cp hwB hB, stk_cp hwB hB hsB _ _ _ _ _ _ _, rfl⟩, Or.inr ⟨rfl, rfl, B, hwB, hsB, rfl⟩, rfl, htp, hsh⟩
    unfold fX6_undo
    rw [if_neg (by decide), M_lay_kep_sv, Option.bind_some, lay_toF]
    rfl
theorem isIn_mb {x : Int32} {b : Nat} {y : Int32} (hy : y.toInt = b) (h : fX5_isIn x (-1) y = true) : x = -1 ∨ ∃ k, k ≤ b ∧ x = nI k := by
  rw [isIn_eq, decide_eq_true_eq, show (-1 : Int32).toInt = -1 from rfl, hy] at h
  by_cases q : 0 ≤ x.toInt
  · right
    exact ⟨x.toInt.toNat, by omega, nI_ofInt q⟩
  · left
    apply Int32.toInt_inj.mp
    rw [show (-1 : Int32).toInt = -1 from rfl]
    omega
def smI (f : Nat → Int32) : Nat → Int32
  | 0 => 0
  | i + 1 => smI f i + f i
set_option maxHeartbeats 4000000 in
theorem eq_status {par : Int32} {kin lea mos wrt : Nat → Int32} {tal : Int32} {siz tol : Nat → Int32} {hrs : Int32} {ags : Nat → Int32} {yea kpar : Int32} {kkin klea kmos kwrt : Nat → Int32} {ktal : Int32} {ksiz ktol : Nat → Int32} {khrs : Int32} {kags : Nat → Int32} {kyea isk : Int32} {tly : Nat → Int64} {gai bes : Nat → Int32} {low hig : Nat → Int64} {spn : Int32} {byt : Nat → Int32} {hld sta beh sor num : Int32} {fnd sbi she : Nat → Int32} {snu : Nat → Nat → Int64} {msv mkep mbef : Nat → Int32} {misk : Int32} {mfnd : Nat → Int32} {mman mnex : Nat → Int64} {mwor msng mhea mlat mtap : Nat → Int32} {mtpd mher mflt mvlu : Int32} {mbit mlon : Nat → Int32} {mcel mbtw : Nat → Int64} (h : Rel par kin lea mos wrt tal siz tol hrs ags yea kpar kkin klea kmos kwrt ktal ksiz ktol khrs kags kyea isk tly gai bes low hig spn byt hld sta beh sor num fnd sbi she snu msv mkep mbef misk mfnd mman mnex mwor msng mhea mlat mtap mtpd mher mflt mvlu mbit mlon mcel mbtw) (x1 : Int32) : ∃ (rx : Int32 × (Nat → Int32)) (rm : Int32 × (Nat → Int32)), fX5_status fnd x1 = some rx ∧ fX6_status mfnd x1 = some rm ∧ rx.1 = rm.1 ∧ Rel par kin lea mos wrt tal siz tol hrs ags yea kpar kkin klea kmos kwrt ktal ksiz ktol khrs kags kyea isk tly gai bes low hig spn byt hld sta beh sor num rx.2 sbi she snu msv mkep mbef misk rm.2 mman mnex mwor msng mhea mlat mtap mtpd mher mflt mvlu mbit mlon mcel mbtw := by
  obtain ⟨⟨A, hw, hs, rfl⟩, hk, rfl, htp, hsh⟩ := h
  obtain ⟨hy, h1, h2, h3, hpp, htt, hhh⟩ := id hw
  obtain ⟨rfl, hsp, rfl, hst, rfl, hsa, rfl⟩ := id hs
  by_cases c : fX5_isIn x1 (-1) 6 = true
  · have c2 : fX6_in x1 (-1) 6 = true := c
    rcases isIn_mb (b := 6) rfl c with rfl | ⟨k, hk6, rfl⟩
    · refine ⟨(smI fnd 7, fnd), (smI fnd 7, fnd), ?_, ?_, rfl, ⟨A, hw, hs, rfl⟩, hk, rfl, htp, hsh⟩
      · unfold fX5_status
        rw [c, if0t, if_pos (by decide)]
        refine up2 7 (fun i x2 x3 => x2 = smI fnd i ∧ x3 = nI i) ?_ ?_ 2000 0 _ _ (by omega) (by omega) ⟨rfl, rfl⟩
        · rintro K x2 x3 ⟨rfl, rfl⟩
          unfold fX5_status_l32
          rw [if_pos (by decide)]
        · rintro K i x2 x3 hi ⟨rfl, rfl⟩
          right
          refine ⟨_, nI (i + 1), ?_, rfl, rfl⟩
          unfold fX5_status_l32
          rw [if_neg (show ¬ (7 : Int32) ≤ nI i from nI_ge (b := 7) hi (by omega)), gdN hi (by omega), nI_clamp (by omega), nI_1]
          rfl
      · unfold fX6_status
        rw [c2, if0t]
        refine up2 7 (fun i x2 x3 => x2 = smI fnd i ∧ x3 = nI i) ?_ ?_ 2000 0 _ _ (by omega) (by omega) ⟨rfl, rfl⟩
        · rintro K x2 x3 ⟨rfl, rfl⟩
          unfold fX6_status_l20
          rw [if_pos (by decide)]
        · rintro K i x2 x3 hi ⟨rfl, rfl⟩
          right
          refine ⟨_, nI (i + 1), ?_, rfl, rfl⟩
          unfold fX6_status_l20
          rw [if_neg (show ¬ (7 : Int32) ≤ nI i from nI_ge (b := 7) hi (by omega)), if_pos rfl]
          unfold fX6_status_b37 fX6_status_b47
          rw [gdN hi (by omega), nI_clamp (by omega), nI_1]
          rfl
    · refine ⟨(fnd k, fnd), (fnd k, fnd), ?_, ?_, rfl, ⟨A, hw, hs, rfl⟩, hk, rfl, htp, hsh⟩
      · unfold fX5_status
        rw [c, if0t, if_neg (nI_pos (by omega)), gdN (by omega) (by omega), nI_clamp (by omega)]
      · unfold fX6_status
        rw [c2, if0t]
        have hm1 : ¬ nI k = (-1 : Int32) := fun z => by
          have := congrArg Int32.toInt z
          rw [nI_toInt (by omega), show (-1 : Int32).toInt = -1 from rfl] at this
          omega
        refine up2 7 (fun i x2 x3 => x2 = (if k < i then fnd k else 0) ∧ x3 = nI i) ?_ ?_ 2000 0 _ _ (by omega) (by omega) ⟨(if_neg (Nat.not_lt_zero k)).symm, rfl⟩
        · rintro K x2 x3 ⟨rfl, rfl⟩
          unfold fX6_status_l20
          rw [if_pos (by decide), if_pos (by omega)]
        · rintro K i x2 x3 hi ⟨rfl, rfl⟩
          right
          refine ⟨(if k < i + 1 then fnd k else 0), nI (i + 1), ?_, rfl, rfl⟩
          unfold fX6_status_l20
          rw [if_neg (show ¬ (7 : Int32) ≤ nI i from nI_ge (b := 7) hi (by omega)), if_neg hm1]
          unfold fX6_status_b37 fX6_status_b47
          by_cases q : k = i
          · subst q
            rw [if_pos rfl, gdN hi (by omega), nI_clamp (by omega), nI_1, if_neg (Nat.lt_irrefl k), if_pos (by omega), Int32.zero_add]
          · rw [if_neg (fun z => q ((nI_eq (by omega) (by omega)).mp z)), nI_1, Int32.add_zero]
            by_cases z : k < i
            · rw [if_pos z, if_pos (by omega)]
            · rw [if_neg z, if_neg (by omega)]
  · have c := nT c
    have c2 : fX6_in x1 (-1) 6 = false := c
    refine ⟨fn fnd 0, fn fnd 0, ?_, ?_, rfl, ⟨A, hw, hs, rfl⟩, hk, rfl, htp, hsh⟩
    · unfold fX5_status
      rw [c, if0f, fo_0, Option.bind_some]
    · unfold fX6_status
      rw [c2, if0f, no_0, Option.bind_some]
def byN (x : Int32) (k : Nat) : Nat := ((x >>> (((8 : Int32) * nI k) &&& 31)) &&& (255 : Int32)).toBitVec.toNat
theorem byN_lt (x : Int32) (k : Nat) : byN x k < 256 := by
  unfold byN
  show (_ &&& (255 : Int32).toBitVec).toNat < 256
  rw [BitVec.toNat_and]
  have := @Nat.and_le_right ((x >>> (((8 : Int32) * nI k) &&& 31)).toBitVec.toNat) ((255 : Int32).toBitVec.toNat)
  have e : (255 : Int32).toBitVec.toNat = 255 := rfl
  omega
theorem byM (x : Int32) (k : Nat) : (x >>> (((8 : Int32) * nI k) &&& 31)) &&& (255 : Int32) = nI (byN x k) := (nI_back _).symm
theorem byX (x : Int32) {k : Nat} (hk : k < 4) : (x.toUInt32 >>> (((8 : Int32) * nI k).toUInt32 &&& Int32.toUInt32 31)).toInt32 &&& (255 : Int32) = nI (byN x k) := by
  rw [← byM]
  apply Int32.toBitVec_inj.1
  have a1 : ∀ k, k < 4 → (((8 : Int32) * nI k).toUInt32 &&& Int32.toUInt32 31).toBitVec % 32 = BitVec.ofNat 32 (8 * k) := by decide +kernel
  have a2 : ∀ k, k < 4 → (((8 : Int32) * nI k) &&& 31).toBitVec.smod 32 = BitVec.ofNat 32 (8 * k) := by decide +kernel
  show (x.toBitVec >>> ((((8 : Int32) * nI k).toUInt32 &&& Int32.toUInt32 31).toBitVec % 32)) &&& (255 : Int32).toBitVec = (BitVec.sshiftRight' x.toBitVec ((((8 : Int32) * nI k) &&& 31).toBitVec.smod 32)) &&& (255 : Int32).toBitVec
  rw [a1 k hk, a2 k hk]
  have e8 : (BitVec.ofNat 32 (8 * k)).toNat = 8 * k := by rw [BitVec.toNat_ofNat]; omega
  apply BitVec.eq_of_getLsbD_eq
  intro i hi
  rw [BitVec.getLsbD_and, BitVec.getLsbD_and]
  have e255 : ∀ i, i < 32 → (255 : Int32).toBitVec.getLsbD i = decide (i < 8) := by decide +kernel
  rw [e255 i hi]
  by_cases q : i < 8
  · rw [BitVec.ushiftRight_eq', BitVec.getLsbD_ushiftRight]
    unfold BitVec.sshiftRight'
    rw [BitVec.getLsbD_sshiftRight, e8]
    simp [hi, show 8 * k + i < 32 by omega, show ¬ 32 ≤ i by omega]
  · rw [decide_eq_false q, Bool.and_false, Bool.and_false]
def fdb (x : Int32) (n h : Nat) (b : Nat → Nat) : Nat → (Nat → Nat)
  | 0 => b
  | i + 1 => va_up (fdb x n h b i) (h + i) (byN x (n - 1 - i))
theorem fdb_lt {x : Int32} {n h : Nat} {b : Nat → Nat} (hb : ∀ k, b k < 256) : ∀ i k, fdb x n h b i k < 256
  | 0, k => hb k
  | i + 1, k => by
    show va_up _ _ _ k < 256
    rw [up_at]
    split
    · exact byN_lt _ _
    · exact fdb_lt hb i k
set_option maxHeartbeats 4000000 in
theorem eq_feed {par : Int32} {kin lea mos wrt : Nat → Int32} {tal : Int32} {siz tol : Nat → Int32} {hrs : Int32} {ags : Nat → Int32} {yea kpar : Int32} {kkin klea kmos kwrt : Nat → Int32} {ktal : Int32} {ksiz ktol : Nat → Int32} {khrs : Int32} {kags : Nat → Int32} {kyea isk : Int32} {tly : Nat → Int64} {gai bes : Nat → Int32} {low hig : Nat → Int64} {spn : Int32} {byt : Nat → Int32} {hld sta beh sor num : Int32} {fnd sbi she : Nat → Int32} {snu : Nat → Nat → Int64} {msv mkep mbef : Nat → Int32} {misk : Int32} {mfnd : Nat → Int32} {mman mnex : Nat → Int64} {mwor msng mhea mlat mtap : Nat → Int32} {mtpd mher mflt mvlu : Int32} {mbit mlon : Nat → Int32} {mcel mbtw : Nat → Int64} (h : Rel par kin lea mos wrt tal siz tol hrs ags yea kpar kkin klea kmos kwrt ktal ksiz ktol khrs kags kyea isk tly gai bes low hig spn byt hld sta beh sor num fnd sbi she snu msv mkep mbef misk mfnd mman mnex mwor msng mhea mlat mtap mtpd mher mflt mvlu mbit mlon mcel mbtw) (x1 : Int32) (x2 : Int32) : ∃ (rx : Int32 × (Nat → Int32) × Int32 × (Nat → Int32)) (rm : Int32 × (Nat → Int32) × (Nat → Int32) × Int32), fX5_feed byt hld fnd x1 x2 = some rx ∧ fX6_feed mfnd mtap mtpd x1 x2 = some rm ∧ rx.1 = rm.1 ∧ Rel par kin lea mos wrt tal siz tol hrs ags yea kpar kkin klea kmos kwrt ktal ksiz ktol khrs kags kyea isk tly gai bes low hig spn rx.2.1 rx.2.2.1 sta beh sor num rx.2.2.2 sbi she snu msv mkep mbef misk rm.2.1 mman mnex mwor msng mhea mlat rm.2.2.1 rm.2.2.2 mher mflt mvlu mbit mlon mcel mbtw := by
  obtain ⟨⟨A, hw, hs, rfl⟩, hk, rfl, htp, hsh⟩ := h
  obtain ⟨hy, h1, h2, h3, hpp, htt, hhh⟩ := id hw
  obtain ⟨rfl, hsp, rfl, hst, rfl, hsa, rfl⟩ := id hs
  obtain ⟨b, h, hb, hh, rfl, rfl, rfl, rfl⟩ := htp
  by_cases c : fX5_isIn x2 1 4 = true
  · have c2 : fX6_in x2 1 4 = true := c
    obtain ⟨n, hn1, hn2, rfl⟩ := isIn_of (a := 1) (b := 4) (by omega) (by omega) c
    by_cases f : h + n ≤ 120
    · refine ⟨(nI (h + n), toF (fdb x1 n h b n), nI (h + n), fnd), (nI (h + n), fnd, toF (fdb x1 n h b n), nI (h + n)), ?_, ?_, rfl, ⟨A, hw, hs, rfl⟩, hk, rfl, ⟨_, h + n, fdb_lt hb n, f, rfl, rfl, rfl, rfl⟩, hsh⟩
      · unfold fX5_feed
        rw [c, if0t, nI_add, if_pos (show nI (h + n) ≤ (120 : Int32) from nI_le (b := 120) f (by omega))]
        refine up3 n (fun i x3 (by1 : Nat → Int32) hl => i ≤ n ∧ x3 = nI (n - i) - 1 ∧ by1 = toF (fdb x1 n h b i) ∧ hl = nI (h + i)) ?_ ?_ 2000 0 _ _ _ (by omega) (by omega) ⟨Nat.zero_le _, rfl, rfl, rfl⟩
        · rintro K x3 by1 hl ⟨-, rfl, rfl, rfl⟩
          unfold fX5_feed_l41
          rw [Nat.sub_self, if_pos (by decide)]
          rfl
        · rintro K i x3 by1 hl hi ⟨-, rfl, rfl, rfl⟩
          right
          obtain ⟨m, hm⟩ : ∃ m, n - i = m + 1 := ⟨n - i - 1, by omega⟩
          refine ⟨nI m - 1, toF (fdb x1 n h b (i + 1)), nI (h + (i + 1)), ?_, by omega, by rw [show n - (i + 1) = m by omega], rfl, rfl⟩
          unfold fX5_feed_l41
          rw [hm, nI_pred, if_neg (nI_pos (by omega))]
          unfold fX4_put
          rw [if_neg (show ¬ (120 : Int32) ≤ nI (h + i) from nI_ge (b := 120) (by omega) (by omega)), gdN (by omega) (by omega), Option.bind_some, nI_clamp (by omega), byX x1 (by omega), upd_toF, nI_1, Int32.sub_eq_add_neg]
          show K _ (toF (va_up (fdb x1 n h b i) (h + i) (byN x1 m))) _ = K _ (toF (va_up (fdb x1 n h b i) (h + i) (byN x1 (n - 1 - i)))) _
          rw [show n - 1 - i = m by omega]
          rfl
      · unfold fX6_feed
        rw [c2, if0t, nI_add, if_pos (show nI (h + n) ≤ (120 : Int32) from nI_le (b := 120) f (by omega))]
        refine up3 n (fun i x3 (by1 : Nat → Int32) hl => i ≤ n ∧ x3 = nI (n - i) - 1 ∧ by1 = toF (fdb x1 n h b i) ∧ hl = nI (h + i)) ?_ ?_ 2000 0 _ _ _ (by omega) (by omega) ⟨Nat.zero_le _, rfl, rfl, rfl⟩
        · rintro K x3 by1 hl ⟨-, rfl, rfl, rfl⟩
          unfold fX6_feed_l36
          rw [Nat.sub_self, if_pos (by decide)]
          rfl
        · rintro K i x3 by1 hl hi ⟨-, rfl, rfl, rfl⟩
          right
          obtain ⟨m, hm⟩ : ∃ m, n - i = m + 1 := ⟨n - i - 1, by omega⟩
          refine ⟨nI m - 1, toF (fdb x1 n h b (i + 1)), nI (h + (i + 1)), ?_, by omega, by rw [show n - (i + 1) = m by omega], rfl, rfl⟩
          unfold fX6_feed_l36
          rw [hm, nI_pred, if_neg (nI_pos (by omega)), gdN (by omega) (by omega), nI_clamp (by omega), byM, upd_toF, nI_1, Int32.sub_eq_add_neg]
          show K _ (toF (va_up (fdb x1 n h b i) (h + i) (byN x1 m))) _ = K _ (toF (va_up (fdb x1 n h b i) (h + i) (byN x1 (n - 1 - i)))) _
          rw [show n - 1 - i = m by omega]
          rfl
    · refine ⟨((fn fnd 1).1, toF b, nI h, (fn fnd 1).2), ((fn fnd 1).1, (fn fnd 1).2, toF b, nI h), ?_, ?_, rfl, ⟨A, hw, hs, rfl⟩, hk, rfl, ⟨b, h, hb, hh, rfl, rfl, rfl, rfl⟩, hsh⟩
      · unfold fX5_feed
        rw [c, if0t, nI_add, if_neg (show ¬ nI (h + n) ≤ (120 : Int32) from nI_ge (a := 120) (by omega) (by omega)), fo_1, Option.bind_some]
      · unfold fX6_feed
        rw [c2, if0t, nI_add, if_neg (show ¬ nI (h + n) ≤ (120 : Int32) from nI_ge (a := 120) (by omega) (by omega)), no_1, Option.bind_some]
  · have c := nT c
    have c2 : fX6_in x2 1 4 = false := c
    refine ⟨((fn fnd 0).1, toF b, nI h, (fn fnd 0).2), ((fn fnd 0).1, (fn fnd 0).2, toF b, nI h), ?_, ?_, rfl, ⟨A, hw, hs, rfl⟩, hk, rfl, ⟨b, h, hb, hh, rfl, rfl, rfl, rfl⟩, hsh⟩
    · unfold fX5_feed
      rw [c, if0f, fo_0, Option.bind_some]
    · unfold fX6_feed
      rw [c2, if0f, no_0, Option.bind_some]

