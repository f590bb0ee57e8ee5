set_option maxHeartbeats 4000000 in
set_option maxRecDepth 100000 in
theorem law_c16 {p : Program} {l : Launch} {e : Jvm.Env} {s : State} {m : MethodId} {below : List Frame} {meth : Method} {c : Code} {b L : Nat} {xs : Nat → Int32} {D : va_G} {aX aM : Nat → Nat} {cI cJ cS : ClassId} {ut : Nat} {sa sb : Nat → Nat} (C1 : LC p s m meth c b L xs D aX aM cI cJ cS ut sa sb) (hL : L ≤ 3072) {i : Nat} (hi : i + 6 ≤ L)
    (ih : ∀ (H : Heap) (locs : List Loc) (ls : Array Slot), LInv D aX aM cI cJ cS H → va_S (fun q : Nat => s.heap.size ≤ q) s.heap H locs → lv_has ls 4 [(0, .ref b), (1, .ref (aX 0)), (2, .ref (aM 0)), (3, .int (nI i + 6))] → W p l e room_1 s m #[Value.ref b] below meth c H locs 600000 7302250 (lw_Z below #[Value.ref b] s) (F0 m 18 ls [])) {H : Heap} {locs : List Loc} {ls : Array Slot} (hI : LInv D aX aM cI cJ cS H) (hS : va_S (fun q : Nat => s.heap.size ≤ q) s.heap H locs) (hl : lv_has ls 4 [(0, .ref b), (1, .ref (aX 0)), (2, .ref (aM 0)), (3, .int (nI i))]) : W p l e room_1 s m #[Value.ref b] below meth c H locs 600000 7302250 (lw_Z below #[Value.ref b] s) (F0 m 742 ls []) := by
  obtain ⟨⟨hx, hb, hml, hown, hts, hX, hbl⟩, hK, hE, hdX, hdM, hfX, hfM, hdj⟩ := C1
  have hbA : ¬ (fun q : Nat => s.heap.size ≤ q) b := Nat.not_le.mpr hbl
  obtain ⟨par, kin, lea, mos, wrt, tal, siz, tol, hrs, ags, yea, kpar, kkin, klea, kmos, kwrt, ktal, ksiz, ktol, khrs, kags, kyea, isk, tly, gai, bes, low, hig, spn, byt, hld, sta, beh, sor, num, fnd, sbi, she, snu, msv, mkep, mbef, misk, mfnd, mman, mnex, mwor, msng, mhea, mlat, mtap, mtpd, mher, mflt, mvlu, mbit, mlon, mcel, mbtw, hPX, hPM, hRel⟩ := hI
  have hin1 : vp_in (nI i + 1) L := by rw [show (nI i + 1 : Int32) = nI (i + 1) from nI_add i 1]; exact vp_in_nI (by omega) (by omega)
  have hin2 : vp_in (nI i + 2) L := by rw [show (nI i + 2 : Int32) = nI (i + 2) from nI_add i 2]; exact vp_in_nI (by omega) (by omega)
  obtain ⟨rx, rm, ex, em, er, hRel⟩ := eq_fills hRel (xs (nI i + 1).toNatClampNeg) (xs (nI i + 2).toNatClampNeg)
  refine lv_aload_n hx hb dL_law_742 rfl (lv_at hl 1 rfl) ?_
  refine lv_aload_n hx hb dL_law_743 rfl (lv_at hl 0 rfl) ?_
  refine lv_iload_n hx hb dL_law_744 rfl (lv_at hl 3 rfl) ?_
  refine lv_iconst (v := 1) hx hb dL_law_745 (by decide) ?_
  refine lv_iadd hx hb dL_law_746 ?_
  refine va_sld hx hb hX hbl hbA hS hin1 dL_law_747 ?_
  refine lv_aload_n hx hb dL_law_748 rfl (lv_at hl 0 rfl) ?_
  refine lv_iload_n hx hb dL_law_749 rfl (lv_at hl 3 rfl) ?_
  refine lv_iconst (v := 2) hx hb dL_law_750 (by decide) ?_
  refine lv_iadd hx hb dL_law_751 ?_
  refine va_sld hx hb hX hbl hbA hS hin2 dL_law_752 ?_
  refine lwI (q0 := 0) (ci := 5) hx hb hml hown hts (envL_ok ut sa sb) hE hK hfX hPX hPM (fun k q hq j hj e => hdj j k hj (at_fst (a := aM) (N := 16) (ws := wM aM cI cJ cS msv mkep mbef misk mfnd mman mnex mwor msng mhea mlat mtap mtpd mher mflt mvlu mbit mlon mcel mbtw) rfl k q hq).1 (e.symm.trans (at_fst (a := aM) (N := 16) (ws := wM aM cI cJ cS msv mkep mbef misk mfnd mman mnex mwor msng mhea mlat mtap mtpd mher mflt mvlu mbit mlon mcel mbtw) rfl k q hq).2)) hS (kX5_fills l D aX cI cJ cS hdX (envL_ok ut sa sb) par kin lea mos wrt tal siz tol hrs ags yea kpar kkin klea kmos kwrt ktal ksiz ktol khrs kags kyea isk tly gai bes low hig spn byt hld sta beh sor num fnd sbi she snu (xs (nI i + 1).toNatClampNeg) (xs (nI i + 2).toNatClampNeg) rx ex) gT_X5_fills rfl hdX5_fills rfl rfl rfl ⟨rfl, rfl⟩ ⟨Nat.le_of_ble_eq_true rfl, Nat.le_of_ble_eq_true rfl⟩ ⟨Nat.le_refl _, Nat.le_refl _⟩ rfl hl.1 rfl (Nat.le_of_ble_eq_true rfl) dL_law_753 (fun H locs hPX hPM hS => ?_)
  refine lv_aload_n hx hb dL_law_756 rfl (lv_at hl 2 rfl) ?_
  refine lv_aload_n hx hb dL_law_757 rfl (lv_at hl 0 rfl) ?_
  refine lv_iload_n hx hb dL_law_758 rfl (lv_at hl 3 rfl) ?_
  refine lv_iconst (v := 1) hx hb dL_law_759 (by decide) ?_
  refine lv_iadd hx hb dL_law_760 ?_
  refine va_sld hx hb hX hbl hbA hS hin1 dL_law_761 ?_
  refine lv_aload_n hx hb dL_law_762 rfl (lv_at hl 0 rfl) ?_
  refine lv_iload_n hx hb dL_law_763 rfl (lv_at hl 3 rfl) ?_
  refine lv_iconst (v := 2) hx hb dL_law_764 (by decide) ?_
  refine lv_iadd hx hb dL_law_765 ?_
  refine va_sld hx hb hX hbl hbA hS hin2 dL_law_766 ?_
  refine lwI (q0 := 0) (ci := 6) hx hb hml hown hts (envL_ok ut sa sb) hE hK hfM hPM hPX (fun k q hq j hj e => hdj k j (at_fst (a := aX) (N := 36) (ws := wX aX cI cJ cS par kin lea mos wrt tal siz tol hrs ags yea kpar kkin klea kmos kwrt ktal ksiz ktol khrs kags kyea isk tly gai bes rx.2.1 rx.2.2.1 rx.2.2.2.1 byt hld sta beh sor num rx.2.2.2.2 sbi she snu) rfl k q hq).1 hj ((at_fst (a := aX) (N := 36) (ws := wX aX cI cJ cS par kin lea mos wrt tal siz tol hrs ags yea kpar kkin klea kmos kwrt ktal ksiz ktol khrs kags kyea isk tly gai bes rx.2.1 rx.2.2.1 rx.2.2.2.1 byt hld sta beh sor num rx.2.2.2.2 sbi she snu) rfl k q hq).2.symm.trans e)) hS (kX6_fills l D aM cI cJ cS hdM (envL_ok ut sa sb) msv mkep mbef misk mfnd mman mnex mwor msng mhea mlat mtap mtpd mher mflt mvlu mbit mlon mcel mbtw (xs (nI i + 1).toNatClampNeg) (xs (nI i + 2).toNatClampNeg) rm em) gT_X6_fills rfl hdX6_fills rfl rfl rfl ⟨rfl, rfl⟩ ⟨Nat.le_of_ble_eq_true rfl, Nat.le_of_ble_eq_true rfl⟩ ⟨Nat.le_refl _, Nat.le_refl _⟩ rfl hl.1 rfl (Nat.le_of_ble_eq_true rfl) dL_law_767 (fun H locs hPM hPX hS => ?_)
  refine lv_icmp_eq (tgt := 1683) hx hb dL_law_770 (by decide) (fun _ => ?_) (fun c => absurd er c)
  refine lv_iinc (v := nI i + 6) (lv' := [(3, .int (nI i + 6)), (0, .ref b), (1, .ref (aX 0)), (2, .ref (aM 0))]) hx hb dL_law_1683 hl (k := 3) rfl (congrArg (fun z => nI i + z) (by decide)) (by decide) rfl (fun ls hl => ?_)
  refine lv_goto (tgt := 18) hx hb dL_law_1686 (by decide) ?_
  exact ih _ _ _ ⟨_, _, _, _, _, _, _, _, _, _, _, _, _, _, _, _, _, _, _, _, _, _, _, _, _, _, _, _, _, _, _, _, _, _, _, _, _, _, _, _, _, _, _, _, _, _, _, _, _, _, _, _, _, _, _, _, _, _, _, hPX, hPM, hRel⟩ hS (lv_sub hl [1, 2, 3, 0] rfl)
set_option maxHeartbeats 4000000 in
set_option maxRecDepth 100000 in
theorem law_c17 {p : Program} {l : Launch} {e : Jvm.Env} {s : State} {m : MethodId} {below : List Frame} {meth : Method} {c : Code} {b L : Nat} {xs : Nat → Int32} {D : va_G} {aX aM : Nat → Nat} {cI cJ cS : ClassId} {ut : Nat} {sa sb : Nat → Nat} (C1 : LC p s m meth c b L xs D aX aM cI cJ cS ut sa sb) (hL : L ≤ 3072) {i : Nat} (hi : i + 6 ≤ L)
    (ih : ∀ (H : Heap) (locs : List Loc) (ls : Array Slot), LInv D aX aM cI cJ cS H → va_S (fun q : Nat => s.heap.size ≤ q) s.heap H locs → lv_has ls 4 [(0, .ref b), (1, .ref (aX 0)), (2, .ref (aM 0)), (3, .int (nI i + 6))] → W p l e room_1 s m #[Value.ref b] below meth c H locs 600000 7302250 (lw_Z below #[Value.ref b] s) (F0 m 18 ls [])) {H : Heap} {locs : List Loc} {ls : Array Slot} (hI : LInv D aX aM cI cJ cS H) (hS : va_S (fun q : Nat => s.heap.size ≤ q) s.heap H locs) (hl : lv_has ls 4 [(0, .ref b), (1, .ref (aX 0)), (2, .ref (aM 0)), (3, .int (nI i))]) : W p l e room_1 s m #[Value.ref b] below meth c H locs 600000 7302250 (lw_Z below #[Value.ref b] s) (F0 m 775 ls []) := by
  obtain ⟨⟨hx, hb, hml, hown, hts, hX, hbl⟩, hK, hE, hdX, hdM, hfX, hfM, hdj⟩ := C1
  have hbA : ¬ (fun q : Nat => s.heap.size ≤ q) b := Nat.not_le.mpr hbl
  obtain ⟨par, kin, lea, mos, wrt, tal, siz, tol, hrs, ags, yea, kpar, kkin, klea, kmos, kwrt, ktal, ksiz, ktol, khrs, kags, kyea, isk, tly, gai, bes, low, hig, spn, byt, hld, sta, beh, sor, num, fnd, sbi, she, snu, msv, mkep, mbef, misk, mfnd, mman, mnex, mwor, msng, mhea, mlat, mtap, mtpd, mher, mflt, mvlu, mbit, mlon, mcel, mbtw, hPX, hPM, hRel⟩ := hI
  have hin1 : vp_in (nI i + 1) L := by rw [show (nI i + 1 : Int32) = nI (i + 1) from nI_add i 1]; exact vp_in_nI (by omega) (by omega)
  obtain ⟨rx, rm, ex, em, er, hRel⟩ := eq_hearer hRel (xs (nI i + 1).toNatClampNeg)
  refine lv_aload_n hx hb dL_law_775 rfl (lv_at hl 1 rfl) ?_
  refine lv_aload_n hx hb dL_law_776 rfl (lv_at hl 0 rfl) ?_
  refine lv_iload_n hx hb dL_law_777 rfl (lv_at hl 3 rfl) ?_
  refine lv_iconst (v := 1) hx hb dL_law_778 (by decide) ?_
  refine lv_iadd hx hb dL_law_779 ?_
  refine va_sld hx hb hX hbl hbA hS hin1 dL_law_780 ?_
  refine lwI (q0 := 0) (ci := 5) hx hb hml hown hts (envL_ok ut sa sb) hE hK hfX hPX hPM (fun k q hq j hj e => hdj j k hj (at_fst (a := aM) (N := 16) (ws := wM aM cI cJ cS msv mkep mbef misk mfnd mman mnex mwor msng mhea mlat mtap mtpd mher mflt mvlu mbit mlon mcel mbtw) rfl k q hq).1 (e.symm.trans (at_fst (a := aM) (N := 16) (ws := wM aM cI cJ cS msv mkep mbef misk mfnd mman mnex mwor msng mhea mlat mtap mtpd mher mflt mvlu mbit mlon mcel mbtw) rfl k q hq).2)) hS (kX5_hearer l D aX cI cJ cS hdX (envL_ok ut sa sb) par kin lea mos wrt tal siz tol hrs ags yea kpar kkin klea kmos kwrt ktal ksiz ktol khrs kags kyea isk tly gai bes low hig spn byt hld sta beh sor num fnd sbi she snu (xs (nI i + 1).toNatClampNeg) rx ex) gT_X5_hearer rfl hdX5_hearer rfl rfl rfl ⟨rfl, rfl⟩ ⟨Nat.le_of_ble_eq_true rfl, Nat.le_of_ble_eq_true rfl⟩ ⟨Nat.le_refl _, Nat.le_refl _⟩ rfl hl.1 rfl (Nat.le_of_ble_eq_true rfl) dL_law_781 (fun H locs hPX hPM hS => ?_)
  refine lv_aload_n hx hb dL_law_784 rfl (lv_at hl 2 rfl) ?_
  refine lv_aload_n hx hb dL_law_785 rfl (lv_at hl 0 rfl) ?_
  refine lv_iload_n hx hb dL_law_786 rfl (lv_at hl 3 rfl) ?_
  refine lv_iconst (v := 1) hx hb dL_law_787 (by decide) ?_
  refine lv_iadd hx hb dL_law_788 ?_
  refine va_sld hx hb hX hbl hbA hS hin1 dL_law_789 ?_
  refine lwI (q0 := 0) (ci := 6) hx hb hml hown hts (envL_ok ut sa sb) hE hK hfM hPM hPX (fun k q hq j hj e => hdj k j (at_fst (a := aX) (N := 36) (ws := wX aX cI cJ cS par kin lea mos wrt tal siz tol rx.2.1 rx.2.2.1 yea kpar kkin klea kmos kwrt ktal ksiz ktol khrs kags kyea isk tly gai bes low hig spn byt hld sta beh sor num rx.2.2.2 sbi she snu) rfl k q hq).1 hj ((at_fst (a := aX) (N := 36) (ws := wX aX cI cJ cS par kin lea mos wrt tal siz tol rx.2.1 rx.2.2.1 yea kpar kkin klea kmos kwrt ktal ksiz ktol khrs kags kyea isk tly gai bes low hig spn byt hld sta beh sor num rx.2.2.2 sbi she snu) rfl k q hq).2.symm.trans e)) hS (kX6_hearer l D aM cI cJ cS hdM (envL_ok ut sa sb) msv mkep mbef misk mfnd mman mnex mwor msng mhea mlat mtap mtpd mher mflt mvlu mbit mlon mcel mbtw (xs (nI i + 1).toNatClampNeg) rm em) gT_X6_hearer rfl hdX6_hearer rfl rfl rfl ⟨rfl, rfl⟩ ⟨Nat.le_of_ble_eq_true rfl, Nat.le_of_ble_eq_true rfl⟩ ⟨Nat.le_refl _, Nat.le_refl _⟩ rfl hl.1 rfl (Nat.le_of_ble_eq_true rfl) dL_law_790 (fun H locs hPM hPX hS => ?_)
  refine lv_icmp_eq (tgt := 1683) hx hb dL_law_793 (by decide) (fun _ => ?_) (fun c => absurd er c)
  refine lv_iinc (v := nI i + 6) (lv' := [(3, .int (nI i + 6)), (0, .ref b), (1, .ref (aX 0)), (2, .ref (aM 0))]) hx hb dL_law_1683 hl (k := 3) rfl (congrArg (fun z => nI i + z) (by decide)) (by decide) rfl (fun ls hl => ?_)
  refine lv_goto (tgt := 18) hx hb dL_law_1686 (by decide) ?_
  exact ih _ _ _ ⟨_, _, _, _, _, _, _, _, _, _, _, _, _, _, _, _, _, _, _, _, _, _, _, _, _, _, _, _, _, _, _, _, _, _, _, _, _, _, _, _, _, _, _, _, _, _, _, _, _, _, _, _, _, _, _, _, _, _, _, hPX, hPM, hRel⟩ hS (lv_sub hl [1, 2, 3, 0] rfl)
set_option maxHeartbeats 4000000 in
set_option maxRecDepth 100000 in
theorem law_c18 {p : Program} {l : Launch} {e : Jvm.Env} {s : State} {m : MethodId} {below : List Frame} {meth : Method} {c : Code} {b L : Nat} {xs : Nat → Int32} {D : va_G} {aX aM : Nat → Nat} {cI cJ cS : ClassId} {ut : Nat} {sa sb : Nat → Nat} (C1 : LC p s m meth c b L xs D aX aM cI cJ cS ut sa sb) (hL : L ≤ 3072) {i : Nat} (hi : i + 6 ≤ L)
    (ih : ∀ (H : Heap) (locs : List Loc) (ls : Array Slot), LInv D aX aM cI cJ cS H → va_S (fun q : Nat => s.heap.size ≤ q) s.heap H locs → lv_has ls 4 [(0, .ref b), (1, .ref (aX 0)), (2, .ref (aM 0)), (3, .int (nI i + 6))] → W p l e room_1 s m #[Value.ref b] below meth c H locs 600000 7302250 (lw_Z below #[Value.ref b] s) (F0 m 18 ls [])) {H : Heap} {locs : List Loc} {ls : Array Slot} (hI : LInv D aX aM cI cJ cS H) (hS : va_S (fun q : Nat => s.heap.size ≤ q) s.heap H locs) (hl : lv_has ls 4 [(0, .ref b), (1, .ref (aX 0)), (2, .ref (aM 0)), (3, .int (nI i))]) : W p l e room_1 s m #[Value.ref b] below meth c H locs 600000 7302250 (lw_Z below #[Value.ref b] s) (F0 m 798 ls []) := by
  obtain ⟨⟨hx, hb, hml, hown, hts, hX, hbl⟩, hK, hE, hdX, hdM, hfX, hfM, hdj⟩ := C1
  have hbA : ¬ (fun q : Nat => s.heap.size ≤ q) b := Nat.not_le.mpr hbl
  obtain ⟨par, kin, lea, mos, wrt, tal, siz, tol, hrs, ags, yea, kpar, kkin, klea, kmos, kwrt, ktal, ksiz, ktol, khrs, kags, kyea, isk, tly, gai, bes, low, hig, spn, byt, hld, sta, beh, sor, num, fnd, sbi, she, snu, msv, mkep, mbef, misk, mfnd, mman, mnex, mwor, msng, mhea, mlat, mtap, mtpd, mher, mflt, mvlu, mbit, mlon, mcel, mbtw, hPX, hPM, hRel⟩ := hI
  have hin1 : vp_in (nI i + 1) L := by rw [show (nI i + 1 : Int32) = nI (i + 1) from nI_add i 1]; exact vp_in_nI (by omega) (by omega)
  have hin2 : vp_in (nI i + 2) L := by rw [show (nI i + 2 : Int32) = nI (i + 2) from nI_add i 2]; exact vp_in_nI (by omega) (by omega)
  obtain ⟨rx, rm, ex, em, er, hRel⟩ := eq_age hRel (xs (nI i + 1).toNatClampNeg) (xs (nI i + 2).toNatClampNeg)
  refine lv_aload_n hx hb dL_law_798 rfl (lv_at hl 1 rfl) ?_
  refine lv_aload_n hx hb dL_law_799 rfl (lv_at hl 0 rfl) ?_
  refine lv_iload_n hx hb dL_law_800 rfl (lv_at hl 3 rfl) ?_
  refine lv_iconst (v := 1) hx hb dL_law_801 (by decide) ?_
  refine lv_iadd hx hb dL_law_802 ?_
  refine va_sld hx hb hX hbl hbA hS hin1 dL_law_803 ?_
  refine lv_aload_n hx hb dL_law_804 rfl (lv_at hl 0 rfl) ?_
  refine lv_iload_n hx hb dL_law_805 rfl (lv_at hl 3 rfl) ?_
  refine lv_iconst (v := 2) hx hb dL_law_806 (by decide) ?_
  refine lv_iadd hx hb dL_law_807 ?_
  refine va_sld hx hb hX hbl hbA hS hin2 dL_law_808 ?_
  refine lwI (q0 := 0) (ci := 5) hx hb hml hown hts (envL_ok ut sa sb) hE hK hfX hPX hPM (fun k q hq j hj e => hdj j k hj (at_fst (a := aM) (N := 16) (ws := wM aM cI cJ cS msv mkep mbef misk mfnd mman mnex mwor msng mhea mlat mtap mtpd mher mflt mvlu mbit mlon mcel mbtw) rfl k q hq).1 (e.symm.trans (at_fst (a := aM) (N := 16) (ws := wM aM cI cJ cS msv mkep mbef misk mfnd mman mnex mwor msng mhea mlat mtap mtpd mher mflt mvlu mbit mlon mcel mbtw) rfl k q hq).2)) hS (kX5_age l D aX cI cJ cS hdX (envL_ok ut sa sb) par kin lea mos wrt tal siz tol hrs ags yea kpar kkin klea kmos kwrt ktal ksiz ktol khrs kags kyea isk tly gai bes low hig spn byt hld sta beh sor num fnd sbi she snu (xs (nI i + 1).toNatClampNeg) (xs (nI i + 2).toNatClampNeg) rx ex) gT_X5_age rfl hdX5_age rfl rfl rfl ⟨rfl, rfl⟩ ⟨Nat.le_of_ble_eq_true rfl, Nat.le_of_ble_eq_true rfl⟩ ⟨Nat.le_refl _, Nat.le_refl _⟩ rfl hl.1 rfl (Nat.le_of_ble_eq_true rfl) dL_law_809 (fun H locs hPX hPM hS => ?_)
  refine lv_aload_n hx hb dL_law_812 rfl (lv_at hl 2 rfl) ?_
  refine lv_aload_n hx hb dL_law_813 rfl (lv_at hl 0 rfl) ?_
  refine lv_iload_n hx hb dL_law_814 rfl (lv_at hl 3 rfl) ?_
  refine lv_iconst (v := 1) hx hb dL_law_815 (by decide) ?_
  refine lv_iadd hx hb dL_law_816 ?_
  refine va_sld hx hb hX hbl hbA hS hin1 dL_law_817 ?_
  refine lv_aload_n hx hb dL_law_818 rfl (lv_at hl 0 rfl) ?_
  refine lv_iload_n hx hb dL_law_819 rfl (lv_at hl 3 rfl) ?_
  refine lv_iconst (v := 2) hx hb dL_law_820 (by decide) ?_
  refine lv_iadd hx hb dL_law_821 ?_
  refine va_sld hx hb hX hbl hbA hS hin2 dL_law_822 ?_
  refine lwI (q0 := 0) (ci := 6) hx hb hml hown hts (envL_ok ut sa sb) hE hK hfM hPM hPX (fun k q hq j hj e => hdj k j (at_fst (a := aX) (N := 36) (ws := wX aX cI cJ cS par kin lea mos wrt tal siz tol hrs rx.2.1 yea kpar kkin klea kmos kwrt ktal ksiz ktol khrs kags kyea isk tly gai bes low hig spn byt hld sta beh sor num rx.2.2 sbi she snu) rfl k q hq).1 hj ((at_fst (a := aX) (N := 36) (ws := wX aX cI cJ cS par kin lea mos wrt tal siz tol hrs rx.2.1 yea kpar kkin klea kmos kwrt ktal ksiz ktol khrs kags kyea isk tly gai bes low hig spn byt hld sta beh sor num rx.2.2 sbi she snu) rfl k q hq).2.symm.trans e)) hS (kX6_age l D aM cI cJ cS hdM (envL_ok ut sa sb) msv mkep mbef misk mfnd mman mnex mwor msng mhea mlat mtap mtpd mher mflt mvlu mbit mlon mcel mbtw (xs (nI i + 1).toNatClampNeg) (xs (nI i + 2).toNatClampNeg) rm em) gT_X6_age rfl hdX6_age rfl rfl rfl ⟨rfl, rfl⟩ ⟨Nat.le_of_ble_eq_true rfl, Nat.le_of_ble_eq_true rfl⟩ ⟨Nat.le_refl _, Nat.le_refl _⟩ rfl hl.1 rfl (Nat.le_of_ble_eq_true rfl) dL_law_823 (fun H locs hPM hPX hS => ?_)
  refine lv_icmp_eq (tgt := 1683) hx hb dL_law_826 (by decide) (fun _ => ?_) (fun c => absurd er c)
  refine lv_iinc (v := nI i + 6) (lv' := [(3, .int (nI i + 6)), (0, .ref b), (1, .ref (aX 0)), (2, .ref (aM 0))]) hx hb dL_law_1683 hl (k := 3) rfl (congrArg (fun z => nI i + z) (by decide)) (by decide) rfl (fun ls hl => ?_)
  refine lv_goto (tgt := 18) hx hb dL_law_1686 (by decide) ?_
  exact ih _ _ _ ⟨_, _, _, _, _, _, _, _, _, _, _, _, _, _, _, _, _, _, _, _, _, _, _, _, _, _, _, _, _, _, _, _, _, _, _, _, _, _, _, _, _, _, _, _, _, _, _, _, _, _, _, _, _, _, _, _, _, _, _, hPX, hPM, hRel⟩ hS (lv_sub hl [1, 2, 3, 0] rfl)
set_option maxHeartbeats 4000000 in
set_option maxRecDepth 100000 in
theorem law_c19 {p : Program} {l : Launch} {e : Jvm.Env} {s : State} {m : MethodId} {below : List Frame} {meth : Method} {c : Code} {b L : Nat} {xs : Nat → Int32} {D : va_G} {aX aM : Nat → Nat} {cI cJ cS : ClassId} {ut : Nat} {sa sb : Nat → Nat} (C1 : LC p s m meth c b L xs D aX aM cI cJ cS ut sa sb) (hL : L ≤ 3072) {i : Nat} (hi : i + 6 ≤ L)
    (ih : ∀ (H : Heap) (locs : List Loc) (ls : Array Slot), LInv D aX aM cI cJ cS H → va_S (fun q : Nat => s.heap.size ≤ q) s.heap H locs → lv_has ls 4 [(0, .ref b), (1, .ref (aX 0)), (2, .ref (aM 0)), (3, .int (nI i + 6))] → W p l e room_1 s m #[Value.ref b] below meth c H locs 600000 7302250 (lw_Z below #[Value.ref b] s) (F0 m 18 ls [])) {H : Heap} {locs : List Loc} {ls : Array Slot} (hI : LInv D aX aM cI cJ cS H) (hS : va_S (fun q : Nat => s.heap.size ≤ q) s.heap H locs) (hl : lv_has ls 4 [(0, .ref b), (1, .ref (aX 0)), (2, .ref (aM 0)), (3, .int (nI i))]) : W p l e room_1 s m #[Value.ref b] below meth c H locs 600000 7302250 (lw_Z below #[Value.ref b] s) (F0 m 831 ls []) := by
  obtain ⟨⟨hx, hb, hml, hown, hts, hX, hbl⟩, hK, hE, hdX, hdM, hfX, hfM, hdj⟩ := C1
  have hbA : ¬ (fun q : Nat => s.heap.size ≤ q) b := Nat.not_le.mpr hbl
  obtain ⟨par, kin, lea, mos, wrt, tal, siz, tol, hrs, ags, yea, kpar, kkin, klea, kmos, kwrt, ktal, ksiz, ktol, khrs, kags, kyea, isk, tly, gai, bes, low, hig, spn, byt, hld, sta, beh, sor, num, fnd, sbi, she, snu, msv, mkep, mbef, misk, mfnd, mman, mnex, mwor, msng, mhea, mlat, mtap, mtpd, mher, mflt, mvlu, mbit, mlon, mcel, mbtw, hPX, hPM, hRel⟩ := hI
  have hin1 : vp_in (nI i + 1) L := by rw [show (nI i + 1 : Int32) = nI (i + 1) from nI_add i 1]; exact vp_in_nI (by omega) (by omega)
  obtain ⟨rx, rm, ex, em, er, hRel⟩ := eq_ageOf hRel (xs (nI i + 1).toNatClampNeg)
  refine lv_aload_n hx hb dL_law_831 rfl (lv_at hl 1 rfl) ?_
  refine lv_aload_n hx hb dL_law_832 rfl (lv_at hl 0 rfl) ?_
  refine lv_iload_n hx hb dL_law_833 rfl (lv_at hl 3 rfl) ?_
  refine lv_iconst (v := 1) hx hb dL_law_834 (by decide) ?_
  refine lv_iadd hx hb dL_law_835 ?_
  refine va_sld hx hb hX hbl hbA hS hin1 dL_law_836 ?_
  refine lwI (q0 := 0) (ci := 5) hx hb hml hown hts (envL_ok ut sa sb) hE hK hfX hPX hPM (fun k q hq j hj e => hdj j k hj (at_fst (a := aM) (N := 16) (ws := wM aM cI cJ cS msv mkep mbef misk mfnd mman mnex mwor msng mhea mlat mtap mtpd mher mflt mvlu mbit mlon mcel mbtw) rfl k q hq).1 (e.symm.trans (at_fst (a := aM) (N := 16) (ws := wM aM cI cJ cS msv mkep mbef misk mfnd mman mnex mwor msng mhea mlat mtap mtpd mher mflt mvlu mbit mlon mcel mbtw) rfl k q hq).2)) hS (kX5_ageOf l D aX cI cJ cS hdX (envL_ok ut sa sb) par kin lea mos wrt tal siz tol hrs ags yea kpar kkin klea kmos kwrt ktal ksiz ktol khrs kags kyea isk tly gai bes low hig spn byt hld sta beh sor num fnd sbi she snu (xs (nI i + 1).toNatClampNeg) rx ex) gT_X5_ageOf rfl hdX5_ageOf rfl rfl rfl ⟨rfl, rfl⟩ ⟨Nat.le_of_ble_eq_true rfl, Nat.le_of_ble_eq_true rfl⟩ ⟨Nat.le_refl _, Nat.le_refl _⟩ rfl hl.1 rfl (Nat.le_of_ble_eq_true rfl) dL_law_837 (fun H locs hPX hPM hS => ?_)
  refine lv_aload_n hx hb dL_law_840 rfl (lv_at hl 2 rfl) ?_
  refine lv_aload_n hx hb dL_law_841 rfl (lv_at hl 0 rfl) ?_
  refine lv_iload_n hx hb dL_law_842 rfl (lv_at hl 3 rfl) ?_
  refine lv_iconst (v := 1) hx hb dL_law_843 (by decide) ?_
  refine lv_iadd hx hb dL_law_844 ?_
  refine va_sld hx hb hX hbl hbA hS hin1 dL_law_845 ?_
  refine lwI (q0 := 0) (ci := 6) hx hb hml hown hts (envL_ok ut sa sb) hE hK hfM hPM hPX (fun k q hq j hj e => hdj k j (at_fst (a := aX) (N := 36) (ws := wX aX cI cJ cS par kin lea mos wrt tal siz tol hrs ags yea kpar kkin klea kmos kwrt ktal ksiz ktol khrs kags kyea isk tly gai bes low hig spn byt hld sta beh sor num rx.2 sbi she snu) rfl k q hq).1 hj ((at_fst (a := aX) (N := 36) (ws := wX aX cI cJ cS par kin lea mos wrt tal siz tol hrs ags yea kpar kkin klea kmos kwrt ktal ksiz ktol khrs kags kyea isk tly gai bes low hig spn byt hld sta beh sor num rx.2 sbi she snu) rfl k q hq).2.symm.trans e)) hS (kX6_ageOf l D aM cI cJ cS hdM (envL_ok ut sa sb) msv mkep mbef misk mfnd mman mnex mwor msng mhea mlat mtap mtpd mher mflt mvlu mbit mlon mcel mbtw (xs (nI i + 1).toNatClampNeg) rm em) gT_X6_ageOf rfl hdX6_ageOf rfl rfl rfl ⟨rfl, rfl⟩ ⟨Nat.le_of_ble_eq_true rfl, Nat.le_of_ble_eq_true rfl⟩ ⟨Nat.le_refl _, Nat.le_refl _⟩ rfl hl.1 rfl (Nat.le_of_ble_eq_true rfl) dL_law_846 (fun H locs hPM hPX hS => ?_)
  refine lv_icmp_eq (tgt := 1683) hx hb dL_law_849 (by decide) (fun _ => ?_) (fun c => absurd er c)
  refine lv_iinc (v := nI i + 6) (lv' := [(3, .int (nI i + 6)), (0, .ref b), (1, .ref (aX 0)), (2, .ref (aM 0))]) hx hb dL_law_1683 hl (k := 3) rfl (congrArg (fun z => nI i + z) (by decide)) (by decide) rfl (fun ls hl => ?_)
  refine lv_goto (tgt := 18) hx hb dL_law_1686 (by decide) ?_
  exact ih _ _ _ ⟨_, _, _, _, _, _, _, _, _, _, _, _, _, _, _, _, _, _, _, _, _, _, _, _, _, _, _, _, _, _, _, _, _, _, _, _, _, _, _, _, _, _, _, _, _, _, _, _, _, _, _, _, _, _, _, _, _, _, _, hPX, hPM, hRel⟩ hS (lv_sub hl [1, 2, 3, 0] rfl)
set_option maxHeartbeats 4000000 in
set_option maxRecDepth 100000 in
theorem law_c20 {p : Program} {l : Launch} {e : Jvm.Env} {s : State} {m : MethodId} {below : List Frame} {meth : Method} {c : Code} {b L : Nat} {xs : Nat → Int32} {D : va_G} {aX aM : Nat → Nat} {cI cJ cS : ClassId} {ut : Nat} {sa sb : Nat → Nat} (C1 : LC p s m meth c b L xs D aX aM cI cJ cS ut sa sb) (hL : L ≤ 3072) {i : Nat} (hi : i + 6 ≤ L)
    (ih : ∀ (H : Heap) (locs : List Loc) (ls : Array Slot), LInv D aX aM cI cJ cS H → va_S (fun q : Nat => s.heap.size ≤ q) s.heap H locs → lv_has ls 4 [(0, .ref b), (1, .ref (aX 0)), (2, .ref (aM 0)), (3, .int (nI i + 6))] → W p l e room_1 s m #[Value.ref b] below meth c H locs 600000 7302250 (lw_Z below #[Value.ref b] s) (F0 m 18 ls [])) {H : Heap} {locs : List Loc} {ls : Array Slot} (hI : LInv D aX aM cI cJ cS H) (hS : va_S (fun q : Nat => s.heap.size ≤ q) s.heap H locs) (hl : lv_has ls 4 [(0, .ref b), (1, .ref (aX 0)), (2, .ref (aM 0)), (3, .int (nI i))]) : W p l e room_1 s m #[Value.ref b] below meth c H locs 600000 7302250 (lw_Z below #[Value.ref b] s) (F0 m 854 ls []) := by
  obtain ⟨⟨hx, hb, hml, hown, hts, hX, hbl⟩, hK, hE, hdX, hdM, hfX, hfM, hdj⟩ := C1
  have hbA : ¬ (fun q : Nat => s.heap.size ≤ q) b := Nat.not_le.mpr hbl
  obtain ⟨par, kin, lea, mos, wrt, tal, siz, tol, hrs, ags, yea, kpar, kkin, klea, kmos, kwrt, ktal, ksiz, ktol, khrs, kags, kyea, isk, tly, gai, bes, low, hig, spn, byt, hld, sta, beh, sor, num, fnd, sbi, she, snu, msv, mkep, mbef, misk, mfnd, mman, mnex, mwor, msng, mhea, mlat, mtap, mtpd, mher, mflt, mvlu, mbit, mlon, mcel, mbtw, hPX, hPM, hRel⟩ := hI
  have hin1 : vp_in (nI i + 1) L := by rw [show (nI i + 1 : Int32) = nI (i + 1) from nI_add i 1]; exact vp_in_nI (by omega) (by omega)
  obtain ⟨rx, rm, ex, em, er, hRel⟩ := eq_to hRel (xs (nI i + 1).toNatClampNeg)
  refine lv_aload_n hx hb dL_law_854 rfl (lv_at hl 1 rfl) ?_
  refine lv_aload_n hx hb dL_law_855 rfl (lv_at hl 0 rfl) ?_
  refine lv_iload_n hx hb dL_law_856 rfl (lv_at hl 3 rfl) ?_
  refine lv_iconst (v := 1) hx hb dL_law_857 (by decide) ?_
  refine lv_iadd hx hb dL_law_858 ?_
  refine va_sld hx hb hX hbl hbA hS hin1 dL_law_859 ?_
  refine lwI (q0 := 0) (ci := 5) hx hb hml hown hts (envL_ok ut sa sb) hE hK hfX hPX hPM (fun k q hq j hj e => hdj j k hj (at_fst (a := aM) (N := 16) (ws := wM aM cI cJ cS msv mkep mbef misk mfnd mman mnex mwor msng mhea mlat mtap mtpd mher mflt mvlu mbit mlon mcel mbtw) rfl k q hq).1 (e.symm.trans (at_fst (a := aM) (N := 16) (ws := wM aM cI cJ cS msv mkep mbef misk mfnd mman mnex mwor msng mhea mlat mtap mtpd mher mflt mvlu mbit mlon mcel mbtw) rfl k q hq).2)) hS (kX5_to l D aX cI cJ cS hdX (envL_ok ut sa sb) par kin lea mos wrt tal siz tol hrs ags yea kpar kkin klea kmos kwrt ktal ksiz ktol khrs kags kyea isk tly gai bes low hig spn byt hld sta beh sor num fnd sbi she snu (xs (nI i + 1).toNatClampNeg) rx ex) gT_X5_to rfl hdX5_to rfl rfl rfl ⟨rfl, rfl⟩ ⟨Nat.le_of_ble_eq_true rfl, Nat.le_of_ble_eq_true rfl⟩ ⟨Nat.le_refl _, Nat.le_refl _⟩ rfl hl.1 rfl (Nat.le_of_ble_eq_true rfl) dL_law_860 (fun H locs hPX hPM hS => ?_)
  refine lv_aload_n hx hb dL_law_863 rfl (lv_at hl 2 rfl) ?_
  refine lv_aload_n hx hb dL_law_864 rfl (lv_at hl 0 rfl) ?_
  refine lv_iload_n hx hb dL_law_865 rfl (lv_at hl 3 rfl) ?_
  refine lv_iconst (v := 1) hx hb dL_law_866 (by decide) ?_
  refine lv_iadd hx hb dL_law_867 ?_
  refine va_sld hx hb hX hbl hbA hS hin1 dL_law_868 ?_
  refine lwI (q0 := 0) (ci := 6) hx hb hml hown hts (envL_ok ut sa sb) hE hK hfM hPM hPX (fun k q hq j hj e => hdj k j (at_fst (a := aX) (N := 36) (ws := wX aX cI cJ cS par kin lea mos wrt tal siz tol hrs ags yea kpar kkin klea kmos kwrt ktal ksiz ktol khrs kags kyea isk tly gai bes rx.2.1 rx.2.2.1 rx.2.2.2.1 byt hld sta beh sor num rx.2.2.2.2 sbi she snu) rfl k q hq).1 hj ((at_fst (a := aX) (N := 36) (ws := wX aX cI cJ cS par kin lea mos wrt tal siz tol hrs ags yea kpar kkin klea kmos kwrt ktal ksiz ktol khrs kags kyea isk tly gai bes rx.2.1 rx.2.2.1 rx.2.2.2.1 byt hld sta beh sor num rx.2.2.2.2 sbi she snu) rfl k q hq).2.symm.trans e)) hS (kX6_to l D aM cI cJ cS hdM (envL_ok ut sa sb) msv mkep mbef misk mfnd mman mnex mwor msng mhea mlat mtap mtpd mher mflt mvlu mbit mlon mcel mbtw (xs (nI i + 1).toNatClampNeg) rm em) gT_X6_to rfl hdX6_to rfl rfl rfl ⟨rfl, rfl⟩ ⟨Nat.le_of_ble_eq_true rfl, Nat.le_of_ble_eq_true rfl⟩ ⟨Nat.le_refl _, Nat.le_refl _⟩ rfl hl.1 rfl (Nat.le_of_ble_eq_true rfl) dL_law_869 (fun H locs hPM hPX hS => ?_)
  refine lv_icmp_eq (tgt := 1683) hx hb dL_law_872 (by decide) (fun _ => ?_) (fun c => absurd er c)
  refine lv_iinc (v := nI i + 6) (lv' := [(3, .int (nI i + 6)), (0, .ref b), (1, .ref (aX 0)), (2, .ref (aM 0))]) hx hb dL_law_1683 hl (k := 3) rfl (congrArg (fun z => nI i + z) (by decide)) (by decide) rfl (fun ls hl => ?_)
  refine lv_goto (tgt := 18) hx hb dL_law_1686 (by decide) ?_
  exact ih _ _ _ ⟨_, _, _, _, _, _, _, _, _, _, _, _, _, _, _, _, _, _, _, _, _, _, _, _, _, _, _, _, _, _, _, _, _, _, _, _, _, _, _, _, _, _, _, _, _, _, _, _, _, _, _, _, _, _, _, _, _, _, _, hPX, hPM, hRel⟩ hS (lv_sub hl [1, 2, 3, 0] rfl)
set_option maxHeartbeats 4000000 in
set_option maxRecDepth 100000 in
theorem law_c21 {p : Program} {l : Launch} {e : Jvm.Env} {s : State} {m : MethodId} {below : List Frame} {meth : Method} {c : Code} {b L : Nat} {xs : Nat → Int32} {D : va_G} {aX aM : Nat → Nat} {cI cJ cS : ClassId} {ut : Nat} {sa sb : Nat → Nat} (C1 : LC p s m meth c b L xs D aX aM cI cJ cS ut sa sb) (hL : L ≤ 3072) {i : Nat} (hi : i + 6 ≤ L)
    (ih : ∀ (H : Heap) (locs : List Loc) (ls : Array Slot), LInv D aX aM cI cJ cS H → va_S (fun q : Nat => s.heap.size ≤ q) s.heap H locs → lv_has ls 4 [(0, .ref b), (1, .ref (aX 0)), (2, .ref (aM 0)), (3, .int (nI i + 6))] → W p l e room_1 s m #[Value.ref b] below meth c H locs 600000 7302250 (lw_Z below #[Value.ref b] s) (F0 m 18 ls [])) {H : Heap} {locs : List Loc} {ls : Array Slot} (hI : LInv D aX aM cI cJ cS H) (hS : va_S (fun q : Nat => s.heap.size ≤ q) s.heap H locs) (hl : lv_has ls 4 [(0, .ref b), (1, .ref (aX 0)), (2, .ref (aM 0)), (3, .int (nI i))]) : W p l e room_1 s m #[Value.ref b] below meth c H locs 600000 7302250 (lw_Z below #[Value.ref b] s) (F0 m 877 ls []) := by
  obtain ⟨⟨hx, hb, hml, hown, hts, hX, hbl⟩, hK, hE, hdX, hdM, hfX, hfM, hdj⟩ := C1
  have hbA : ¬ (fun q : Nat => s.heap.size ≤ q) b := Nat.not_le.mpr hbl
  obtain ⟨par, kin, lea, mos, wrt, tal, siz, tol, hrs, ags, yea, kpar, kkin, klea, kmos, kwrt, ktal, ksiz, ktol, khrs, kags, kyea, isk, tly, gai, bes, low, hig, spn, byt, hld, sta, beh, sor, num, fnd, sbi, she, snu, msv, mkep, mbef, misk, mfnd, mman, mnex, mwor, msng, mhea, mlat, mtap, mtpd, mher, mflt, mvlu, mbit, mlon, mcel, mbtw, hPX, hPM, hRel⟩ := hI
  have hin1 : vp_in (nI i + 1) L := by rw [show (nI i + 1 : Int32) = nI (i + 1) from nI_add i 1]; exact vp_in_nI (by omega) (by omega)
  obtain ⟨rx, rm, ex, em, er, hRel⟩ := eq_tales hRel (xs (nI i + 1).toNatClampNeg)
  refine lv_aload_n hx hb dL_law_877 rfl (lv_at hl 1 rfl) ?_
  refine lv_aload_n hx hb dL_law_878 rfl (lv_at hl 0 rfl) ?_
  refine lv_iload_n hx hb dL_law_879 rfl (lv_at hl 3 rfl) ?_
  refine lv_iconst (v := 1) hx hb dL_law_880 (by decide) ?_
  refine lv_iadd hx hb dL_law_881 ?_
  refine va_sld hx hb hX hbl hbA hS hin1 dL_law_882 ?_
  refine lwI (q0 := 0) (ci := 5) hx hb hml hown hts (envL_ok ut sa sb) hE hK hfX hPX hPM (fun k q hq j hj e => hdj j k hj (at_fst (a := aM) (N := 16) (ws := wM aM cI cJ cS msv mkep mbef misk mfnd mman mnex mwor msng mhea mlat mtap mtpd mher mflt mvlu mbit mlon mcel mbtw) rfl k q hq).1 (e.symm.trans (at_fst (a := aM) (N := 16) (ws := wM aM cI cJ cS msv mkep mbef misk mfnd mman mnex mwor msng mhea mlat mtap mtpd mher mflt mvlu mbit mlon mcel mbtw) rfl k q hq).2)) hS (kX5_tales l D aX cI cJ cS hdX (envL_ok ut sa sb) par kin lea mos wrt tal siz tol hrs ags yea kpar kkin klea kmos kwrt ktal ksiz ktol khrs kags kyea isk tly gai bes low hig spn byt hld sta beh sor num fnd sbi she snu (xs (nI i + 1).toNatClampNeg) rx ex) gT_X5_tales rfl hdX5_tales rfl rfl rfl ⟨rfl, rfl⟩ ⟨Nat.le_of_ble_eq_true rfl, Nat.le_of_ble_eq_true rfl⟩ ⟨Nat.le_refl _, Nat.le_refl _⟩ rfl hl.1 rfl (Nat.le_of_ble_eq_true rfl) dL_law_883 (fun H locs hPX hPM hS => ?_)
  refine lv_aload_n hx hb dL_law_886 rfl (lv_at hl 2 rfl) ?_
  refine lv_aload_n hx hb dL_law_887 rfl (lv_at hl 0 rfl) ?_
  refine lv_iload_n hx hb dL_law_888 rfl (lv_at hl 3 rfl) ?_
  refine lv_iconst (v := 1) hx hb dL_law_889 (by decide) ?_
  refine lv_iadd hx hb dL_law_890 ?_
  refine va_sld hx hb hX hbl hbA hS hin1 dL_law_891 ?_
  refine lwI (q0 := 0) (ci := 6) hx hb hml hown hts (envL_ok ut sa sb) hE hK hfM hPM hPX (fun k q hq j hj e => hdj k j (at_fst (a := aX) (N := 36) (ws := wX aX cI cJ cS par kin lea mos wrt tal siz tol hrs ags yea kpar kkin klea kmos kwrt ktal ksiz ktol khrs kags kyea isk tly gai bes rx.2.1 rx.2.2.1 rx.2.2.2.1 byt hld sta beh sor num rx.2.2.2.2 sbi she snu) rfl k q hq).1 hj ((at_fst (a := aX) (N := 36) (ws := wX aX cI cJ cS par kin lea mos wrt tal siz tol hrs ags yea kpar kkin klea kmos kwrt ktal ksiz ktol khrs kags kyea isk tly gai bes rx.2.1 rx.2.2.1 rx.2.2.2.1 byt hld sta beh sor num rx.2.2.2.2 sbi she snu) rfl k q hq).2.symm.trans e)) hS (kX6_tales l D aM cI cJ cS hdM (envL_ok ut sa sb) msv mkep mbef misk mfnd mman mnex mwor msng mhea mlat mtap mtpd mher mflt mvlu mbit mlon mcel mbtw (xs (nI i + 1).toNatClampNeg) rm em) gT_X6_tales rfl hdX6_tales rfl rfl rfl ⟨rfl, rfl⟩ ⟨Nat.le_of_ble_eq_true rfl, Nat.le_of_ble_eq_true rfl⟩ ⟨Nat.le_refl _, Nat.le_refl _⟩ rfl hl.1 rfl (Nat.le_of_ble_eq_true rfl) dL_law_892 (fun H locs hPM hPX hS => ?_)
  refine lv_icmp_eq (tgt := 1683) hx hb dL_law_895 (by decide) (fun _ => ?_) (fun c => absurd er c)
  refine lv_iinc (v := nI i + 6) (lv' := [(3, .int (nI i + 6)), (0, .ref b), (1, .ref (aX 0)), (2, .ref (aM 0))]) hx hb dL_law_1683 hl (k := 3) rfl (congrArg (fun z => nI i + z) (by decide)) (by decide) rfl (fun ls hl => ?_)
  refine lv_goto (tgt := 18) hx hb dL_law_1686 (by decide) ?_
  exact ih _ _ _ ⟨_, _, _, _, _, _, _, _, _, _, _, _, _, _, _, _, _, _, _, _, _, _, _, _, _, _, _, _, _, _, _, _, _, _, _, _, _, _, _, _, _, _, _, _, _, _, _, _, _, _, _, _, _, _, _, _, _, _, _, hPX, hPM, hRel⟩ hS (lv_sub hl [1, 2, 3, 0] rfl)
set_option maxHeartbeats 4000000 in
set_option maxRecDepth 100000 in
theorem law_c22 {p : Program} {l : Launch} {e : Jvm.Env} {s : State} {m : MethodId} {below : List Frame} {meth : Method} {c : Code} {b L : Nat} {xs : Nat → Int32} {D : va_G} {aX aM : Nat → Nat} {cI cJ cS : ClassId} {ut : Nat} {sa sb : Nat → Nat} (C1 : LC p s m meth c b L xs D aX aM cI cJ cS ut sa sb) (hL : L ≤ 3072) {i : Nat} (hi : i + 6 ≤ L)
    (ih : ∀ (H : Heap) (locs : List Loc) (ls : Array Slot), LInv D aX aM cI cJ cS H → va_S (fun q : Nat => s.heap.size ≤ q) s.heap H locs → lv_has ls 4 [(0, .ref b), (1, .ref (aX 0)), (2, .ref (aM 0)), (3, .int (nI i + 6))] → W p l e room_1 s m #[Value.ref b] below meth c H locs 600000 7302250 (lw_Z below #[Value.ref b] s) (F0 m 18 ls [])) {H : Heap} {locs : List Loc} {ls : Array Slot} (hI : LInv D aX aM cI cJ cS H) (hS : va_S (fun q : Nat => s.heap.size ≤ q) s.heap H locs) (hl : lv_has ls 4 [(0, .ref b), (1, .ref (aX 0)), (2, .ref (aM 0)), (3, .int (nI i))]) : W p l e room_1 s m #[Value.ref b] below meth c H locs 600000 7302250 (lw_Z below #[Value.ref b] s) (F0 m 900 ls []) := by
  obtain ⟨⟨hx, hb, hml, hown, hts, hX, hbl⟩, hK, hE, hdX, hdM, hfX, hfM, hdj⟩ := C1
  have hbA : ¬ (fun q : Nat => s.heap.size ≤ q) b := Nat.not_le.mpr hbl
  obtain ⟨par, kin, lea, mos, wrt, tal, siz, tol, hrs, ags, yea, kpar, kkin, klea, kmos, kwrt, ktal, ksiz, ktol, khrs, kags, kyea, isk, tly, gai, bes, low, hig, spn, byt, hld, sta, beh, sor, num, fnd, sbi, she, snu, msv, mkep, mbef, misk, mfnd, mman, mnex, mwor, msng, mhea, mlat, mtap, mtpd, mher, mflt, mvlu, mbit, mlon, mcel, mbtw, hPX, hPM, hRel⟩ := hI
  have hin1 : vp_in (nI i + 1) L := by rw [show (nI i + 1 : Int32) = nI (i + 1) from nI_add i 1]; exact vp_in_nI (by omega) (by omega)
  obtain ⟨rx, rm, ex, em, er, hRel⟩ := eq_years hRel (xs (nI i + 1).toNatClampNeg)
  refine lv_aload_n hx hb dL_law_900 rfl (lv_at hl 1 rfl) ?_
  refine lv_aload_n hx hb dL_law_901 rfl (lv_at hl 0 rfl) ?_
  refine lv_iload_n hx hb dL_law_902 rfl (lv_at hl 3 rfl) ?_
  refine lv_iconst (v := 1) hx hb dL_law_903 (by decide) ?_
  refine lv_iadd hx hb dL_law_904 ?_
  refine va_sld hx hb hX hbl hbA hS hin1 dL_law_905 ?_
  refine lwI (q0 := 0) (ci := 5) hx hb hml hown hts (envL_ok ut sa sb) hE hK hfX hPX hPM (fun k q hq j hj e => hdj j k hj (at_fst (a := aM) (N := 16) (ws := wM aM cI cJ cS msv mkep mbef misk mfnd mman mnex mwor msng mhea mlat mtap mtpd mher mflt mvlu mbit mlon mcel mbtw) rfl k q hq).1 (e.symm.trans (at_fst (a := aM) (N := 16) (ws := wM aM cI cJ cS msv mkep mbef misk mfnd mman mnex mwor msng mhea mlat mtap mtpd mher mflt mvlu mbit mlon mcel mbtw) rfl k q hq).2)) hS (kX5_years l D aX cI cJ cS hdX (envL_ok ut sa sb) par kin lea mos wrt tal siz tol hrs ags yea kpar kkin klea kmos kwrt ktal ksiz ktol khrs kags kyea isk tly gai bes low hig spn byt hld sta beh sor num fnd sbi she snu (xs (nI i + 1).toNatClampNeg) rx ex) gT_X5_years rfl hdX5_years rfl rfl rfl ⟨rfl, rfl⟩ ⟨Nat.le_of_ble_eq_true rfl, Nat.le_of_ble_eq_true rfl⟩ ⟨Nat.le_refl _, Nat.le_refl _⟩ rfl hl.1 rfl (Nat.le_of_ble_eq_true rfl) dL_law_906 (fun H locs hPX hPM hS => ?_)
  refine lv_aload_n hx hb dL_law_909 rfl (lv_at hl 2 rfl) ?_
  refine lv_aload_n hx hb dL_law_910 rfl (lv_at hl 0 rfl) ?_
  refine lv_iload_n hx hb dL_law_911 rfl (lv_at hl 3 rfl) ?_
  refine lv_iconst (v := 1) hx hb dL_law_912 (by decide) ?_
  refine lv_iadd hx hb dL_law_913 ?_
  refine va_sld hx hb hX hbl hbA hS hin1 dL_law_914 ?_
  refine lwI (q0 := 0) (ci := 6) hx hb hml hown hts (envL_ok ut sa sb) hE hK hfM hPM hPX (fun k q hq j hj e => hdj k j (at_fst (a := aX) (N := 36) (ws := wX aX cI cJ cS par kin lea mos wrt tal siz tol hrs rx.2.1 rx.2.2.1 kpar kkin klea kmos kwrt ktal ksiz ktol khrs kags kyea isk tly gai bes rx.2.2.2.1 rx.2.2.2.2.1 rx.2.2.2.2.2.1 byt hld sta beh sor num rx.2.2.2.2.2.2 sbi she snu) rfl k q hq).1 hj ((at_fst (a := aX) (N := 36) (ws := wX aX cI cJ cS par kin lea mos wrt tal siz tol hrs rx.2.1 rx.2.2.1 kpar kkin klea kmos kwrt ktal ksiz ktol khrs kags kyea isk tly gai bes rx.2.2.2.1 rx.2.2.2.2.1 rx.2.2.2.2.2.1 byt hld sta beh sor num rx.2.2.2.2.2.2 sbi she snu) rfl k q hq).2.symm.trans e)) hS (kX6_years l D aM cI cJ cS hdM (envL_ok ut sa sb) msv mkep mbef misk mfnd mman mnex mwor msng mhea mlat mtap mtpd mher mflt mvlu mbit mlon mcel mbtw (xs (nI i + 1).toNatClampNeg) rm em) gT_X6_years rfl hdX6_years rfl rfl rfl ⟨rfl, rfl⟩ ⟨Nat.le_of_ble_eq_true rfl, Nat.le_of_ble_eq_true rfl⟩ ⟨Nat.le_refl _, Nat.le_refl _⟩ rfl hl.1 rfl (Nat.le_of_ble_eq_true rfl) dL_law_915 (fun H locs hPM hPX hS => ?_)
  refine lv_icmp_eq (tgt := 1683) hx hb dL_law_918 (by decide) (fun _ => ?_) (fun c => absurd er c)
  refine lv_iinc (v := nI i + 6) (lv' := [(3, .int (nI i + 6)), (0, .ref b), (1, .ref (aX 0)), (2, .ref (aM 0))]) hx hb dL_law_1683 hl (k := 3) rfl (congrArg (fun z => nI i + z) (by decide)) (by decide) rfl (fun ls hl => ?_)
  refine lv_goto (tgt := 18) hx hb dL_law_1686 (by decide) ?_
  exact ih _ _ _ ⟨_, _, _, _, _, _, _, _, _, _, _, _, _, _, _, _, _, _, _, _, _, _, _, _, _, _, _, _, _, _, _, _, _, _, _, _, _, _, _, _, _, _, _, _, _, _, _, _, _, _, _, _, _, _, _, _, _, _, _, hPX, hPM, hRel⟩ hS (lv_sub hl [1, 2, 3, 0] rfl)
set_option maxHeartbeats 4000000 in
set_option maxRecDepth 100000 in
theorem law_c23 {p : Program} {l : Launch} {e : Jvm.Env} {s : State} {m : MethodId} {below : List Frame} {meth : Method} {c : Code} {b L : Nat} {xs : Nat → Int32} {D : va_G} {aX aM : Nat → Nat} {cI cJ cS : ClassId} {ut : Nat} {sa sb : Nat → Nat} (C1 : LC p s m meth c b L xs D aX aM cI cJ cS ut sa sb) (hL : L ≤ 3072) {i : Nat} (hi : i + 6 ≤ L)
    (ih : ∀ (H : Heap) (locs : List Loc) (ls : Array Slot), LInv D aX aM cI cJ cS H → va_S (fun q : Nat => s.heap.size ≤ q) s.heap H locs → lv_has ls 4 [(0, .ref b), (1, .ref (aX 0)), (2, .ref (aM 0)), (3, .int (nI i + 6))] → W p l e room_1 s m #[Value.ref b] below meth c H locs 600000 7302250 (lw_Z below #[Value.ref b] s) (F0 m 18 ls [])) {H : Heap} {locs : List Loc} {ls : Array Slot} (hI : LInv D aX aM cI cJ cS H) (hS : va_S (fun q : Nat => s.heap.size ≤ q) s.heap H locs) (hl : lv_has ls 4 [(0, .ref b), (1, .ref (aX 0)), (2, .ref (aM 0)), (3, .int (nI i))]) : W p l e room_1 s m #[Value.ref b] below meth c H locs 600000 7302250 (lw_Z below #[Value.ref b] s) (F0 m 923 ls []) := by
  obtain ⟨⟨hx, hb, hml, hown, hts, hX, hbl⟩, hK, hE, hdX, hdM, hfX, hfM, hdj⟩ := C1
  have hbA : ¬ (fun q : Nat => s.heap.size ≤ q) b := Nat.not_le.mpr hbl
  obtain ⟨par, kin, lea, mos, wrt, tal, siz, tol, hrs, ags, yea, kpar, kkin, klea, kmos, kwrt, ktal, ksiz, ktol, khrs, kags, kyea, isk, tly, gai, bes, low, hig, spn, byt, hld, sta, beh, sor, num, fnd, sbi, she, snu, msv, mkep, mbef, misk, mfnd, mman, mnex, mwor, msng, mhea, mlat, mtap, mtpd, mher, mflt, mvlu, mbit, mlon, mcel, mbtw, hPX, hPM, hRel⟩ := hI
  have hin1 : vp_in (nI i + 1) L := by rw [show (nI i + 1 : Int32) = nI (i + 1) from nI_add i 1]; exact vp_in_nI (by omega) (by omega)
  have hin2 : vp_in (nI i + 2) L := by rw [show (nI i + 2 : Int32) = nI (i + 2) from nI_add i 2]; exact vp_in_nI (by omega) (by omega)
  obtain ⟨rx, rm, ex, em, er, hRel⟩ := eq_when hRel (xs (nI i + 1).toNatClampNeg) (xs (nI i + 2).toNatClampNeg)
  refine lv_aload_n hx hb dL_law_923 rfl (lv_at hl 1 rfl) ?_
  refine lv_aload_n hx hb dL_law_924 rfl (lv_at hl 0 rfl) ?_
  refine lv_iload_n hx hb dL_law_925 rfl (lv_at hl 3 rfl) ?_
  refine lv_iconst (v := 1) hx hb dL_law_926 (by decide) ?_
  refine lv_iadd hx hb dL_law_927 ?_
  refine va_sld hx hb hX hbl hbA hS hin1 dL_law_928 ?_
  refine lv_aload_n hx hb dL_law_929 rfl (lv_at hl 0 rfl) ?_
  refine lv_iload_n hx hb dL_law_930 rfl (lv_at hl 3 rfl) ?_
  refine lv_iconst (v := 2) hx hb dL_law_931 (by decide) ?_
  refine lv_iadd hx hb dL_law_932 ?_
  refine va_sld hx hb hX hbl hbA hS hin2 dL_law_933 ?_
  refine lwI (q0 := 0) (ci := 5) hx hb hml hown hts (envL_ok ut sa sb) hE hK hfX hPX hPM (fun k q hq j hj e => hdj j k hj (at_fst (a := aM) (N := 16) (ws := wM aM cI cJ cS msv mkep mbef misk mfnd mman mnex mwor msng mhea mlat mtap mtpd mher mflt mvlu mbit mlon mcel mbtw) rfl k q hq).1 (e.symm.trans (at_fst (a := aM) (N := 16) (ws := wM aM cI cJ cS msv mkep mbef misk mfnd mman mnex mwor msng mhea mlat mtap mtpd mher mflt mvlu mbit mlon mcel mbtw) rfl k q hq).2)) hS (kX5_when l D aX cI cJ cS hdX (envL_ok ut sa sb) par kin lea mos wrt tal siz tol hrs ags yea kpar kkin klea kmos kwrt ktal ksiz ktol khrs kags kyea isk tly gai bes low hig spn byt hld sta beh sor num fnd sbi she snu (xs (nI i + 1).toNatClampNeg) (xs (nI i + 2).toNatClampNeg) rx ex) gT_X5_when rfl hdX5_when rfl rfl rfl ⟨rfl, rfl⟩ ⟨Nat.le_of_ble_eq_true rfl, Nat.le_of_ble_eq_true rfl⟩ ⟨Nat.le_refl _, Nat.le_refl _⟩ rfl hl.1 rfl (Nat.le_of_ble_eq_true rfl) dL_law_934 (fun H locs hPX hPM hS => ?_)
  refine lv_aload_n hx hb dL_law_937 rfl (lv_at hl 2 rfl) ?_
  refine lv_aload_n hx hb dL_law_938 rfl (lv_at hl 0 rfl) ?_
  refine lv_iload_n hx hb dL_law_939 rfl (lv_at hl 3 rfl) ?_
  refine lv_iconst (v := 1) hx hb dL_law_940 (by decide) ?_
  refine lv_iadd hx hb dL_law_941 ?_
  refine va_sld hx hb hX hbl hbA hS hin1 dL_law_942 ?_
  refine lv_aload_n hx hb dL_law_943 rfl (lv_at hl 0 rfl) ?_
  refine lv_iload_n hx hb dL_law_944 rfl (lv_at hl 3 rfl) ?_
  refine lv_iconst (v := 2) hx hb dL_law_945 (by decide) ?_
  refine lv_iadd hx hb dL_law_946 ?_
  refine va_sld hx hb hX hbl hbA hS hin2 dL_law_947 ?_
  refine lwI (q0 := 0) (ci := 6) hx hb hml hown hts (envL_ok ut sa sb) hE hK hfM hPM hPX (fun k q hq j hj e => hdj k j (at_fst (a := aX) (N := 36) (ws := wX aX cI cJ cS par kin lea mos wrt tal siz tol hrs ags yea kpar kkin klea kmos kwrt ktal ksiz ktol khrs kags kyea isk tly gai bes rx.2.1 rx.2.2.1 rx.2.2.2.1 byt hld sta beh sor num rx.2.2.2.2 sbi she snu) rfl k q hq).1 hj ((at_fst (a := aX) (N := 36) (ws := wX aX cI cJ cS par kin lea mos wrt tal siz tol hrs ags yea kpar kkin klea kmos kwrt ktal ksiz ktol khrs kags kyea isk tly gai bes rx.2.1 rx.2.2.1 rx.2.2.2.1 byt hld sta beh sor num rx.2.2.2.2 sbi she snu) rfl k q hq).2.symm.trans e)) hS (kX6_when l D aM cI cJ cS hdM (envL_ok ut sa sb) msv mkep mbef misk mfnd mman mnex mwor msng mhea mlat mtap mtpd mher mflt mvlu mbit mlon mcel mbtw (xs (nI i + 1).toNatClampNeg) (xs (nI i + 2).toNatClampNeg) rm em) gT_X6_when rfl hdX6_when rfl rfl rfl ⟨rfl, rfl⟩ ⟨Nat.le_of_ble_eq_true rfl, Nat.le_of_ble_eq_true rfl⟩ ⟨Nat.le_refl _, Nat.le_refl _⟩ rfl hl.1 rfl (Nat.le_of_ble_eq_true rfl) dL_law_948 (fun H locs hPM hPX hS => ?_)
  refine lv_icmp_eq (tgt := 1683) hx hb dL_law_951 (by decide) (fun _ => ?_) (fun c => absurd er c)
  refine lv_iinc (v := nI i + 6) (lv' := [(3, .int (nI i + 6)), (0, .ref b), (1, .ref (aX 0)), (2, .ref (aM 0))]) hx hb dL_law_1683 hl (k := 3) rfl (congrArg (fun z => nI i + z) (by decide)) (by decide) rfl (fun ls hl => ?_)
  refine lv_goto (tgt := 18) hx hb dL_law_1686 (by decide) ?_
  exact ih _ _ _ ⟨_, _, _, _, _, _, _, _, _, _, _, _, _, _, _, _, _, _, _, _, _, _, _, _, _, _, _, _, _, _, _, _, _, _, _, _, _, _, _, _, _, _, _, _, _, _, _, _, _, _, _, _, _, _, _, _, _, _, _, hPX, hPM, hRel⟩ hS (lv_sub hl [1, 2, 3, 0] rfl)
set_option maxHeartbeats 4000000 in
set_option maxRecDepth 100000 in
theorem law_c24 {p : Program} {l : Launch} {e : Jvm.Env} {s : State} {m : MethodId} {below : List Frame} {meth : Method} {c : Code} {b L : Nat} {xs : Nat → Int32} {D : va_G} {aX aM : Nat → Nat} {cI cJ cS : ClassId} {ut : Nat} {sa sb : Nat → Nat} (C1 : LC p s m meth c b L xs D aX aM cI cJ cS ut sa sb) (hL : L ≤ 3072) {i : Nat} (hi : i + 6 ≤ L)
    (ih : ∀ (H : Heap) (locs : List Loc) (ls : Array Slot), LInv D aX aM cI cJ cS H → va_S (fun q : Nat => s.heap.size ≤ q) s.heap H locs → lv_has ls 4 [(0, .ref b), (1, .ref (aX 0)), (2, .ref (aM 0)), (3, .int (nI i + 6))] → W p l e room_1 s m #[Value.ref b] below meth c H locs 600000 7302250 (lw_Z below #[Value.ref b] s) (F0 m 18 ls [])) {H : Heap} {locs : List Loc} {ls : Array Slot} (hI : LInv D aX aM cI cJ cS H) (hS : va_S (fun q : Nat => s.heap.size ≤ q) s.heap H locs) (hl : lv_has ls 4 [(0, .ref b), (1, .ref (aX 0)), (2, .ref (aM 0)), (3, .int (nI i))]) : W p l e room_1 s m #[Value.ref b] below meth c H locs 600000 7302250 (lw_Z below #[Value.ref b] s) (F0 m 956 ls []) := by
  obtain ⟨⟨hx, hb, hml, hown, hts, hX, hbl⟩, hK, hE, hdX, hdM, hfX, hfM, hdj⟩ := C1
  have hbA : ¬ (fun q : Nat => s.heap.size ≤ q) b := Nat.not_le.mpr hbl
  obtain ⟨par, kin, lea, mos, wrt, tal, siz, tol, hrs, ags, yea, kpar, kkin, klea, kmos, kwrt, ktal, ksiz, ktol, khrs, kags, kyea, isk, tly, gai, bes, low, hig, spn, byt, hld, sta, beh, sor, num, fnd, sbi, she, snu, msv, mkep, mbef, misk, mfnd, mman, mnex, mwor, msng, mhea, mlat, mtap, mtpd, mher, mflt, mvlu, mbit, mlon, mcel, mbtw, hPX, hPM, hRel⟩ := hI
  have hin1 : vp_in (nI i + 1) L := by rw [show (nI i + 1 : Int32) = nI (i + 1) from nI_add i 1]; exact vp_in_nI (by omega) (by omega)
  have hin2 : vp_in (nI i + 2) L := by rw [show (nI i + 2 : Int32) = nI (i + 2) from nI_add i 2]; exact vp_in_nI (by omega) (by omega)
  obtain ⟨rx, rm, ex, em, er, hRel⟩ := eq_till hRel (xs (nI i + 1).toNatClampNeg) (xs (nI i + 2).toNatClampNeg)
  refine lv_aload_n hx hb dL_law_956 rfl (lv_at hl 1 rfl) ?_
  refine lv_aload_n hx hb dL_law_957 rfl (lv_at hl 0 rfl) ?_
  refine lv_iload_n hx hb dL_law_958 rfl (lv_at hl 3 rfl) ?_
  refine lv_iconst (v := 1) hx hb dL_law_959 (by decide) ?_
  refine lv_iadd hx hb dL_law_960 ?_
  refine va_sld hx hb hX hbl hbA hS hin1 dL_law_961 ?_
  refine lv_aload_n hx hb dL_law_962 rfl (lv_at hl 0 rfl) ?_
  refine lv_iload_n hx hb dL_law_963 rfl (lv_at hl 3 rfl) ?_
  refine lv_iconst (v := 2) hx hb dL_law_964 (by decide) ?_
  refine lv_iadd hx hb dL_law_965 ?_
  refine va_sld hx hb hX hbl hbA hS hin2 dL_law_966 ?_
  refine lwI (q0 := 0) (ci := 5) hx hb hml hown hts (envL_ok ut sa sb) hE hK hfX hPX hPM (fun k q hq j hj e => hdj j k hj (at_fst (a := aM) (N := 16) (ws := wM aM cI cJ cS msv mkep mbef misk mfnd mman mnex mwor msng mhea mlat mtap mtpd mher mflt mvlu mbit mlon mcel mbtw) rfl k q hq).1 (e.symm.trans (at_fst (a := aM) (N := 16) (ws := wM aM cI cJ cS msv mkep mbef misk mfnd mman mnex mwor msng mhea mlat mtap mtpd mher mflt mvlu mbit mlon mcel mbtw) rfl k q hq).2)) hS (kX5_till l D aX cI cJ cS hdX (envL_ok ut sa sb) par kin lea mos wrt tal siz tol hrs ags yea kpar kkin klea kmos kwrt ktal ksiz ktol khrs kags kyea isk tly gai bes low hig spn byt hld sta beh sor num fnd sbi she snu (xs (nI i + 1).toNatClampNeg) (xs (nI i + 2).toNatClampNeg) rx ex) gT_X5_till rfl hdX5_till rfl rfl rfl ⟨rfl, rfl⟩ ⟨Nat.le_of_ble_eq_true rfl, Nat.le_of_ble_eq_true rfl⟩ ⟨Nat.le_refl _, Nat.le_refl _⟩ rfl hl.1 rfl (Nat.le_of_ble_eq_true rfl) dL_law_967 (fun H locs hPX hPM hS => ?_)
  refine lv_aload_n hx hb dL_law_970 rfl (lv_at hl 2 rfl) ?_
  refine lv_aload_n hx hb dL_law_971 rfl (lv_at hl 0 rfl) ?_
  refine lv_iload_n hx hb dL_law_972 rfl (lv_at hl 3 rfl) ?_
  refine lv_iconst (v := 1) hx hb dL_law_973 (by decide) ?_
  refine lv_iadd hx hb dL_law_974 ?_
  refine va_sld hx hb hX hbl hbA hS hin1 dL_law_975 ?_
  refine lv_aload_n hx hb dL_law_976 rfl (lv_at hl 0 rfl) ?_
  refine lv_iload_n hx hb dL_law_977 rfl (lv_at hl 3 rfl) ?_
  refine lv_iconst (v := 2) hx hb dL_law_978 (by decide) ?_
  refine lv_iadd hx hb dL_law_979 ?_
  refine va_sld hx hb hX hbl hbA hS hin2 dL_law_980 ?_
  refine lwI (q0 := 0) (ci := 6) hx hb hml hown hts (envL_ok ut sa sb) hE hK hfM hPM hPX (fun k q hq j hj e => hdj k j (at_fst (a := aX) (N := 36) (ws := wX aX cI cJ cS par kin lea mos wrt tal siz tol hrs ags yea kpar kkin klea kmos kwrt ktal ksiz ktol khrs kags kyea isk tly gai bes rx.2.1 rx.2.2.1 rx.2.2.2.1 byt hld sta beh sor num rx.2.2.2.2 sbi she snu) rfl k q hq).1 hj ((at_fst (a := aX) (N := 36) (ws := wX aX cI cJ cS par kin lea mos wrt tal siz tol hrs ags yea kpar kkin klea kmos kwrt ktal ksiz ktol khrs kags kyea isk tly gai bes rx.2.1 rx.2.2.1 rx.2.2.2.1 byt hld sta beh sor num rx.2.2.2.2 sbi she snu) rfl k q hq).2.symm.trans e)) hS (kX6_till l D aM cI cJ cS hdM (envL_ok ut sa sb) msv mkep mbef misk mfnd mman mnex mwor msng mhea mlat mtap mtpd mher mflt mvlu mbit mlon mcel mbtw (xs (nI i + 1).toNatClampNeg) (xs (nI i + 2).toNatClampNeg) rm em) gT_X6_till rfl hdX6_till rfl rfl rfl ⟨rfl, rfl⟩ ⟨Nat.le_of_ble_eq_true rfl, Nat.le_of_ble_eq_true rfl⟩ ⟨Nat.le_refl _, Nat.le_refl _⟩ rfl hl.1 rfl (Nat.le_of_ble_eq_true rfl) dL_law_981 (fun H locs hPM hPX hS => ?_)
  refine lv_icmp_eq (tgt := 1683) hx hb dL_law_984 (by decide) (fun _ => ?_) (fun c => absurd er c)
  refine lv_iinc (v := nI i + 6) (lv' := [(3, .int (nI i + 6)), (0, .ref b), (1, .ref (aX 0)), (2, .ref (aM 0))]) hx hb dL_law_1683 hl (k := 3) rfl (congrArg (fun z => nI i + z) (by decide)) (by decide) rfl (fun ls hl => ?_)
  refine lv_goto (tgt := 18) hx hb dL_law_1686 (by decide) ?_
  exact ih _ _ _ ⟨_, _, _, _, _, _, _, _, _, _, _, _, _, _, _, _, _, _, _, _, _, _, _, _, _, _, _, _, _, _, _, _, _, _, _, _, _, _, _, _, _, _, _, _, _, _, _, _, _, _, _, _, _, _, _, _, _, _, _, hPX, hPM, hRel⟩ hS (lv_sub hl [1, 2, 3, 0] rfl)
set_option maxHeartbeats 4000000 in
set_option maxRecDepth 100000 in
theorem law_c25 {p : Program} {l : Launch} {e : Jvm.Env} {s : State} {m : MethodId} {below : List Frame} {meth : Method} {c : Code} {b L : Nat} {xs : Nat → Int32} {D : va_G} {aX aM : Nat → Nat} {cI cJ cS : ClassId} {ut : Nat} {sa sb : Nat → Nat} (C1 : LC p s m meth c b L xs D aX aM cI cJ cS ut sa sb) (hL : L ≤ 3072) {i : Nat} (hi : i + 6 ≤ L)
    (ih : ∀ (H : Heap) (locs : List Loc) (ls : Array Slot), LInv D aX aM cI cJ cS H → va_S (fun q : Nat => s.heap.size ≤ q) s.heap H locs → lv_has ls 4 [(0, .ref b), (1, .ref (aX 0)), (2, .ref (aM 0)), (3, .int (nI i + 6))] → W p l e room_1 s m #[Value.ref b] below meth c H locs 600000 7302250 (lw_Z below #[Value.ref b] s) (F0 m 18 ls [])) {H : Heap} {locs : List Loc} {ls : Array Slot} (hI : LInv D aX aM cI cJ cS H) (hS : va_S (fun q : Nat => s.heap.size ≤ q) s.heap H locs) (hl : lv_has ls 4 [(0, .ref b), (1, .ref (aX 0)), (2, .ref (aM 0)), (3, .int (nI i))]) : W p l e room_1 s m #[Value.ref b] below meth c H locs 600000 7302250 (lw_Z below #[Value.ref b] s) (F0 m 989 ls []) := by
  obtain ⟨⟨hx, hb, hml, hown, hts, hX, hbl⟩, hK, hE, hdX, hdM, hfX, hfM, hdj⟩ := C1
  have hbA : ¬ (fun q : Nat => s.heap.size ≤ q) b := Nat.not_le.mpr hbl
  obtain ⟨par, kin, lea, mos, wrt, tal, siz, tol, hrs, ags, yea, kpar, kkin, klea, kmos, kwrt, ktal, ksiz, ktol, khrs, kags, kyea, isk, tly, gai, bes, low, hig, spn, byt, hld, sta, beh, sor, num, fnd, sbi, she, snu, msv, mkep, mbef, misk, mfnd, mman, mnex, mwor, msng, mhea, mlat, mtap, mtpd, mher, mflt, mvlu, mbit, mlon, mcel, mbtw, hPX, hPM, hRel⟩ := hI
  have hin1 : vp_in (nI i + 1) L := by rw [show (nI i + 1 : Int32) = nI (i + 1) from nI_add i 1]; exact vp_in_nI (by omega) (by omega)
  have hin2 : vp_in (nI i + 2) L := by rw [show (nI i + 2 : Int32) = nI (i + 2) from nI_add i 2]; exact vp_in_nI (by omega) (by omega)
  have hin3 : vp_in (nI i + 3) L := by rw [show (nI i + 3 : Int32) = nI (i + 3) from nI_add i 3]; exact vp_in_nI (by omega) (by omega)
  obtain ⟨rx, rm, ex, em, er, hRel⟩ := eq_heard hRel (xs (nI i + 1).toNatClampNeg) (xs (nI i + 2).toNatClampNeg) (xs (nI i + 3).toNatClampNeg)
  refine lv_aload_n hx hb dL_law_989 rfl (lv_at hl 1 rfl) ?_
  refine lv_aload_n hx hb dL_law_990 rfl (lv_at hl 0 rfl) ?_
  refine lv_iload_n hx hb dL_law_991 rfl (lv_at hl 3 rfl) ?_
  refine lv_iconst (v := 1) hx hb dL_law_992 (by decide) ?_
  refine lv_iadd hx hb dL_law_993 ?_
  refine va_sld hx hb hX hbl hbA hS hin1 dL_law_994 ?_
  refine lv_aload_n hx hb dL_law_995 rfl (lv_at hl 0 rfl) ?_
  refine lv_iload_n hx hb dL_law_996 rfl (lv_at hl 3 rfl) ?_
  refine lv_iconst (v := 2) hx hb dL_law_997 (by decide) ?_
  refine lv_iadd hx hb dL_law_998 ?_
  refine va_sld hx hb hX hbl hbA hS hin2 dL_law_999 ?_
  refine lv_aload_n hx hb dL_law_1000 rfl (lv_at hl 0 rfl) ?_
  refine lv_iload_n hx hb dL_law_1001 rfl (lv_at hl 3 rfl) ?_
  refine lv_iconst (v := 3) hx hb dL_law_1002 (by decide) ?_
  refine lv_iadd hx hb dL_law_1003 ?_
  refine va_sld hx hb hX hbl hbA hS hin3 dL_law_1004 ?_
  refine lwI (q0 := 0) (ci := 5) hx hb hml hown hts (envL_ok ut sa sb) hE hK hfX hPX hPM (fun k q hq j hj e => hdj j k hj (at_fst (a := aM) (N := 16) (ws := wM aM cI cJ cS msv mkep mbef misk mfnd mman mnex mwor msng mhea mlat mtap mtpd mher mflt mvlu mbit mlon mcel mbtw) rfl k q hq).1 (e.symm.trans (at_fst (a := aM) (N := 16) (ws := wM aM cI cJ cS msv mkep mbef misk mfnd mman mnex mwor msng mhea mlat mtap mtpd mher mflt mvlu mbit mlon mcel mbtw) rfl k q hq).2)) hS (kX5_heard l D aX cI cJ cS hdX (envL_ok ut sa sb) par kin lea mos wrt tal siz tol hrs ags yea kpar kkin klea kmos kwrt ktal ksiz ktol khrs kags kyea isk tly gai bes low hig spn byt hld sta beh sor num fnd sbi she snu (xs (nI i + 1).toNatClampNeg) (xs (nI i + 2).toNatClampNeg) (xs (nI i + 3).toNatClampNeg) rx ex) gT_X5_heard rfl hdX5_heard rfl rfl rfl ⟨rfl, rfl⟩ ⟨Nat.le_of_ble_eq_true rfl, Nat.le_of_ble_eq_true rfl⟩ ⟨Nat.le_refl _, Nat.le_refl _⟩ rfl hl.1 rfl (Nat.le_of_ble_eq_true rfl) dL_law_1005 (fun H locs hPX hPM hS => ?_)
  refine lv_aload_n hx hb dL_law_1008 rfl (lv_at hl 2 rfl) ?_
  refine lv_aload_n hx hb dL_law_1009 rfl (lv_at hl 0 rfl) ?_
  refine lv_iload_n hx hb dL_law_1010 rfl (lv_at hl 3 rfl) ?_
  refine lv_iconst (v := 1) hx hb dL_law_1011 (by decide) ?_
  refine lv_iadd hx hb dL_law_1012 ?_
  refine va_sld hx hb hX hbl hbA hS hin1 dL_law_1013 ?_
  refine lv_aload_n hx hb dL_law_1014 rfl (lv_at hl 0 rfl) ?_
  refine lv_iload_n hx hb dL_law_1015 rfl (lv_at hl 3 rfl) ?_
  refine lv_iconst (v := 2) hx hb dL_law_1016 (by decide) ?_
  refine lv_iadd hx hb dL_law_1017 ?_
  refine va_sld hx hb hX hbl hbA hS hin2 dL_law_1018 ?_
  refine lv_aload_n hx hb dL_law_1019 rfl (lv_at hl 0 rfl) ?_
  refine lv_iload_n hx hb dL_law_1020 rfl (lv_at hl 3 rfl) ?_
  refine lv_iconst (v := 3) hx hb dL_law_1021 (by decide) ?_
  refine lv_iadd hx hb dL_law_1022 ?_
  refine va_sld hx hb hX hbl hbA hS hin3 dL_law_1023 ?_
  refine lwI (q0 := 0) (ci := 6) hx hb hml hown hts (envL_ok ut sa sb) hE hK hfM hPM hPX (fun k q hq j hj e => hdj k j (at_fst (a := aX) (N := 36) (ws := wX aX cI cJ cS par kin lea mos wrt tal siz tol hrs ags yea kpar kkin klea kmos kwrt ktal ksiz ktol khrs kags kyea isk tly rx.2.1 rx.2.2.1 low hig spn byt hld sta beh sor num rx.2.2.2 sbi she snu) rfl k q hq).1 hj ((at_fst (a := aX) (N := 36) (ws := wX aX cI cJ cS par kin lea mos wrt tal siz tol hrs ags yea kpar kkin klea kmos kwrt ktal ksiz ktol khrs kags kyea isk tly rx.2.1 rx.2.2.1 low hig spn byt hld sta beh sor num rx.2.2.2 sbi she snu) rfl k q hq).2.symm.trans e)) hS (kX6_heard l D aM cI cJ cS hdM (envL_ok ut sa sb) msv mkep mbef misk mfnd mman mnex mwor msng mhea mlat mtap mtpd mher mflt mvlu mbit mlon mcel mbtw (xs (nI i + 1).toNatClampNeg) (xs (nI i + 2).toNatClampNeg) (xs (nI i + 3).toNatClampNeg) rm em) gT_X6_heard rfl hdX6_heard rfl rfl rfl ⟨rfl, rfl⟩ ⟨Nat.le_of_ble_eq_true rfl, Nat.le_of_ble_eq_true rfl⟩ ⟨Nat.le_refl _, Nat.le_refl _⟩ rfl hl.1 rfl (Nat.le_of_ble_eq_true rfl) dL_law_1024 (fun H locs hPM hPX hS => ?_)
  refine lv_icmp_eq (tgt := 1683) hx hb dL_law_1027 (by decide) (fun _ => ?_) (fun c => absurd er c)
  refine lv_iinc (v := nI i + 6) (lv' := [(3, .int (nI i + 6)), (0, .ref b), (1, .ref (aX 0)), (2, .ref (aM 0))]) hx hb dL_law_1683 hl (k := 3) rfl (congrArg (fun z => nI i + z) (by decide)) (by decide) rfl (fun ls hl => ?_)
  refine lv_goto (tgt := 18) hx hb dL_law_1686 (by decide) ?_
  exact ih _ _ _ ⟨_, _, _, _, _, _, _, _, _, _, _, _, _, _, _, _, _, _, _, _, _, _, _, _, _, _, _, _, _, _, _, _, _, _, _, _, _, _, _, _, _, _, _, _, _, _, _, _, _, _, _, _, _, _, _, _, _, _, _, hPX, hPM, hRel⟩ hS (lv_sub hl [1, 2, 3, 0] rfl)
set_option maxHeartbeats 4000000 in
set_option maxRecDepth 100000 in
theorem law_c26 {p : Program} {l : Launch} {e : Jvm.Env} {s : State} {m : MethodId} {below : List Frame} {meth : Method} {c : Code} {b L : Nat} {xs : Nat → Int32} {D : va_G} {aX aM : Nat → Nat} {cI cJ cS : ClassId} {ut : Nat} {sa sb : Nat → Nat} (C1 : LC p s m meth c b L xs D aX aM cI cJ cS ut sa sb) (hL : L ≤ 3072) {i : Nat} (hi : i + 6 ≤ L)
    (ih : ∀ (H : Heap) (locs : List Loc) (ls : Array Slot), LInv D aX aM cI cJ cS H → va_S (fun q : Nat => s.heap.size ≤ q) s.heap H locs → lv_has ls 4 [(0, .ref b), (1, .ref (aX 0)), (2, .ref (aM 0)), (3, .int (nI i + 6))] → W p l e room_1 s m #[Value.ref b] below meth c H locs 600000 7302250 (lw_Z below #[Value.ref b] s) (F0 m 18 ls [])) {H : Heap} {locs : List Loc} {ls : Array Slot} (hI : LInv D aX aM cI cJ cS H) (hS : va_S (fun q : Nat => s.heap.size ≤ q) s.heap H locs) (hl : lv_has ls 4 [(0, .ref b), (1, .ref (aX 0)), (2, .ref (aM 0)), (3, .int (nI i))]) : W p l e room_1 s m #[Value.ref b] below meth c H locs 600000 7302250 (lw_Z below #[Value.ref b] s) (F0 m 1032 ls []) := by
  obtain ⟨⟨hx, hb, hml, hown, hts, hX, hbl⟩, hK, hE, hdX, hdM, hfX, hfM, hdj⟩ := C1
  have hbA : ¬ (fun q : Nat => s.heap.size ≤ q) b := Nat.not_le.mpr hbl
  obtain ⟨par, kin, lea, mos, wrt, tal, siz, tol, hrs, ags, yea, kpar, kkin, klea, kmos, kwrt, ktal, ksiz, ktol, khrs, kags, kyea, isk, tly, gai, bes, low, hig, spn, byt, hld, sta, beh, sor, num, fnd, sbi, she, snu, msv, mkep, mbef, misk, mfnd, mman, mnex, mwor, msng, mhea, mlat, mtap, mtpd, mher, mflt, mvlu, mbit, mlon, mcel, mbtw, hPX, hPM, hRel⟩ := hI
  have hin1 : vp_in (nI i + 1) L := by rw [show (nI i + 1 : Int32) = nI (i + 1) from nI_add i 1]; exact vp_in_nI (by omega) (by omega)
  have hin2 : vp_in (nI i + 2) L := by rw [show (nI i + 2 : Int32) = nI (i + 2) from nI_add i 2]; exact vp_in_nI (by omega) (by omega)
  have hin3 : vp_in (nI i + 3) L := by rw [show (nI i + 3 : Int32) = nI (i + 3) from nI_add i 3]; exact vp_in_nI (by omega) (by omega)
  obtain ⟨rx, rm, ex, em, er, hRel⟩ := eq_together hRel (xs (nI i + 1).toNatClampNeg) (xs (nI i + 2).toNatClampNeg) (xs (nI i + 3).toNatClampNeg)
  refine lv_aload_n hx hb dL_law_1032 rfl (lv_at hl 1 rfl) ?_
  refine lv_aload_n hx hb dL_law_1033 rfl (lv_at hl 0 rfl) ?_
  refine lv_iload_n hx hb dL_law_1034 rfl (lv_at hl 3 rfl) ?_
  refine lv_iconst (v := 1) hx hb dL_law_1035 (by decide) ?_
  refine lv_iadd hx hb dL_law_1036 ?_
  refine va_sld hx hb hX hbl hbA hS hin1 dL_law_1037 ?_
  refine lv_aload_n hx hb dL_law_1038 rfl (lv_at hl 0 rfl) ?_
  refine lv_iload_n hx hb dL_law_1039 rfl (lv_at hl 3 rfl) ?_
  refine lv_iconst (v := 2) hx hb dL_law_1040 (by decide) ?_
  refine lv_iadd hx hb dL_law_1041 ?_
  refine va_sld hx hb hX hbl hbA hS hin2 dL_law_1042 ?_
  refine lv_aload_n hx hb dL_law_1043 rfl (lv_at hl 0 rfl) ?_
  refine lv_iload_n hx hb dL_law_1044 rfl (lv_at hl 3 rfl) ?_
  refine lv_iconst (v := 3) hx hb dL_law_1045 (by decide) ?_
  refine lv_iadd hx hb dL_law_1046 ?_
  refine va_sld hx hb hX hbl hbA hS hin3 dL_law_1047 ?_
  refine lwI (q0 := 0) (ci := 5) hx hb hml hown hts (envL_ok ut sa sb) hE hK hfX hPX hPM (fun k q hq j hj e => hdj j k hj (at_fst (a := aM) (N := 16) (ws := wM aM cI cJ cS msv mkep mbef misk mfnd mman mnex mwor msng mhea mlat mtap mtpd mher mflt mvlu mbit mlon mcel mbtw) rfl k q hq).1 (e.symm.trans (at_fst (a := aM) (N := 16) (ws := wM aM cI cJ cS msv mkep mbef misk mfnd mman mnex mwor msng mhea mlat mtap mtpd mher mflt mvlu mbit mlon mcel mbtw) rfl k q hq).2)) hS (kX5_together l D aX cI cJ cS hdX (envL_ok ut sa sb) par kin lea mos wrt tal siz tol hrs ags yea kpar kkin klea kmos kwrt ktal ksiz ktol khrs kags kyea isk tly gai bes low hig spn byt hld sta beh sor num fnd sbi she snu (xs (nI i + 1).toNatClampNeg) (xs (nI i + 2).toNatClampNeg) (xs (nI i + 3).toNatClampNeg) rx ex) gT_X5_together rfl hdX5_together rfl rfl rfl ⟨rfl, rfl⟩ ⟨Nat.le_of_ble_eq_true rfl, Nat.le_of_ble_eq_true rfl⟩ ⟨Nat.le_refl _, Nat.le_refl _⟩ rfl hl.1 rfl (Nat.le_of_ble_eq_true rfl) dL_law_1048 (fun H locs hPX hPM hS => ?_)
  refine lv_aload_n hx hb dL_law_1051 rfl (lv_at hl 2 rfl) ?_
  refine lv_aload_n hx hb dL_law_1052 rfl (lv_at hl 0 rfl) ?_
  refine lv_iload_n hx hb dL_law_1053 rfl (lv_at hl 3 rfl) ?_
  refine lv_iconst (v := 1) hx hb dL_law_1054 (by decide) ?_
  refine lv_iadd hx hb dL_law_1055 ?_
  refine va_sld hx hb hX hbl hbA hS hin1 dL_law_1056 ?_
  refine lv_aload_n hx hb dL_law_1057 rfl (lv_at hl 0 rfl) ?_
  refine lv_iload_n hx hb dL_law_1058 rfl (lv_at hl 3 rfl) ?_
  refine lv_iconst (v := 2) hx hb dL_law_1059 (by decide) ?_
  refine lv_iadd hx hb dL_law_1060 ?_
  refine va_sld hx hb hX hbl hbA hS hin2 dL_law_1061 ?_
  refine lv_aload_n hx hb dL_law_1062 rfl (lv_at hl 0 rfl) ?_
  refine lv_iload_n hx hb dL_law_1063 rfl (lv_at hl 3 rfl) ?_
  refine lv_iconst (v := 3) hx hb dL_law_1064 (by decide) ?_
  refine lv_iadd hx hb dL_law_1065 ?_
  refine va_sld hx hb hX hbl hbA hS hin3 dL_law_1066 ?_
  refine lwI (q0 := 0) (ci := 6) hx hb hml hown hts (envL_ok ut sa sb) hE hK hfM hPM hPX (fun k q hq j hj e => hdj k j (at_fst (a := aX) (N := 36) (ws := wX aX cI cJ cS par kin lea mos wrt tal siz tol hrs ags yea kpar kkin klea kmos kwrt ktal ksiz ktol khrs kags kyea isk tly rx.2.1 bes low hig spn byt hld sta beh sor num rx.2.2 sbi she snu) rfl k q hq).1 hj ((at_fst (a := aX) (N := 36) (ws := wX aX cI cJ cS par kin lea mos wrt tal siz tol hrs ags yea kpar kkin klea kmos kwrt ktal ksiz ktol khrs kags kyea isk tly rx.2.1 bes low hig spn byt hld sta beh sor num rx.2.2 sbi she snu) rfl k q hq).2.symm.trans e)) hS (kX6_together l D aM cI cJ cS hdM (envL_ok ut sa sb) msv mkep mbef misk mfnd mman mnex mwor msng mhea mlat mtap mtpd mher mflt mvlu mbit mlon mcel mbtw (xs (nI i + 1).toNatClampNeg) (xs (nI i + 2).toNatClampNeg) (xs (nI i + 3).toNatClampNeg) rm em) gT_X6_together rfl hdX6_together rfl rfl rfl ⟨rfl, rfl⟩ ⟨Nat.le_of_ble_eq_true rfl, Nat.le_of_ble_eq_true rfl⟩ ⟨Nat.le_refl _, Nat.le_refl _⟩ rfl hl.1 rfl (Nat.le_of_ble_eq_true rfl) dL_law_1067 (fun H locs hPM hPX hS => ?_)
  refine lv_icmp_eq (tgt := 1683) hx hb dL_law_1070 (by decide) (fun _ => ?_) (fun c => absurd er c)
  refine lv_iinc (v := nI i + 6) (lv' := [(3, .int (nI i + 6)), (0, .ref b), (1, .ref (aX 0)), (2, .ref (aM 0))]) hx hb dL_law_1683 hl (k := 3) rfl (congrArg (fun z => nI i + z) (by decide)) (by decide) rfl (fun ls hl => ?_)
  refine lv_goto (tgt := 18) hx hb dL_law_1686 (by decide) ?_
  exact ih _ _ _ ⟨_, _, _, _, _, _, _, _, _, _, _, _, _, _, _, _, _, _, _, _, _, _, _, _, _, _, _, _, _, _, _, _, _, _, _, _, _, _, _, _, _, _, _, _, _, _, _, _, _, _, _, _, _, _, _, _, _, _, _, hPX, hPM, hRel⟩ hS (lv_sub hl [1, 2, 3, 0] rfl)
set_option maxHeartbeats 4000000 in
set_option maxRecDepth 100000 in
theorem law_c27 {p : Program} {l : Launch} {e : Jvm.Env} {s : State} {m : MethodId} {below : List Frame} {meth : Method} {c : Code} {b L : Nat} {xs : Nat → Int32} {D : va_G} {aX aM : Nat → Nat} {cI cJ cS : ClassId} {ut : Nat} {sa sb : Nat → Nat} (C1 : LC p s m meth c b L xs D aX aM cI cJ cS ut sa sb) (hL : L ≤ 3072) {i : Nat} (hi : i + 6 ≤ L)
    (ih : ∀ (H : Heap) (locs : List Loc) (ls : Array Slot), LInv D aX aM cI cJ cS H → va_S (fun q : Nat => s.heap.size ≤ q) s.heap H locs → lv_has ls 4 [(0, .ref b), (1, .ref (aX 0)), (2, .ref (aM 0)), (3, .int (nI i + 6))] → W p l e room_1 s m #[Value.ref b] below meth c H locs 600000 7302250 (lw_Z below #[Value.ref b] s) (F0 m 18 ls [])) {H : Heap} {locs : List Loc} {ls : Array Slot} (hI : LInv D aX aM cI cJ cS H) (hS : va_S (fun q : Nat => s.heap.size ≤ q) s.heap H locs) (hl : lv_has ls 4 [(0, .ref b), (1, .ref (aX 0)), (2, .ref (aM 0)), (3, .int (nI i))]) : W p l e room_1 s m #[Value.ref b] below meth c H locs 600000 7302250 (lw_Z below #[Value.ref b] s) (F0 m 1075 ls []) := by
  obtain ⟨⟨hx, hb, hml, hown, hts, hX, hbl⟩, hK, hE, hdX, hdM, hfX, hfM, hdj⟩ := C1
  have hbA : ¬ (fun q : Nat => s.heap.size ≤ q) b := Nat.not_le.mpr hbl
  obtain ⟨par, kin, lea, mos, wrt, tal, siz, tol, hrs, ags, yea, kpar, kkin, klea, kmos, kwrt, ktal, ksiz, ktol, khrs, kags, kyea, isk, tly, gai, bes, low, hig, spn, byt, hld, sta, beh, sor, num, fnd, sbi, she, snu, msv, mkep, mbef, misk, mfnd, mman, mnex, mwor, msng, mhea, mlat, mtap, mtpd, mher, mflt, mvlu, mbit, mlon, mcel, mbtw, hPX, hPM, hRel⟩ := hI
  have hin1 : vp_in (nI i + 1) L := by rw [show (nI i + 1 : Int32) = nI (i + 1) from nI_add i 1]; exact vp_in_nI (by omega) (by omega)
  have hin2 : vp_in (nI i + 2) L := by rw [show (nI i + 2 : Int32) = nI (i + 2) from nI_add i 2]; exact vp_in_nI (by omega) (by omega)
  obtain ⟨rx, rm, ex, em, er, hRel⟩ := eq_pass hRel (xs (nI i + 1).toNatClampNeg) (xs (nI i + 2).toNatClampNeg)
  refine lv_aload_n hx hb dL_law_1075 rfl (lv_at hl 1 rfl) ?_
  refine lv_aload_n hx hb dL_law_1076 rfl (lv_at hl 0 rfl) ?_
  refine lv_iload_n hx hb dL_law_1077 rfl (lv_at hl 3 rfl) ?_
  refine lv_iconst (v := 1) hx hb dL_law_1078 (by decide) ?_
  refine lv_iadd hx hb dL_law_1079 ?_
  refine va_sld hx hb hX hbl hbA hS hin1 dL_law_1080 ?_
  refine lv_aload_n hx hb dL_law_1081 rfl (lv_at hl 0 rfl) ?_
  refine lv_iload_n hx hb dL_law_1082 rfl (lv_at hl 3 rfl) ?_
  refine lv_iconst (v := 2) hx hb dL_law_1083 (by decide) ?_
  refine lv_iadd hx hb dL_law_1084 ?_
  refine va_sld hx hb hX hbl hbA hS hin2 dL_law_1085 ?_
  refine lwI (q0 := 0) (ci := 5) hx hb hml hown hts (envL_ok ut sa sb) hE hK hfX hPX hPM (fun k q hq j hj e => hdj j k hj (at_fst (a := aM) (N := 16) (ws := wM aM cI cJ cS msv mkep mbef misk mfnd mman mnex mwor msng mhea mlat mtap mtpd mher mflt mvlu mbit mlon mcel mbtw) rfl k q hq).1 (e.symm.trans (at_fst (a := aM) (N := 16) (ws := wM aM cI cJ cS msv mkep mbef misk mfnd mman mnex mwor msng mhea mlat mtap mtpd mher mflt mvlu mbit mlon mcel mbtw) rfl k q hq).2)) hS (kX5_pass l D aX cI cJ cS hdX (envL_ok ut sa sb) par kin lea mos wrt tal siz tol hrs ags yea kpar kkin klea kmos kwrt ktal ksiz ktol khrs kags kyea isk tly gai bes low hig spn byt hld sta beh sor num fnd sbi she snu (xs (nI i + 1).toNatClampNeg) (xs (nI i + 2).toNatClampNeg) rx ex) gT_X5_pass rfl hdX5_pass rfl rfl rfl ⟨rfl, rfl⟩ ⟨Nat.le_of_ble_eq_true rfl, Nat.le_of_ble_eq_true rfl⟩ ⟨Nat.le_refl _, Nat.le_refl _⟩ rfl hl.1 rfl (Nat.le_of_ble_eq_true rfl) dL_law_1086 (fun H locs hPX hPM hS => ?_)
  refine lv_aload_n hx hb dL_law_1089 rfl (lv_at hl 2 rfl) ?_
  refine lv_aload_n hx hb dL_law_1090 rfl (lv_at hl 0 rfl) ?_
  refine lv_iload_n hx hb dL_law_1091 rfl (lv_at hl 3 rfl) ?_
  refine lv_iconst (v := 1) hx hb dL_law_1092 (by decide) ?_
  refine lv_iadd hx hb dL_law_1093 ?_
  refine va_sld hx hb hX hbl hbA hS hin1 dL_law_1094 ?_
  refine lv_aload_n hx hb dL_law_1095 rfl (lv_at hl 0 rfl) ?_
  refine lv_iload_n hx hb dL_law_1096 rfl (lv_at hl 3 rfl) ?_
  refine lv_iconst (v := 2) hx hb dL_law_1097 (by decide) ?_
  refine lv_iadd hx hb dL_law_1098 ?_
  refine va_sld hx hb hX hbl hbA hS hin2 dL_law_1099 ?_
  refine lwI (q0 := 0) (ci := 6) hx hb hml hown hts (envL_ok ut sa sb) hE hK hfM hPM hPX (fun k q hq j hj e => hdj k j (at_fst (a := aX) (N := 36) (ws := wX aX cI cJ cS par kin lea mos wrt tal siz tol hrs ags yea kpar kkin klea kmos kwrt ktal ksiz ktol khrs kags kyea isk tly gai bes rx.2.1 rx.2.2.1 rx.2.2.2.1 byt hld sta beh sor num rx.2.2.2.2 sbi she snu) rfl k q hq).1 hj ((at_fst (a := aX) (N := 36) (ws := wX aX cI cJ cS par kin lea mos wrt tal siz tol hrs ags yea kpar kkin klea kmos kwrt ktal ksiz ktol khrs kags kyea isk tly gai bes rx.2.1 rx.2.2.1 rx.2.2.2.1 byt hld sta beh sor num rx.2.2.2.2 sbi she snu) rfl k q hq).2.symm.trans e)) hS (kX6_pass l D aM cI cJ cS hdM (envL_ok ut sa sb) msv mkep mbef misk mfnd mman mnex mwor msng mhea mlat mtap mtpd mher mflt mvlu mbit mlon mcel mbtw (xs (nI i + 1).toNatClampNeg) (xs (nI i + 2).toNatClampNeg) rm em) gT_X6_pass rfl hdX6_pass rfl rfl rfl ⟨rfl, rfl⟩ ⟨Nat.le_of_ble_eq_true rfl, Nat.le_of_ble_eq_true rfl⟩ ⟨Nat.le_refl _, Nat.le_refl _⟩ rfl hl.1 rfl (Nat.le_of_ble_eq_true rfl) dL_law_1100 (fun H locs hPM hPX hS => ?_)
  refine lv_icmp_eq (tgt := 1683) hx hb dL_law_1103 (by decide) (fun _ => ?_) (fun c => absurd er c)
  refine lv_iinc (v := nI i + 6) (lv' := [(3, .int (nI i + 6)), (0, .ref b), (1, .ref (aX 0)), (2, .ref (aM 0))]) hx hb dL_law_1683 hl (k := 3) rfl (congrArg (fun z => nI i + z) (by decide)) (by decide) rfl (fun ls hl => ?_)
  refine lv_goto (tgt := 18) hx hb dL_law_1686 (by decide) ?_
  exact ih _ _ _ ⟨_, _, _, _, _, _, _, _, _, _, _, _, _, _, _, _, _, _, _, _, _, _, _, _, _, _, _, _, _, _, _, _, _, _, _, _, _, _, _, _, _, _, _, _, _, _, _, _, _, _, _, _, _, _, _, _, _, _, _, hPX, hPM, hRel⟩ hS (lv_sub hl [1, 2, 3, 0] rfl)
set_option maxHeartbeats 4000000 in
set_option maxRecDepth 100000 in
theorem law_c28 {p : Program} {l : Launch} {e : Jvm.Env} {s : State} {m : MethodId} {below : List Frame} {meth : Method} {c : Code} {b L : Nat} {xs : Nat → Int32} {D : va_G} {aX aM : Nat → Nat} {cI cJ cS : ClassId} {ut : Nat} {sa sb : Nat → Nat} (C1 : LC p s m meth c b L xs D aX aM cI cJ cS ut sa sb) (hL : L ≤ 3072) {i : Nat} (hi : i + 6 ≤ L)
    (ih : ∀ (H : Heap) (locs : List Loc) (ls : Array Slot), LInv D aX aM cI cJ cS H → va_S (fun q : Nat => s.heap.size ≤ q) s.heap H locs → lv_has ls 4 [(0, .ref b), (1, .ref (aX 0)), (2, .ref (aM 0)), (3, .int (nI i + 6))] → W p l e room_1 s m #[Value.ref b] below meth c H locs 600000 7302250 (lw_Z below #[Value.ref b] s) (F0 m 18 ls [])) {H : Heap} {locs : List Loc} {ls : Array Slot} (hI : LInv D aX aM cI cJ cS H) (hS : va_S (fun q : Nat => s.heap.size ≤ q) s.heap H locs) (hl : lv_has ls 4 [(0, .ref b), (1, .ref (aX 0)), (2, .ref (aM 0)), (3, .int (nI i))]) : W p l e room_1 s m #[Value.ref b] below meth c H locs 600000 7302250 (lw_Z below #[Value.ref b] s) (F0 m 1108 ls []) := by
  obtain ⟨⟨hx, hb, hml, hown, hts, hX, hbl⟩, hK, hE, hdX, hdM, hfX, hfM, hdj⟩ := C1
  have hbA : ¬ (fun q : Nat => s.heap.size ≤ q) b := Nat.not_le.mpr hbl
  obtain ⟨par, kin, lea, mos, wrt, tal, siz, tol, hrs, ags, yea, kpar, kkin, klea, kmos, kwrt, ktal, ksiz, ktol, khrs, kags, kyea, isk, tly, gai, bes, low, hig, spn, byt, hld, sta, beh, sor, num, fnd, sbi, she, snu, msv, mkep, mbef, misk, mfnd, mman, mnex, mwor, msng, mhea, mlat, mtap, mtpd, mher, mflt, mvlu, mbit, mlon, mcel, mbtw, hPX, hPM, hRel⟩ := hI
  have hin1 : vp_in (nI i + 1) L := by rw [show (nI i + 1 : Int32) = nI (i + 1) from nI_add i 1]; exact vp_in_nI (by omega) (by omega)
  have hin2 : vp_in (nI i + 2) L := by rw [show (nI i + 2 : Int32) = nI (i + 2) from nI_add i 2]; exact vp_in_nI (by omega) (by omega)
  have hin3 : vp_in (nI i + 3) L := by rw [show (nI i + 3 : Int32) = nI (i + 3) from nI_add i 3]; exact vp_in_nI (by omega) (by omega)
  obtain ⟨rx, rm, ex, em, er, hRel⟩ := eq_through hRel (xs (nI i + 1).toNatClampNeg) (xs (nI i + 2).toNatClampNeg) (xs (nI i + 3).toNatClampNeg)
  refine lv_aload_n hx hb dL_law_1108 rfl (lv_at hl 1 rfl) ?_
  refine lv_aload_n hx hb dL_law_1109 rfl (lv_at hl 0 rfl) ?_
  refine lv_iload_n hx hb dL_law_1110 rfl (lv_at hl 3 rfl) ?_
  refine lv_iconst (v := 1) hx hb dL_law_1111 (by decide) ?_
  refine lv_iadd hx hb dL_law_1112 ?_
  refine va_sld hx hb hX hbl hbA hS hin1 dL_law_1113 ?_
  refine lv_aload_n hx hb dL_law_1114 rfl (lv_at hl 0 rfl) ?_
  refine lv_iload_n hx hb dL_law_1115 rfl (lv_at hl 3 rfl) ?_
  refine lv_iconst (v := 2) hx hb dL_law_1116 (by decide) ?_
  refine lv_iadd hx hb dL_law_1117 ?_
  refine va_sld hx hb hX hbl hbA hS hin2 dL_law_1118 ?_
  refine lv_aload_n hx hb dL_law_1119 rfl (lv_at hl 0 rfl) ?_
  refine lv_iload_n hx hb dL_law_1120 rfl (lv_at hl 3 rfl) ?_
  refine lv_iconst (v := 3) hx hb dL_law_1121 (by decide) ?_
  refine lv_iadd hx hb dL_law_1122 ?_
  refine va_sld hx hb hX hbl hbA hS hin3 dL_law_1123 ?_
  refine lwI (q0 := 0) (ci := 5) hx hb hml hown hts (envL_ok ut sa sb) hE hK hfX hPX hPM (fun k q hq j hj e => hdj j k hj (at_fst (a := aM) (N := 16) (ws := wM aM cI cJ cS msv mkep mbef misk mfnd mman mnex mwor msng mhea mlat mtap mtpd mher mflt mvlu mbit mlon mcel mbtw) rfl k q hq).1 (e.symm.trans (at_fst (a := aM) (N := 16) (ws := wM aM cI cJ cS msv mkep mbef misk mfnd mman mnex mwor msng mhea mlat mtap mtpd mher mflt mvlu mbit mlon mcel mbtw) rfl k q hq).2)) hS (kX5_through l D aX cI cJ cS hdX (envL_ok ut sa sb) par kin lea mos wrt tal siz tol hrs ags yea kpar kkin klea kmos kwrt ktal ksiz ktol khrs kags kyea isk tly gai bes low hig spn byt hld sta beh sor num fnd sbi she snu (xs (nI i + 1).toNatClampNeg) (xs (nI i + 2).toNatClampNeg) (xs (nI i + 3).toNatClampNeg) rx ex) gT_X5_through rfl hdX5_through rfl rfl rfl ⟨rfl, rfl⟩ ⟨Nat.le_of_ble_eq_true rfl, Nat.le_of_ble_eq_true rfl⟩ ⟨Nat.le_refl _, Nat.le_refl _⟩ rfl hl.1 rfl (Nat.le_of_ble_eq_true rfl) dL_law_1124 (fun H locs hPX hPM hS => ?_)
  refine lv_aload_n hx hb dL_law_1127 rfl (lv_at hl 2 rfl) ?_
  refine lv_aload_n hx hb dL_law_1128 rfl (lv_at hl 0 rfl) ?_
  refine lv_iload_n hx hb dL_law_1129 rfl (lv_at hl 3 rfl) ?_
  refine lv_iconst (v := 1) hx hb dL_law_1130 (by decide) ?_
  refine lv_iadd hx hb dL_law_1131 ?_
  refine va_sld hx hb hX hbl hbA hS hin1 dL_law_1132 ?_
  refine lv_aload_n hx hb dL_law_1133 rfl (lv_at hl 0 rfl) ?_
  refine lv_iload_n hx hb dL_law_1134 rfl (lv_at hl 3 rfl) ?_
  refine lv_iconst (v := 2) hx hb dL_law_1135 (by decide) ?_
  refine lv_iadd hx hb dL_law_1136 ?_
  refine va_sld hx hb hX hbl hbA hS hin2 dL_law_1137 ?_
  refine lv_aload_n hx hb dL_law_1138 rfl (lv_at hl 0 rfl) ?_
  refine lv_iload_n hx hb dL_law_1139 rfl (lv_at hl 3 rfl) ?_
  refine lv_iconst (v := 3) hx hb dL_law_1140 (by decide) ?_
  refine lv_iadd hx hb dL_law_1141 ?_
  refine va_sld hx hb hX hbl hbA hS hin3 dL_law_1142 ?_
  refine lwI (q0 := 0) (ci := 6) hx hb hml hown hts (envL_ok ut sa sb) hE hK hfM hPM hPX (fun k q hq j hj e => hdj k j (at_fst (a := aX) (N := 36) (ws := wX aX cI cJ cS par kin lea mos wrt tal siz tol hrs ags yea kpar kkin klea kmos kwrt ktal ksiz ktol khrs kags kyea isk tly gai bes rx.2.1 rx.2.2.1 rx.2.2.2.1 byt hld sta beh sor num rx.2.2.2.2 sbi she snu) rfl k q hq).1 hj ((at_fst (a := aX) (N := 36) (ws := wX aX cI cJ cS par kin lea mos wrt tal siz tol hrs ags yea kpar kkin klea kmos kwrt ktal ksiz ktol khrs kags kyea isk tly gai bes rx.2.1 rx.2.2.1 rx.2.2.2.1 byt hld sta beh sor num rx.2.2.2.2 sbi she snu) rfl k q hq).2.symm.trans e)) hS (kX6_through l D aM cI cJ cS hdM (envL_ok ut sa sb) msv mkep mbef misk mfnd mman mnex mwor msng mhea mlat mtap mtpd mher mflt mvlu mbit mlon mcel mbtw (xs (nI i + 1).toNatClampNeg) (xs (nI i + 2).toNatClampNeg) (xs (nI i + 3).toNatClampNeg) rm em) gT_X6_through rfl hdX6_through rfl rfl rfl ⟨rfl, rfl⟩ ⟨Nat.le_of_ble_eq_true rfl, Nat.le_of_ble_eq_true rfl⟩ ⟨Nat.le_refl _, Nat.le_refl _⟩ rfl hl.1 rfl (Nat.le_of_ble_eq_true rfl) dL_law_1143 (fun H locs hPM hPX hS => ?_)
  refine lv_icmp_eq (tgt := 1683) hx hb dL_law_1146 (by decide) (fun _ => ?_) (fun c => absurd er c)
  refine lv_iinc (v := nI i + 6) (lv' := [(3, .int (nI i + 6)), (0, .ref b), (1, .ref (aX 0)), (2, .ref (aM 0))]) hx hb dL_law_1683 hl (k := 3) rfl (congrArg (fun z => nI i + z) (by decide)) (by decide) rfl (fun ls hl => ?_)
  refine lv_goto (tgt := 18) hx hb dL_law_1686 (by decide) ?_
  exact ih _ _ _ ⟨_, _, _, _, _, _, _, _, _, _, _, _, _, _, _, _, _, _, _, _, _, _, _, _, _, _, _, _, _, _, _, _, _, _, _, _, _, _, _, _, _, _, _, _, _, _, _, _, _, _, _, _, _, _, _, _, _, _, _, hPX, hPM, hRel⟩ hS (lv_sub hl [1, 2, 3, 0] rfl)
set_option maxHeartbeats 4000000 in
set_option maxRecDepth 100000 in
theorem law_c29 {p : Program} {l : Launch} {e : Jvm.Env} {s : State} {m : MethodId} {below : List Frame} {meth : Method} {c : Code} {b L : Nat} {xs : Nat → Int32} {D : va_G} {aX aM : Nat → Nat} {cI cJ cS : ClassId} {ut : Nat} {sa sb : Nat → Nat} (C1 : LC p s m meth c b L xs D aX aM cI cJ cS ut sa sb) (hL : L ≤ 3072) {i : Nat} (hi : i + 6 ≤ L)
    (ih : ∀ (H : Heap) (locs : List Loc) (ls : Array Slot), LInv D aX aM cI cJ cS H → va_S (fun q : Nat => s.heap.size ≤ q) s.heap H locs → lv_has ls 4 [(0, .ref b), (1, .ref (aX 0)), (2, .ref (aM 0)), (3, .int (nI i + 6))] → W p l e room_1 s m #[Value.ref b] below meth c H locs 600000 7302250 (lw_Z below #[Value.ref b] s) (F0 m 18 ls [])) {H : Heap} {locs : List Loc} {ls : Array Slot} (hI : LInv D aX aM cI cJ cS H) (hS : va_S (fun q : Nat => s.heap.size ≤ q) s.heap H locs) (hl : lv_has ls 4 [(0, .ref b), (1, .ref (aX 0)), (2, .ref (aM 0)), (3, .int (nI i))]) : W p l e room_1 s m #[Value.ref b] below meth c H locs 600000 7302250 (lw_Z below #[Value.ref b] s) (F0 m 1151 ls []) := by
  obtain ⟨⟨hx, hb, hml, hown, hts, hX, hbl⟩, hK, hE, hdX, hdM, hfX, hfM, hdj⟩ := C1
  have hbA : ¬ (fun q : Nat => s.heap.size ≤ q) b := Nat.not_le.mpr hbl
  obtain ⟨par, kin, lea, mos, wrt, tal, siz, tol, hrs, ags, yea, kpar, kkin, klea, kmos, kwrt, ktal, ksiz, ktol, khrs, kags, kyea, isk, tly, gai, bes, low, hig, spn, byt, hld, sta, beh, sor, num, fnd, sbi, she, snu, msv, mkep, mbef, misk, mfnd, mman, mnex, mwor, msng, mhea, mlat, mtap, mtpd, mher, mflt, mvlu, mbit, mlon, mcel, mbtw, hPX, hPM, hRel⟩ := hI
  have hin1 : vp_in (nI i + 1) L := by rw [show (nI i + 1 : Int32) = nI (i + 1) from nI_add i 1]; exact vp_in_nI (by omega) (by omega)
  have hin2 : vp_in (nI i + 2) L := by rw [show (nI i + 2 : Int32) = nI (i + 2) from nI_add i 2]; exact vp_in_nI (by omega) (by omega)
  have hin3 : vp_in (nI i + 3) L := by rw [show (nI i + 3 : Int32) = nI (i + 3) from nI_add i 3]; exact vp_in_nI (by omega) (by omega)
  obtain ⟨rx, rm, ex, em, er, hRel⟩ := eq_middle hRel (xs (nI i + 1).toNatClampNeg) (xs (nI i + 2).toNatClampNeg) (xs (nI i + 3).toNatClampNeg)
  refine lv_aload_n hx hb dL_law_1151 rfl (lv_at hl 1 rfl) ?_
  refine lv_aload_n hx hb dL_law_1152 rfl (lv_at hl 0 rfl) ?_
  refine lv_iload_n hx hb dL_law_1153 rfl (lv_at hl 3 rfl) ?_
  refine lv_iconst (v := 1) hx hb dL_law_1154 (by decide) ?_
  refine lv_iadd hx hb dL_law_1155 ?_
  refine va_sld hx hb hX hbl hbA hS hin1 dL_law_1156 ?_
  refine lv_aload_n hx hb dL_law_1157 rfl (lv_at hl 0 rfl) ?_
  refine lv_iload_n hx hb dL_law_1158 rfl (lv_at hl 3 rfl) ?_
  refine lv_iconst (v := 2) hx hb dL_law_1159 (by decide) ?_
  refine lv_iadd hx hb dL_law_1160 ?_
  refine va_sld hx hb hX hbl hbA hS hin2 dL_law_1161 ?_
  refine lv_aload_n hx hb dL_law_1162 rfl (lv_at hl 0 rfl) ?_
  refine lv_iload_n hx hb dL_law_1163 rfl (lv_at hl 3 rfl) ?_
  refine lv_iconst (v := 3) hx hb dL_law_1164 (by decide) ?_
  refine lv_iadd hx hb dL_law_1165 ?_
  refine va_sld hx hb hX hbl hbA hS hin3 dL_law_1166 ?_
  refine lwI (q0 := 0) (ci := 5) hx hb hml hown hts (envL_ok ut sa sb) hE hK hfX hPX hPM (fun k q hq j hj e => hdj j k hj (at_fst (a := aM) (N := 16) (ws := wM aM cI cJ cS msv mkep mbef misk mfnd mman mnex mwor msng mhea mlat mtap mtpd mher mflt mvlu mbit mlon mcel mbtw) rfl k q hq).1 (e.symm.trans (at_fst (a := aM) (N := 16) (ws := wM aM cI cJ cS msv mkep mbef misk mfnd mman mnex mwor msng mhea mlat mtap mtpd mher mflt mvlu mbit mlon mcel mbtw) rfl k q hq).2)) hS (kX5_middle l D aX cI cJ cS hdX (envL_ok ut sa sb) par kin lea mos wrt tal siz tol hrs ags yea kpar kkin klea kmos kwrt ktal ksiz ktol khrs kags kyea isk tly gai bes low hig spn byt hld sta beh sor num fnd sbi she snu (xs (nI i + 1).toNatClampNeg) (xs (nI i + 2).toNatClampNeg) (xs (nI i + 3).toNatClampNeg) rx ex) gT_X5_middle rfl hdX5_middle rfl rfl rfl ⟨rfl, rfl⟩ ⟨Nat.le_of_ble_eq_true rfl, Nat.le_of_ble_eq_true rfl⟩ ⟨Nat.le_refl _, Nat.le_refl _⟩ rfl hl.1 rfl (Nat.le_of_ble_eq_true rfl) dL_law_1167 (fun H locs hPX hPM hS => ?_)
  refine lv_aload_n hx hb dL_law_1170 rfl (lv_at hl 2 rfl) ?_
  refine lv_aload_n hx hb dL_law_1171 rfl (lv_at hl 0 rfl) ?_
  refine lv_iload_n hx hb dL_law_1172 rfl (lv_at hl 3 rfl) ?_
  refine lv_iconst (v := 1) hx hb dL_law_1173 (by decide) ?_
  refine lv_iadd hx hb dL_law_1174 ?_
  refine va_sld hx hb hX hbl hbA hS hin1 dL_law_1175 ?_
  refine lv_aload_n hx hb dL_law_1176 rfl (lv_at hl 0 rfl) ?_
  refine lv_iload_n hx hb dL_law_1177 rfl (lv_at hl 3 rfl) ?_
  refine lv_iconst (v := 2) hx hb dL_law_1178 (by decide) ?_
  refine lv_iadd hx hb dL_law_1179 ?_
  refine va_sld hx hb hX hbl hbA hS hin2 dL_law_1180 ?_
  refine lv_aload_n hx hb dL_law_1181 rfl (lv_at hl 0 rfl) ?_
  refine lv_iload_n hx hb dL_law_1182 rfl (lv_at hl 3 rfl) ?_
  refine lv_iconst (v := 3) hx hb dL_law_1183 (by decide) ?_
  refine lv_iadd hx hb dL_law_1184 ?_
  refine va_sld hx hb hX hbl hbA hS hin3 dL_law_1185 ?_
  refine lwI (q0 := 0) (ci := 6) hx hb hml hown hts (envL_ok ut sa sb) hE hK hfM hPM hPX (fun k q hq j hj e => hdj k j (at_fst (a := aX) (N := 36) (ws := wX aX cI cJ cS par kin lea mos wrt tal siz tol hrs ags yea kpar kkin klea kmos kwrt ktal ksiz ktol khrs kags kyea isk tly gai bes rx.2.1 rx.2.2.1 rx.2.2.2.1 byt hld sta beh sor num rx.2.2.2.2 sbi she snu) rfl k q hq).1 hj ((at_fst (a := aX) (N := 36) (ws := wX aX cI cJ cS par kin lea mos wrt tal siz tol hrs ags yea kpar kkin klea kmos kwrt ktal ksiz ktol khrs kags kyea isk tly gai bes rx.2.1 rx.2.2.1 rx.2.2.2.1 byt hld sta beh sor num rx.2.2.2.2 sbi she snu) rfl k q hq).2.symm.trans e)) hS (kX6_middle l D aM cI cJ cS hdM (envL_ok ut sa sb) msv mkep mbef misk mfnd mman mnex mwor msng mhea mlat mtap mtpd mher mflt mvlu mbit mlon mcel mbtw (xs (nI i + 1).toNatClampNeg) (xs (nI i + 2).toNatClampNeg) (xs (nI i + 3).toNatClampNeg) rm em) gT_X6_middle rfl hdX6_middle rfl rfl rfl ⟨rfl, rfl⟩ ⟨Nat.le_of_ble_eq_true rfl, Nat.le_of_ble_eq_true rfl⟩ ⟨Nat.le_refl _, Nat.le_refl _⟩ rfl hl.1 rfl (Nat.le_of_ble_eq_true rfl) dL_law_1186 (fun H locs hPM hPX hS => ?_)
  refine lv_icmp_eq (tgt := 1683) hx hb dL_law_1189 (by decide) (fun _ => ?_) (fun c => absurd er c)
  refine lv_iinc (v := nI i + 6) (lv' := [(3, .int (nI i + 6)), (0, .ref b), (1, .ref (aX 0)), (2, .ref (aM 0))]) hx hb dL_law_1683 hl (k := 3) rfl (congrArg (fun z => nI i + z) (by decide)) (by decide) rfl (fun ls hl => ?_)
  refine lv_goto (tgt := 18) hx hb dL_law_1686 (by decide) ?_
  exact ih _ _ _ ⟨_, _, _, _, _, _, _, _, _, _, _, _, _, _, _, _, _, _, _, _, _, _, _, _, _, _, _, _, _, _, _, _, _, _, _, _, _, _, _, _, _, _, _, _, _, _, _, _, _, _, _, _, _, _, _, _, _, _, _, hPX, hPM, hRel⟩ hS (lv_sub hl [1, 2, 3, 0] rfl)
set_option maxHeartbeats 4000000 in
set_option maxRecDepth 100000 in
theorem law_c30 {p : Program} {l : Launch} {e : Jvm.Env} {s : State} {m : MethodId} {below : List Frame} {meth : Method} {c : Code} {b L : Nat} {xs : Nat → Int32} {D : va_G} {aX aM : Nat → Nat} {cI cJ cS : ClassId} {ut : Nat} {sa sb : Nat → Nat} (C1 : LC p s m meth c b L xs D aX aM cI cJ cS ut sa sb) (hL : L ≤ 3072) {i : Nat} (hi : i + 6 ≤ L)
    (ih : ∀ (H : Heap) (locs : List Loc) (ls : Array Slot), LInv D aX aM cI cJ cS H → va_S (fun q : Nat => s.heap.size ≤ q) s.heap H locs → lv_has ls 4 [(0, .ref b), (1, .ref (aX 0)), (2, .ref (aM 0)), (3, .int (nI i + 6))] → W p l e room_1 s m #[Value.ref b] below meth c H locs 600000 7302250 (lw_Z below #[Value.ref b] s) (F0 m 18 ls [])) {H : Heap} {locs : List Loc} {ls : Array Slot} (hI : LInv D aX aM cI cJ cS H) (hS : va_S (fun q : Nat => s.heap.size ≤ q) s.heap H locs) (hl : lv_has ls 4 [(0, .ref b), (1, .ref (aX 0)), (2, .ref (aM 0)), (3, .int (nI i))]) : W p l e room_1 s m #[Value.ref b] below meth c H locs 600000 7302250 (lw_Z below #[Value.ref b] s) (F0 m 1194 ls []) := by
  obtain ⟨⟨hx, hb, hml, hown, hts, hX, hbl⟩, hK, hE, hdX, hdM, hfX, hfM, hdj⟩ := C1
  have hbA : ¬ (fun q : Nat => s.heap.size ≤ q) b := Nat.not_le.mpr hbl
  obtain ⟨par, kin, lea, mos, wrt, tal, siz, tol, hrs, ags, yea, kpar, kkin, klea, kmos, kwrt, ktal, ksiz, ktol, khrs, kags, kyea, isk, tly, gai, bes, low, hig, spn, byt, hld, sta, beh, sor, num, fnd, sbi, she, snu, msv, mkep, mbef, misk, mfnd, mman, mnex, mwor, msng, mhea, mlat, mtap, mtpd, mher, mflt, mvlu, mbit, mlon, mcel, mbtw, hPX, hPM, hRel⟩ := hI
  have hin1 : vp_in (nI i + 1) L := by rw [show (nI i + 1 : Int32) = nI (i + 1) from nI_add i 1]; exact vp_in_nI (by omega) (by omega)
  obtain ⟨rx, rm, ex, em, er, hRel⟩ := eq_chain hRel (xs (nI i + 1).toNatClampNeg)
  refine lv_aload_n hx hb dL_law_1194 rfl (lv_at hl 1 rfl) ?_
  refine lv_aload_n hx hb dL_law_1195 rfl (lv_at hl 0 rfl) ?_
  refine lv_iload_n hx hb dL_law_1196 rfl (lv_at hl 3 rfl) ?_
  refine lv_iconst (v := 1) hx hb dL_law_1197 (by decide) ?_
  refine lv_iadd hx hb dL_law_1198 ?_
  refine va_sld hx hb hX hbl hbA hS hin1 dL_law_1199 ?_
  refine lwI (q0 := 0) (ci := 5) hx hb hml hown hts (envL_ok ut sa sb) hE hK hfX hPX hPM (fun k q hq j hj e => hdj j k hj (at_fst (a := aM) (N := 16) (ws := wM aM cI cJ cS msv mkep mbef misk mfnd mman mnex mwor msng mhea mlat mtap mtpd mher mflt mvlu mbit mlon mcel mbtw) rfl k q hq).1 (e.symm.trans (at_fst (a := aM) (N := 16) (ws := wM aM cI cJ cS msv mkep mbef misk mfnd mman mnex mwor msng mhea mlat mtap mtpd mher mflt mvlu mbit mlon mcel mbtw) rfl k q hq).2)) hS (kX5_chain l D aX cI cJ cS hdX (envL_ok ut sa sb) par kin lea mos wrt tal siz tol hrs ags yea kpar kkin klea kmos kwrt ktal ksiz ktol khrs kags kyea isk tly gai bes low hig spn byt hld sta beh sor num fnd sbi she snu (xs (nI i + 1).toNatClampNeg) rx ex) gT_X5_chain rfl hdX5_chain rfl rfl rfl ⟨rfl, rfl⟩ ⟨Nat.le_of_ble_eq_true rfl, Nat.le_of_ble_eq_true rfl⟩ ⟨Nat.le_refl _, Nat.le_refl _⟩ rfl hl.1 rfl (Nat.le_of_ble_eq_true rfl) dL_law_1200 (fun H locs hPX hPM hS => ?_)
  refine lv_aload_n hx hb dL_law_1203 rfl (lv_at hl 2 rfl) ?_
  refine lv_aload_n hx hb dL_law_1204 rfl (lv_at hl 0 rfl) ?_
  refine lv_iload_n hx hb dL_law_1205 rfl (lv_at hl 3 rfl) ?_
  refine lv_iconst (v := 1) hx hb dL_law_1206 (by decide) ?_
  refine lv_iadd hx hb dL_law_1207 ?_
  refine va_sld hx hb hX hbl hbA hS hin1 dL_law_1208 ?_
  refine lwI (q0 := 0) (ci := 6) hx hb hml hown hts (envL_ok ut sa sb) hE hK hfM hPM hPX (fun k q hq j hj e => hdj k j (at_fst (a := aX) (N := 36) (ws := wX aX cI cJ cS par kin lea mos wrt tal siz tol hrs ags yea kpar kkin klea kmos kwrt ktal ksiz ktol khrs kags kyea isk tly gai bes rx.2.1 rx.2.2.1 rx.2.2.2.1 byt hld sta beh sor num rx.2.2.2.2 sbi she snu) rfl k q hq).1 hj ((at_fst (a := aX) (N := 36) (ws := wX aX cI cJ cS par kin lea mos wrt tal siz tol hrs ags yea kpar kkin klea kmos kwrt ktal ksiz ktol khrs kags kyea isk tly gai bes rx.2.1 rx.2.2.1 rx.2.2.2.1 byt hld sta beh sor num rx.2.2.2.2 sbi she snu) rfl k q hq).2.symm.trans e)) hS (kX6_chain l D aM cI cJ cS hdM (envL_ok ut sa sb) msv mkep mbef misk mfnd mman mnex mwor msng mhea mlat mtap mtpd mher mflt mvlu mbit mlon mcel mbtw (xs (nI i + 1).toNatClampNeg) rm em) gT_X6_chain rfl hdX6_chain rfl rfl rfl ⟨rfl, rfl⟩ ⟨Nat.le_of_ble_eq_true rfl, Nat.le_of_ble_eq_true rfl⟩ ⟨Nat.le_refl _, Nat.le_refl _⟩ rfl hl.1 rfl (Nat.le_of_ble_eq_true rfl) dL_law_1209 (fun H locs hPM hPX hS => ?_)
  refine lv_icmp_eq (tgt := 1683) hx hb dL_law_1212 (by decide) (fun _ => ?_) (fun c => absurd er c)
  refine lv_iinc (v := nI i + 6) (lv' := [(3, .int (nI i + 6)), (0, .ref b), (1, .ref (aX 0)), (2, .ref (aM 0))]) hx hb dL_law_1683 hl (k := 3) rfl (congrArg (fun z => nI i + z) (by decide)) (by decide) rfl (fun ls hl => ?_)
  refine lv_goto (tgt := 18) hx hb dL_law_1686 (by decide) ?_
  exact ih _ _ _ ⟨_, _, _, _, _, _, _, _, _, _, _, _, _, _, _, _, _, _, _, _, _, _, _, _, _, _, _, _, _, _, _, _, _, _, _, _, _, _, _, _, _, _, _, _, _, _, _, _, _, _, _, _, _, _, _, _, _, _, _, hPX, hPM, hRel⟩ hS (lv_sub hl [1, 2, 3, 0] rfl)
set_option maxHeartbeats 4000000 in
set_option maxRecDepth 100000 in
theorem law_c31 {p : Program} {l : Launch} {e : Jvm.Env} {s : State} {m : MethodId} {below : List Frame} {meth : Method} {c : Code} {b L : Nat} {xs : Nat → Int32} {D : va_G} {aX aM : Nat → Nat} {cI cJ cS : ClassId} {ut : Nat} {sa sb : Nat → Nat} (C1 : LC p s m meth c b L xs D aX aM cI cJ cS ut sa sb) (hL : L ≤ 3072) {i : Nat} (hi : i + 6 ≤ L)
    (ih : ∀ (H : Heap) (locs : List Loc) (ls : Array Slot), LInv D aX aM cI cJ cS H → va_S (fun q : Nat => s.heap.size ≤ q) s.heap H locs → lv_has ls 4 [(0, .ref b), (1, .ref (aX 0)), (2, .ref (aM 0)), (3, .int (nI i + 6))] → W p l e room_1 s m #[Value.ref b] below meth c H locs 600000 7302250 (lw_Z below #[Value.ref b] s) (F0 m 18 ls [])) {H : Heap} {locs : List Loc} {ls : Array Slot} (hI : LInv D aX aM cI cJ cS H) (hS : va_S (fun q : Nat => s.heap.size ≤ q) s.heap H locs) (hl : lv_has ls 4 [(0, .ref b), (1, .ref (aX 0)), (2, .ref (aM 0)), (3, .int (nI i))]) : W p l e room_1 s m #[Value.ref b] below meth c H locs 600000 7302250 (lw_Z below #[Value.ref b] s) (F0 m 1217 ls []) := by
  obtain ⟨⟨hx, hb, hml, hown, hts, hX, hbl⟩, hK, hE, hdX, hdM, hfX, hfM, hdj⟩ := C1
  have hbA : ¬ (fun q : Nat => s.heap.size ≤ q) b := Nat.not_le.mpr hbl
  obtain ⟨par, kin, lea, mos, wrt, tal, siz, tol, hrs, ags, yea, kpar, kkin, klea, kmos, kwrt, ktal, ksiz, ktol, khrs, kags, kyea, isk, tly, gai, bes, low, hig, spn, byt, hld, sta, beh, sor, num, fnd, sbi, she, snu, msv, mkep, mbef, misk, mfnd, mman, mnex, mwor, msng, mhea, mlat, mtap, mtpd, mher, mflt, mvlu, mbit, mlon, mcel, mbtw, hPX, hPM, hRel⟩ := hI
  have hin1 : vp_in (nI i + 1) L := by rw [show (nI i + 1 : Int32) = nI (i + 1) from nI_add i 1]; exact vp_in_nI (by omega) (by omega)
  have hin2 : vp_in (nI i + 2) L := by rw [show (nI i + 2 : Int32) = nI (i + 2) from nI_add i 2]; exact vp_in_nI (by omega) (by omega)
  obtain ⟨rx, rm, ex, em, er, hRel⟩ := eq_spread hRel (xs (nI i + 1).toNatClampNeg) (xs (nI i + 2).toNatClampNeg)
  refine lv_aload_n hx hb dL_law_1217 rfl (lv_at hl 1 rfl) ?_
  refine lv_aload_n hx hb dL_law_1218 rfl (lv_at hl 0 rfl) ?_
  refine lv_iload_n hx hb dL_law_1219 rfl (lv_at hl 3 rfl) ?_
  refine lv_iconst (v := 1) hx hb dL_law_1220 (by decide) ?_
  refine lv_iadd hx hb dL_law_1221 ?_
  refine va_sld hx hb hX hbl hbA hS hin1 dL_law_1222 ?_
  refine lv_aload_n hx hb dL_law_1223 rfl (lv_at hl 0 rfl) ?_
  refine lv_iload_n hx hb dL_law_1224 rfl (lv_at hl 3 rfl) ?_
  refine lv_iconst (v := 2) hx hb dL_law_1225 (by decide) ?_
  refine lv_iadd hx hb dL_law_1226 ?_
  refine va_sld hx hb hX hbl hbA hS hin2 dL_law_1227 ?_
  refine lwI (q0 := 0) (ci := 5) hx hb hml hown hts (envL_ok ut sa sb) hE hK hfX hPX hPM (fun k q hq j hj e => hdj j k hj (at_fst (a := aM) (N := 16) (ws := wM aM cI cJ cS msv mkep mbef misk mfnd mman mnex mwor msng mhea mlat mtap mtpd mher mflt mvlu mbit mlon mcel mbtw) rfl k q hq).1 (e.symm.trans (at_fst (a := aM) (N := 16) (ws := wM aM cI cJ cS msv mkep mbef misk mfnd mman mnex mwor msng mhea mlat mtap mtpd mher mflt mvlu mbit mlon mcel mbtw) rfl k q hq).2)) hS (kX5_spread l D aX cI cJ cS hdX (envL_ok ut sa sb) par kin lea mos wrt tal siz tol hrs ags yea kpar kkin klea kmos kwrt ktal ksiz ktol khrs kags kyea isk tly gai bes low hig spn byt hld sta beh sor num fnd sbi she snu (xs (nI i + 1).toNatClampNeg) (xs (nI i + 2).toNatClampNeg) rx ex) gT_X5_spread rfl hdX5_spread rfl rfl rfl ⟨rfl, rfl⟩ ⟨Nat.le_of_ble_eq_true rfl, Nat.le_of_ble_eq_true rfl⟩ ⟨Nat.le_refl _, Nat.le_refl _⟩ rfl hl.1 rfl (Nat.le_of_ble_eq_true rfl) dL_law_1228 (fun H locs hPX hPM hS => ?_)
  refine lv_aload_n hx hb dL_law_1231 rfl (lv_at hl 2 rfl) ?_
  refine lv_aload_n hx hb dL_law_1232 rfl (lv_at hl 0 rfl) ?_
  refine lv_iload_n hx hb dL_law_1233 rfl (lv_at hl 3 rfl) ?_
  refine lv_iconst (v := 1) hx hb dL_law_1234 (by decide) ?_
  refine lv_iadd hx hb dL_law_1235 ?_
  refine va_sld hx hb hX hbl hbA hS hin1 dL_law_1236 ?_
  refine lv_aload_n hx hb dL_law_1237 rfl (lv_at hl 0 rfl) ?_
  refine lv_iload_n hx hb dL_law_1238 rfl (lv_at hl 3 rfl) ?_
  refine lv_iconst (v := 2) hx hb dL_law_1239 (by decide) ?_
  refine lv_iadd hx hb dL_law_1240 ?_
  refine va_sld hx hb hX hbl hbA hS hin2 dL_law_1241 ?_
  refine lwI (q0 := 0) (ci := 6) hx hb hml hown hts (envL_ok ut sa sb) hE hK hfM hPM hPX (fun k q hq j hj e => hdj k j (at_fst (a := aX) (N := 36) (ws := wX aX cI cJ cS par kin lea mos wrt tal siz tol hrs ags yea kpar kkin klea kmos kwrt ktal ksiz ktol khrs kags kyea isk tly gai bes rx.2.1 rx.2.2.1 rx.2.2.2.1 byt hld sta beh sor num rx.2.2.2.2 sbi she snu) rfl k q hq).1 hj ((at_fst (a := aX) (N := 36) (ws := wX aX cI cJ cS par kin lea mos wrt tal siz tol hrs ags yea kpar kkin klea kmos kwrt ktal ksiz ktol khrs kags kyea isk tly gai bes rx.2.1 rx.2.2.1 rx.2.2.2.1 byt hld sta beh sor num rx.2.2.2.2 sbi she snu) rfl k q hq).2.symm.trans e)) hS (kX6_spread l D aM cI cJ cS hdM (envL_ok ut sa sb) msv mkep mbef misk mfnd mman mnex mwor msng mhea mlat mtap mtpd mher mflt mvlu mbit mlon mcel mbtw (xs (nI i + 1).toNatClampNeg) (xs (nI i + 2).toNatClampNeg) rm em) gT_X6_spread rfl hdX6_spread rfl rfl rfl ⟨rfl, rfl⟩ ⟨Nat.le_of_ble_eq_true rfl, Nat.le_of_ble_eq_true rfl⟩ ⟨Nat.le_refl _, Nat.le_refl _⟩ rfl hl.1 rfl (Nat.le_of_ble_eq_true rfl) dL_law_1242 (fun H locs hPM hPX hS => ?_)
  refine lv_icmp_eq (tgt := 1683) hx hb dL_law_1245 (by decide) (fun _ => ?_) (fun c => absurd er c)
  refine lv_iinc (v := nI i + 6) (lv' := [(3, .int (nI i + 6)), (0, .ref b), (1, .ref (aX 0)), (2, .ref (aM 0))]) hx hb dL_law_1683 hl (k := 3) rfl (congrArg (fun z => nI i + z) (by decide)) (by decide) rfl (fun ls hl => ?_)
  refine lv_goto (tgt := 18) hx hb dL_law_1686 (by decide) ?_
  exact ih _ _ _ ⟨_, _, _, _, _, _, _, _, _, _, _, _, _, _, _, _, _, _, _, _, _, _, _, _, _, _, _, _, _, _, _, _, _, _, _, _, _, _, _, _, _, _, _, _, _, _, _, _, _, _, _, _, _, _, _, _, _, _, _, hPX, hPM, hRel⟩ hS (lv_sub hl [1, 2, 3, 0] rfl)
