set_option maxHeartbeats 4000000 in
set_option maxRecDepth 100000 in
theorem law_c32 {p : Program} {l : Launch} {e : Jvm.Env} {s : State} {m : MethodId} {below : List Frame} {meth : Method} {c : Code} {b L : Nat} {xs : Nat → Int32} {D : va_G} {aX aM : Nat → Nat} {cI cJ cS : ClassId} {ut : Nat} {sa sb : Nat → Nat} (C1 : LC p s m meth c b L xs D aX aM cI cJ cS ut sa sb) (hL : L ≤ 3072) {i : Nat} (hi : i + 6 ≤ L)
    (ih : ∀ (H : Heap) (locs : List Loc) (ls : Array Slot), LInv D aX aM cI cJ cS H → va_S (fun q : Nat => s.heap.size ≤ q) s.heap H locs → lv_has ls 4 [(0, .ref b), (1, .ref (aX 0)), (2, .ref (aM 0)), (3, .int (nI i + 6))] → W p l e room_1 s m #[Value.ref b] below meth c H locs 600000 7302250 (lw_Z below #[Value.ref b] s) (F0 m 18 ls [])) {H : Heap} {locs : List Loc} {ls : Array Slot} (hI : LInv D aX aM cI cJ cS H) (hS : va_S (fun q : Nat => s.heap.size ≤ q) s.heap H locs) (hl : lv_has ls 4 [(0, .ref b), (1, .ref (aX 0)), (2, .ref (aM 0)), (3, .int (nI i))]) : W p l e room_1 s m #[Value.ref b] below meth c H locs 600000 7302250 (lw_Z below #[Value.ref b] s) (F0 m 1250 ls []) := by
  obtain ⟨⟨hx, hb, hml, hown, hts, hX, hbl⟩, hK, hE, hdX, hdM, hfX, hfM, hdj⟩ := C1
  have hbA : ¬ (fun q : Nat => s.heap.size ≤ q) b := Nat.not_le.mpr hbl
  obtain ⟨par, kin, lea, mos, wrt, tal, siz, tol, hrs, ags, yea, kpar, kkin, klea, kmos, kwrt, ktal, ksiz, ktol, khrs, kags, kyea, isk, tly, gai, bes, low, hig, spn, byt, hld, sta, beh, sor, num, fnd, sbi, she, snu, msv, mkep, mbef, misk, mfnd, mman, mnex, mwor, msng, mhea, mlat, mtap, mtpd, mher, mflt, mvlu, mbit, mlon, mcel, mbtw, hPX, hPM, hRel⟩ := hI
  have hin1 : vp_in (nI i + 1) L := by rw [show (nI i + 1 : Int32) = nI (i + 1) from nI_add i 1]; exact vp_in_nI (by omega) (by omega)
  have hin2 : vp_in (nI i + 2) L := by rw [show (nI i + 2 : Int32) = nI (i + 2) from nI_add i 2]; exact vp_in_nI (by omega) (by omega)
  obtain ⟨rx, rm, ex, em, er, hRel⟩ := eq_feed hRel (xs (nI i + 1).toNatClampNeg) (xs (nI i + 2).toNatClampNeg)
  refine lv_aload_n hx hb dL_law_1250 rfl (lv_at hl 1 rfl) ?_
  refine lv_aload_n hx hb dL_law_1251 rfl (lv_at hl 0 rfl) ?_
  refine lv_iload_n hx hb dL_law_1252 rfl (lv_at hl 3 rfl) ?_
  refine lv_iconst (v := 1) hx hb dL_law_1253 (by decide) ?_
  refine lv_iadd hx hb dL_law_1254 ?_
  refine va_sld hx hb hX hbl hbA hS hin1 dL_law_1255 ?_
  refine lv_aload_n hx hb dL_law_1256 rfl (lv_at hl 0 rfl) ?_
  refine lv_iload_n hx hb dL_law_1257 rfl (lv_at hl 3 rfl) ?_
  refine lv_iconst (v := 2) hx hb dL_law_1258 (by decide) ?_
  refine lv_iadd hx hb dL_law_1259 ?_
  refine va_sld hx hb hX hbl hbA hS hin2 dL_law_1260 ?_
  refine lwI (q0 := 0) (ci := 5) hx hb hml hown hts (envL_ok ut sa sb) hE hK hfX hPX hPM (fun k q hq j hj e => hdj j k hj (at_fst (a := aM) (N := 16) (ws := wM aM cI cJ cS msv mkep mbef misk mfnd mman mnex mwor msng mhea mlat mtap mtpd mher mflt mvlu mbit mlon mcel mbtw) rfl k q hq).1 (e.symm.trans (at_fst (a := aM) (N := 16) (ws := wM aM cI cJ cS msv mkep mbef misk mfnd mman mnex mwor msng mhea mlat mtap mtpd mher mflt mvlu mbit mlon mcel mbtw) rfl k q hq).2)) hS (kX5_feed l D aX cI cJ cS hdX (envL_ok ut sa sb) par kin lea mos wrt tal siz tol hrs ags yea kpar kkin klea kmos kwrt ktal ksiz ktol khrs kags kyea isk tly gai bes low hig spn byt hld sta beh sor num fnd sbi she snu (xs (nI i + 1).toNatClampNeg) (xs (nI i + 2).toNatClampNeg) rx ex) gT_X5_feed rfl hdX5_feed rfl rfl rfl ⟨rfl, rfl⟩ ⟨Nat.le_of_ble_eq_true rfl, Nat.le_of_ble_eq_true rfl⟩ ⟨Nat.le_refl _, Nat.le_refl _⟩ rfl hl.1 rfl (Nat.le_of_ble_eq_true rfl) dL_law_1261 (fun H locs hPX hPM hS => ?_)
  refine lv_aload_n hx hb dL_law_1264 rfl (lv_at hl 2 rfl) ?_
  refine lv_aload_n hx hb dL_law_1265 rfl (lv_at hl 0 rfl) ?_
  refine lv_iload_n hx hb dL_law_1266 rfl (lv_at hl 3 rfl) ?_
  refine lv_iconst (v := 1) hx hb dL_law_1267 (by decide) ?_
  refine lv_iadd hx hb dL_law_1268 ?_
  refine va_sld hx hb hX hbl hbA hS hin1 dL_law_1269 ?_
  refine lv_aload_n hx hb dL_law_1270 rfl (lv_at hl 0 rfl) ?_
  refine lv_iload_n hx hb dL_law_1271 rfl (lv_at hl 3 rfl) ?_
  refine lv_iconst (v := 2) hx hb dL_law_1272 (by decide) ?_
  refine lv_iadd hx hb dL_law_1273 ?_
  refine va_sld hx hb hX hbl hbA hS hin2 dL_law_1274 ?_
  refine lwI (q0 := 0) (ci := 6) hx hb hml hown hts (envL_ok ut sa sb) hE hK hfM hPM hPX (fun k q hq j hj e => hdj k j (at_fst (a := aX) (N := 36) (ws := wX aX cI cJ cS par kin lea mos wrt tal siz tol hrs ags yea kpar kkin klea kmos kwrt ktal ksiz ktol khrs kags kyea isk tly gai bes low hig spn rx.2.1 rx.2.2.1 sta beh sor num rx.2.2.2 sbi she snu) rfl k q hq).1 hj ((at_fst (a := aX) (N := 36) (ws := wX aX cI cJ cS par kin lea mos wrt tal siz tol hrs ags yea kpar kkin klea kmos kwrt ktal ksiz ktol khrs kags kyea isk tly gai bes low hig spn rx.2.1 rx.2.2.1 sta beh sor num rx.2.2.2 sbi she snu) rfl k q hq).2.symm.trans e)) hS (kX6_feed l D aM cI cJ cS hdM (envL_ok ut sa sb) msv mkep mbef misk mfnd mman mnex mwor msng mhea mlat mtap mtpd mher mflt mvlu mbit mlon mcel mbtw (xs (nI i + 1).toNatClampNeg) (xs (nI i + 2).toNatClampNeg) rm em) gT_X6_feed rfl hdX6_feed rfl rfl rfl ⟨rfl, rfl⟩ ⟨Nat.le_of_ble_eq_true rfl, Nat.le_of_ble_eq_true rfl⟩ ⟨Nat.le_refl _, Nat.le_refl _⟩ rfl hl.1 rfl (Nat.le_of_ble_eq_true rfl) dL_law_1275 (fun H locs hPM hPX hS => ?_)
  refine lv_icmp_eq (tgt := 1683) hx hb dL_law_1278 (by decide) (fun _ => ?_) (fun c => absurd er c)
  refine lv_iinc (v := nI i + 6) (lv' := [(3, .int (nI i + 6)), (0, .ref b), (1, .ref (aX 0)), (2, .ref (aM 0))]) hx hb dL_law_1683 hl (k := 3) rfl (congrArg (fun z => nI i + z) (by decide)) (by decide) rfl (fun ls hl => ?_)
  refine lv_goto (tgt := 18) hx hb dL_law_1686 (by decide) ?_
  exact ih _ _ _ ⟨_, _, _, _, _, _, _, _, _, _, _, _, _, _, _, _, _, _, _, _, _, _, _, _, _, _, _, _, _, _, _, _, _, _, _, _, _, _, _, _, _, _, _, _, _, _, _, _, _, _, _, _, _, _, _, _, _, _, _, hPX, hPM, hRel⟩ hS (lv_sub hl [1, 2, 3, 0] rfl)
set_option maxHeartbeats 4000000 in
set_option maxRecDepth 100000 in
theorem law_c33 {p : Program} {l : Launch} {e : Jvm.Env} {s : State} {m : MethodId} {below : List Frame} {meth : Method} {c : Code} {b L : Nat} {xs : Nat → Int32} {D : va_G} {aX aM : Nat → Nat} {cI cJ cS : ClassId} {ut : Nat} {sa sb : Nat → Nat} (C1 : LC p s m meth c b L xs D aX aM cI cJ cS ut sa sb) (hL : L ≤ 3072) {i : Nat} (hi : i + 6 ≤ L)
    (ih : ∀ (H : Heap) (locs : List Loc) (ls : Array Slot), LInv D aX aM cI cJ cS H → va_S (fun q : Nat => s.heap.size ≤ q) s.heap H locs → lv_has ls 4 [(0, .ref b), (1, .ref (aX 0)), (2, .ref (aM 0)), (3, .int (nI i + 6))] → W p l e room_1 s m #[Value.ref b] below meth c H locs 600000 7302250 (lw_Z below #[Value.ref b] s) (F0 m 18 ls [])) {H : Heap} {locs : List Loc} {ls : Array Slot} (hI : LInv D aX aM cI cJ cS H) (hS : va_S (fun q : Nat => s.heap.size ≤ q) s.heap H locs) (hl : lv_has ls 4 [(0, .ref b), (1, .ref (aX 0)), (2, .ref (aM 0)), (3, .int (nI i))]) : W p l e room_1 s m #[Value.ref b] below meth c H locs 600000 7302250 (lw_Z below #[Value.ref b] s) (F0 m 1283 ls []) := by
  obtain ⟨⟨hx, hb, hml, hown, hts, hX, hbl⟩, hK, hE, hdX, hdM, hfX, hfM, hdj⟩ := C1
  have hbA : ¬ (fun q : Nat => s.heap.size ≤ q) b := Nat.not_le.mpr hbl
  obtain ⟨par, kin, lea, mos, wrt, tal, siz, tol, hrs, ags, yea, kpar, kkin, klea, kmos, kwrt, ktal, ksiz, ktol, khrs, kags, kyea, isk, tly, gai, bes, low, hig, spn, byt, hld, sta, beh, sor, num, fnd, sbi, she, snu, msv, mkep, mbef, misk, mfnd, mman, mnex, mwor, msng, mhea, mlat, mtap, mtpd, mher, mflt, mvlu, mbit, mlon, mcel, mbtw, hPX, hPM, hRel⟩ := hI
  obtain ⟨rx, rm, ex, em, er, hRel⟩ := eq_wipe hRel 
  subst ex
  subst em
  refine lv_aload_n hx hb dL_law_1283 rfl (lv_at hl 1 rfl) ?_
  refine lwI (q0 := 0) (ci := 5) hx hb hml hown hts (envL_ok ut sa sb) hE hK hfX hPX hPM (fun k q hq j hj e => hdj j k hj (at_fst (a := aM) (N := 16) (ws := wM aM cI cJ cS msv mkep mbef misk mfnd mman mnex mwor msng mhea mlat mtap mtpd mher mflt mvlu mbit mlon mcel mbtw) rfl k q hq).1 (e.symm.trans (at_fst (a := aM) (N := 16) (ws := wM aM cI cJ cS msv mkep mbef misk mfnd mman mnex mwor msng mhea mlat mtap mtpd mher mflt mvlu mbit mlon mcel mbtw) rfl k q hq).2)) hS (kX5_wipe l D aX cI cJ cS hdX (envL_ok ut sa sb) par kin lea mos wrt tal siz tol hrs ags yea kpar kkin klea kmos kwrt ktal ksiz ktol khrs kags kyea isk tly gai bes low hig spn byt hld sta beh sor num fnd sbi she snu ) gT_X5_wipe rfl hdX5_wipe rfl rfl rfl ⟨rfl, rfl⟩ ⟨Nat.le_of_ble_eq_true rfl, Nat.le_of_ble_eq_true rfl⟩ ⟨Nat.le_refl _, Nat.le_refl _⟩ rfl hl.1 rfl (Nat.le_of_ble_eq_true rfl) dL_law_1284 (fun H locs hPX hPM hS => ?_)
  refine lv_aload_n hx hb dL_law_1287 rfl (lv_at hl 2 rfl) ?_
  refine lwI (q0 := 0) (ci := 6) hx hb hml hown hts (envL_ok ut sa sb) hE hK hfM hPM hPX (fun k q hq j hj e => hdj k j (at_fst (a := aX) (N := 36) (ws := wX aX cI cJ cS par kin lea mos wrt tal siz tol hrs ags yea kpar kkin klea kmos kwrt ktal ksiz ktol khrs kags kyea isk tly gai bes low hig spn byt ((fX5_wipe hld ).2) sta beh sor num fnd sbi she snu) rfl k q hq).1 hj ((at_fst (a := aX) (N := 36) (ws := wX aX cI cJ cS par kin lea mos wrt tal siz tol hrs ags yea kpar kkin klea kmos kwrt ktal ksiz ktol khrs kags kyea isk tly gai bes low hig spn byt ((fX5_wipe hld ).2) sta beh sor num fnd sbi she snu) rfl k q hq).2.symm.trans e)) hS (kX6_wipe l D aM cI cJ cS hdM (envL_ok ut sa sb) msv mkep mbef misk mfnd mman mnex mwor msng mhea mlat mtap mtpd mher mflt mvlu mbit mlon mcel mbtw ) gT_X6_wipe rfl hdX6_wipe rfl rfl rfl ⟨rfl, rfl⟩ ⟨Nat.le_of_ble_eq_true rfl, Nat.le_of_ble_eq_true rfl⟩ ⟨Nat.le_refl _, Nat.le_refl _⟩ rfl hl.1 rfl (Nat.le_of_ble_eq_true rfl) dL_law_1288 (fun H locs hPM hPX hS => ?_)
  refine lv_icmp_eq (tgt := 1683) hx hb dL_law_1291 (by decide) (fun _ => ?_) (fun c => absurd er c)
  refine lv_iinc (v := nI i + 6) (lv' := [(3, .int (nI i + 6)), (0, .ref b), (1, .ref (aX 0)), (2, .ref (aM 0))]) hx hb dL_law_1683 hl (k := 3) rfl (congrArg (fun z => nI i + z) (by decide)) (by decide) rfl (fun ls hl => ?_)
  refine lv_goto (tgt := 18) hx hb dL_law_1686 (by decide) ?_
  exact ih _ _ _ ⟨_, _, _, _, _, _, _, _, _, _, _, _, _, _, _, _, _, _, _, _, _, _, _, _, _, _, _, _, _, _, _, _, _, _, _, _, _, _, _, _, _, _, _, _, _, _, _, _, _, _, _, _, _, _, _, _, _, _, _, hPX, hPM, hRel⟩ hS (lv_sub hl [1, 2, 3, 0] rfl)
set_option maxHeartbeats 4000000 in
set_option maxRecDepth 100000 in
theorem law_c34 {p : Program} {l : Launch} {e : Jvm.Env} {s : State} {m : MethodId} {below : List Frame} {meth : Method} {c : Code} {b L : Nat} {xs : Nat → Int32} {D : va_G} {aX aM : Nat → Nat} {cI cJ cS : ClassId} {ut : Nat} {sa sb : Nat → Nat} (C1 : LC p s m meth c b L xs D aX aM cI cJ cS ut sa sb) (hL : L ≤ 3072) {i : Nat} (hi : i + 6 ≤ L)
    (ih : ∀ (H : Heap) (locs : List Loc) (ls : Array Slot), LInv D aX aM cI cJ cS H → va_S (fun q : Nat => s.heap.size ≤ q) s.heap H locs → lv_has ls 4 [(0, .ref b), (1, .ref (aX 0)), (2, .ref (aM 0)), (3, .int (nI i + 6))] → W p l e room_1 s m #[Value.ref b] below meth c H locs 600000 7302250 (lw_Z below #[Value.ref b] s) (F0 m 18 ls [])) {H : Heap} {locs : List Loc} {ls : Array Slot} (hI : LInv D aX aM cI cJ cS H) (hS : va_S (fun q : Nat => s.heap.size ≤ q) s.heap H locs) (hl : lv_has ls 4 [(0, .ref b), (1, .ref (aX 0)), (2, .ref (aM 0)), (3, .int (nI i))]) : W p l e room_1 s m #[Value.ref b] below meth c H locs 600000 7302250 (lw_Z below #[Value.ref b] s) (F0 m 1296 ls []) := by
  obtain ⟨⟨hx, hb, hml, hown, hts, hX, hbl⟩, hK, hE, hdX, hdM, hfX, hfM, hdj⟩ := C1
  have hbA : ¬ (fun q : Nat => s.heap.size ≤ q) b := Nat.not_le.mpr hbl
  obtain ⟨par, kin, lea, mos, wrt, tal, siz, tol, hrs, ags, yea, kpar, kkin, klea, kmos, kwrt, ktal, ksiz, ktol, khrs, kags, kyea, isk, tly, gai, bes, low, hig, spn, byt, hld, sta, beh, sor, num, fnd, sbi, she, snu, msv, mkep, mbef, misk, mfnd, mman, mnex, mwor, msng, mhea, mlat, mtap, mtpd, mher, mflt, mvlu, mbit, mlon, mcel, mbtw, hPX, hPM, hRel⟩ := hI
  obtain ⟨rx, rm, ex, em, er, hRel⟩ := eq_book hRel 
  refine lv_aload_n hx hb dL_law_1296 rfl (lv_at hl 1 rfl) ?_
  refine lwI (q0 := 0) (ci := 5) hx hb hml hown hts (envL_ok ut sa sb) hE hK hfX hPX hPM (fun k q hq j hj e => hdj j k hj (at_fst (a := aM) (N := 16) (ws := wM aM cI cJ cS msv mkep mbef misk mfnd mman mnex mwor msng mhea mlat mtap mtpd mher mflt mvlu mbit mlon mcel mbtw) rfl k q hq).1 (e.symm.trans (at_fst (a := aM) (N := 16) (ws := wM aM cI cJ cS msv mkep mbef misk mfnd mman mnex mwor msng mhea mlat mtap mtpd mher mflt mvlu mbit mlon mcel mbtw) rfl k q hq).2)) hS (kX5_book l D aX cI cJ cS hdX (envL_ok ut sa sb) ut sa sb (envL_X ut sa sb) par kin lea mos wrt tal siz tol hrs ags yea kpar kkin klea kmos kwrt ktal ksiz ktol khrs kags kyea isk tly gai bes low hig spn byt hld sta beh sor num fnd sbi she snu  rx ex) gT_X5_book rfl hdX5_book rfl rfl rfl ⟨rfl, rfl⟩ ⟨Nat.le_of_ble_eq_true rfl, Nat.le_of_ble_eq_true rfl⟩ ⟨Nat.le_refl _, Nat.le_refl _⟩ rfl hl.1 rfl (Nat.le_of_ble_eq_true rfl) dL_law_1297 (fun H locs hPX hPM hS => ?_)
  refine lv_aload_n hx hb dL_law_1300 rfl (lv_at hl 2 rfl) ?_
  refine lwI (q0 := 0) (ci := 6) hx hb hml hown hts (envL_ok ut sa sb) hE hK hfM hPM hPX (fun k q hq j hj e => hdj k j (at_fst (a := aX) (N := 36) (ws := wX aX cI cJ cS rx.2.1 rx.2.2.1 rx.2.2.2.1 rx.2.2.2.2.1 rx.2.2.2.2.2.1 rx.2.2.2.2.2.2.1 rx.2.2.2.2.2.2.2.1 rx.2.2.2.2.2.2.2.2.1 rx.2.2.2.2.2.2.2.2.2.1 rx.2.2.2.2.2.2.2.2.2.2.1 yea kpar kkin klea kmos kwrt ktal ksiz ktol khrs kags kyea isk tly gai bes low hig spn byt rx.2.2.2.2.2.2.2.2.2.2.2.1 rx.2.2.2.2.2.2.2.2.2.2.2.2.1 rx.2.2.2.2.2.2.2.2.2.2.2.2.2.1 rx.2.2.2.2.2.2.2.2.2.2.2.2.2.2.1 rx.2.2.2.2.2.2.2.2.2.2.2.2.2.2.2 fnd sbi she snu) rfl k q hq).1 hj ((at_fst (a := aX) (N := 36) (ws := wX aX cI cJ cS rx.2.1 rx.2.2.1 rx.2.2.2.1 rx.2.2.2.2.1 rx.2.2.2.2.2.1 rx.2.2.2.2.2.2.1 rx.2.2.2.2.2.2.2.1 rx.2.2.2.2.2.2.2.2.1 rx.2.2.2.2.2.2.2.2.2.1 rx.2.2.2.2.2.2.2.2.2.2.1 yea kpar kkin klea kmos kwrt ktal ksiz ktol khrs kags kyea isk tly gai bes low hig spn byt rx.2.2.2.2.2.2.2.2.2.2.2.1 rx.2.2.2.2.2.2.2.2.2.2.2.2.1 rx.2.2.2.2.2.2.2.2.2.2.2.2.2.1 rx.2.2.2.2.2.2.2.2.2.2.2.2.2.2.1 rx.2.2.2.2.2.2.2.2.2.2.2.2.2.2.2 fnd sbi she snu) rfl k q hq).2.symm.trans e)) hS (kX6_book l D aM cI cJ cS hdM (envL_ok ut sa sb) sa sb (envL_M ut sa sb) msv mkep mbef misk mfnd mman mnex mwor msng mhea mlat mtap mtpd mher mflt mvlu mbit mlon mcel mbtw  rm em) gT_X6_book rfl hdX6_book rfl rfl rfl ⟨rfl, rfl⟩ ⟨Nat.le_of_ble_eq_true rfl, Nat.le_of_ble_eq_true rfl⟩ ⟨Nat.le_refl _, Nat.le_refl _⟩ rfl hl.1 rfl (Nat.le_of_ble_eq_true rfl) dL_law_1301 (fun H locs hPM hPX hS => ?_)
  refine lv_icmp_eq (tgt := 1683) hx hb dL_law_1304 (by decide) (fun _ => ?_) (fun c => absurd er c)
  refine lv_iinc (v := nI i + 6) (lv' := [(3, .int (nI i + 6)), (0, .ref b), (1, .ref (aX 0)), (2, .ref (aM 0))]) hx hb dL_law_1683 hl (k := 3) rfl (congrArg (fun z => nI i + z) (by decide)) (by decide) rfl (fun ls hl => ?_)
  refine lv_goto (tgt := 18) hx hb dL_law_1686 (by decide) ?_
  exact ih _ _ _ ⟨_, _, _, _, _, _, _, _, _, _, _, _, _, _, _, _, _, _, _, _, _, _, _, _, _, _, _, _, _, _, _, _, _, _, _, _, _, _, _, _, _, _, _, _, _, _, _, _, _, _, _, _, _, _, _, _, _, _, _, hPX, hPM, hRel⟩ hS (lv_sub hl [1, 2, 3, 0] rfl)
set_option maxHeartbeats 4000000 in
set_option maxRecDepth 100000 in
theorem law_c35 {p : Program} {l : Launch} {e : Jvm.Env} {s : State} {m : MethodId} {below : List Frame} {meth : Method} {c : Code} {b L : Nat} {xs : Nat → Int32} {D : va_G} {aX aM : Nat → Nat} {cI cJ cS : ClassId} {ut : Nat} {sa sb : Nat → Nat} (C1 : LC p s m meth c b L xs D aX aM cI cJ cS ut sa sb) (hL : L ≤ 3072) {i : Nat} (hi : i + 6 ≤ L)
    (ih : ∀ (H : Heap) (locs : List Loc) (ls : Array Slot), LInv D aX aM cI cJ cS H → va_S (fun q : Nat => s.heap.size ≤ q) s.heap H locs → lv_has ls 4 [(0, .ref b), (1, .ref (aX 0)), (2, .ref (aM 0)), (3, .int (nI i + 6))] → W p l e room_1 s m #[Value.ref b] below meth c H locs 600000 7302250 (lw_Z below #[Value.ref b] s) (F0 m 18 ls [])) {H : Heap} {locs : List Loc} {ls : Array Slot} (hI : LInv D aX aM cI cJ cS H) (hS : va_S (fun q : Nat => s.heap.size ≤ q) s.heap H locs) (hl : lv_has ls 4 [(0, .ref b), (1, .ref (aX 0)), (2, .ref (aM 0)), (3, .int (nI i))]) : W p l e room_1 s m #[Value.ref b] below meth c H locs 600000 7302250 (lw_Z below #[Value.ref b] s) (F0 m 1309 ls []) := by
  obtain ⟨⟨hx, hb, hml, hown, hts, hX, hbl⟩, hK, hE, hdX, hdM, hfX, hfM, hdj⟩ := C1
  have hbA : ¬ (fun q : Nat => s.heap.size ≤ q) b := Nat.not_le.mpr hbl
  obtain ⟨par, kin, lea, mos, wrt, tal, siz, tol, hrs, ags, yea, kpar, kkin, klea, kmos, kwrt, ktal, ksiz, ktol, khrs, kags, kyea, isk, tly, gai, bes, low, hig, spn, byt, hld, sta, beh, sor, num, fnd, sbi, she, snu, msv, mkep, mbef, misk, mfnd, mman, mnex, mwor, msng, mhea, mlat, mtap, mtpd, mher, mflt, mvlu, mbit, mlon, mcel, mbtw, hPX, hPM, hRel⟩ := hI
  have hin1 : vp_in (nI i + 1) L := by rw [show (nI i + 1 : Int32) = nI (i + 1) from nI_add i 1]; exact vp_in_nI (by omega) (by omega)
  have hin2 : vp_in (nI i + 2) L := by rw [show (nI i + 2 : Int32) = nI (i + 2) from nI_add i 2]; exact vp_in_nI (by omega) (by omega)
  have hin3 : vp_in (nI i + 3) L := by rw [show (nI i + 3 : Int32) = nI (i + 3) from nI_add i 3]; exact vp_in_nI (by omega) (by omega)
  obtain ⟨rx, rm, ex, em, er, hRel⟩ := eq_sheet hRel (xs (nI i + 1).toNatClampNeg) (xs (nI i + 2).toNatClampNeg) (xs (nI i + 3).toNatClampNeg)
  refine lv_aload_n hx hb dL_law_1309 rfl (lv_at hl 1 rfl) ?_
  refine lv_aload_n hx hb dL_law_1310 rfl (lv_at hl 0 rfl) ?_
  refine lv_iload_n hx hb dL_law_1311 rfl (lv_at hl 3 rfl) ?_
  refine lv_iconst (v := 1) hx hb dL_law_1312 (by decide) ?_
  refine lv_iadd hx hb dL_law_1313 ?_
  refine va_sld hx hb hX hbl hbA hS hin1 dL_law_1314 ?_
  refine lv_aload_n hx hb dL_law_1315 rfl (lv_at hl 0 rfl) ?_
  refine lv_iload_n hx hb dL_law_1316 rfl (lv_at hl 3 rfl) ?_
  refine lv_iconst (v := 2) hx hb dL_law_1317 (by decide) ?_
  refine lv_iadd hx hb dL_law_1318 ?_
  refine va_sld hx hb hX hbl hbA hS hin2 dL_law_1319 ?_
  refine lv_aload_n hx hb dL_law_1320 rfl (lv_at hl 0 rfl) ?_
  refine lv_iload_n hx hb dL_law_1321 rfl (lv_at hl 3 rfl) ?_
  refine lv_iconst (v := 3) hx hb dL_law_1322 (by decide) ?_
  refine lv_iadd hx hb dL_law_1323 ?_
  refine va_sld hx hb hX hbl hbA hS hin3 dL_law_1324 ?_
  refine lwI (q0 := 0) (ci := 5) hx hb hml hown hts (envL_ok ut sa sb) hE hK hfX hPX hPM (fun k q hq j hj e => hdj j k hj (at_fst (a := aM) (N := 16) (ws := wM aM cI cJ cS msv mkep mbef misk mfnd mman mnex mwor msng mhea mlat mtap mtpd mher mflt mvlu mbit mlon mcel mbtw) rfl k q hq).1 (e.symm.trans (at_fst (a := aM) (N := 16) (ws := wM aM cI cJ cS msv mkep mbef misk mfnd mman mnex mwor msng mhea mlat mtap mtpd mher mflt mvlu mbit mlon mcel mbtw) rfl k q hq).2)) hS (kX5_sheet l D aX cI cJ cS hdX (envL_ok ut sa sb) par kin lea mos wrt tal siz tol hrs ags yea kpar kkin klea kmos kwrt ktal ksiz ktol khrs kags kyea isk tly gai bes low hig spn byt hld sta beh sor num fnd sbi she snu (xs (nI i + 1).toNatClampNeg) (xs (nI i + 2).toNatClampNeg) (xs (nI i + 3).toNatClampNeg) rx ex) gT_X5_sheet rfl hdX5_sheet rfl rfl rfl ⟨rfl, rfl⟩ ⟨Nat.le_of_ble_eq_true rfl, Nat.le_of_ble_eq_true rfl⟩ ⟨Nat.le_refl _, Nat.le_refl _⟩ rfl hl.1 rfl (Nat.le_of_ble_eq_true rfl) dL_law_1325 (fun H locs hPX hPM hS => ?_)
  refine lv_aload_n hx hb dL_law_1328 rfl (lv_at hl 2 rfl) ?_
  refine lv_aload_n hx hb dL_law_1329 rfl (lv_at hl 0 rfl) ?_
  refine lv_iload_n hx hb dL_law_1330 rfl (lv_at hl 3 rfl) ?_
  refine lv_iconst (v := 1) hx hb dL_law_1331 (by decide) ?_
  refine lv_iadd hx hb dL_law_1332 ?_
  refine va_sld hx hb hX hbl hbA hS hin1 dL_law_1333 ?_
  refine lv_aload_n hx hb dL_law_1334 rfl (lv_at hl 0 rfl) ?_
  refine lv_iload_n hx hb dL_law_1335 rfl (lv_at hl 3 rfl) ?_
  refine lv_iconst (v := 2) hx hb dL_law_1336 (by decide) ?_
  refine lv_iadd hx hb dL_law_1337 ?_
  refine va_sld hx hb hX hbl hbA hS hin2 dL_law_1338 ?_
  refine lv_aload_n hx hb dL_law_1339 rfl (lv_at hl 0 rfl) ?_
  refine lv_iload_n hx hb dL_law_1340 rfl (lv_at hl 3 rfl) ?_
  refine lv_iconst (v := 3) hx hb dL_law_1341 (by decide) ?_
  refine lv_iadd hx hb dL_law_1342 ?_
  refine va_sld hx hb hX hbl hbA hS hin3 dL_law_1343 ?_
  refine lwI (q0 := 0) (ci := 6) hx hb hml hown hts (envL_ok ut sa sb) hE hK hfM hPM hPX (fun k q hq j hj e => hdj k j (at_fst (a := aX) (N := 36) (ws := wX aX cI cJ cS par kin lea mos wrt tal siz tol hrs ags yea kpar kkin klea kmos kwrt ktal ksiz ktol khrs kags kyea isk tly gai bes low hig spn byt hld sta beh sor num rx.2.1 rx.2.2.1 rx.2.2.2.1 rx.2.2.2.2) rfl k q hq).1 hj ((at_fst (a := aX) (N := 36) (ws := wX aX cI cJ cS par kin lea mos wrt tal siz tol hrs ags yea kpar kkin klea kmos kwrt ktal ksiz ktol khrs kags kyea isk tly gai bes low hig spn byt hld sta beh sor num rx.2.1 rx.2.2.1 rx.2.2.2.1 rx.2.2.2.2) rfl k q hq).2.symm.trans e)) hS (kX6_sheet l D aM cI cJ cS hdM (envL_ok ut sa sb) msv mkep mbef misk mfnd mman mnex mwor msng mhea mlat mtap mtpd mher mflt mvlu mbit mlon mcel mbtw (xs (nI i + 1).toNatClampNeg) (xs (nI i + 2).toNatClampNeg) (xs (nI i + 3).toNatClampNeg) rm em) gT_X6_sheet rfl hdX6_sheet rfl rfl rfl ⟨rfl, rfl⟩ ⟨Nat.le_of_ble_eq_true rfl, Nat.le_of_ble_eq_true rfl⟩ ⟨Nat.le_refl _, Nat.le_refl _⟩ rfl hl.1 rfl (Nat.le_of_ble_eq_true rfl) dL_law_1344 (fun H locs hPM hPX hS => ?_)
  refine lv_icmp_eq (tgt := 1683) hx hb dL_law_1347 (by decide) (fun _ => ?_) (fun c => absurd er c)
  refine lv_iinc (v := nI i + 6) (lv' := [(3, .int (nI i + 6)), (0, .ref b), (1, .ref (aX 0)), (2, .ref (aM 0))]) hx hb dL_law_1683 hl (k := 3) rfl (congrArg (fun z => nI i + z) (by decide)) (by decide) rfl (fun ls hl => ?_)
  refine lv_goto (tgt := 18) hx hb dL_law_1686 (by decide) ?_
  exact ih _ _ _ ⟨_, _, _, _, _, _, _, _, _, _, _, _, _, _, _, _, _, _, _, _, _, _, _, _, _, _, _, _, _, _, _, _, _, _, _, _, _, _, _, _, _, _, _, _, _, _, _, _, _, _, _, _, _, _, _, _, _, _, _, hPX, hPM, hRel⟩ hS (lv_sub hl [1, 2, 3, 0] rfl)
set_option maxHeartbeats 4000000 in
set_option maxRecDepth 100000 in
theorem law_c36 {p : Program} {l : Launch} {e : Jvm.Env} {s : State} {m : MethodId} {below : List Frame} {meth : Method} {c : Code} {b L : Nat} {xs : Nat → Int32} {D : va_G} {aX aM : Nat → Nat} {cI cJ cS : ClassId} {ut : Nat} {sa sb : Nat → Nat} (C1 : LC p s m meth c b L xs D aX aM cI cJ cS ut sa sb) (hL : L ≤ 3072) {i : Nat} (hi : i + 6 ≤ L)
    (ih : ∀ (H : Heap) (locs : List Loc) (ls : Array Slot), LInv D aX aM cI cJ cS H → va_S (fun q : Nat => s.heap.size ≤ q) s.heap H locs → lv_has ls 4 [(0, .ref b), (1, .ref (aX 0)), (2, .ref (aM 0)), (3, .int (nI i + 6))] → W p l e room_1 s m #[Value.ref b] below meth c H locs 600000 7302250 (lw_Z below #[Value.ref b] s) (F0 m 18 ls [])) {H : Heap} {locs : List Loc} {ls : Array Slot} (hI : LInv D aX aM cI cJ cS H) (hS : va_S (fun q : Nat => s.heap.size ≤ q) s.heap H locs) (hl : lv_has ls 4 [(0, .ref b), (1, .ref (aX 0)), (2, .ref (aM 0)), (3, .int (nI i))]) : W p l e room_1 s m #[Value.ref b] below meth c H locs 600000 7302250 (lw_Z below #[Value.ref b] s) (F0 m 1352 ls []) := by
  obtain ⟨⟨hx, hb, hml, hown, hts, hX, hbl⟩, hK, hE, hdX, hdM, hfX, hfM, hdj⟩ := C1
  have hbA : ¬ (fun q : Nat => s.heap.size ≤ q) b := Nat.not_le.mpr hbl
  obtain ⟨par, kin, lea, mos, wrt, tal, siz, tol, hrs, ags, yea, kpar, kkin, klea, kmos, kwrt, ktal, ksiz, ktol, khrs, kags, kyea, isk, tly, gai, bes, low, hig, spn, byt, hld, sta, beh, sor, num, fnd, sbi, she, snu, msv, mkep, mbef, misk, mfnd, mman, mnex, mwor, msng, mhea, mlat, mtap, mtpd, mher, mflt, mvlu, mbit, mlon, mcel, mbtw, hPX, hPM, hRel⟩ := hI
  have hin1 : vp_in (nI i + 1) L := by rw [show (nI i + 1 : Int32) = nI (i + 1) from nI_add i 1]; exact vp_in_nI (by omega) (by omega)
  have hin2 : vp_in (nI i + 2) L := by rw [show (nI i + 2 : Int32) = nI (i + 2) from nI_add i 2]; exact vp_in_nI (by omega) (by omega)
  have hin3 : vp_in (nI i + 3) L := by rw [show (nI i + 3 : Int32) = nI (i + 3) from nI_add i 3]; exact vp_in_nI (by omega) (by omega)
  have hin4 : vp_in (nI i + 4) L := by rw [show (nI i + 4 : Int32) = nI (i + 4) from nI_add i 4]; exact vp_in_nI (by omega) (by omega)
  obtain ⟨rx, rm, ex, em, er, hRel⟩ := eq_write hRel (xs (nI i + 1).toNatClampNeg) (xs (nI i + 2).toNatClampNeg) (((xs (nI i + 3).toNatClampNeg).toInt64 <<< (((32 : Int32)).toInt64 &&& 63)) ||| ((xs (nI i + 4).toNatClampNeg).toInt64 &&& ((4294967295) : Int64)))
  refine lv_aload_n hx hb dL_law_1352 rfl (lv_at hl 1 rfl) ?_
  refine lv_aload_n hx hb dL_law_1353 rfl (lv_at hl 0 rfl) ?_
  refine lv_iload_n hx hb dL_law_1354 rfl (lv_at hl 3 rfl) ?_
  refine lv_iconst (v := 1) hx hb dL_law_1355 (by decide) ?_
  refine lv_iadd hx hb dL_law_1356 ?_
  refine va_sld hx hb hX hbl hbA hS hin1 dL_law_1357 ?_
  refine lv_aload_n hx hb dL_law_1358 rfl (lv_at hl 0 rfl) ?_
  refine lv_iload_n hx hb dL_law_1359 rfl (lv_at hl 3 rfl) ?_
  refine lv_iconst (v := 2) hx hb dL_law_1360 (by decide) ?_
  refine lv_iadd hx hb dL_law_1361 ?_
  refine va_sld hx hb hX hbl hbA hS hin2 dL_law_1362 ?_
  refine lv_aload_n hx hb dL_law_1363 rfl (lv_at hl 0 rfl) ?_
  refine lv_iload_n hx hb dL_law_1364 rfl (lv_at hl 3 rfl) ?_
  refine lv_iconst (v := 3) hx hb dL_law_1365 (by decide) ?_
  refine lv_iadd hx hb dL_law_1366 ?_
  refine va_sld hx hb hX hbl hbA hS hin3 dL_law_1367 ?_
  refine lv_i2l hx hb dL_law_1368 rfl ?_
  refine lv_bipush (v := 32) hx hb dL_law_1369 (by decide) ?_
  refine lv_lshl hx hb dL_law_1371 rfl ?_
  refine lv_aload_n hx hb dL_law_1372 rfl (lv_at hl 0 rfl) ?_
  refine lv_iload_n hx hb dL_law_1373 rfl (lv_at hl 3 rfl) ?_
  refine lv_iconst (v := 4) hx hb dL_law_1374 (by decide) ?_
  refine lv_iadd hx hb dL_law_1375 ?_
  refine va_sld hx hb hX hbl hbA hS hin4 dL_law_1376 ?_
  refine lv_i2l hx hb dL_law_1377 rfl ?_
  refine lv_ldc2 hx hb hown (hts (Cond.constantLong RL 164 (4294967295)) lwm_1_6) dL_law_1378 ?_
  refine lv_land hx hb dL_law_1381 ?_
  refine lv_lor hx hb dL_law_1382 ?_
  refine lwL (q0 := 0) (ci := 5) hx hb hml hown hts (envL_ok ut sa sb) hE hK hfX hPX hPM (fun k q hq j hj e => hdj j k hj (at_fst (a := aM) (N := 16) (ws := wM aM cI cJ cS msv mkep mbef misk mfnd mman mnex mwor msng mhea mlat mtap mtpd mher mflt mvlu mbit mlon mcel mbtw) rfl k q hq).1 (e.symm.trans (at_fst (a := aM) (N := 16) (ws := wM aM cI cJ cS msv mkep mbef misk mfnd mman mnex mwor msng mhea mlat mtap mtpd mher mflt mvlu mbit mlon mcel mbtw) rfl k q hq).2)) hS (kX5_write l D aX cI cJ cS hdX (envL_ok ut sa sb) par kin lea mos wrt tal siz tol hrs ags yea kpar kkin klea kmos kwrt ktal ksiz ktol khrs kags kyea isk tly gai bes low hig spn byt hld sta beh sor num fnd sbi she snu (xs (nI i + 1).toNatClampNeg) (xs (nI i + 2).toNatClampNeg) (((xs (nI i + 3).toNatClampNeg).toInt64 <<< (((32 : Int32)).toInt64 &&& 63)) ||| ((xs (nI i + 4).toNatClampNeg).toInt64 &&& ((4294967295) : Int64))) rx ex) gT_X5_write rfl hdX5_write rfl rfl rfl ⟨rfl, rfl⟩ ⟨Nat.le_of_ble_eq_true rfl, Nat.le_of_ble_eq_true rfl⟩ ⟨Nat.le_refl _, Nat.le_refl _⟩ rfl hl.1 rfl (Nat.le_of_ble_eq_true rfl) dL_law_1383 (fun H locs hPX hPM hS => ?_)
  refine lv_aload_n hx hb dL_law_1386 rfl (lv_at hl 2 rfl) ?_
  refine lv_aload_n hx hb dL_law_1387 rfl (lv_at hl 0 rfl) ?_
  refine lv_iload_n hx hb dL_law_1388 rfl (lv_at hl 3 rfl) ?_
  refine lv_iconst (v := 1) hx hb dL_law_1389 (by decide) ?_
  refine lv_iadd hx hb dL_law_1390 ?_
  refine va_sld hx hb hX hbl hbA hS hin1 dL_law_1391 ?_
  refine lv_aload_n hx hb dL_law_1392 rfl (lv_at hl 0 rfl) ?_
  refine lv_iload_n hx hb dL_law_1393 rfl (lv_at hl 3 rfl) ?_
  refine lv_iconst (v := 2) hx hb dL_law_1394 (by decide) ?_
  refine lv_iadd hx hb dL_law_1395 ?_
  refine va_sld hx hb hX hbl hbA hS hin2 dL_law_1396 ?_
  refine lv_aload_n hx hb dL_law_1397 rfl (lv_at hl 0 rfl) ?_
  refine lv_iload_n hx hb dL_law_1398 rfl (lv_at hl 3 rfl) ?_
  refine lv_iconst (v := 3) hx hb dL_law_1399 (by decide) ?_
  refine lv_iadd hx hb dL_law_1400 ?_
  refine va_sld hx hb hX hbl hbA hS hin3 dL_law_1401 ?_
  refine lv_i2l hx hb dL_law_1402 rfl ?_
  refine lv_bipush (v := 32) hx hb dL_law_1403 (by decide) ?_
  refine lv_lshl hx hb dL_law_1405 rfl ?_
  refine lv_aload_n hx hb dL_law_1406 rfl (lv_at hl 0 rfl) ?_
  refine lv_iload_n hx hb dL_law_1407 rfl (lv_at hl 3 rfl) ?_
  refine lv_iconst (v := 4) hx hb dL_law_1408 (by decide) ?_
  refine lv_iadd hx hb dL_law_1409 ?_
  refine va_sld hx hb hX hbl hbA hS hin4 dL_law_1410 ?_
  refine lv_i2l hx hb dL_law_1411 rfl ?_
  refine lv_ldc2 hx hb hown (hts (Cond.constantLong RL 164 (4294967295)) lwm_1_6) dL_law_1412 ?_
  refine lv_land hx hb dL_law_1415 ?_
  refine lv_lor hx hb dL_law_1416 ?_
  refine lwL (q0 := 0) (ci := 6) hx hb hml hown hts (envL_ok ut sa sb) hE hK hfM hPM hPX (fun k q hq j hj e => hdj k j (at_fst (a := aX) (N := 36) (ws := wX aX cI cJ cS par kin lea mos wrt tal siz tol hrs ags yea kpar kkin klea kmos kwrt ktal ksiz ktol khrs kags kyea isk tly gai bes low hig spn byt hld sta beh sor num rx.2.1 sbi she rx.2.2) rfl k q hq).1 hj ((at_fst (a := aX) (N := 36) (ws := wX aX cI cJ cS par kin lea mos wrt tal siz tol hrs ags yea kpar kkin klea kmos kwrt ktal ksiz ktol khrs kags kyea isk tly gai bes low hig spn byt hld sta beh sor num rx.2.1 sbi she rx.2.2) rfl k q hq).2.symm.trans e)) hS (kX6_write l D aM cI cJ cS hdM (envL_ok ut sa sb) msv mkep mbef misk mfnd mman mnex mwor msng mhea mlat mtap mtpd mher mflt mvlu mbit mlon mcel mbtw (xs (nI i + 1).toNatClampNeg) (xs (nI i + 2).toNatClampNeg) (((xs (nI i + 3).toNatClampNeg).toInt64 <<< (((32 : Int32)).toInt64 &&& 63)) ||| ((xs (nI i + 4).toNatClampNeg).toInt64 &&& ((4294967295) : Int64))) rm em) gT_X6_write rfl hdX6_write rfl rfl rfl ⟨rfl, rfl⟩ ⟨Nat.le_of_ble_eq_true rfl, Nat.le_of_ble_eq_true rfl⟩ ⟨Nat.le_refl _, Nat.le_refl _⟩ rfl hl.1 rfl (Nat.le_of_ble_eq_true rfl) dL_law_1417 (fun H locs hPM hPX hS => ?_)
  refine W.lcmp hx hb dL_law_1420 ?_
  refine lv_if_eq (tgt := 1683) hx hb dL_law_1421 (by decide) (fun _ => ?_) (fun c => absurd (by rw [er]; exact lg_cmp_same _) c)
  refine lv_iinc (v := nI i + 6) (lv' := [(3, .int (nI i + 6)), (0, .ref b), (1, .ref (aX 0)), (2, .ref (aM 0))]) hx hb dL_law_1683 hl (k := 3) rfl (congrArg (fun z => nI i + z) (by decide)) (by decide) rfl (fun ls hl => ?_)
  refine lv_goto (tgt := 18) hx hb dL_law_1686 (by decide) ?_
  exact ih _ _ _ ⟨_, _, _, _, _, _, _, _, _, _, _, _, _, _, _, _, _, _, _, _, _, _, _, _, _, _, _, _, _, _, _, _, _, _, _, _, _, _, _, _, _, _, _, _, _, _, _, _, _, _, _, _, _, _, _, _, _, _, _, hPX, hPM, hRel⟩ hS (lv_sub hl [1, 2, 3, 0] rfl)
set_option maxHeartbeats 4000000 in
set_option maxRecDepth 100000 in
theorem law_c37 {p : Program} {l : Launch} {e : Jvm.Env} {s : State} {m : MethodId} {below : List Frame} {meth : Method} {c : Code} {b L : Nat} {xs : Nat → Int32} {D : va_G} {aX aM : Nat → Nat} {cI cJ cS : ClassId} {ut : Nat} {sa sb : Nat → Nat} (C1 : LC p s m meth c b L xs D aX aM cI cJ cS ut sa sb) (hL : L ≤ 3072) {i : Nat} (hi : i + 6 ≤ L)
    (ih : ∀ (H : Heap) (locs : List Loc) (ls : Array Slot), LInv D aX aM cI cJ cS H → va_S (fun q : Nat => s.heap.size ≤ q) s.heap H locs → lv_has ls 4 [(0, .ref b), (1, .ref (aX 0)), (2, .ref (aM 0)), (3, .int (nI i + 6))] → W p l e room_1 s m #[Value.ref b] below meth c H locs 600000 7302250 (lw_Z below #[Value.ref b] s) (F0 m 18 ls [])) {H : Heap} {locs : List Loc} {ls : Array Slot} (hI : LInv D aX aM cI cJ cS H) (hS : va_S (fun q : Nat => s.heap.size ≤ q) s.heap H locs) (hl : lv_has ls 4 [(0, .ref b), (1, .ref (aX 0)), (2, .ref (aM 0)), (3, .int (nI i))]) : W p l e room_1 s m #[Value.ref b] below meth c H locs 600000 7302250 (lw_Z below #[Value.ref b] s) (F0 m 1426 ls []) := by
  obtain ⟨⟨hx, hb, hml, hown, hts, hX, hbl⟩, hK, hE, hdX, hdM, hfX, hfM, hdj⟩ := C1
  have hbA : ¬ (fun q : Nat => s.heap.size ≤ q) b := Nat.not_le.mpr hbl
  obtain ⟨par, kin, lea, mos, wrt, tal, siz, tol, hrs, ags, yea, kpar, kkin, klea, kmos, kwrt, ktal, ksiz, ktol, khrs, kags, kyea, isk, tly, gai, bes, low, hig, spn, byt, hld, sta, beh, sor, num, fnd, sbi, she, snu, msv, mkep, mbef, misk, mfnd, mman, mnex, mwor, msng, mhea, mlat, mtap, mtpd, mher, mflt, mvlu, mbit, mlon, mcel, mbtw, hPX, hPM, hRel⟩ := hI
  have hin1 : vp_in (nI i + 1) L := by rw [show (nI i + 1 : Int32) = nI (i + 1) from nI_add i 1]; exact vp_in_nI (by omega) (by omega)
  have hin2 : vp_in (nI i + 2) L := by rw [show (nI i + 2 : Int32) = nI (i + 2) from nI_add i 2]; exact vp_in_nI (by omega) (by omega)
  have hin3 : vp_in (nI i + 3) L := by rw [show (nI i + 3 : Int32) = nI (i + 3) from nI_add i 3]; exact vp_in_nI (by omega) (by omega)
  have hin4 : vp_in (nI i + 4) L := by rw [show (nI i + 4 : Int32) = nI (i + 4) from nI_add i 4]; exact vp_in_nI (by omega) (by omega)
  have hin5 : vp_in (nI i + 5) L := by rw [show (nI i + 5 : Int32) = nI (i + 5) from nI_add i 5]; exact vp_in_nI (by omega) (by omega)
  obtain ⟨rx, rm, ex, em, er, hRel⟩ := eq_copy hRel (xs (nI i + 1).toNatClampNeg) (xs (nI i + 2).toNatClampNeg) (xs (nI i + 3).toNatClampNeg) (xs (nI i + 4).toNatClampNeg) (xs (nI i + 5).toNatClampNeg)
  refine lv_aload_n hx hb dL_law_1426 rfl (lv_at hl 1 rfl) ?_
  refine lv_aload_n hx hb dL_law_1427 rfl (lv_at hl 0 rfl) ?_
  refine lv_iload_n hx hb dL_law_1428 rfl (lv_at hl 3 rfl) ?_
  refine lv_iconst (v := 1) hx hb dL_law_1429 (by decide) ?_
  refine lv_iadd hx hb dL_law_1430 ?_
  refine va_sld hx hb hX hbl hbA hS hin1 dL_law_1431 ?_
  refine lv_aload_n hx hb dL_law_1432 rfl (lv_at hl 0 rfl) ?_
  refine lv_iload_n hx hb dL_law_1433 rfl (lv_at hl 3 rfl) ?_
  refine lv_iconst (v := 2) hx hb dL_law_1434 (by decide) ?_
  refine lv_iadd hx hb dL_law_1435 ?_
  refine va_sld hx hb hX hbl hbA hS hin2 dL_law_1436 ?_
  refine lv_aload_n hx hb dL_law_1437 rfl (lv_at hl 0 rfl) ?_
  refine lv_iload_n hx hb dL_law_1438 rfl (lv_at hl 3 rfl) ?_
  refine lv_iconst (v := 3) hx hb dL_law_1439 (by decide) ?_
  refine lv_iadd hx hb dL_law_1440 ?_
  refine va_sld hx hb hX hbl hbA hS hin3 dL_law_1441 ?_
  refine lv_aload_n hx hb dL_law_1442 rfl (lv_at hl 0 rfl) ?_
  refine lv_iload_n hx hb dL_law_1443 rfl (lv_at hl 3 rfl) ?_
  refine lv_iconst (v := 4) hx hb dL_law_1444 (by decide) ?_
  refine lv_iadd hx hb dL_law_1445 ?_
  refine va_sld hx hb hX hbl hbA hS hin4 dL_law_1446 ?_
  refine lv_aload_n hx hb dL_law_1447 rfl (lv_at hl 0 rfl) ?_
  refine lv_iload_n hx hb dL_law_1448 rfl (lv_at hl 3 rfl) ?_
  refine lv_iconst (v := 5) hx hb dL_law_1449 (by decide) ?_
  refine lv_iadd hx hb dL_law_1450 ?_
  refine va_sld hx hb hX hbl hbA hS hin5 dL_law_1451 ?_
  refine lwI (q0 := 0) (ci := 5) hx hb hml hown hts (envL_ok ut sa sb) hE hK hfX hPX hPM (fun k q hq j hj e => hdj j k hj (at_fst (a := aM) (N := 16) (ws := wM aM cI cJ cS msv mkep mbef misk mfnd mman mnex mwor msng mhea mlat mtap mtpd mher mflt mvlu mbit mlon mcel mbtw) rfl k q hq).1 (e.symm.trans (at_fst (a := aM) (N := 16) (ws := wM aM cI cJ cS msv mkep mbef misk mfnd mman mnex mwor msng mhea mlat mtap mtpd mher mflt mvlu mbit mlon mcel mbtw) rfl k q hq).2)) hS (kX5_copy l D aX cI cJ cS hdX (envL_ok ut sa sb) par kin lea mos wrt tal siz tol hrs ags yea kpar kkin klea kmos kwrt ktal ksiz ktol khrs kags kyea isk tly gai bes low hig spn byt hld sta beh sor num fnd sbi she snu (xs (nI i + 1).toNatClampNeg) (xs (nI i + 2).toNatClampNeg) (xs (nI i + 3).toNatClampNeg) (xs (nI i + 4).toNatClampNeg) (xs (nI i + 5).toNatClampNeg) rx ex) gT_X5_copy rfl hdX5_copy rfl rfl rfl ⟨rfl, rfl⟩ ⟨Nat.le_of_ble_eq_true rfl, Nat.le_of_ble_eq_true rfl⟩ ⟨Nat.le_refl _, Nat.le_refl _⟩ rfl hl.1 rfl (Nat.le_of_ble_eq_true rfl) dL_law_1452 (fun H locs hPX hPM hS => ?_)
  refine lv_aload_n hx hb dL_law_1455 rfl (lv_at hl 2 rfl) ?_
  refine lv_aload_n hx hb dL_law_1456 rfl (lv_at hl 0 rfl) ?_
  refine lv_iload_n hx hb dL_law_1457 rfl (lv_at hl 3 rfl) ?_
  refine lv_iconst (v := 1) hx hb dL_law_1458 (by decide) ?_
  refine lv_iadd hx hb dL_law_1459 ?_
  refine va_sld hx hb hX hbl hbA hS hin1 dL_law_1460 ?_
  refine lv_aload_n hx hb dL_law_1461 rfl (lv_at hl 0 rfl) ?_
  refine lv_iload_n hx hb dL_law_1462 rfl (lv_at hl 3 rfl) ?_
  refine lv_iconst (v := 2) hx hb dL_law_1463 (by decide) ?_
  refine lv_iadd hx hb dL_law_1464 ?_
  refine va_sld hx hb hX hbl hbA hS hin2 dL_law_1465 ?_
  refine lv_aload_n hx hb dL_law_1466 rfl (lv_at hl 0 rfl) ?_
  refine lv_iload_n hx hb dL_law_1467 rfl (lv_at hl 3 rfl) ?_
  refine lv_iconst (v := 3) hx hb dL_law_1468 (by decide) ?_
  refine lv_iadd hx hb dL_law_1469 ?_
  refine va_sld hx hb hX hbl hbA hS hin3 dL_law_1470 ?_
  refine lv_aload_n hx hb dL_law_1471 rfl (lv_at hl 0 rfl) ?_
  refine lv_iload_n hx hb dL_law_1472 rfl (lv_at hl 3 rfl) ?_
  refine lv_iconst (v := 4) hx hb dL_law_1473 (by decide) ?_
  refine lv_iadd hx hb dL_law_1474 ?_
  refine va_sld hx hb hX hbl hbA hS hin4 dL_law_1475 ?_
  refine lv_aload_n hx hb dL_law_1476 rfl (lv_at hl 0 rfl) ?_
  refine lv_iload_n hx hb dL_law_1477 rfl (lv_at hl 3 rfl) ?_
  refine lv_iconst (v := 5) hx hb dL_law_1478 (by decide) ?_
  refine lv_iadd hx hb dL_law_1479 ?_
  refine va_sld hx hb hX hbl hbA hS hin5 dL_law_1480 ?_
  refine lwI (q0 := 0) (ci := 6) hx hb hml hown hts (envL_ok ut sa sb) hE hK hfM hPM hPX (fun k q hq j hj e => hdj k j (at_fst (a := aX) (N := 36) (ws := wX aX cI cJ cS par kin lea mos wrt tal siz tol hrs ags yea kpar kkin klea kmos kwrt ktal ksiz ktol khrs kags kyea isk tly gai bes low hig spn byt hld sta beh sor num rx.2.1 sbi she rx.2.2) rfl k q hq).1 hj ((at_fst (a := aX) (N := 36) (ws := wX aX cI cJ cS par kin lea mos wrt tal siz tol hrs ags yea kpar kkin klea kmos kwrt ktal ksiz ktol khrs kags kyea isk tly gai bes low hig spn byt hld sta beh sor num rx.2.1 sbi she rx.2.2) rfl k q hq).2.symm.trans e)) hS (kX6_copy l D aM cI cJ cS hdM (envL_ok ut sa sb) msv mkep mbef misk mfnd mman mnex mwor msng mhea mlat mtap mtpd mher mflt mvlu mbit mlon mcel mbtw (xs (nI i + 1).toNatClampNeg) (xs (nI i + 2).toNatClampNeg) (xs (nI i + 3).toNatClampNeg) (xs (nI i + 4).toNatClampNeg) (xs (nI i + 5).toNatClampNeg) rm em) gT_X6_copy rfl hdX6_copy rfl rfl rfl ⟨rfl, rfl⟩ ⟨Nat.le_of_ble_eq_true rfl, Nat.le_of_ble_eq_true rfl⟩ ⟨Nat.le_refl _, Nat.le_refl _⟩ rfl hl.1 rfl (Nat.le_of_ble_eq_true rfl) dL_law_1481 (fun H locs hPM hPX hS => ?_)
  refine lv_icmp_eq (tgt := 1683) hx hb dL_law_1484 (by decide) (fun _ => ?_) (fun c => absurd er c)
  refine lv_iinc (v := nI i + 6) (lv' := [(3, .int (nI i + 6)), (0, .ref b), (1, .ref (aX 0)), (2, .ref (aM 0))]) hx hb dL_law_1683 hl (k := 3) rfl (congrArg (fun z => nI i + z) (by decide)) (by decide) rfl (fun ls hl => ?_)
  refine lv_goto (tgt := 18) hx hb dL_law_1686 (by decide) ?_
  exact ih _ _ _ ⟨_, _, _, _, _, _, _, _, _, _, _, _, _, _, _, _, _, _, _, _, _, _, _, _, _, _, _, _, _, _, _, _, _, _, _, _, _, _, _, _, _, _, _, _, _, _, _, _, _, _, _, _, _, _, _, _, _, _, _, hPX, hPM, hRel⟩ hS (lv_sub hl [1, 2, 3, 0] rfl)
set_option maxHeartbeats 4000000 in
set_option maxRecDepth 100000 in
theorem law_c38 {p : Program} {l : Launch} {e : Jvm.Env} {s : State} {m : MethodId} {below : List Frame} {meth : Method} {c : Code} {b L : Nat} {xs : Nat → Int32} {D : va_G} {aX aM : Nat → Nat} {cI cJ cS : ClassId} {ut : Nat} {sa sb : Nat → Nat} (C1 : LC p s m meth c b L xs D aX aM cI cJ cS ut sa sb) (hL : L ≤ 3072) {i : Nat} (hi : i + 6 ≤ L)
    (ih : ∀ (H : Heap) (locs : List Loc) (ls : Array Slot), LInv D aX aM cI cJ cS H → va_S (fun q : Nat => s.heap.size ≤ q) s.heap H locs → lv_has ls 4 [(0, .ref b), (1, .ref (aX 0)), (2, .ref (aM 0)), (3, .int (nI i + 6))] → W p l e room_1 s m #[Value.ref b] below meth c H locs 600000 7302250 (lw_Z below #[Value.ref b] s) (F0 m 18 ls [])) {H : Heap} {locs : List Loc} {ls : Array Slot} (hI : LInv D aX aM cI cJ cS H) (hS : va_S (fun q : Nat => s.heap.size ≤ q) s.heap H locs) (hl : lv_has ls 4 [(0, .ref b), (1, .ref (aX 0)), (2, .ref (aM 0)), (3, .int (nI i))]) : W p l e room_1 s m #[Value.ref b] below meth c H locs 600000 7302250 (lw_Z below #[Value.ref b] s) (F0 m 1489 ls []) := by
  obtain ⟨⟨hx, hb, hml, hown, hts, hX, hbl⟩, hK, hE, hdX, hdM, hfX, hfM, hdj⟩ := C1
  have hbA : ¬ (fun q : Nat => s.heap.size ≤ q) b := Nat.not_le.mpr hbl
  obtain ⟨par, kin, lea, mos, wrt, tal, siz, tol, hrs, ags, yea, kpar, kkin, klea, kmos, kwrt, ktal, ksiz, ktol, khrs, kags, kyea, isk, tly, gai, bes, low, hig, spn, byt, hld, sta, beh, sor, num, fnd, sbi, she, snu, msv, mkep, mbef, misk, mfnd, mman, mnex, mwor, msng, mhea, mlat, mtap, mtpd, mher, mflt, mvlu, mbit, mlon, mcel, mbtw, hPX, hPM, hRel⟩ := hI
  have hin1 : vp_in (nI i + 1) L := by rw [show (nI i + 1 : Int32) = nI (i + 1) from nI_add i 1]; exact vp_in_nI (by omega) (by omega)
  obtain ⟨rx, rm, ex, em, er, hRel⟩ := eq_lays hRel (xs (nI i + 1).toNatClampNeg)
  refine lv_aload_n hx hb dL_law_1489 rfl (lv_at hl 1 rfl) ?_
  refine lv_aload_n hx hb dL_law_1490 rfl (lv_at hl 0 rfl) ?_
  refine lv_iload_n hx hb dL_law_1491 rfl (lv_at hl 3 rfl) ?_
  refine lv_iconst (v := 1) hx hb dL_law_1492 (by decide) ?_
  refine lv_iadd hx hb dL_law_1493 ?_
  refine va_sld hx hb hX hbl hbA hS hin1 dL_law_1494 ?_
  refine lwI (q0 := 0) (ci := 5) hx hb hml hown hts (envL_ok ut sa sb) hE hK hfX hPX hPM (fun k q hq j hj e => hdj j k hj (at_fst (a := aM) (N := 16) (ws := wM aM cI cJ cS msv mkep mbef misk mfnd mman mnex mwor msng mhea mlat mtap mtpd mher mflt mvlu mbit mlon mcel mbtw) rfl k q hq).1 (e.symm.trans (at_fst (a := aM) (N := 16) (ws := wM aM cI cJ cS msv mkep mbef misk mfnd mman mnex mwor msng mhea mlat mtap mtpd mher mflt mvlu mbit mlon mcel mbtw) rfl k q hq).2)) hS (kX5_lays l D aX cI cJ cS hdX (envL_ok ut sa sb) par kin lea mos wrt tal siz tol hrs ags yea kpar kkin klea kmos kwrt ktal ksiz ktol khrs kags kyea isk tly gai bes low hig spn byt hld sta beh sor num fnd sbi she snu (xs (nI i + 1).toNatClampNeg) rx ex) gT_X5_lays rfl hdX5_lays rfl rfl rfl ⟨rfl, rfl⟩ ⟨Nat.le_of_ble_eq_true rfl, Nat.le_of_ble_eq_true rfl⟩ ⟨Nat.le_refl _, Nat.le_refl _⟩ rfl hl.1 rfl (Nat.le_of_ble_eq_true rfl) dL_law_1495 (fun H locs hPX hPM hS => ?_)
  refine lv_aload_n hx hb dL_law_1498 rfl (lv_at hl 2 rfl) ?_
  refine lv_aload_n hx hb dL_law_1499 rfl (lv_at hl 0 rfl) ?_
  refine lv_iload_n hx hb dL_law_1500 rfl (lv_at hl 3 rfl) ?_
  refine lv_iconst (v := 1) hx hb dL_law_1501 (by decide) ?_
  refine lv_iadd hx hb dL_law_1502 ?_
  refine va_sld hx hb hX hbl hbA hS hin1 dL_law_1503 ?_
  refine lwI (q0 := 0) (ci := 6) hx hb hml hown hts (envL_ok ut sa sb) hE hK hfM hPM hPX (fun k q hq j hj e => hdj k j (at_fst (a := aX) (N := 36) (ws := wX aX cI cJ cS par kin lea mos wrt tal siz tol hrs rx.2.1 yea kpar kkin klea kmos kwrt ktal ksiz ktol khrs kags kyea isk tly gai bes low hig spn byt hld sta beh sor num rx.2.2 sbi she snu) rfl k q hq).1 hj ((at_fst (a := aX) (N := 36) (ws := wX aX cI cJ cS par kin lea mos wrt tal siz tol hrs rx.2.1 yea kpar kkin klea kmos kwrt ktal ksiz ktol khrs kags kyea isk tly gai bes low hig spn byt hld sta beh sor num rx.2.2 sbi she snu) rfl k q hq).2.symm.trans e)) hS (kX6_lays l D aM cI cJ cS hdM (envL_ok ut sa sb) msv mkep mbef misk mfnd mman mnex mwor msng mhea mlat mtap mtpd mher mflt mvlu mbit mlon mcel mbtw (xs (nI i + 1).toNatClampNeg) rm em) gT_X6_lays rfl hdX6_lays rfl rfl rfl ⟨rfl, rfl⟩ ⟨Nat.le_of_ble_eq_true rfl, Nat.le_of_ble_eq_true rfl⟩ ⟨Nat.le_refl _, Nat.le_refl _⟩ rfl hl.1 rfl (Nat.le_of_ble_eq_true rfl) dL_law_1504 (fun H locs hPM hPX hS => ?_)
  refine lv_icmp_eq (tgt := 1683) hx hb dL_law_1507 (by decide) (fun _ => ?_) (fun c => absurd er c)
  refine lv_iinc (v := nI i + 6) (lv' := [(3, .int (nI i + 6)), (0, .ref b), (1, .ref (aX 0)), (2, .ref (aM 0))]) hx hb dL_law_1683 hl (k := 3) rfl (congrArg (fun z => nI i + z) (by decide)) (by decide) rfl (fun ls hl => ?_)
  refine lv_goto (tgt := 18) hx hb dL_law_1686 (by decide) ?_
  exact ih _ _ _ ⟨_, _, _, _, _, _, _, _, _, _, _, _, _, _, _, _, _, _, _, _, _, _, _, _, _, _, _, _, _, _, _, _, _, _, _, _, _, _, _, _, _, _, _, _, _, _, _, _, _, _, _, _, _, _, _, _, _, _, _, hPX, hPM, hRel⟩ hS (lv_sub hl [1, 2, 3, 0] rfl)
set_option maxHeartbeats 4000000 in
set_option maxRecDepth 100000 in
theorem law_c39 {p : Program} {l : Launch} {e : Jvm.Env} {s : State} {m : MethodId} {below : List Frame} {meth : Method} {c : Code} {b L : Nat} {xs : Nat → Int32} {D : va_G} {aX aM : Nat → Nat} {cI cJ cS : ClassId} {ut : Nat} {sa sb : Nat → Nat} (C1 : LC p s m meth c b L xs D aX aM cI cJ cS ut sa sb) (hL : L ≤ 3072) {i : Nat} (hi : i + 6 ≤ L)
    (ih : ∀ (H : Heap) (locs : List Loc) (ls : Array Slot), LInv D aX aM cI cJ cS H → va_S (fun q : Nat => s.heap.size ≤ q) s.heap H locs → lv_has ls 4 [(0, .ref b), (1, .ref (aX 0)), (2, .ref (aM 0)), (3, .int (nI i + 6))] → W p l e room_1 s m #[Value.ref b] below meth c H locs 600000 7302250 (lw_Z below #[Value.ref b] s) (F0 m 18 ls [])) {H : Heap} {locs : List Loc} {ls : Array Slot} (hI : LInv D aX aM cI cJ cS H) (hS : va_S (fun q : Nat => s.heap.size ≤ q) s.heap H locs) (hl : lv_has ls 4 [(0, .ref b), (1, .ref (aX 0)), (2, .ref (aM 0)), (3, .int (nI i))]) : W p l e room_1 s m #[Value.ref b] below meth c H locs 600000 7302250 (lw_Z below #[Value.ref b] s) (F0 m 1512 ls []) := by
  obtain ⟨⟨hx, hb, hml, hown, hts, hX, hbl⟩, hK, hE, hdX, hdM, hfX, hfM, hdj⟩ := C1
  have hbA : ¬ (fun q : Nat => s.heap.size ≤ q) b := Nat.not_le.mpr hbl
  obtain ⟨par, kin, lea, mos, wrt, tal, siz, tol, hrs, ags, yea, kpar, kkin, klea, kmos, kwrt, ktal, ksiz, ktol, khrs, kags, kyea, isk, tly, gai, bes, low, hig, spn, byt, hld, sta, beh, sor, num, fnd, sbi, she, snu, msv, mkep, mbef, misk, mfnd, mman, mnex, mwor, msng, mhea, mlat, mtap, mtpd, mher, mflt, mvlu, mbit, mlon, mcel, mbtw, hPX, hPM, hRel⟩ := hI
  have hin1 : vp_in (nI i + 1) L := by rw [show (nI i + 1 : Int32) = nI (i + 1) from nI_add i 1]; exact vp_in_nI (by omega) (by omega)
  have hin2 : vp_in (nI i + 2) L := by rw [show (nI i + 2 : Int32) = nI (i + 2) from nI_add i 2]; exact vp_in_nI (by omega) (by omega)
  have hin3 : vp_in (nI i + 3) L := by rw [show (nI i + 3 : Int32) = nI (i + 3) from nI_add i 3]; exact vp_in_nI (by omega) (by omega)
  obtain ⟨rx, rm, ex, em, er, hRel⟩ := eq_say hRel (xs (nI i + 1).toNatClampNeg) (xs (nI i + 2).toNatClampNeg) (xs (nI i + 3).toNatClampNeg)
  refine lv_aload_n hx hb dL_law_1512 rfl (lv_at hl 1 rfl) ?_
  refine lv_aload_n hx hb dL_law_1513 rfl (lv_at hl 0 rfl) ?_
  refine lv_iload_n hx hb dL_law_1514 rfl (lv_at hl 3 rfl) ?_
  refine lv_iconst (v := 1) hx hb dL_law_1515 (by decide) ?_
  refine lv_iadd hx hb dL_law_1516 ?_
  refine va_sld hx hb hX hbl hbA hS hin1 dL_law_1517 ?_
  refine lv_aload_n hx hb dL_law_1518 rfl (lv_at hl 0 rfl) ?_
  refine lv_iload_n hx hb dL_law_1519 rfl (lv_at hl 3 rfl) ?_
  refine lv_iconst (v := 2) hx hb dL_law_1520 (by decide) ?_
  refine lv_iadd hx hb dL_law_1521 ?_
  refine va_sld hx hb hX hbl hbA hS hin2 dL_law_1522 ?_
  refine lv_aload_n hx hb dL_law_1523 rfl (lv_at hl 0 rfl) ?_
  refine lv_iload_n hx hb dL_law_1524 rfl (lv_at hl 3 rfl) ?_
  refine lv_iconst (v := 3) hx hb dL_law_1525 (by decide) ?_
  refine lv_iadd hx hb dL_law_1526 ?_
  refine va_sld hx hb hX hbl hbA hS hin3 dL_law_1527 ?_
  refine lwI (q0 := 0) (ci := 5) hx hb hml hown hts (envL_ok ut sa sb) hE hK hfX hPX hPM (fun k q hq j hj e => hdj j k hj (at_fst (a := aM) (N := 16) (ws := wM aM cI cJ cS msv mkep mbef misk mfnd mman mnex mwor msng mhea mlat mtap mtpd mher mflt mvlu mbit mlon mcel mbtw) rfl k q hq).1 (e.symm.trans (at_fst (a := aM) (N := 16) (ws := wM aM cI cJ cS msv mkep mbef misk mfnd mman mnex mwor msng mhea mlat mtap mtpd mher mflt mvlu mbit mlon mcel mbtw) rfl k q hq).2)) hS (kX5_say l D aX cI cJ cS hdX (envL_ok ut sa sb) par kin lea mos wrt tal siz tol hrs ags yea kpar kkin klea kmos kwrt ktal ksiz ktol khrs kags kyea isk tly gai bes low hig spn byt hld sta beh sor num fnd sbi she snu (xs (nI i + 1).toNatClampNeg) (xs (nI i + 2).toNatClampNeg) (xs (nI i + 3).toNatClampNeg) rx ex) gT_X5_say rfl hdX5_say rfl rfl rfl ⟨rfl, rfl⟩ ⟨Nat.le_of_ble_eq_true rfl, Nat.le_of_ble_eq_true rfl⟩ ⟨Nat.le_refl _, Nat.le_refl _⟩ rfl hl.1 rfl (Nat.le_of_ble_eq_true rfl) dL_law_1528 (fun H locs hPX hPM hS => ?_)
  refine lv_aload_n hx hb dL_law_1531 rfl (lv_at hl 2 rfl) ?_
  refine lv_aload_n hx hb dL_law_1532 rfl (lv_at hl 0 rfl) ?_
  refine lv_iload_n hx hb dL_law_1533 rfl (lv_at hl 3 rfl) ?_
  refine lv_iconst (v := 1) hx hb dL_law_1534 (by decide) ?_
  refine lv_iadd hx hb dL_law_1535 ?_
  refine va_sld hx hb hX hbl hbA hS hin1 dL_law_1536 ?_
  refine lv_aload_n hx hb dL_law_1537 rfl (lv_at hl 0 rfl) ?_
  refine lv_iload_n hx hb dL_law_1538 rfl (lv_at hl 3 rfl) ?_
  refine lv_iconst (v := 2) hx hb dL_law_1539 (by decide) ?_
  refine lv_iadd hx hb dL_law_1540 ?_
  refine va_sld hx hb hX hbl hbA hS hin2 dL_law_1541 ?_
  refine lv_aload_n hx hb dL_law_1542 rfl (lv_at hl 0 rfl) ?_
  refine lv_iload_n hx hb dL_law_1543 rfl (lv_at hl 3 rfl) ?_
  refine lv_iconst (v := 3) hx hb dL_law_1544 (by decide) ?_
  refine lv_iadd hx hb dL_law_1545 ?_
  refine va_sld hx hb hX hbl hbA hS hin3 dL_law_1546 ?_
  refine lwI (q0 := 0) (ci := 6) hx hb hml hown hts (envL_ok ut sa sb) hE hK hfM hPM hPX (fun k q hq j hj e => hdj k j (at_fst (a := aX) (N := 36) (ws := wX aX cI cJ cS par kin lea mos wrt tal siz tol hrs ags yea kpar kkin klea kmos kwrt ktal ksiz ktol khrs kags kyea isk tly rx.2.1 rx.2.2.1 low hig spn byt hld sta beh sor num rx.2.2.2.1 sbi she rx.2.2.2.2) rfl k q hq).1 hj ((at_fst (a := aX) (N := 36) (ws := wX aX cI cJ cS par kin lea mos wrt tal siz tol hrs ags yea kpar kkin klea kmos kwrt ktal ksiz ktol khrs kags kyea isk tly rx.2.1 rx.2.2.1 low hig spn byt hld sta beh sor num rx.2.2.2.1 sbi she rx.2.2.2.2) rfl k q hq).2.symm.trans e)) hS (kX6_say l D aM cI cJ cS hdM (envL_ok ut sa sb) msv mkep mbef misk mfnd mman mnex mwor msng mhea mlat mtap mtpd mher mflt mvlu mbit mlon mcel mbtw (xs (nI i + 1).toNatClampNeg) (xs (nI i + 2).toNatClampNeg) (xs (nI i + 3).toNatClampNeg) rm em) gT_X6_say rfl hdX6_say rfl rfl rfl ⟨rfl, rfl⟩ ⟨Nat.le_of_ble_eq_true rfl, Nat.le_of_ble_eq_true rfl⟩ ⟨Nat.le_refl _, Nat.le_refl _⟩ rfl hl.1 rfl (Nat.le_of_ble_eq_true rfl) dL_law_1547 (fun H locs hPM hPX hS => ?_)
  refine lv_icmp_eq (tgt := 1683) hx hb dL_law_1550 (by decide) (fun _ => ?_) (fun c => absurd er c)
  refine lv_iinc (v := nI i + 6) (lv' := [(3, .int (nI i + 6)), (0, .ref b), (1, .ref (aX 0)), (2, .ref (aM 0))]) hx hb dL_law_1683 hl (k := 3) rfl (congrArg (fun z => nI i + z) (by decide)) (by decide) rfl (fun ls hl => ?_)
  refine lv_goto (tgt := 18) hx hb dL_law_1686 (by decide) ?_
  exact ih _ _ _ ⟨_, _, _, _, _, _, _, _, _, _, _, _, _, _, _, _, _, _, _, _, _, _, _, _, _, _, _, _, _, _, _, _, _, _, _, _, _, _, _, _, _, _, _, _, _, _, _, _, _, _, _, _, _, _, _, _, _, _, _, hPX, hPM, hRel⟩ hS (lv_sub hl [1, 2, 3, 0] rfl)
set_option maxHeartbeats 4000000 in
set_option maxRecDepth 100000 in
theorem law_c40 {p : Program} {l : Launch} {e : Jvm.Env} {s : State} {m : MethodId} {below : List Frame} {meth : Method} {c : Code} {b L : Nat} {xs : Nat → Int32} {D : va_G} {aX aM : Nat → Nat} {cI cJ cS : ClassId} {ut : Nat} {sa sb : Nat → Nat} (C1 : LC p s m meth c b L xs D aX aM cI cJ cS ut sa sb) (hL : L ≤ 3072) {i : Nat} (hi : i + 6 ≤ L)
    (ih : ∀ (H : Heap) (locs : List Loc) (ls : Array Slot), LInv D aX aM cI cJ cS H → va_S (fun q : Nat => s.heap.size ≤ q) s.heap H locs → lv_has ls 4 [(0, .ref b), (1, .ref (aX 0)), (2, .ref (aM 0)), (3, .int (nI i + 6))] → W p l e room_1 s m #[Value.ref b] below meth c H locs 600000 7302250 (lw_Z below #[Value.ref b] s) (F0 m 18 ls [])) {H : Heap} {locs : List Loc} {ls : Array Slot} (hI : LInv D aX aM cI cJ cS H) (hS : va_S (fun q : Nat => s.heap.size ≤ q) s.heap H locs) (hl : lv_has ls 4 [(0, .ref b), (1, .ref (aX 0)), (2, .ref (aM 0)), (3, .int (nI i))]) : W p l e room_1 s m #[Value.ref b] below meth c H locs 600000 7302250 (lw_Z below #[Value.ref b] s) (F0 m 1555 ls []) := by
  obtain ⟨⟨hx, hb, hml, hown, hts, hX, hbl⟩, hK, hE, hdX, hdM, hfX, hfM, hdj⟩ := C1
  have hbA : ¬ (fun q : Nat => s.heap.size ≤ q) b := Nat.not_le.mpr hbl
  obtain ⟨par, kin, lea, mos, wrt, tal, siz, tol, hrs, ags, yea, kpar, kkin, klea, kmos, kwrt, ktal, ksiz, ktol, khrs, kags, kyea, isk, tly, gai, bes, low, hig, spn, byt, hld, sta, beh, sor, num, fnd, sbi, she, snu, msv, mkep, mbef, misk, mfnd, mman, mnex, mwor, msng, mhea, mlat, mtap, mtpd, mher, mflt, mvlu, mbit, mlon, mcel, mbtw, hPX, hPM, hRel⟩ := hI
  have hin1 : vp_in (nI i + 1) L := by rw [show (nI i + 1 : Int32) = nI (i + 1) from nI_add i 1]; exact vp_in_nI (by omega) (by omega)
  have hin2 : vp_in (nI i + 2) L := by rw [show (nI i + 2 : Int32) = nI (i + 2) from nI_add i 2]; exact vp_in_nI (by omega) (by omega)
  have hin3 : vp_in (nI i + 3) L := by rw [show (nI i + 3 : Int32) = nI (i + 3) from nI_add i 3]; exact vp_in_nI (by omega) (by omega)
  obtain ⟨rx, rm, ex, em, er, hRel⟩ := eq_read hRel (xs (nI i + 1).toNatClampNeg) (xs (nI i + 2).toNatClampNeg) (xs (nI i + 3).toNatClampNeg)
  refine lv_aload_n hx hb dL_law_1555 rfl (lv_at hl 1 rfl) ?_
  refine lv_aload_n hx hb dL_law_1556 rfl (lv_at hl 0 rfl) ?_
  refine lv_iload_n hx hb dL_law_1557 rfl (lv_at hl 3 rfl) ?_
  refine lv_iconst (v := 1) hx hb dL_law_1558 (by decide) ?_
  refine lv_iadd hx hb dL_law_1559 ?_
  refine va_sld hx hb hX hbl hbA hS hin1 dL_law_1560 ?_
  refine lv_aload_n hx hb dL_law_1561 rfl (lv_at hl 0 rfl) ?_
  refine lv_iload_n hx hb dL_law_1562 rfl (lv_at hl 3 rfl) ?_
  refine lv_iconst (v := 2) hx hb dL_law_1563 (by decide) ?_
  refine lv_iadd hx hb dL_law_1564 ?_
  refine va_sld hx hb hX hbl hbA hS hin2 dL_law_1565 ?_
  refine lv_aload_n hx hb dL_law_1566 rfl (lv_at hl 0 rfl) ?_
  refine lv_iload_n hx hb dL_law_1567 rfl (lv_at hl 3 rfl) ?_
  refine lv_iconst (v := 3) hx hb dL_law_1568 (by decide) ?_
  refine lv_iadd hx hb dL_law_1569 ?_
  refine va_sld hx hb hX hbl hbA hS hin3 dL_law_1570 ?_
  refine lwI (q0 := 0) (ci := 5) hx hb hml hown hts (envL_ok ut sa sb) hE hK hfX hPX hPM (fun k q hq j hj e => hdj j k hj (at_fst (a := aM) (N := 16) (ws := wM aM cI cJ cS msv mkep mbef misk mfnd mman mnex mwor msng mhea mlat mtap mtpd mher mflt mvlu mbit mlon mcel mbtw) rfl k q hq).1 (e.symm.trans (at_fst (a := aM) (N := 16) (ws := wM aM cI cJ cS msv mkep mbef misk mfnd mman mnex mwor msng mhea mlat mtap mtpd mher mflt mvlu mbit mlon mcel mbtw) rfl k q hq).2)) hS (kX5_read l D aX cI cJ cS hdX (envL_ok ut sa sb) par kin lea mos wrt tal siz tol hrs ags yea kpar kkin klea kmos kwrt ktal ksiz ktol khrs kags kyea isk tly gai bes low hig spn byt hld sta beh sor num fnd sbi she snu (xs (nI i + 1).toNatClampNeg) (xs (nI i + 2).toNatClampNeg) (xs (nI i + 3).toNatClampNeg) rx ex) gT_X5_read rfl hdX5_read rfl rfl rfl ⟨rfl, rfl⟩ ⟨Nat.le_of_ble_eq_true rfl, Nat.le_of_ble_eq_true rfl⟩ ⟨Nat.le_refl _, Nat.le_refl _⟩ rfl hl.1 rfl (Nat.le_of_ble_eq_true rfl) dL_law_1571 (fun H locs hPX hPM hS => ?_)
  refine lv_aload_n hx hb dL_law_1574 rfl (lv_at hl 2 rfl) ?_
  refine lv_aload_n hx hb dL_law_1575 rfl (lv_at hl 0 rfl) ?_
  refine lv_iload_n hx hb dL_law_1576 rfl (lv_at hl 3 rfl) ?_
  refine lv_iconst (v := 1) hx hb dL_law_1577 (by decide) ?_
  refine lv_iadd hx hb dL_law_1578 ?_
  refine va_sld hx hb hX hbl hbA hS hin1 dL_law_1579 ?_
  refine lv_aload_n hx hb dL_law_1580 rfl (lv_at hl 0 rfl) ?_
  refine lv_iload_n hx hb dL_law_1581 rfl (lv_at hl 3 rfl) ?_
  refine lv_iconst (v := 2) hx hb dL_law_1582 (by decide) ?_
  refine lv_iadd hx hb dL_law_1583 ?_
  refine va_sld hx hb hX hbl hbA hS hin2 dL_law_1584 ?_
  refine lv_aload_n hx hb dL_law_1585 rfl (lv_at hl 0 rfl) ?_
  refine lv_iload_n hx hb dL_law_1586 rfl (lv_at hl 3 rfl) ?_
  refine lv_iconst (v := 3) hx hb dL_law_1587 (by decide) ?_
  refine lv_iadd hx hb dL_law_1588 ?_
  refine va_sld hx hb hX hbl hbA hS hin3 dL_law_1589 ?_
  refine lwI (q0 := 0) (ci := 6) hx hb hml hown hts (envL_ok ut sa sb) hE hK hfM hPM hPX (fun k q hq j hj e => hdj k j (at_fst (a := aX) (N := 36) (ws := wX aX cI cJ cS par kin lea mos wrt tal siz tol hrs ags yea kpar kkin klea kmos kwrt ktal ksiz ktol khrs kags kyea isk tly gai bes low hig spn byt hld sta beh sor num rx.2 sbi she snu) rfl k q hq).1 hj ((at_fst (a := aX) (N := 36) (ws := wX aX cI cJ cS par kin lea mos wrt tal siz tol hrs ags yea kpar kkin klea kmos kwrt ktal ksiz ktol khrs kags kyea isk tly gai bes low hig spn byt hld sta beh sor num rx.2 sbi she snu) rfl k q hq).2.symm.trans e)) hS (kX6_read l D aM cI cJ cS hdM (envL_ok ut sa sb) msv mkep mbef misk mfnd mman mnex mwor msng mhea mlat mtap mtpd mher mflt mvlu mbit mlon mcel mbtw (xs (nI i + 1).toNatClampNeg) (xs (nI i + 2).toNatClampNeg) (xs (nI i + 3).toNatClampNeg) rm em) gT_X6_read rfl hdX6_read rfl rfl rfl ⟨rfl, rfl⟩ ⟨Nat.le_of_ble_eq_true rfl, Nat.le_of_ble_eq_true rfl⟩ ⟨Nat.le_refl _, Nat.le_refl _⟩ rfl hl.1 rfl (Nat.le_of_ble_eq_true rfl) dL_law_1590 (fun H locs hPM hPX hS => ?_)
  refine lv_icmp_eq (tgt := 1683) hx hb dL_law_1593 (by decide) (fun _ => ?_) (fun c => absurd er c)
  refine lv_iinc (v := nI i + 6) (lv' := [(3, .int (nI i + 6)), (0, .ref b), (1, .ref (aX 0)), (2, .ref (aM 0))]) hx hb dL_law_1683 hl (k := 3) rfl (congrArg (fun z => nI i + z) (by decide)) (by decide) rfl (fun ls hl => ?_)
  refine lv_goto (tgt := 18) hx hb dL_law_1686 (by decide) ?_
  exact ih _ _ _ ⟨_, _, _, _, _, _, _, _, _, _, _, _, _, _, _, _, _, _, _, _, _, _, _, _, _, _, _, _, _, _, _, _, _, _, _, _, _, _, _, _, _, _, _, _, _, _, _, _, _, _, _, _, _, _, _, _, _, _, _, hPX, hPM, hRel⟩ hS (lv_sub hl [1, 2, 3, 0] rfl)
set_option maxHeartbeats 4000000 in
set_option maxRecDepth 100000 in
theorem law_c41 {p : Program} {l : Launch} {e : Jvm.Env} {s : State} {m : MethodId} {below : List Frame} {meth : Method} {c : Code} {b L : Nat} {xs : Nat → Int32} {D : va_G} {aX aM : Nat → Nat} {cI cJ cS : ClassId} {ut : Nat} {sa sb : Nat → Nat} (C1 : LC p s m meth c b L xs D aX aM cI cJ cS ut sa sb) (hL : L ≤ 3072) {i : Nat} (hi : i + 6 ≤ L)
    (ih : ∀ (H : Heap) (locs : List Loc) (ls : Array Slot), LInv D aX aM cI cJ cS H → va_S (fun q : Nat => s.heap.size ≤ q) s.heap H locs → lv_has ls 4 [(0, .ref b), (1, .ref (aX 0)), (2, .ref (aM 0)), (3, .int (nI i + 6))] → W p l e room_1 s m #[Value.ref b] below meth c H locs 600000 7302250 (lw_Z below #[Value.ref b] s) (F0 m 18 ls [])) {H : Heap} {locs : List Loc} {ls : Array Slot} (hI : LInv D aX aM cI cJ cS H) (hS : va_S (fun q : Nat => s.heap.size ≤ q) s.heap H locs) (hl : lv_has ls 4 [(0, .ref b), (1, .ref (aX 0)), (2, .ref (aM 0)), (3, .int (nI i))]) : W p l e room_1 s m #[Value.ref b] below meth c H locs 600000 7302250 (lw_Z below #[Value.ref b] s) (F0 m 1598 ls []) := by
  obtain ⟨⟨hx, hb, hml, hown, hts, hX, hbl⟩, hK, hE, hdX, hdM, hfX, hfM, hdj⟩ := C1
  have hbA : ¬ (fun q : Nat => s.heap.size ≤ q) b := Nat.not_le.mpr hbl
  obtain ⟨par, kin, lea, mos, wrt, tal, siz, tol, hrs, ags, yea, kpar, kkin, klea, kmos, kwrt, ktal, ksiz, ktol, khrs, kags, kyea, isk, tly, gai, bes, low, hig, spn, byt, hld, sta, beh, sor, num, fnd, sbi, she, snu, msv, mkep, mbef, misk, mfnd, mman, mnex, mwor, msng, mhea, mlat, mtap, mtpd, mher, mflt, mvlu, mbit, mlon, mcel, mbtw, hPX, hPM, hRel⟩ := hI
  obtain ⟨rx, rm, ex, em, er, hRel⟩ := eq_image hRel 
  refine lv_aload_n hx hb dL_law_1598 rfl (lv_at hl 1 rfl) ?_
  refine lwI (q0 := 0) (ci := 5) hx hb hml hown hts (envL_ok ut sa sb) hE hK hfX hPX hPM (fun k q hq j hj e => hdj j k hj (at_fst (a := aM) (N := 16) (ws := wM aM cI cJ cS msv mkep mbef misk mfnd mman mnex mwor msng mhea mlat mtap mtpd mher mflt mvlu mbit mlon mcel mbtw) rfl k q hq).1 (e.symm.trans (at_fst (a := aM) (N := 16) (ws := wM aM cI cJ cS msv mkep mbef misk mfnd mman mnex mwor msng mhea mlat mtap mtpd mher mflt mvlu mbit mlon mcel mbtw) rfl k q hq).2)) hS (kX5_image l D aX cI cJ cS hdX (envL_ok ut sa sb) par kin lea mos wrt tal siz tol hrs ags yea kpar kkin klea kmos kwrt ktal ksiz ktol khrs kags kyea isk tly gai bes low hig spn byt hld sta beh sor num fnd sbi she snu  rx ex) gT_X5_image rfl hdX5_image rfl rfl rfl ⟨rfl, rfl⟩ ⟨Nat.le_of_ble_eq_true rfl, Nat.le_of_ble_eq_true rfl⟩ ⟨Nat.le_refl _, Nat.le_refl _⟩ rfl hl.1 rfl (Nat.le_of_ble_eq_true rfl) dL_law_1599 (fun H locs hPX hPM hS => ?_)
  refine lv_aload_n hx hb dL_law_1602 rfl (lv_at hl 2 rfl) ?_
  refine lwI (q0 := 0) (ci := 6) hx hb hml hown hts (envL_ok ut sa sb) hE hK hfM hPM hPX (fun k q hq j hj e => hdj k j (at_fst (a := aX) (N := 36) (ws := wX aX cI cJ cS par kin lea mos wrt tal siz tol hrs ags yea rx.2.1 rx.2.2.1 rx.2.2.2.1 rx.2.2.2.2.1 rx.2.2.2.2.2.1 rx.2.2.2.2.2.2.1 rx.2.2.2.2.2.2.2.1 rx.2.2.2.2.2.2.2.2.1 rx.2.2.2.2.2.2.2.2.2.1 rx.2.2.2.2.2.2.2.2.2.2.1 rx.2.2.2.2.2.2.2.2.2.2.2.1 rx.2.2.2.2.2.2.2.2.2.2.2.2 tly gai bes low hig spn byt hld sta beh sor num fnd sbi she snu) rfl k q hq).1 hj ((at_fst (a := aX) (N := 36) (ws := wX aX cI cJ cS par kin lea mos wrt tal siz tol hrs ags yea rx.2.1 rx.2.2.1 rx.2.2.2.1 rx.2.2.2.2.1 rx.2.2.2.2.2.1 rx.2.2.2.2.2.2.1 rx.2.2.2.2.2.2.2.1 rx.2.2.2.2.2.2.2.2.1 rx.2.2.2.2.2.2.2.2.2.1 rx.2.2.2.2.2.2.2.2.2.2.1 rx.2.2.2.2.2.2.2.2.2.2.2.1 rx.2.2.2.2.2.2.2.2.2.2.2.2 tly gai bes low hig spn byt hld sta beh sor num fnd sbi she snu) rfl k q hq).2.symm.trans e)) hS (kX6_image l D aM cI cJ cS hdM (envL_ok ut sa sb) msv mkep mbef misk mfnd mman mnex mwor msng mhea mlat mtap mtpd mher mflt mvlu mbit mlon mcel mbtw  rm em) gT_X6_image rfl hdX6_image rfl rfl rfl ⟨rfl, rfl⟩ ⟨Nat.le_of_ble_eq_true rfl, Nat.le_of_ble_eq_true rfl⟩ ⟨Nat.le_refl _, Nat.le_refl _⟩ rfl hl.1 rfl (Nat.le_of_ble_eq_true rfl) dL_law_1603 (fun H locs hPM hPX hS => ?_)
  refine lv_icmp_eq (tgt := 1683) hx hb dL_law_1606 (by decide) (fun _ => ?_) (fun c => absurd er c)
  refine lv_iinc (v := nI i + 6) (lv' := [(3, .int (nI i + 6)), (0, .ref b), (1, .ref (aX 0)), (2, .ref (aM 0))]) hx hb dL_law_1683 hl (k := 3) rfl (congrArg (fun z => nI i + z) (by decide)) (by decide) rfl (fun ls hl => ?_)
  refine lv_goto (tgt := 18) hx hb dL_law_1686 (by decide) ?_
  exact ih _ _ _ ⟨_, _, _, _, _, _, _, _, _, _, _, _, _, _, _, _, _, _, _, _, _, _, _, _, _, _, _, _, _, _, _, _, _, _, _, _, _, _, _, _, _, _, _, _, _, _, _, _, _, _, _, _, _, _, _, _, _, _, _, hPX, hPM, hRel⟩ hS (lv_sub hl [1, 2, 3, 0] rfl)
set_option maxHeartbeats 4000000 in
set_option maxRecDepth 100000 in
theorem law_c42 {p : Program} {l : Launch} {e : Jvm.Env} {s : State} {m : MethodId} {below : List Frame} {meth : Method} {c : Code} {b L : Nat} {xs : Nat → Int32} {D : va_G} {aX aM : Nat → Nat} {cI cJ cS : ClassId} {ut : Nat} {sa sb : Nat → Nat} (C1 : LC p s m meth c b L xs D aX aM cI cJ cS ut sa sb) (hL : L ≤ 3072) {i : Nat} (hi : i + 6 ≤ L)
    (ih : ∀ (H : Heap) (locs : List Loc) (ls : Array Slot), LInv D aX aM cI cJ cS H → va_S (fun q : Nat => s.heap.size ≤ q) s.heap H locs → lv_has ls 4 [(0, .ref b), (1, .ref (aX 0)), (2, .ref (aM 0)), (3, .int (nI i + 6))] → W p l e room_1 s m #[Value.ref b] below meth c H locs 600000 7302250 (lw_Z below #[Value.ref b] s) (F0 m 18 ls [])) {H : Heap} {locs : List Loc} {ls : Array Slot} (hI : LInv D aX aM cI cJ cS H) (hS : va_S (fun q : Nat => s.heap.size ≤ q) s.heap H locs) (hl : lv_has ls 4 [(0, .ref b), (1, .ref (aX 0)), (2, .ref (aM 0)), (3, .int (nI i))]) : W p l e room_1 s m #[Value.ref b] below meth c H locs 600000 7302250 (lw_Z below #[Value.ref b] s) (F0 m 1611 ls []) := by
  obtain ⟨⟨hx, hb, hml, hown, hts, hX, hbl⟩, hK, hE, hdX, hdM, hfX, hfM, hdj⟩ := C1
  have hbA : ¬ (fun q : Nat => s.heap.size ≤ q) b := Nat.not_le.mpr hbl
  obtain ⟨par, kin, lea, mos, wrt, tal, siz, tol, hrs, ags, yea, kpar, kkin, klea, kmos, kwrt, ktal, ksiz, ktol, khrs, kags, kyea, isk, tly, gai, bes, low, hig, spn, byt, hld, sta, beh, sor, num, fnd, sbi, she, snu, msv, mkep, mbef, misk, mfnd, mman, mnex, mwor, msng, mhea, mlat, mtap, mtpd, mher, mflt, mvlu, mbit, mlon, mcel, mbtw, hPX, hPM, hRel⟩ := hI
  obtain ⟨rx, rm, ex, em, er, hRel⟩ := eq_undo hRel 
  refine lv_aload_n hx hb dL_law_1611 rfl (lv_at hl 1 rfl) ?_
  refine lwI (q0 := 0) (ci := 5) hx hb hml hown hts (envL_ok ut sa sb) hE hK hfX hPX hPM (fun k q hq j hj e => hdj j k hj (at_fst (a := aM) (N := 16) (ws := wM aM cI cJ cS msv mkep mbef misk mfnd mman mnex mwor msng mhea mlat mtap mtpd mher mflt mvlu mbit mlon mcel mbtw) rfl k q hq).1 (e.symm.trans (at_fst (a := aM) (N := 16) (ws := wM aM cI cJ cS msv mkep mbef misk mfnd mman mnex mwor msng mhea mlat mtap mtpd mher mflt mvlu mbit mlon mcel mbtw) rfl k q hq).2)) hS (kX5_undo l D aX cI cJ cS hdX (envL_ok ut sa sb) par kin lea mos wrt tal siz tol hrs ags yea kpar kkin klea kmos kwrt ktal ksiz ktol khrs kags kyea isk tly gai bes low hig spn byt hld sta beh sor num fnd sbi she snu  rx ex) gT_X5_undo rfl hdX5_undo rfl rfl rfl ⟨rfl, rfl⟩ ⟨Nat.le_of_ble_eq_true rfl, Nat.le_of_ble_eq_true rfl⟩ ⟨Nat.le_refl _, Nat.le_refl _⟩ rfl hl.1 rfl (Nat.le_of_ble_eq_true rfl) dL_law_1612 (fun H locs hPX hPM hS => ?_)
  refine lv_aload_n hx hb dL_law_1615 rfl (lv_at hl 2 rfl) ?_
  refine lwI (q0 := 0) (ci := 6) hx hb hml hown hts (envL_ok ut sa sb) hE hK hfM hPM hPX (fun k q hq j hj e => hdj k j (at_fst (a := aX) (N := 36) (ws := wX aX cI cJ cS rx.2.1 rx.2.2.1 rx.2.2.2.1 rx.2.2.2.2.1 rx.2.2.2.2.2.1 rx.2.2.2.2.2.2.1 rx.2.2.2.2.2.2.2.1 rx.2.2.2.2.2.2.2.2.1 rx.2.2.2.2.2.2.2.2.2.1 rx.2.2.2.2.2.2.2.2.2.2.1 rx.2.2.2.2.2.2.2.2.2.2.2.1 kpar kkin klea kmos kwrt ktal ksiz ktol khrs kags kyea isk tly gai bes low hig spn byt hld sta beh sor num rx.2.2.2.2.2.2.2.2.2.2.2.2 sbi she snu) rfl k q hq).1 hj ((at_fst (a := aX) (N := 36) (ws := wX aX cI cJ cS rx.2.1 rx.2.2.1 rx.2.2.2.1 rx.2.2.2.2.1 rx.2.2.2.2.2.1 rx.2.2.2.2.2.2.1 rx.2.2.2.2.2.2.2.1 rx.2.2.2.2.2.2.2.2.1 rx.2.2.2.2.2.2.2.2.2.1 rx.2.2.2.2.2.2.2.2.2.2.1 rx.2.2.2.2.2.2.2.2.2.2.2.1 kpar kkin klea kmos kwrt ktal ksiz ktol khrs kags kyea isk tly gai bes low hig spn byt hld sta beh sor num rx.2.2.2.2.2.2.2.2.2.2.2.2 sbi she snu) rfl k q hq).2.symm.trans e)) hS (kX6_undo l D aM cI cJ cS hdM (envL_ok ut sa sb) msv mkep mbef misk mfnd mman mnex mwor msng mhea mlat mtap mtpd mher mflt mvlu mbit mlon mcel mbtw  rm em) gT_X6_undo rfl hdX6_undo rfl rfl rfl ⟨rfl, rfl⟩ ⟨Nat.le_of_ble_eq_true rfl, Nat.le_of_ble_eq_true rfl⟩ ⟨Nat.le_refl _, Nat.le_refl _⟩ rfl hl.1 rfl (Nat.le_of_ble_eq_true rfl) dL_law_1616 (fun H locs hPM hPX hS => ?_)
  refine lv_icmp_eq (tgt := 1683) hx hb dL_law_1619 (by decide) (fun _ => ?_) (fun c => absurd er c)
  refine lv_iinc (v := nI i + 6) (lv' := [(3, .int (nI i + 6)), (0, .ref b), (1, .ref (aX 0)), (2, .ref (aM 0))]) hx hb dL_law_1683 hl (k := 3) rfl (congrArg (fun z => nI i + z) (by decide)) (by decide) rfl (fun ls hl => ?_)
  refine lv_goto (tgt := 18) hx hb dL_law_1686 (by decide) ?_
  exact ih _ _ _ ⟨_, _, _, _, _, _, _, _, _, _, _, _, _, _, _, _, _, _, _, _, _, _, _, _, _, _, _, _, _, _, _, _, _, _, _, _, _, _, _, _, _, _, _, _, _, _, _, _, _, _, _, _, _, _, _, _, _, _, _, hPX, hPM, hRel⟩ hS (lv_sub hl [1, 2, 3, 0] rfl)
set_option maxHeartbeats 4000000 in
set_option maxRecDepth 100000 in
theorem law_c43 {p : Program} {l : Launch} {e : Jvm.Env} {s : State} {m : MethodId} {below : List Frame} {meth : Method} {c : Code} {b L : Nat} {xs : Nat → Int32} {D : va_G} {aX aM : Nat → Nat} {cI cJ cS : ClassId} {ut : Nat} {sa sb : Nat → Nat} (C1 : LC p s m meth c b L xs D aX aM cI cJ cS ut sa sb) (hL : L ≤ 3072) {i : Nat} (hi : i + 6 ≤ L)
    (ih : ∀ (H : Heap) (locs : List Loc) (ls : Array Slot), LInv D aX aM cI cJ cS H → va_S (fun q : Nat => s.heap.size ≤ q) s.heap H locs → lv_has ls 4 [(0, .ref b), (1, .ref (aX 0)), (2, .ref (aM 0)), (3, .int (nI i + 6))] → W p l e room_1 s m #[Value.ref b] below meth c H locs 600000 7302250 (lw_Z below #[Value.ref b] s) (F0 m 18 ls [])) {H : Heap} {locs : List Loc} {ls : Array Slot} (hI : LInv D aX aM cI cJ cS H) (hS : va_S (fun q : Nat => s.heap.size ≤ q) s.heap H locs) (hl : lv_has ls 4 [(0, .ref b), (1, .ref (aX 0)), (2, .ref (aM 0)), (3, .int (nI i))]) : W p l e room_1 s m #[Value.ref b] below meth c H locs 600000 7302250 (lw_Z below #[Value.ref b] s) (F0 m 1624 ls []) := by
  obtain ⟨⟨hx, hb, hml, hown, hts, hX, hbl⟩, hK, hE, hdX, hdM, hfX, hfM, hdj⟩ := C1
  have hbA : ¬ (fun q : Nat => s.heap.size ≤ q) b := Nat.not_le.mpr hbl
  obtain ⟨par, kin, lea, mos, wrt, tal, siz, tol, hrs, ags, yea, kpar, kkin, klea, kmos, kwrt, ktal, ksiz, ktol, khrs, kags, kyea, isk, tly, gai, bes, low, hig, spn, byt, hld, sta, beh, sor, num, fnd, sbi, she, snu, msv, mkep, mbef, misk, mfnd, mman, mnex, mwor, msng, mhea, mlat, mtap, mtpd, mher, mflt, mvlu, mbit, mlon, mcel, mbtw, hPX, hPM, hRel⟩ := hI
  obtain ⟨rx, rm, ex, em, er, hRel⟩ := eq_tear hRel 
  subst ex
  subst em
  refine lv_aload_n hx hb dL_law_1624 rfl (lv_at hl 1 rfl) ?_
  refine lwI (q0 := 0) (ci := 5) hx hb hml hown hts (envL_ok ut sa sb) hE hK hfX hPX hPM (fun k q hq j hj e => hdj j k hj (at_fst (a := aM) (N := 16) (ws := wM aM cI cJ cS msv mkep mbef misk mfnd mman mnex mwor msng mhea mlat mtap mtpd mher mflt mvlu mbit mlon mcel mbtw) rfl k q hq).1 (e.symm.trans (at_fst (a := aM) (N := 16) (ws := wM aM cI cJ cS msv mkep mbef misk mfnd mman mnex mwor msng mhea mlat mtap mtpd mher mflt mvlu mbit mlon mcel mbtw) rfl k q hq).2)) hS (kX5_tear l D aX cI cJ cS hdX (envL_ok ut sa sb) par kin lea mos wrt tal siz tol hrs ags yea kpar kkin klea kmos kwrt ktal ksiz ktol khrs kags kyea isk tly gai bes low hig spn byt hld sta beh sor num fnd sbi she snu ) gT_X5_tear rfl hdX5_tear rfl rfl rfl ⟨rfl, rfl⟩ ⟨Nat.le_of_ble_eq_true rfl, Nat.le_of_ble_eq_true rfl⟩ ⟨Nat.le_refl _, Nat.le_refl _⟩ rfl hl.1 rfl (Nat.le_of_ble_eq_true rfl) dL_law_1625 (fun H locs hPX hPM hS => ?_)
  refine lv_aload_n hx hb dL_law_1628 rfl (lv_at hl 2 rfl) ?_
  refine lwI (q0 := 0) (ci := 6) hx hb hml hown hts (envL_ok ut sa sb) hE hK hfM hPM hPX (fun k q hq j hj e => hdj k j (at_fst (a := aX) (N := 36) (ws := wX aX cI cJ cS par kin lea mos wrt tal siz tol hrs ags yea kpar kkin klea kmos kwrt ktal ksiz ktol khrs kags kyea ((fX5_tear isk ).2) tly gai bes low hig spn byt hld sta beh sor num fnd sbi she snu) rfl k q hq).1 hj ((at_fst (a := aX) (N := 36) (ws := wX aX cI cJ cS par kin lea mos wrt tal siz tol hrs ags yea kpar kkin klea kmos kwrt ktal ksiz ktol khrs kags kyea ((fX5_tear isk ).2) tly gai bes low hig spn byt hld sta beh sor num fnd sbi she snu) rfl k q hq).2.symm.trans e)) hS (kX6_tear l D aM cI cJ cS hdM (envL_ok ut sa sb) msv mkep mbef misk mfnd mman mnex mwor msng mhea mlat mtap mtpd mher mflt mvlu mbit mlon mcel mbtw ) gT_X6_tear rfl hdX6_tear rfl rfl rfl ⟨rfl, rfl⟩ ⟨Nat.le_of_ble_eq_true rfl, Nat.le_of_ble_eq_true rfl⟩ ⟨Nat.le_refl _, Nat.le_refl _⟩ rfl hl.1 rfl (Nat.le_of_ble_eq_true rfl) dL_law_1629 (fun H locs hPM hPX hS => ?_)
  refine lv_icmp_eq (tgt := 1683) hx hb dL_law_1632 (by decide) (fun _ => ?_) (fun c => absurd er c)
  refine lv_iinc (v := nI i + 6) (lv' := [(3, .int (nI i + 6)), (0, .ref b), (1, .ref (aX 0)), (2, .ref (aM 0))]) hx hb dL_law_1683 hl (k := 3) rfl (congrArg (fun z => nI i + z) (by decide)) (by decide) rfl (fun ls hl => ?_)
  refine lv_goto (tgt := 18) hx hb dL_law_1686 (by decide) ?_
  exact ih _ _ _ ⟨_, _, _, _, _, _, _, _, _, _, _, _, _, _, _, _, _, _, _, _, _, _, _, _, _, _, _, _, _, _, _, _, _, _, _, _, _, _, _, _, _, _, _, _, _, _, _, _, _, _, _, _, _, _, _, _, _, _, _, hPX, hPM, hRel⟩ hS (lv_sub hl [1, 2, 3, 0] rfl)
set_option maxHeartbeats 4000000 in
set_option maxRecDepth 100000 in
theorem law_c44 {p : Program} {l : Launch} {e : Jvm.Env} {s : State} {m : MethodId} {below : List Frame} {meth : Method} {c : Code} {b L : Nat} {xs : Nat → Int32} {D : va_G} {aX aM : Nat → Nat} {cI cJ cS : ClassId} {ut : Nat} {sa sb : Nat → Nat} (C1 : LC p s m meth c b L xs D aX aM cI cJ cS ut sa sb) (hL : L ≤ 3072) {i : Nat} (hi : i + 6 ≤ L)
    (ih : ∀ (H : Heap) (locs : List Loc) (ls : Array Slot), LInv D aX aM cI cJ cS H → va_S (fun q : Nat => s.heap.size ≤ q) s.heap H locs → lv_has ls 4 [(0, .ref b), (1, .ref (aX 0)), (2, .ref (aM 0)), (3, .int (nI i + 6))] → W p l e room_1 s m #[Value.ref b] below meth c H locs 600000 7302250 (lw_Z below #[Value.ref b] s) (F0 m 18 ls [])) {H : Heap} {locs : List Loc} {ls : Array Slot} (hI : LInv D aX aM cI cJ cS H) (hS : va_S (fun q : Nat => s.heap.size ≤ q) s.heap H locs) (hl : lv_has ls 4 [(0, .ref b), (1, .ref (aX 0)), (2, .ref (aM 0)), (3, .int (nI i))]) : W p l e room_1 s m #[Value.ref b] below meth c H locs 600000 7302250 (lw_Z below #[Value.ref b] s) (F0 m 1637 ls []) := by
  obtain ⟨⟨hx, hb, hml, hown, hts, hX, hbl⟩, hK, hE, hdX, hdM, hfX, hfM, hdj⟩ := C1
  have hbA : ¬ (fun q : Nat => s.heap.size ≤ q) b := Nat.not_le.mpr hbl
  obtain ⟨par, kin, lea, mos, wrt, tal, siz, tol, hrs, ags, yea, kpar, kkin, klea, kmos, kwrt, ktal, ksiz, ktol, khrs, kags, kyea, isk, tly, gai, bes, low, hig, spn, byt, hld, sta, beh, sor, num, fnd, sbi, she, snu, msv, mkep, mbef, misk, mfnd, mman, mnex, mwor, msng, mhea, mlat, mtap, mtpd, mher, mflt, mvlu, mbit, mlon, mcel, mbtw, hPX, hPM, hRel⟩ := hI
  have hin1 : vp_in (nI i + 1) L := by rw [show (nI i + 1 : Int32) = nI (i + 1) from nI_add i 1]; exact vp_in_nI (by omega) (by omega)
  obtain ⟨rx, rm, ex, em, er, hRel⟩ := eq_count hRel (xs (nI i + 1).toNatClampNeg)
  refine lv_aload_n hx hb dL_law_1637 rfl (lv_at hl 1 rfl) ?_
  refine lv_aload_n hx hb dL_law_1638 rfl (lv_at hl 0 rfl) ?_
  refine lv_iload_n hx hb dL_law_1639 rfl (lv_at hl 3 rfl) ?_
  refine lv_iconst (v := 1) hx hb dL_law_1640 (by decide) ?_
  refine lv_iadd hx hb dL_law_1641 ?_
  refine va_sld hx hb hX hbl hbA hS hin1 dL_law_1642 ?_
  refine lwI (q0 := 0) (ci := 5) hx hb hml hown hts (envL_ok ut sa sb) hE hK hfX hPX hPM (fun k q hq j hj e => hdj j k hj (at_fst (a := aM) (N := 16) (ws := wM aM cI cJ cS msv mkep mbef misk mfnd mman mnex mwor msng mhea mlat mtap mtpd mher mflt mvlu mbit mlon mcel mbtw) rfl k q hq).1 (e.symm.trans (at_fst (a := aM) (N := 16) (ws := wM aM cI cJ cS msv mkep mbef misk mfnd mman mnex mwor msng mhea mlat mtap mtpd mher mflt mvlu mbit mlon mcel mbtw) rfl k q hq).2)) hS (kX5_count l D aX cI cJ cS hdX (envL_ok ut sa sb) par kin lea mos wrt tal siz tol hrs ags yea kpar kkin klea kmos kwrt ktal ksiz ktol khrs kags kyea isk tly gai bes low hig spn byt hld sta beh sor num fnd sbi she snu (xs (nI i + 1).toNatClampNeg) rx ex) gT_X5_count rfl hdX5_count rfl rfl rfl ⟨rfl, rfl⟩ ⟨Nat.le_of_ble_eq_true rfl, Nat.le_of_ble_eq_true rfl⟩ ⟨Nat.le_refl _, Nat.le_refl _⟩ rfl hl.1 rfl (Nat.le_of_ble_eq_true rfl) dL_law_1643 (fun H locs hPX hPM hS => ?_)
  refine lv_aload_n hx hb dL_law_1646 rfl (lv_at hl 2 rfl) ?_
  refine lv_aload_n hx hb dL_law_1647 rfl (lv_at hl 0 rfl) ?_
  refine lv_iload_n hx hb dL_law_1648 rfl (lv_at hl 3 rfl) ?_
  refine lv_iconst (v := 1) hx hb dL_law_1649 (by decide) ?_
  refine lv_iadd hx hb dL_law_1650 ?_
  refine va_sld hx hb hX hbl hbA hS hin1 dL_law_1651 ?_
  refine lwI (q0 := 0) (ci := 6) hx hb hml hown hts (envL_ok ut sa sb) hE hK hfM hPM hPX (fun k q hq j hj e => hdj k j (at_fst (a := aX) (N := 36) (ws := wX aX cI cJ cS par kin lea mos wrt tal siz tol hrs ags yea kpar kkin klea kmos kwrt ktal ksiz ktol khrs kags kyea isk tly gai bes low hig spn byt hld sta beh sor num rx.2 sbi she snu) rfl k q hq).1 hj ((at_fst (a := aX) (N := 36) (ws := wX aX cI cJ cS par kin lea mos wrt tal siz tol hrs ags yea kpar kkin klea kmos kwrt ktal ksiz ktol khrs kags kyea isk tly gai bes low hig spn byt hld sta beh sor num rx.2 sbi she snu) rfl k q hq).2.symm.trans e)) hS (kX6_count l D aM cI cJ cS hdM (envL_ok ut sa sb) msv mkep mbef misk mfnd mman mnex mwor msng mhea mlat mtap mtpd mher mflt mvlu mbit mlon mcel mbtw (xs (nI i + 1).toNatClampNeg) rm em) gT_X6_count rfl hdX6_count rfl rfl rfl ⟨rfl, rfl⟩ ⟨Nat.le_of_ble_eq_true rfl, Nat.le_of_ble_eq_true rfl⟩ ⟨Nat.le_refl _, Nat.le_refl _⟩ rfl hl.1 rfl (Nat.le_of_ble_eq_true rfl) dL_law_1652 (fun H locs hPM hPX hS => ?_)
  refine lv_icmp_eq (tgt := 1683) hx hb dL_law_1655 (by decide) (fun _ => ?_) (fun c => absurd er c)
  refine lv_iinc (v := nI i + 6) (lv' := [(3, .int (nI i + 6)), (0, .ref b), (1, .ref (aX 0)), (2, .ref (aM 0))]) hx hb dL_law_1683 hl (k := 3) rfl (congrArg (fun z => nI i + z) (by decide)) (by decide) rfl (fun ls hl => ?_)
  refine lv_goto (tgt := 18) hx hb dL_law_1686 (by decide) ?_
  exact ih _ _ _ ⟨_, _, _, _, _, _, _, _, _, _, _, _, _, _, _, _, _, _, _, _, _, _, _, _, _, _, _, _, _, _, _, _, _, _, _, _, _, _, _, _, _, _, _, _, _, _, _, _, _, _, _, _, _, _, _, _, _, _, _, hPX, hPM, hRel⟩ hS (lv_sub hl [1, 2, 3, 0] rfl)
set_option maxHeartbeats 4000000 in
set_option maxRecDepth 100000 in
theorem law_c45 {p : Program} {l : Launch} {e : Jvm.Env} {s : State} {m : MethodId} {below : List Frame} {meth : Method} {c : Code} {b L : Nat} {xs : Nat → Int32} {D : va_G} {aX aM : Nat → Nat} {cI cJ cS : ClassId} {ut : Nat} {sa sb : Nat → Nat} (C1 : LC p s m meth c b L xs D aX aM cI cJ cS ut sa sb) (hL : L ≤ 3072) {i : Nat} (hi : i + 6 ≤ L)
    (ih : ∀ (H : Heap) (locs : List Loc) (ls : Array Slot), LInv D aX aM cI cJ cS H → va_S (fun q : Nat => s.heap.size ≤ q) s.heap H locs → lv_has ls 4 [(0, .ref b), (1, .ref (aX 0)), (2, .ref (aM 0)), (3, .int (nI i + 6))] → W p l e room_1 s m #[Value.ref b] below meth c H locs 600000 7302250 (lw_Z below #[Value.ref b] s) (F0 m 18 ls [])) {H : Heap} {locs : List Loc} {ls : Array Slot} (hI : LInv D aX aM cI cJ cS H) (hS : va_S (fun q : Nat => s.heap.size ≤ q) s.heap H locs) (hl : lv_has ls 4 [(0, .ref b), (1, .ref (aX 0)), (2, .ref (aM 0)), (3, .int (nI i))]) : W p l e room_1 s m #[Value.ref b] below meth c H locs 600000 7302250 (lw_Z below #[Value.ref b] s) (F0 m 1660 ls []) := by
  obtain ⟨⟨hx, hb, hml, hown, hts, hX, hbl⟩, hK, hE, hdX, hdM, hfX, hfM, hdj⟩ := C1
  have hbA : ¬ (fun q : Nat => s.heap.size ≤ q) b := Nat.not_le.mpr hbl
  obtain ⟨par, kin, lea, mos, wrt, tal, siz, tol, hrs, ags, yea, kpar, kkin, klea, kmos, kwrt, ktal, ksiz, ktol, khrs, kags, kyea, isk, tly, gai, bes, low, hig, spn, byt, hld, sta, beh, sor, num, fnd, sbi, she, snu, msv, mkep, mbef, misk, mfnd, mman, mnex, mwor, msng, mhea, mlat, mtap, mtpd, mher, mflt, mvlu, mbit, mlon, mcel, mbtw, hPX, hPM, hRel⟩ := hI
  have hin1 : vp_in (nI i + 1) L := by rw [show (nI i + 1 : Int32) = nI (i + 1) from nI_add i 1]; exact vp_in_nI (by omega) (by omega)
  obtain ⟨rx, rm, ex, em, er, hRel⟩ := eq_status hRel (xs (nI i + 1).toNatClampNeg)
  refine lv_aload_n hx hb dL_law_1660 rfl (lv_at hl 1 rfl) ?_
  refine lv_aload_n hx hb dL_law_1661 rfl (lv_at hl 0 rfl) ?_
  refine lv_iload_n hx hb dL_law_1662 rfl (lv_at hl 3 rfl) ?_
  refine lv_iconst (v := 1) hx hb dL_law_1663 (by decide) ?_
  refine lv_iadd hx hb dL_law_1664 ?_
  refine va_sld hx hb hX hbl hbA hS hin1 dL_law_1665 ?_
  refine lwI (q0 := 0) (ci := 5) hx hb hml hown hts (envL_ok ut sa sb) hE hK hfX hPX hPM (fun k q hq j hj e => hdj j k hj (at_fst (a := aM) (N := 16) (ws := wM aM cI cJ cS msv mkep mbef misk mfnd mman mnex mwor msng mhea mlat mtap mtpd mher mflt mvlu mbit mlon mcel mbtw) rfl k q hq).1 (e.symm.trans (at_fst (a := aM) (N := 16) (ws := wM aM cI cJ cS msv mkep mbef misk mfnd mman mnex mwor msng mhea mlat mtap mtpd mher mflt mvlu mbit mlon mcel mbtw) rfl k q hq).2)) hS (kX5_status l D aX cI cJ cS hdX (envL_ok ut sa sb) par kin lea mos wrt tal siz tol hrs ags yea kpar kkin klea kmos kwrt ktal ksiz ktol khrs kags kyea isk tly gai bes low hig spn byt hld sta beh sor num fnd sbi she snu (xs (nI i + 1).toNatClampNeg) rx ex) gT_X5_status rfl hdX5_status rfl rfl rfl ⟨rfl, rfl⟩ ⟨Nat.le_of_ble_eq_true rfl, Nat.le_of_ble_eq_true rfl⟩ ⟨Nat.le_refl _, Nat.le_refl _⟩ rfl hl.1 rfl (Nat.le_of_ble_eq_true rfl) dL_law_1666 (fun H locs hPX hPM hS => ?_)
  refine lv_aload_n hx hb dL_law_1669 rfl (lv_at hl 2 rfl) ?_
  refine lv_aload_n hx hb dL_law_1670 rfl (lv_at hl 0 rfl) ?_
  refine lv_iload_n hx hb dL_law_1671 rfl (lv_at hl 3 rfl) ?_
  refine lv_iconst (v := 1) hx hb dL_law_1672 (by decide) ?_
  refine lv_iadd hx hb dL_law_1673 ?_
  refine va_sld hx hb hX hbl hbA hS hin1 dL_law_1674 ?_
  refine lwI (q0 := 0) (ci := 6) hx hb hml hown hts (envL_ok ut sa sb) hE hK hfM hPM hPX (fun k q hq j hj e => hdj k j (at_fst (a := aX) (N := 36) (ws := wX aX cI cJ cS par kin lea mos wrt tal siz tol hrs ags yea kpar kkin klea kmos kwrt ktal ksiz ktol khrs kags kyea isk tly gai bes low hig spn byt hld sta beh sor num rx.2 sbi she snu) rfl k q hq).1 hj ((at_fst (a := aX) (N := 36) (ws := wX aX cI cJ cS par kin lea mos wrt tal siz tol hrs ags yea kpar kkin klea kmos kwrt ktal ksiz ktol khrs kags kyea isk tly gai bes low hig spn byt hld sta beh sor num rx.2 sbi she snu) rfl k q hq).2.symm.trans e)) hS (kX6_status l D aM cI cJ cS hdM (envL_ok ut sa sb) msv mkep mbef misk mfnd mman mnex mwor msng mhea mlat mtap mtpd mher mflt mvlu mbit mlon mcel mbtw (xs (nI i + 1).toNatClampNeg) rm em) gT_X6_status rfl hdX6_status rfl rfl rfl ⟨rfl, rfl⟩ ⟨Nat.le_of_ble_eq_true rfl, Nat.le_of_ble_eq_true rfl⟩ ⟨Nat.le_refl _, Nat.le_refl _⟩ rfl hl.1 rfl (Nat.le_of_ble_eq_true rfl) dL_law_1675 (fun H locs hPM hPX hS => ?_)
  refine lv_icmp_eq (tgt := 1683) hx hb dL_law_1678 (by decide) (fun _ => ?_) (fun c => absurd er c)
  refine lv_iinc (v := nI i + 6) (lv' := [(3, .int (nI i + 6)), (0, .ref b), (1, .ref (aX 0)), (2, .ref (aM 0))]) hx hb dL_law_1683 hl (k := 3) rfl (congrArg (fun z => nI i + z) (by decide)) (by decide) rfl (fun ls hl => ?_)
  refine lv_goto (tgt := 18) hx hb dL_law_1686 (by decide) ?_
  exact ih _ _ _ ⟨_, _, _, _, _, _, _, _, _, _, _, _, _, _, _, _, _, _, _, _, _, _, _, _, _, _, _, _, _, _, _, _, _, _, _, _, _, _, _, _, _, _, _, _, _, _, _, _, _, _, _, _, _, _, _, _, _, _, _, hPX, hPM, hRel⟩ hS (lv_sub hl [1, 2, 3, 0] rfl)
