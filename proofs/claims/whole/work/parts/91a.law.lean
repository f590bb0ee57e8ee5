set_option maxHeartbeats 4000000 in
set_option maxRecDepth 100000 in
theorem law_c0 {p : Program} {l : Launch} {e : Jvm.Env} {s : State} {m : MethodId} {below : List Frame} {meth : Method} {c : Code} {b L : Nat} {xs : Nat → Int32} {D : va_G} {aX aM : Nat → Nat} {cI cJ cS : ClassId} {ut : Nat} {sa sb : Nat → Nat} (C1 : LC p s m meth c b L xs D aX aM cI cJ cS ut sa sb) (hL : L ≤ 3072) {i : Nat} (hi : i + 6 ≤ L)
    (ih : ∀ (H : Heap) (locs : List Loc) (ls : Array Slot), LInv D aX aM cI cJ cS H → va_S (fun q : Nat => s.heap.size ≤ q) s.heap H locs → lv_has ls 4 [(0, .ref b), (1, .ref (aX 0)), (2, .ref (aM 0)), (3, .int (nI i + 6))] → W p l e room_1 s m #[Value.ref b] below meth c H locs 600000 7302250 (lw_Z below #[Value.ref b] s) (F0 m 18 ls [])) {H : Heap} {locs : List Loc} {ls : Array Slot} (hI : LInv D aX aM cI cJ cS H) (hS : va_S (fun q : Nat => s.heap.size ≤ q) s.heap H locs) (hl : lv_has ls 4 [(0, .ref b), (1, .ref (aX 0)), (2, .ref (aM 0)), (3, .int (nI i))]) : W p l e room_1 s m #[Value.ref b] below meth c H locs 600000 7302250 (lw_Z below #[Value.ref b] s) (F0 m 232 ls []) := by
  obtain ⟨⟨hx, hb, hml, hown, hts, hX, hbl⟩, hK, hE, hdX, hdM, hfX, hfM, hdj⟩ := C1
  have hbA : ¬ (fun q : Nat => s.heap.size ≤ q) b := Nat.not_le.mpr hbl
  obtain ⟨par, kin, lea, mos, wrt, tal, siz, tol, hrs, ags, yea, kpar, kkin, klea, kmos, kwrt, ktal, ksiz, ktol, khrs, kags, kyea, isk, tly, gai, bes, low, hig, spn, byt, hld, sta, beh, sor, num, fnd, sbi, she, snu, msv, mkep, mbef, misk, mfnd, mman, mnex, mwor, msng, mhea, mlat, mtap, mtpd, mher, mflt, mvlu, mbit, mlon, mcel, mbtw, hPX, hPM, hRel⟩ := hI
  have hin1 : vp_in (nI i + 1) L := by rw [show (nI i + 1 : Int32) = nI (i + 1) from nI_add i 1]; exact vp_in_nI (by omega) (by omega)
  have hin2 : vp_in (nI i + 2) L := by rw [show (nI i + 2 : Int32) = nI (i + 2) from nI_add i 2]; exact vp_in_nI (by omega) (by omega)
  have hin3 : vp_in (nI i + 3) L := by rw [show (nI i + 3 : Int32) = nI (i + 3) from nI_add i 3]; exact vp_in_nI (by omega) (by omega)
  have hin4 : vp_in (nI i + 4) L := by rw [show (nI i + 4 : Int32) = nI (i + 4) from nI_add i 4]; exact vp_in_nI (by omega) (by omega)
  obtain ⟨rx, rm, ex, em, er, hRel⟩ := eq_part hRel (xs (nI i + 1).toNatClampNeg) (xs (nI i + 2).toNatClampNeg) (xs (nI i + 3).toNatClampNeg) (xs (nI i + 4).toNatClampNeg)
  refine lv_aload_n hx hb dL_law_232 rfl (lv_at hl 1 rfl) ?_
  refine lv_aload_n hx hb dL_law_233 rfl (lv_at hl 0 rfl) ?_
  refine lv_iload_n hx hb dL_law_234 rfl (lv_at hl 3 rfl) ?_
  refine lv_iconst (v := 1) hx hb dL_law_235 (by decide) ?_
  refine lv_iadd hx hb dL_law_236 ?_
  refine va_sld hx hb hX hbl hbA hS hin1 dL_law_237 ?_
  refine lv_aload_n hx hb dL_law_238 rfl (lv_at hl 0 rfl) ?_
  refine lv_iload_n hx hb dL_law_239 rfl (lv_at hl 3 rfl) ?_
  refine lv_iconst (v := 2) hx hb dL_law_240 (by decide) ?_
  refine lv_iadd hx hb dL_law_241 ?_
  refine va_sld hx hb hX hbl hbA hS hin2 dL_law_242 ?_
  refine lv_aload_n hx hb dL_law_243 rfl (lv_at hl 0 rfl) ?_
  refine lv_iload_n hx hb dL_law_244 rfl (lv_at hl 3 rfl) ?_
  refine lv_iconst (v := 3) hx hb dL_law_245 (by decide) ?_
  refine lv_iadd hx hb dL_law_246 ?_
  refine va_sld hx hb hX hbl hbA hS hin3 dL_law_247 ?_
  refine lv_aload_n hx hb dL_law_248 rfl (lv_at hl 0 rfl) ?_
  refine lv_iload_n hx hb dL_law_249 rfl (lv_at hl 3 rfl) ?_
  refine lv_iconst (v := 4) hx hb dL_law_250 (by decide) ?_
  refine lv_iadd hx hb dL_law_251 ?_
  refine va_sld hx hb hX hbl hbA hS hin4 dL_law_252 ?_
  refine lwI (q0 := 0) (ci := 5) hx hb hml hown hts (envL_ok ut sa sb) hE hK hfX hPX hPM (fun k q hq j hj e => hdj j k hj (at_fst (a := aM) (N := 16) (ws := wM aM cI cJ cS msv mkep mbef misk mfnd mman mnex mwor msng mhea mlat mtap mtpd mher mflt mvlu mbit mlon mcel mbtw) rfl k q hq).1 (e.symm.trans (at_fst (a := aM) (N := 16) (ws := wM aM cI cJ cS msv mkep mbef misk mfnd mman mnex mwor msng mhea mlat mtap mtpd mher mflt mvlu mbit mlon mcel mbtw) rfl k q hq).2)) hS (kX5_part l D aX cI cJ cS hdX (envL_ok ut sa sb) par kin lea mos wrt tal siz tol hrs ags yea kpar kkin klea kmos kwrt ktal ksiz ktol khrs kags kyea isk tly gai bes low hig spn byt hld sta beh sor num fnd sbi she snu (xs (nI i + 1).toNatClampNeg) (xs (nI i + 2).toNatClampNeg) (xs (nI i + 3).toNatClampNeg) (xs (nI i + 4).toNatClampNeg) rx ex) gT_X5_part rfl hdX5_part rfl rfl rfl ⟨rfl, rfl⟩ ⟨Nat.le_of_ble_eq_true rfl, Nat.le_of_ble_eq_true rfl⟩ ⟨Nat.le_refl _, Nat.le_refl _⟩ rfl hl.1 rfl (Nat.le_of_ble_eq_true rfl) dL_law_253 (fun H locs hPX hPM hS => ?_)
  refine lv_aload_n hx hb dL_law_256 rfl (lv_at hl 2 rfl) ?_
  refine lv_aload_n hx hb dL_law_257 rfl (lv_at hl 0 rfl) ?_
  refine lv_iload_n hx hb dL_law_258 rfl (lv_at hl 3 rfl) ?_
  refine lv_iconst (v := 1) hx hb dL_law_259 (by decide) ?_
  refine lv_iadd hx hb dL_law_260 ?_
  refine va_sld hx hb hX hbl hbA hS hin1 dL_law_261 ?_
  refine lv_aload_n hx hb dL_law_262 rfl (lv_at hl 0 rfl) ?_
  refine lv_iload_n hx hb dL_law_263 rfl (lv_at hl 3 rfl) ?_
  refine lv_iconst (v := 2) hx hb dL_law_264 (by decide) ?_
  refine lv_iadd hx hb dL_law_265 ?_
  refine va_sld hx hb hX hbl hbA hS hin2 dL_law_266 ?_
  refine lv_aload_n hx hb dL_law_267 rfl (lv_at hl 0 rfl) ?_
  refine lv_iload_n hx hb dL_law_268 rfl (lv_at hl 3 rfl) ?_
  refine lv_iconst (v := 3) hx hb dL_law_269 (by decide) ?_
  refine lv_iadd hx hb dL_law_270 ?_
  refine va_sld hx hb hX hbl hbA hS hin3 dL_law_271 ?_
  refine lv_aload_n hx hb dL_law_272 rfl (lv_at hl 0 rfl) ?_
  refine lv_iload_n hx hb dL_law_273 rfl (lv_at hl 3 rfl) ?_
  refine lv_iconst (v := 4) hx hb dL_law_274 (by decide) ?_
  refine lv_iadd hx hb dL_law_275 ?_
  refine va_sld hx hb hX hbl hbA hS hin4 dL_law_276 ?_
  refine lwI (q0 := 0) (ci := 6) hx hb hml hown hts (envL_ok ut sa sb) hE hK hfM hPM hPX (fun k q hq j hj e => hdj k j (at_fst (a := aX) (N := 36) (ws := wX aX cI cJ cS rx.2.1 rx.2.2.1 rx.2.2.2.1 rx.2.2.2.2.1 rx.2.2.2.2.2.1 tal siz tol hrs ags yea kpar kkin klea kmos kwrt ktal ksiz ktol khrs kags kyea isk tly gai bes low hig spn byt hld sta beh sor num rx.2.2.2.2.2.2 sbi she snu) rfl k q hq).1 hj ((at_fst (a := aX) (N := 36) (ws := wX aX cI cJ cS rx.2.1 rx.2.2.1 rx.2.2.2.1 rx.2.2.2.2.1 rx.2.2.2.2.2.1 tal siz tol hrs ags yea kpar kkin klea kmos kwrt ktal ksiz ktol khrs kags kyea isk tly gai bes low hig spn byt hld sta beh sor num rx.2.2.2.2.2.2 sbi she snu) rfl k q hq).2.symm.trans e)) hS (kX6_part l D aM cI cJ cS hdM (envL_ok ut sa sb) msv mkep mbef misk mfnd mman mnex mwor msng mhea mlat mtap mtpd mher mflt mvlu mbit mlon mcel mbtw (xs (nI i + 1).toNatClampNeg) (xs (nI i + 2).toNatClampNeg) (xs (nI i + 3).toNatClampNeg) (xs (nI i + 4).toNatClampNeg) rm em) gT_X6_part rfl hdX6_part rfl rfl rfl ⟨rfl, rfl⟩ ⟨Nat.le_of_ble_eq_true rfl, Nat.le_of_ble_eq_true rfl⟩ ⟨Nat.le_refl _, Nat.le_refl _⟩ rfl hl.1 rfl (Nat.le_of_ble_eq_true rfl) dL_law_277 (fun H locs hPM hPX hS => ?_)
  refine lv_icmp_eq (tgt := 1683) hx hb dL_law_280 (by decide) (fun _ => ?_) (fun c => absurd er c)
  refine lv_iinc (v := nI i + 6) (lv' := [(3, .int (nI i + 6)), (0, .ref b), (1, .ref (aX 0)), (2, .ref (aM 0))]) hx hb dL_law_1683 hl (k := 3) rfl (congrArg (fun z => nI i + z) (by decide)) (by decide) rfl (fun ls hl => ?_)
  refine lv_goto (tgt := 18) hx hb dL_law_1686 (by decide) ?_
  exact ih _ _ _ ⟨_, _, _, _, _, _, _, _, _, _, _, _, _, _, _, _, _, _, _, _, _, _, _, _, _, _, _, _, _, _, _, _, _, _, _, _, _, _, _, _, _, _, _, _, _, _, _, _, _, _, _, _, _, _, _, _, _, _, _, hPX, hPM, hRel⟩ hS (lv_sub hl [1, 2, 3, 0] rfl)
set_option maxHeartbeats 4000000 in
set_option maxRecDepth 100000 in
theorem law_c1 {p : Program} {l : Launch} {e : Jvm.Env} {s : State} {m : MethodId} {below : List Frame} {meth : Method} {c : Code} {b L : Nat} {xs : Nat → Int32} {D : va_G} {aX aM : Nat → Nat} {cI cJ cS : ClassId} {ut : Nat} {sa sb : Nat → Nat} (C1 : LC p s m meth c b L xs D aX aM cI cJ cS ut sa sb) (hL : L ≤ 3072) {i : Nat} (hi : i + 6 ≤ L)
    (ih : ∀ (H : Heap) (locs : List Loc) (ls : Array Slot), LInv D aX aM cI cJ cS H → va_S (fun q : Nat => s.heap.size ≤ q) s.heap H locs → lv_has ls 4 [(0, .ref b), (1, .ref (aX 0)), (2, .ref (aM 0)), (3, .int (nI i + 6))] → W p l e room_1 s m #[Value.ref b] below meth c H locs 600000 7302250 (lw_Z below #[Value.ref b] s) (F0 m 18 ls [])) {H : Heap} {locs : List Loc} {ls : Array Slot} (hI : LInv D aX aM cI cJ cS H) (hS : va_S (fun q : Nat => s.heap.size ≤ q) s.heap H locs) (hl : lv_has ls 4 [(0, .ref b), (1, .ref (aX 0)), (2, .ref (aM 0)), (3, .int (nI i))]) : W p l e room_1 s m #[Value.ref b] below meth c H locs 600000 7302250 (lw_Z below #[Value.ref b] s) (F0 m 285 ls []) := by
  obtain ⟨⟨hx, hb, hml, hown, hts, hX, hbl⟩, hK, hE, hdX, hdM, hfX, hfM, hdj⟩ := C1
  have hbA : ¬ (fun q : Nat => s.heap.size ≤ q) b := Nat.not_le.mpr hbl
  obtain ⟨par, kin, lea, mos, wrt, tal, siz, tol, hrs, ags, yea, kpar, kkin, klea, kmos, kwrt, ktal, ksiz, ktol, khrs, kags, kyea, isk, tly, gai, bes, low, hig, spn, byt, hld, sta, beh, sor, num, fnd, sbi, she, snu, msv, mkep, mbef, misk, mfnd, mman, mnex, mwor, msng, mhea, mlat, mtap, mtpd, mher, mflt, mvlu, mbit, mlon, mcel, mbtw, hPX, hPM, hRel⟩ := hI
  have hin1 : vp_in (nI i + 1) L := by rw [show (nI i + 1 : Int32) = nI (i + 1) from nI_add i 1]; exact vp_in_nI (by omega) (by omega)
  have hin2 : vp_in (nI i + 2) L := by rw [show (nI i + 2 : Int32) = nI (i + 2) from nI_add i 2]; exact vp_in_nI (by omega) (by omega)
  obtain ⟨rx, rm, ex, em, er, hRel⟩ := eq_partOf hRel (xs (nI i + 1).toNatClampNeg) (xs (nI i + 2).toNatClampNeg)
  refine lv_aload_n hx hb dL_law_285 rfl (lv_at hl 1 rfl) ?_
  refine lv_aload_n hx hb dL_law_286 rfl (lv_at hl 0 rfl) ?_
  refine lv_iload_n hx hb dL_law_287 rfl (lv_at hl 3 rfl) ?_
  refine lv_iconst (v := 1) hx hb dL_law_288 (by decide) ?_
  refine lv_iadd hx hb dL_law_289 ?_
  refine va_sld hx hb hX hbl hbA hS hin1 dL_law_290 ?_
  refine lv_aload_n hx hb dL_law_291 rfl (lv_at hl 0 rfl) ?_
  refine lv_iload_n hx hb dL_law_292 rfl (lv_at hl 3 rfl) ?_
  refine lv_iconst (v := 2) hx hb dL_law_293 (by decide) ?_
  refine lv_iadd hx hb dL_law_294 ?_
  refine va_sld hx hb hX hbl hbA hS hin2 dL_law_295 ?_
  refine lwI (q0 := 0) (ci := 5) hx hb hml hown hts (envL_ok ut sa sb) hE hK hfX hPX hPM (fun k q hq j hj e => hdj j k hj (at_fst (a := aM) (N := 16) (ws := wM aM cI cJ cS msv mkep mbef misk mfnd mman mnex mwor msng mhea mlat mtap mtpd mher mflt mvlu mbit mlon mcel mbtw) rfl k q hq).1 (e.symm.trans (at_fst (a := aM) (N := 16) (ws := wM aM cI cJ cS msv mkep mbef misk mfnd mman mnex mwor msng mhea mlat mtap mtpd mher mflt mvlu mbit mlon mcel mbtw) rfl k q hq).2)) hS (kX5_partOf l D aX cI cJ cS hdX (envL_ok ut sa sb) par kin lea mos wrt tal siz tol hrs ags yea kpar kkin klea kmos kwrt ktal ksiz ktol khrs kags kyea isk tly gai bes low hig spn byt hld sta beh sor num fnd sbi she snu (xs (nI i + 1).toNatClampNeg) (xs (nI i + 2).toNatClampNeg) rx ex) gT_X5_partOf rfl hdX5_partOf rfl rfl rfl ⟨rfl, rfl⟩ ⟨Nat.le_of_ble_eq_true rfl, Nat.le_of_ble_eq_true rfl⟩ ⟨Nat.le_refl _, Nat.le_refl _⟩ rfl hl.1 rfl (Nat.le_of_ble_eq_true rfl) dL_law_296 (fun H locs hPX hPM hS => ?_)
  refine lv_aload_n hx hb dL_law_299 rfl (lv_at hl 2 rfl) ?_
  refine lv_aload_n hx hb dL_law_300 rfl (lv_at hl 0 rfl) ?_
  refine lv_iload_n hx hb dL_law_301 rfl (lv_at hl 3 rfl) ?_
  refine lv_iconst (v := 1) hx hb dL_law_302 (by decide) ?_
  refine lv_iadd hx hb dL_law_303 ?_
  refine va_sld hx hb hX hbl hbA hS hin1 dL_law_304 ?_
  refine lv_aload_n hx hb dL_law_305 rfl (lv_at hl 0 rfl) ?_
  refine lv_iload_n hx hb dL_law_306 rfl (lv_at hl 3 rfl) ?_
  refine lv_iconst (v := 2) hx hb dL_law_307 (by decide) ?_
  refine lv_iadd hx hb dL_law_308 ?_
  refine va_sld hx hb hX hbl hbA hS hin2 dL_law_309 ?_
  refine lwI (q0 := 0) (ci := 6) hx hb hml hown hts (envL_ok ut sa sb) hE hK hfM hPM hPX (fun k q hq j hj e => hdj k j (at_fst (a := aX) (N := 36) (ws := wX aX cI cJ cS par kin lea mos wrt tal siz tol hrs ags yea kpar kkin klea kmos kwrt ktal ksiz ktol khrs kags kyea isk tly gai bes low hig spn byt hld sta beh sor num rx.2 sbi she snu) rfl k q hq).1 hj ((at_fst (a := aX) (N := 36) (ws := wX aX cI cJ cS par kin lea mos wrt tal siz tol hrs ags yea kpar kkin klea kmos kwrt ktal ksiz ktol khrs kags kyea isk tly gai bes low hig spn byt hld sta beh sor num rx.2 sbi she snu) rfl k q hq).2.symm.trans e)) hS (kX6_partOf l D aM cI cJ cS hdM (envL_ok ut sa sb) msv mkep mbef misk mfnd mman mnex mwor msng mhea mlat mtap mtpd mher mflt mvlu mbit mlon mcel mbtw (xs (nI i + 1).toNatClampNeg) (xs (nI i + 2).toNatClampNeg) rm em) gT_X6_partOf rfl hdX6_partOf rfl rfl rfl ⟨rfl, rfl⟩ ⟨Nat.le_of_ble_eq_true rfl, Nat.le_of_ble_eq_true rfl⟩ ⟨Nat.le_refl _, Nat.le_refl _⟩ rfl hl.1 rfl (Nat.le_of_ble_eq_true rfl) dL_law_310 (fun H locs hPM hPX hS => ?_)
  refine lv_icmp_eq (tgt := 1683) hx hb dL_law_313 (by decide) (fun _ => ?_) (fun c => absurd er c)
  refine lv_iinc (v := nI i + 6) (lv' := [(3, .int (nI i + 6)), (0, .ref b), (1, .ref (aX 0)), (2, .ref (aM 0))]) hx hb dL_law_1683 hl (k := 3) rfl (congrArg (fun z => nI i + z) (by decide)) (by decide) rfl (fun ls hl => ?_)
  refine lv_goto (tgt := 18) hx hb dL_law_1686 (by decide) ?_
  exact ih _ _ _ ⟨_, _, _, _, _, _, _, _, _, _, _, _, _, _, _, _, _, _, _, _, _, _, _, _, _, _, _, _, _, _, _, _, _, _, _, _, _, _, _, _, _, _, _, _, _, _, _, _, _, _, _, _, _, _, _, _, _, _, _, hPX, hPM, hRel⟩ hS (lv_sub hl [1, 2, 3, 0] rfl)
set_option maxHeartbeats 4000000 in
set_option maxRecDepth 100000 in
theorem law_c2 {p : Program} {l : Launch} {e : Jvm.Env} {s : State} {m : MethodId} {below : List Frame} {meth : Method} {c : Code} {b L : Nat} {xs : Nat → Int32} {D : va_G} {aX aM : Nat → Nat} {cI cJ cS : ClassId} {ut : Nat} {sa sb : Nat → Nat} (C1 : LC p s m meth c b L xs D aX aM cI cJ cS ut sa sb) (hL : L ≤ 3072) {i : Nat} (hi : i + 6 ≤ L)
    (ih : ∀ (H : Heap) (locs : List Loc) (ls : Array Slot), LInv D aX aM cI cJ cS H → va_S (fun q : Nat => s.heap.size ≤ q) s.heap H locs → lv_has ls 4 [(0, .ref b), (1, .ref (aX 0)), (2, .ref (aM 0)), (3, .int (nI i + 6))] → W p l e room_1 s m #[Value.ref b] below meth c H locs 600000 7302250 (lw_Z below #[Value.ref b] s) (F0 m 18 ls [])) {H : Heap} {locs : List Loc} {ls : Array Slot} (hI : LInv D aX aM cI cJ cS H) (hS : va_S (fun q : Nat => s.heap.size ≤ q) s.heap H locs) (hl : lv_has ls 4 [(0, .ref b), (1, .ref (aX 0)), (2, .ref (aM 0)), (3, .int (nI i))]) : W p l e room_1 s m #[Value.ref b] below meth c H locs 600000 7302250 (lw_Z below #[Value.ref b] s) (F0 m 318 ls []) := by
  obtain ⟨⟨hx, hb, hml, hown, hts, hX, hbl⟩, hK, hE, hdX, hdM, hfX, hfM, hdj⟩ := C1
  have hbA : ¬ (fun q : Nat => s.heap.size ≤ q) b := Nat.not_le.mpr hbl
  obtain ⟨par, kin, lea, mos, wrt, tal, siz, tol, hrs, ags, yea, kpar, kkin, klea, kmos, kwrt, ktal, ksiz, ktol, khrs, kags, kyea, isk, tly, gai, bes, low, hig, spn, byt, hld, sta, beh, sor, num, fnd, sbi, she, snu, msv, mkep, mbef, misk, mfnd, mman, mnex, mwor, msng, mhea, mlat, mtap, mtpd, mher, mflt, mvlu, mbit, mlon, mcel, mbtw, hPX, hPM, hRel⟩ := hI
  have hin1 : vp_in (nI i + 1) L := by rw [show (nI i + 1 : Int32) = nI (i + 1) from nI_add i 1]; exact vp_in_nI (by omega) (by omega)
  have hin2 : vp_in (nI i + 2) L := by rw [show (nI i + 2 : Int32) = nI (i + 2) from nI_add i 2]; exact vp_in_nI (by omega) (by omega)
  have hin3 : vp_in (nI i + 3) L := by rw [show (nI i + 3 : Int32) = nI (i + 3) from nI_add i 3]; exact vp_in_nI (by omega) (by omega)
  obtain ⟨rx, rm, ex, em, er, hRel⟩ := eq_set hRel (xs (nI i + 1).toNatClampNeg) (xs (nI i + 2).toNatClampNeg) (xs (nI i + 3).toNatClampNeg)
  refine lv_aload_n hx hb dL_law_318 rfl (lv_at hl 1 rfl) ?_
  refine lv_aload_n hx hb dL_law_319 rfl (lv_at hl 0 rfl) ?_
  refine lv_iload_n hx hb dL_law_320 rfl (lv_at hl 3 rfl) ?_
  refine lv_iconst (v := 1) hx hb dL_law_321 (by decide) ?_
  refine lv_iadd hx hb dL_law_322 ?_
  refine va_sld hx hb hX hbl hbA hS hin1 dL_law_323 ?_
  refine lv_aload_n hx hb dL_law_324 rfl (lv_at hl 0 rfl) ?_
  refine lv_iload_n hx hb dL_law_325 rfl (lv_at hl 3 rfl) ?_
  refine lv_iconst (v := 2) hx hb dL_law_326 (by decide) ?_
  refine lv_iadd hx hb dL_law_327 ?_
  refine va_sld hx hb hX hbl hbA hS hin2 dL_law_328 ?_
  refine lv_aload_n hx hb dL_law_329 rfl (lv_at hl 0 rfl) ?_
  refine lv_iload_n hx hb dL_law_330 rfl (lv_at hl 3 rfl) ?_
  refine lv_iconst (v := 3) hx hb dL_law_331 (by decide) ?_
  refine lv_iadd hx hb dL_law_332 ?_
  refine va_sld hx hb hX hbl hbA hS hin3 dL_law_333 ?_
  refine lwI (q0 := 0) (ci := 5) hx hb hml hown hts (envL_ok ut sa sb) hE hK hfX hPX hPM (fun k q hq j hj e => hdj j k hj (at_fst (a := aM) (N := 16) (ws := wM aM cI cJ cS msv mkep mbef misk mfnd mman mnex mwor msng mhea mlat mtap mtpd mher mflt mvlu mbit mlon mcel mbtw) rfl k q hq).1 (e.symm.trans (at_fst (a := aM) (N := 16) (ws := wM aM cI cJ cS msv mkep mbef misk mfnd mman mnex mwor msng mhea mlat mtap mtpd mher mflt mvlu mbit mlon mcel mbtw) rfl k q hq).2)) hS (kX5_set l D aX cI cJ cS hdX (envL_ok ut sa sb) par kin lea mos wrt tal siz tol hrs ags yea kpar kkin klea kmos kwrt ktal ksiz ktol khrs kags kyea isk tly gai bes low hig spn byt hld sta beh sor num fnd sbi she snu (xs (nI i + 1).toNatClampNeg) (xs (nI i + 2).toNatClampNeg) (xs (nI i + 3).toNatClampNeg) rx ex) gT_X5_set rfl hdX5_set rfl rfl rfl ⟨rfl, rfl⟩ ⟨Nat.le_of_ble_eq_true rfl, Nat.le_of_ble_eq_true rfl⟩ ⟨Nat.le_refl _, Nat.le_refl _⟩ rfl hl.1 rfl (Nat.le_of_ble_eq_true rfl) dL_law_334 (fun H locs hPX hPM hS => ?_)
  refine lv_aload_n hx hb dL_law_337 rfl (lv_at hl 2 rfl) ?_
  refine lv_aload_n hx hb dL_law_338 rfl (lv_at hl 0 rfl) ?_
  refine lv_iload_n hx hb dL_law_339 rfl (lv_at hl 3 rfl) ?_
  refine lv_iconst (v := 1) hx hb dL_law_340 (by decide) ?_
  refine lv_iadd hx hb dL_law_341 ?_
  refine va_sld hx hb hX hbl hbA hS hin1 dL_law_342 ?_
  refine lv_aload_n hx hb dL_law_343 rfl (lv_at hl 0 rfl) ?_
  refine lv_iload_n hx hb dL_law_344 rfl (lv_at hl 3 rfl) ?_
  refine lv_iconst (v := 2) hx hb dL_law_345 (by decide) ?_
  refine lv_iadd hx hb dL_law_346 ?_
  refine va_sld hx hb hX hbl hbA hS hin2 dL_law_347 ?_
  refine lv_aload_n hx hb dL_law_348 rfl (lv_at hl 0 rfl) ?_
  refine lv_iload_n hx hb dL_law_349 rfl (lv_at hl 3 rfl) ?_
  refine lv_iconst (v := 3) hx hb dL_law_350 (by decide) ?_
  refine lv_iadd hx hb dL_law_351 ?_
  refine va_sld hx hb hX hbl hbA hS hin3 dL_law_352 ?_
  refine lwI (q0 := 0) (ci := 6) hx hb hml hown hts (envL_ok ut sa sb) hE hK hfM hPM hPX (fun k q hq j hj e => hdj k j (at_fst (a := aX) (N := 36) (ws := wX aX cI cJ cS par kin rx.2.1 rx.2.2.1 rx.2.2.2.1 tal siz tol hrs ags yea kpar kkin klea kmos kwrt ktal ksiz ktol khrs kags kyea isk tly gai bes low hig spn byt hld sta beh sor num rx.2.2.2.2 sbi she snu) rfl k q hq).1 hj ((at_fst (a := aX) (N := 36) (ws := wX aX cI cJ cS par kin rx.2.1 rx.2.2.1 rx.2.2.2.1 tal siz tol hrs ags yea kpar kkin klea kmos kwrt ktal ksiz ktol khrs kags kyea isk tly gai bes low hig spn byt hld sta beh sor num rx.2.2.2.2 sbi she snu) rfl k q hq).2.symm.trans e)) hS (kX6_set l D aM cI cJ cS hdM (envL_ok ut sa sb) msv mkep mbef misk mfnd mman mnex mwor msng mhea mlat mtap mtpd mher mflt mvlu mbit mlon mcel mbtw (xs (nI i + 1).toNatClampNeg) (xs (nI i + 2).toNatClampNeg) (xs (nI i + 3).toNatClampNeg) rm em) gT_X6_set rfl hdX6_set rfl rfl rfl ⟨rfl, rfl⟩ ⟨Nat.le_of_ble_eq_true rfl, Nat.le_of_ble_eq_true rfl⟩ ⟨Nat.le_refl _, Nat.le_refl _⟩ rfl hl.1 rfl (Nat.le_of_ble_eq_true rfl) dL_law_353 (fun H locs hPM hPX hS => ?_)
  refine lv_icmp_eq (tgt := 1683) hx hb dL_law_356 (by decide) (fun _ => ?_) (fun c => absurd er c)
  refine lv_iinc (v := nI i + 6) (lv' := [(3, .int (nI i + 6)), (0, .ref b), (1, .ref (aX 0)), (2, .ref (aM 0))]) hx hb dL_law_1683 hl (k := 3) rfl (congrArg (fun z => nI i + z) (by decide)) (by decide) rfl (fun ls hl => ?_)
  refine lv_goto (tgt := 18) hx hb dL_law_1686 (by decide) ?_
  exact ih _ _ _ ⟨_, _, _, _, _, _, _, _, _, _, _, _, _, _, _, _, _, _, _, _, _, _, _, _, _, _, _, _, _, _, _, _, _, _, _, _, _, _, _, _, _, _, _, _, _, _, _, _, _, _, _, _, _, _, _, _, _, _, _, hPX, hPM, hRel⟩ hS (lv_sub hl [1, 2, 3, 0] rfl)
set_option maxHeartbeats 4000000 in
set_option maxRecDepth 100000 in
theorem law_c3 {p : Program} {l : Launch} {e : Jvm.Env} {s : State} {m : MethodId} {below : List Frame} {meth : Method} {c : Code} {b L : Nat} {xs : Nat → Int32} {D : va_G} {aX aM : Nat → Nat} {cI cJ cS : ClassId} {ut : Nat} {sa sb : Nat → Nat} (C1 : LC p s m meth c b L xs D aX aM cI cJ cS ut sa sb) (hL : L ≤ 3072) {i : Nat} (hi : i + 6 ≤ L)
    (ih : ∀ (H : Heap) (locs : List Loc) (ls : Array Slot), LInv D aX aM cI cJ cS H → va_S (fun q : Nat => s.heap.size ≤ q) s.heap H locs → lv_has ls 4 [(0, .ref b), (1, .ref (aX 0)), (2, .ref (aM 0)), (3, .int (nI i + 6))] → W p l e room_1 s m #[Value.ref b] below meth c H locs 600000 7302250 (lw_Z below #[Value.ref b] s) (F0 m 18 ls [])) {H : Heap} {locs : List Loc} {ls : Array Slot} (hI : LInv D aX aM cI cJ cS H) (hS : va_S (fun q : Nat => s.heap.size ≤ q) s.heap H locs) (hl : lv_has ls 4 [(0, .ref b), (1, .ref (aX 0)), (2, .ref (aM 0)), (3, .int (nI i))]) : W p l e room_1 s m #[Value.ref b] below meth c H locs 600000 7302250 (lw_Z below #[Value.ref b] s) (F0 m 361 ls []) := by
  obtain ⟨⟨hx, hb, hml, hown, hts, hX, hbl⟩, hK, hE, hdX, hdM, hfX, hfM, hdj⟩ := C1
  have hbA : ¬ (fun q : Nat => s.heap.size ≤ q) b := Nat.not_le.mpr hbl
  obtain ⟨par, kin, lea, mos, wrt, tal, siz, tol, hrs, ags, yea, kpar, kkin, klea, kmos, kwrt, ktal, ksiz, ktol, khrs, kags, kyea, isk, tly, gai, bes, low, hig, spn, byt, hld, sta, beh, sor, num, fnd, sbi, she, snu, msv, mkep, mbef, misk, mfnd, mman, mnex, mwor, msng, mhea, mlat, mtap, mtpd, mher, mflt, mvlu, mbit, mlon, mcel, mbtw, hPX, hPM, hRel⟩ := hI
  have hin1 : vp_in (nI i + 1) L := by rw [show (nI i + 1 : Int32) = nI (i + 1) from nI_add i 1]; exact vp_in_nI (by omega) (by omega)
  have hin2 : vp_in (nI i + 2) L := by rw [show (nI i + 2 : Int32) = nI (i + 2) from nI_add i 2]; exact vp_in_nI (by omega) (by omega)
  obtain ⟨rx, rm, ex, em, er, hRel⟩ := eq_turn hRel (xs (nI i + 1).toNatClampNeg) (xs (nI i + 2).toNatClampNeg)
  refine lv_aload_n hx hb dL_law_361 rfl (lv_at hl 1 rfl) ?_
  refine lv_aload_n hx hb dL_law_362 rfl (lv_at hl 0 rfl) ?_
  refine lv_iload_n hx hb dL_law_363 rfl (lv_at hl 3 rfl) ?_
  refine lv_iconst (v := 1) hx hb dL_law_364 (by decide) ?_
  refine lv_iadd hx hb dL_law_365 ?_
  refine va_sld hx hb hX hbl hbA hS hin1 dL_law_366 ?_
  refine lv_aload_n hx hb dL_law_367 rfl (lv_at hl 0 rfl) ?_
  refine lv_iload_n hx hb dL_law_368 rfl (lv_at hl 3 rfl) ?_
  refine lv_iconst (v := 2) hx hb dL_law_369 (by decide) ?_
  refine lv_iadd hx hb dL_law_370 ?_
  refine va_sld hx hb hX hbl hbA hS hin2 dL_law_371 ?_
  refine lwI (q0 := 0) (ci := 5) hx hb hml hown hts (envL_ok ut sa sb) hE hK hfX hPX hPM (fun k q hq j hj e => hdj j k hj (at_fst (a := aM) (N := 16) (ws := wM aM cI cJ cS msv mkep mbef misk mfnd mman mnex mwor msng mhea mlat mtap mtpd mher mflt mvlu mbit mlon mcel mbtw) rfl k q hq).1 (e.symm.trans (at_fst (a := aM) (N := 16) (ws := wM aM cI cJ cS msv mkep mbef misk mfnd mman mnex mwor msng mhea mlat mtap mtpd mher mflt mvlu mbit mlon mcel mbtw) rfl k q hq).2)) hS (kX5_turn l D aX cI cJ cS hdX (envL_ok ut sa sb) par kin lea mos wrt tal siz tol hrs ags yea kpar kkin klea kmos kwrt ktal ksiz ktol khrs kags kyea isk tly gai bes low hig spn byt hld sta beh sor num fnd sbi she snu (xs (nI i + 1).toNatClampNeg) (xs (nI i + 2).toNatClampNeg) rx ex) gT_X5_turn rfl hdX5_turn rfl rfl rfl ⟨rfl, rfl⟩ ⟨Nat.le_of_ble_eq_true rfl, Nat.le_of_ble_eq_true rfl⟩ ⟨Nat.le_refl _, Nat.le_refl _⟩ rfl hl.1 rfl (Nat.le_of_ble_eq_true rfl) dL_law_372 (fun H locs hPX hPM hS => ?_)
  refine lv_aload_n hx hb dL_law_375 rfl (lv_at hl 2 rfl) ?_
  refine lv_aload_n hx hb dL_law_376 rfl (lv_at hl 0 rfl) ?_
  refine lv_iload_n hx hb dL_law_377 rfl (lv_at hl 3 rfl) ?_
  refine lv_iconst (v := 1) hx hb dL_law_378 (by decide) ?_
  refine lv_iadd hx hb dL_law_379 ?_
  refine va_sld hx hb hX hbl hbA hS hin1 dL_law_380 ?_
  refine lv_aload_n hx hb dL_law_381 rfl (lv_at hl 0 rfl) ?_
  refine lv_iload_n hx hb dL_law_382 rfl (lv_at hl 3 rfl) ?_
  refine lv_iconst (v := 2) hx hb dL_law_383 (by decide) ?_
  refine lv_iadd hx hb dL_law_384 ?_
  refine va_sld hx hb hX hbl hbA hS hin2 dL_law_385 ?_
  refine lwI (q0 := 0) (ci := 6) hx hb hml hown hts (envL_ok ut sa sb) hE hK hfM hPM hPX (fun k q hq j hj e => hdj k j (at_fst (a := aX) (N := 36) (ws := wX aX cI cJ cS par rx.2.1 lea mos wrt tal siz tol hrs ags yea kpar kkin klea kmos kwrt ktal ksiz ktol khrs kags kyea isk tly gai bes low hig spn byt hld sta beh sor num rx.2.2 sbi she snu) rfl k q hq).1 hj ((at_fst (a := aX) (N := 36) (ws := wX aX cI cJ cS par rx.2.1 lea mos wrt tal siz tol hrs ags yea kpar kkin klea kmos kwrt ktal ksiz ktol khrs kags kyea isk tly gai bes low hig spn byt hld sta beh sor num rx.2.2 sbi she snu) rfl k q hq).2.symm.trans e)) hS (kX6_turn l D aM cI cJ cS hdM (envL_ok ut sa sb) msv mkep mbef misk mfnd mman mnex mwor msng mhea mlat mtap mtpd mher mflt mvlu mbit mlon mcel mbtw (xs (nI i + 1).toNatClampNeg) (xs (nI i + 2).toNatClampNeg) rm em) gT_X6_turn rfl hdX6_turn rfl rfl rfl ⟨rfl, rfl⟩ ⟨Nat.le_of_ble_eq_true rfl, Nat.le_of_ble_eq_true rfl⟩ ⟨Nat.le_refl _, Nat.le_refl _⟩ rfl hl.1 rfl (Nat.le_of_ble_eq_true rfl) dL_law_386 (fun H locs hPM hPX hS => ?_)
  refine lv_icmp_eq (tgt := 1683) hx hb dL_law_389 (by decide) (fun _ => ?_) (fun c => absurd er c)
  refine lv_iinc (v := nI i + 6) (lv' := [(3, .int (nI i + 6)), (0, .ref b), (1, .ref (aX 0)), (2, .ref (aM 0))]) hx hb dL_law_1683 hl (k := 3) rfl (congrArg (fun z => nI i + z) (by decide)) (by decide) rfl (fun ls hl => ?_)
  refine lv_goto (tgt := 18) hx hb dL_law_1686 (by decide) ?_
  exact ih _ _ _ ⟨_, _, _, _, _, _, _, _, _, _, _, _, _, _, _, _, _, _, _, _, _, _, _, _, _, _, _, _, _, _, _, _, _, _, _, _, _, _, _, _, _, _, _, _, _, _, _, _, _, _, _, _, _, _, _, _, _, _, _, hPX, hPM, hRel⟩ hS (lv_sub hl [1, 2, 3, 0] rfl)
set_option maxHeartbeats 4000000 in
set_option maxRecDepth 100000 in
theorem law_c4 {p : Program} {l : Launch} {e : Jvm.Env} {s : State} {m : MethodId} {below : List Frame} {meth : Method} {c : Code} {b L : Nat} {xs : Nat → Int32} {D : va_G} {aX aM : Nat → Nat} {cI cJ cS : ClassId} {ut : Nat} {sa sb : Nat → Nat} (C1 : LC p s m meth c b L xs D aX aM cI cJ cS ut sa sb) (hL : L ≤ 3072) {i : Nat} (hi : i + 6 ≤ L)
    (ih : ∀ (H : Heap) (locs : List Loc) (ls : Array Slot), LInv D aX aM cI cJ cS H → va_S (fun q : Nat => s.heap.size ≤ q) s.heap H locs → lv_has ls 4 [(0, .ref b), (1, .ref (aX 0)), (2, .ref (aM 0)), (3, .int (nI i + 6))] → W p l e room_1 s m #[Value.ref b] below meth c H locs 600000 7302250 (lw_Z below #[Value.ref b] s) (F0 m 18 ls [])) {H : Heap} {locs : List Loc} {ls : Array Slot} (hI : LInv D aX aM cI cJ cS H) (hS : va_S (fun q : Nat => s.heap.size ≤ q) s.heap H locs) (hl : lv_has ls 4 [(0, .ref b), (1, .ref (aX 0)), (2, .ref (aM 0)), (3, .int (nI i))]) : W p l e room_1 s m #[Value.ref b] below meth c H locs 600000 7302250 (lw_Z below #[Value.ref b] s) (F0 m 394 ls []) := by
  obtain ⟨⟨hx, hb, hml, hown, hts, hX, hbl⟩, hK, hE, hdX, hdM, hfX, hfM, hdj⟩ := C1
  have hbA : ¬ (fun q : Nat => s.heap.size ≤ q) b := Nat.not_le.mpr hbl
  obtain ⟨par, kin, lea, mos, wrt, tal, siz, tol, hrs, ags, yea, kpar, kkin, klea, kmos, kwrt, ktal, ksiz, ktol, khrs, kags, kyea, isk, tly, gai, bes, low, hig, spn, byt, hld, sta, beh, sor, num, fnd, sbi, she, snu, msv, mkep, mbef, misk, mfnd, mman, mnex, mwor, msng, mhea, mlat, mtap, mtpd, mher, mflt, mvlu, mbit, mlon, mcel, mbtw, hPX, hPM, hRel⟩ := hI
  have hin1 : vp_in (nI i + 1) L := by rw [show (nI i + 1 : Int32) = nI (i + 1) from nI_add i 1]; exact vp_in_nI (by omega) (by omega)
  have hin2 : vp_in (nI i + 2) L := by rw [show (nI i + 2 : Int32) = nI (i + 2) from nI_add i 2]; exact vp_in_nI (by omega) (by omega)
  obtain ⟨rx, rm, ex, em, er, hRel⟩ := eq_as hRel (xs (nI i + 1).toNatClampNeg) (xs (nI i + 2).toNatClampNeg)
  refine lv_aload_n hx hb dL_law_394 rfl (lv_at hl 1 rfl) ?_
  refine lv_aload_n hx hb dL_law_395 rfl (lv_at hl 0 rfl) ?_
  refine lv_iload_n hx hb dL_law_396 rfl (lv_at hl 3 rfl) ?_
  refine lv_iconst (v := 1) hx hb dL_law_397 (by decide) ?_
  refine lv_iadd hx hb dL_law_398 ?_
  refine va_sld hx hb hX hbl hbA hS hin1 dL_law_399 ?_
  refine lv_aload_n hx hb dL_law_400 rfl (lv_at hl 0 rfl) ?_
  refine lv_iload_n hx hb dL_law_401 rfl (lv_at hl 3 rfl) ?_
  refine lv_iconst (v := 2) hx hb dL_law_402 (by decide) ?_
  refine lv_iadd hx hb dL_law_403 ?_
  refine va_sld hx hb hX hbl hbA hS hin2 dL_law_404 ?_
  refine lwI (q0 := 0) (ci := 5) hx hb hml hown hts (envL_ok ut sa sb) hE hK hfX hPX hPM (fun k q hq j hj e => hdj j k hj (at_fst (a := aM) (N := 16) (ws := wM aM cI cJ cS msv mkep mbef misk mfnd mman mnex mwor msng mhea mlat mtap mtpd mher mflt mvlu mbit mlon mcel mbtw) rfl k q hq).1 (e.symm.trans (at_fst (a := aM) (N := 16) (ws := wM aM cI cJ cS msv mkep mbef misk mfnd mman mnex mwor msng mhea mlat mtap mtpd mher mflt mvlu mbit mlon mcel mbtw) rfl k q hq).2)) hS (kX5_as l D aX cI cJ cS hdX (envL_ok ut sa sb) ut sa sb (envL_X ut sa sb) par kin lea mos wrt tal siz tol hrs ags yea kpar kkin klea kmos kwrt ktal ksiz ktol khrs kags kyea isk tly gai bes low hig spn byt hld sta beh sor num fnd sbi she snu (xs (nI i + 1).toNatClampNeg) (xs (nI i + 2).toNatClampNeg) rx ex) gT_X5_as rfl hdX5_as rfl rfl rfl ⟨rfl, rfl⟩ ⟨Nat.le_of_ble_eq_true rfl, Nat.le_of_ble_eq_true rfl⟩ ⟨Nat.le_refl _, Nat.le_refl _⟩ rfl hl.1 rfl (Nat.le_of_ble_eq_true rfl) dL_law_405 (fun H locs hPX hPM hS => ?_)
  refine lv_aload_n hx hb dL_law_408 rfl (lv_at hl 2 rfl) ?_
  refine lv_aload_n hx hb dL_law_409 rfl (lv_at hl 0 rfl) ?_
  refine lv_iload_n hx hb dL_law_410 rfl (lv_at hl 3 rfl) ?_
  refine lv_iconst (v := 1) hx hb dL_law_411 (by decide) ?_
  refine lv_iadd hx hb dL_law_412 ?_
  refine va_sld hx hb hX hbl hbA hS hin1 dL_law_413 ?_
  refine lv_aload_n hx hb dL_law_414 rfl (lv_at hl 0 rfl) ?_
  refine lv_iload_n hx hb dL_law_415 rfl (lv_at hl 3 rfl) ?_
  refine lv_iconst (v := 2) hx hb dL_law_416 (by decide) ?_
  refine lv_iadd hx hb dL_law_417 ?_
  refine va_sld hx hb hX hbl hbA hS hin2 dL_law_418 ?_
  refine lwI (q0 := 0) (ci := 6) hx hb hml hown hts (envL_ok ut sa sb) hE hK hfM hPM hPX (fun k q hq j hj e => hdj k j (at_fst (a := aX) (N := 36) (ws := wX aX cI cJ cS par kin lea mos wrt tal siz tol hrs ags yea kpar kkin klea kmos kwrt ktal ksiz ktol khrs kags kyea isk tly gai bes low hig spn byt hld sta beh sor num rx.2 sbi she snu) rfl k q hq).1 hj ((at_fst (a := aX) (N := 36) (ws := wX aX cI cJ cS par kin lea mos wrt tal siz tol hrs ags yea kpar kkin klea kmos kwrt ktal ksiz ktol khrs kags kyea isk tly gai bes low hig spn byt hld sta beh sor num rx.2 sbi she snu) rfl k q hq).2.symm.trans e)) hS (kX6_as l D aM cI cJ cS hdM (envL_ok ut sa sb) msv mkep mbef misk mfnd mman mnex mwor msng mhea mlat mtap mtpd mher mflt mvlu mbit mlon mcel mbtw (xs (nI i + 1).toNatClampNeg) (xs (nI i + 2).toNatClampNeg) rm em) gT_X6_as rfl hdX6_as rfl rfl rfl ⟨rfl, rfl⟩ ⟨Nat.le_of_ble_eq_true rfl, Nat.le_of_ble_eq_true rfl⟩ ⟨Nat.le_refl _, Nat.le_refl _⟩ rfl hl.1 rfl (Nat.le_of_ble_eq_true rfl) dL_law_419 (fun H locs hPM hPX hS => ?_)
  refine lv_icmp_eq (tgt := 1683) hx hb dL_law_422 (by decide) (fun _ => ?_) (fun c => absurd er c)
  refine lv_iinc (v := nI i + 6) (lv' := [(3, .int (nI i + 6)), (0, .ref b), (1, .ref (aX 0)), (2, .ref (aM 0))]) hx hb dL_law_1683 hl (k := 3) rfl (congrArg (fun z => nI i + z) (by decide)) (by decide) rfl (fun ls hl => ?_)
  refine lv_goto (tgt := 18) hx hb dL_law_1686 (by decide) ?_
  exact ih _ _ _ ⟨_, _, _, _, _, _, _, _, _, _, _, _, _, _, _, _, _, _, _, _, _, _, _, _, _, _, _, _, _, _, _, _, _, _, _, _, _, _, _, _, _, _, _, _, _, _, _, _, _, _, _, _, _, _, _, _, _, _, _, hPX, hPM, hRel⟩ hS (lv_sub hl [1, 2, 3, 0] rfl)
set_option maxHeartbeats 4000000 in
set_option maxRecDepth 100000 in
theorem law_c5 {p : Program} {l : Launch} {e : Jvm.Env} {s : State} {m : MethodId} {below : List Frame} {meth : Method} {c : Code} {b L : Nat} {xs : Nat → Int32} {D : va_G} {aX aM : Nat → Nat} {cI cJ cS : ClassId} {ut : Nat} {sa sb : Nat → Nat} (C1 : LC p s m meth c b L xs D aX aM cI cJ cS ut sa sb) (hL : L ≤ 3072) {i : Nat} (hi : i + 6 ≤ L)
    (ih : ∀ (H : Heap) (locs : List Loc) (ls : Array Slot), LInv D aX aM cI cJ cS H → va_S (fun q : Nat => s.heap.size ≤ q) s.heap H locs → lv_has ls 4 [(0, .ref b), (1, .ref (aX 0)), (2, .ref (aM 0)), (3, .int (nI i + 6))] → W p l e room_1 s m #[Value.ref b] below meth c H locs 600000 7302250 (lw_Z below #[Value.ref b] s) (F0 m 18 ls [])) {H : Heap} {locs : List Loc} {ls : Array Slot} (hI : LInv D aX aM cI cJ cS H) (hS : va_S (fun q : Nat => s.heap.size ≤ q) s.heap H locs) (hl : lv_has ls 4 [(0, .ref b), (1, .ref (aX 0)), (2, .ref (aM 0)), (3, .int (nI i))]) : W p l e room_1 s m #[Value.ref b] below meth c H locs 600000 7302250 (lw_Z below #[Value.ref b] s) (F0 m 427 ls []) := by
  obtain ⟨⟨hx, hb, hml, hown, hts, hX, hbl⟩, hK, hE, hdX, hdM, hfX, hfM, hdj⟩ := C1
  have hbA : ¬ (fun q : Nat => s.heap.size ≤ q) b := Nat.not_le.mpr hbl
  obtain ⟨par, kin, lea, mos, wrt, tal, siz, tol, hrs, ags, yea, kpar, kkin, klea, kmos, kwrt, ktal, ksiz, ktol, khrs, kags, kyea, isk, tly, gai, bes, low, hig, spn, byt, hld, sta, beh, sor, num, fnd, sbi, she, snu, msv, mkep, mbef, misk, mfnd, mman, mnex, mwor, msng, mhea, mlat, mtap, mtpd, mher, mflt, mvlu, mbit, mlon, mcel, mbtw, hPX, hPM, hRel⟩ := hI
  have hin1 : vp_in (nI i + 1) L := by rw [show (nI i + 1 : Int32) = nI (i + 1) from nI_add i 1]; exact vp_in_nI (by omega) (by omega)
  have hin2 : vp_in (nI i + 2) L := by rw [show (nI i + 2 : Int32) = nI (i + 2) from nI_add i 2]; exact vp_in_nI (by omega) (by omega)
  obtain ⟨rx, rm, ex, em, er, hRel⟩ := eq_value hRel (xs (nI i + 1).toNatClampNeg) (xs (nI i + 2).toNatClampNeg)
  refine lv_aload_n hx hb dL_law_427 rfl (lv_at hl 1 rfl) ?_
  refine lv_aload_n hx hb dL_law_428 rfl (lv_at hl 0 rfl) ?_
  refine lv_iload_n hx hb dL_law_429 rfl (lv_at hl 3 rfl) ?_
  refine lv_iconst (v := 1) hx hb dL_law_430 (by decide) ?_
  refine lv_iadd hx hb dL_law_431 ?_
  refine va_sld hx hb hX hbl hbA hS hin1 dL_law_432 ?_
  refine lv_aload_n hx hb dL_law_433 rfl (lv_at hl 0 rfl) ?_
  refine lv_iload_n hx hb dL_law_434 rfl (lv_at hl 3 rfl) ?_
  refine lv_iconst (v := 2) hx hb dL_law_435 (by decide) ?_
  refine lv_iadd hx hb dL_law_436 ?_
  refine va_sld hx hb hX hbl hbA hS hin2 dL_law_437 ?_
  refine lwI (q0 := 0) (ci := 5) hx hb hml hown hts (envL_ok ut sa sb) hE hK hfX hPX hPM (fun k q hq j hj e => hdj j k hj (at_fst (a := aM) (N := 16) (ws := wM aM cI cJ cS msv mkep mbef misk mfnd mman mnex mwor msng mhea mlat mtap mtpd mher mflt mvlu mbit mlon mcel mbtw) rfl k q hq).1 (e.symm.trans (at_fst (a := aM) (N := 16) (ws := wM aM cI cJ cS msv mkep mbef misk mfnd mman mnex mwor msng mhea mlat mtap mtpd mher mflt mvlu mbit mlon mcel mbtw) rfl k q hq).2)) hS (kX5_value l D aX cI cJ cS hdX (envL_ok ut sa sb) par kin lea mos wrt tal siz tol hrs ags yea kpar kkin klea kmos kwrt ktal ksiz ktol khrs kags kyea isk tly gai bes low hig spn byt hld sta beh sor num fnd sbi she snu (xs (nI i + 1).toNatClampNeg) (xs (nI i + 2).toNatClampNeg) rx ex) gT_X5_value rfl hdX5_value rfl rfl rfl ⟨rfl, rfl⟩ ⟨Nat.le_of_ble_eq_true rfl, Nat.le_of_ble_eq_true rfl⟩ ⟨Nat.le_refl _, Nat.le_refl _⟩ rfl hl.1 rfl (Nat.le_of_ble_eq_true rfl) dL_law_438 (fun H locs hPX hPM hS => ?_)
  refine lv_aload_n hx hb dL_law_441 rfl (lv_at hl 2 rfl) ?_
  refine lv_aload_n hx hb dL_law_442 rfl (lv_at hl 0 rfl) ?_
  refine lv_iload_n hx hb dL_law_443 rfl (lv_at hl 3 rfl) ?_
  refine lv_iconst (v := 1) hx hb dL_law_444 (by decide) ?_
  refine lv_iadd hx hb dL_law_445 ?_
  refine va_sld hx hb hX hbl hbA hS hin1 dL_law_446 ?_
  refine lv_aload_n hx hb dL_law_447 rfl (lv_at hl 0 rfl) ?_
  refine lv_iload_n hx hb dL_law_448 rfl (lv_at hl 3 rfl) ?_
  refine lv_iconst (v := 2) hx hb dL_law_449 (by decide) ?_
  refine lv_iadd hx hb dL_law_450 ?_
  refine va_sld hx hb hX hbl hbA hS hin2 dL_law_451 ?_
  refine lwI (q0 := 0) (ci := 6) hx hb hml hown hts (envL_ok ut sa sb) hE hK hfM hPM hPX (fun k q hq j hj e => hdj k j (at_fst (a := aX) (N := 36) (ws := wX aX cI cJ cS par kin lea mos wrt tal siz tol hrs ags yea kpar kkin klea kmos kwrt ktal ksiz ktol khrs kags kyea isk tly gai bes low hig spn byt hld sta beh sor num rx.2 sbi she snu) rfl k q hq).1 hj ((at_fst (a := aX) (N := 36) (ws := wX aX cI cJ cS par kin lea mos wrt tal siz tol hrs ags yea kpar kkin klea kmos kwrt ktal ksiz ktol khrs kags kyea isk tly gai bes low hig spn byt hld sta beh sor num rx.2 sbi she snu) rfl k q hq).2.symm.trans e)) hS (kX6_value l D aM cI cJ cS hdM (envL_ok ut sa sb) msv mkep mbef misk mfnd mman mnex mwor msng mhea mlat mtap mtpd mher mflt mvlu mbit mlon mcel mbtw (xs (nI i + 1).toNatClampNeg) (xs (nI i + 2).toNatClampNeg) rm em) gT_X6_value rfl hdX6_value rfl rfl rfl ⟨rfl, rfl⟩ ⟨Nat.le_of_ble_eq_true rfl, Nat.le_of_ble_eq_true rfl⟩ ⟨Nat.le_refl _, Nat.le_refl _⟩ rfl hl.1 rfl (Nat.le_of_ble_eq_true rfl) dL_law_452 (fun H locs hPM hPX hS => ?_)
  refine lv_icmp_eq (tgt := 1683) hx hb dL_law_455 (by decide) (fun _ => ?_) (fun c => absurd er c)
  refine lv_iinc (v := nI i + 6) (lv' := [(3, .int (nI i + 6)), (0, .ref b), (1, .ref (aX 0)), (2, .ref (aM 0))]) hx hb dL_law_1683 hl (k := 3) rfl (congrArg (fun z => nI i + z) (by decide)) (by decide) rfl (fun ls hl => ?_)
  refine lv_goto (tgt := 18) hx hb dL_law_1686 (by decide) ?_
  exact ih _ _ _ ⟨_, _, _, _, _, _, _, _, _, _, _, _, _, _, _, _, _, _, _, _, _, _, _, _, _, _, _, _, _, _, _, _, _, _, _, _, _, _, _, _, _, _, _, _, _, _, _, _, _, _, _, _, _, _, _, _, _, _, _, hPX, hPM, hRel⟩ hS (lv_sub hl [1, 2, 3, 0] rfl)
set_option maxHeartbeats 4000000 in
set_option maxRecDepth 100000 in
theorem law_c6 {p : Program} {l : Launch} {e : Jvm.Env} {s : State} {m : MethodId} {below : List Frame} {meth : Method} {c : Code} {b L : Nat} {xs : Nat → Int32} {D : va_G} {aX aM : Nat → Nat} {cI cJ cS : ClassId} {ut : Nat} {sa sb : Nat → Nat} (C1 : LC p s m meth c b L xs D aX aM cI cJ cS ut sa sb) (hL : L ≤ 3072) {i : Nat} (hi : i + 6 ≤ L)
    (ih : ∀ (H : Heap) (locs : List Loc) (ls : Array Slot), LInv D aX aM cI cJ cS H → va_S (fun q : Nat => s.heap.size ≤ q) s.heap H locs → lv_has ls 4 [(0, .ref b), (1, .ref (aX 0)), (2, .ref (aM 0)), (3, .int (nI i + 6))] → W p l e room_1 s m #[Value.ref b] below meth c H locs 600000 7302250 (lw_Z below #[Value.ref b] s) (F0 m 18 ls [])) {H : Heap} {locs : List Loc} {ls : Array Slot} (hI : LInv D aX aM cI cJ cS H) (hS : va_S (fun q : Nat => s.heap.size ≤ q) s.heap H locs) (hl : lv_has ls 4 [(0, .ref b), (1, .ref (aX 0)), (2, .ref (aM 0)), (3, .int (nI i))]) : W p l e room_1 s m #[Value.ref b] below meth c H locs 600000 7302250 (lw_Z below #[Value.ref b] s) (F0 m 460 ls []) := by
  obtain ⟨⟨hx, hb, hml, hown, hts, hX, hbl⟩, hK, hE, hdX, hdM, hfX, hfM, hdj⟩ := C1
  have hbA : ¬ (fun q : Nat => s.heap.size ≤ q) b := Nat.not_le.mpr hbl
  obtain ⟨par, kin, lea, mos, wrt, tal, siz, tol, hrs, ags, yea, kpar, kkin, klea, kmos, kwrt, ktal, ksiz, ktol, khrs, kags, kyea, isk, tly, gai, bes, low, hig, spn, byt, hld, sta, beh, sor, num, fnd, sbi, she, snu, msv, mkep, mbef, misk, mfnd, mman, mnex, mwor, msng, mhea, mlat, mtap, mtpd, mher, mflt, mvlu, mbit, mlon, mcel, mbtw, hPX, hPM, hRel⟩ := hI
  obtain ⟨rx, rm, ex, em, er, hRel⟩ := eq_tale hRel 
  refine lv_aload_n hx hb dL_law_460 rfl (lv_at hl 1 rfl) ?_
  refine lwI (q0 := 0) (ci := 5) hx hb hml hown hts (envL_ok ut sa sb) hE hK hfX hPX hPM (fun k q hq j hj e => hdj j k hj (at_fst (a := aM) (N := 16) (ws := wM aM cI cJ cS msv mkep mbef misk mfnd mman mnex mwor msng mhea mlat mtap mtpd mher mflt mvlu mbit mlon mcel mbtw) rfl k q hq).1 (e.symm.trans (at_fst (a := aM) (N := 16) (ws := wM aM cI cJ cS msv mkep mbef misk mfnd mman mnex mwor msng mhea mlat mtap mtpd mher mflt mvlu mbit mlon mcel mbtw) rfl k q hq).2)) hS (kX5_tale l D aX cI cJ cS hdX (envL_ok ut sa sb) par kin lea mos wrt tal siz tol hrs ags yea kpar kkin klea kmos kwrt ktal ksiz ktol khrs kags kyea isk tly gai bes low hig spn byt hld sta beh sor num fnd sbi she snu  rx ex) gT_X5_tale rfl hdX5_tale rfl rfl rfl ⟨rfl, rfl⟩ ⟨Nat.le_of_ble_eq_true rfl, Nat.le_of_ble_eq_true rfl⟩ ⟨Nat.le_refl _, Nat.le_refl _⟩ rfl hl.1 rfl (Nat.le_of_ble_eq_true rfl) dL_law_461 (fun H locs hPX hPM hS => ?_)
  refine lv_aload_n hx hb dL_law_464 rfl (lv_at hl 2 rfl) ?_
  refine lwI (q0 := 0) (ci := 6) hx hb hml hown hts (envL_ok ut sa sb) hE hK hfM hPM hPX (fun k q hq j hj e => hdj k j (at_fst (a := aX) (N := 36) (ws := wX aX cI cJ cS par kin lea mos wrt rx.2.1 rx.2.2.1 tol hrs ags yea kpar kkin klea kmos kwrt ktal ksiz ktol khrs kags kyea isk tly gai bes low hig spn byt hld sta beh sor num rx.2.2.2 sbi she snu) rfl k q hq).1 hj ((at_fst (a := aX) (N := 36) (ws := wX aX cI cJ cS par kin lea mos wrt rx.2.1 rx.2.2.1 tol hrs ags yea kpar kkin klea kmos kwrt ktal ksiz ktol khrs kags kyea isk tly gai bes low hig spn byt hld sta beh sor num rx.2.2.2 sbi she snu) rfl k q hq).2.symm.trans e)) hS (kX6_tale l D aM cI cJ cS hdM (envL_ok ut sa sb) msv mkep mbef misk mfnd mman mnex mwor msng mhea mlat mtap mtpd mher mflt mvlu mbit mlon mcel mbtw  rm em) gT_X6_tale rfl hdX6_tale rfl rfl rfl ⟨rfl, rfl⟩ ⟨Nat.le_of_ble_eq_true rfl, Nat.le_of_ble_eq_true rfl⟩ ⟨Nat.le_refl _, Nat.le_refl _⟩ rfl hl.1 rfl (Nat.le_of_ble_eq_true rfl) dL_law_465 (fun H locs hPM hPX hS => ?_)
  refine lv_icmp_eq (tgt := 1683) hx hb dL_law_468 (by decide) (fun _ => ?_) (fun c => absurd er c)
  refine lv_iinc (v := nI i + 6) (lv' := [(3, .int (nI i + 6)), (0, .ref b), (1, .ref (aX 0)), (2, .ref (aM 0))]) hx hb dL_law_1683 hl (k := 3) rfl (congrArg (fun z => nI i + z) (by decide)) (by decide) rfl (fun ls hl => ?_)
  refine lv_goto (tgt := 18) hx hb dL_law_1686 (by decide) ?_
  exact ih _ _ _ ⟨_, _, _, _, _, _, _, _, _, _, _, _, _, _, _, _, _, _, _, _, _, _, _, _, _, _, _, _, _, _, _, _, _, _, _, _, _, _, _, _, _, _, _, _, _, _, _, _, _, _, _, _, _, _, _, _, _, _, _, hPX, hPM, hRel⟩ hS (lv_sub hl [1, 2, 3, 0] rfl)
set_option maxHeartbeats 4000000 in
set_option maxRecDepth 100000 in
theorem law_c7 {p : Program} {l : Launch} {e : Jvm.Env} {s : State} {m : MethodId} {below : List Frame} {meth : Method} {c : Code} {b L : Nat} {xs : Nat → Int32} {D : va_G} {aX aM : Nat → Nat} {cI cJ cS : ClassId} {ut : Nat} {sa sb : Nat → Nat} (C1 : LC p s m meth c b L xs D aX aM cI cJ cS ut sa sb) (hL : L ≤ 3072) {i : Nat} (hi : i + 6 ≤ L)
    (ih : ∀ (H : Heap) (locs : List Loc) (ls : Array Slot), LInv D aX aM cI cJ cS H → va_S (fun q : Nat => s.heap.size ≤ q) s.heap H locs → lv_has ls 4 [(0, .ref b), (1, .ref (aX 0)), (2, .ref (aM 0)), (3, .int (nI i + 6))] → W p l e room_1 s m #[Value.ref b] below meth c H locs 600000 7302250 (lw_Z below #[Value.ref b] s) (F0 m 18 ls [])) {H : Heap} {locs : List Loc} {ls : Array Slot} (hI : LInv D aX aM cI cJ cS H) (hS : va_S (fun q : Nat => s.heap.size ≤ q) s.heap H locs) (hl : lv_has ls 4 [(0, .ref b), (1, .ref (aX 0)), (2, .ref (aM 0)), (3, .int (nI i))]) : W p l e room_1 s m #[Value.ref b] below meth c H locs 600000 7302250 (lw_Z below #[Value.ref b] s) (F0 m 473 ls []) := by
  obtain ⟨⟨hx, hb, hml, hown, hts, hX, hbl⟩, hK, hE, hdX, hdM, hfX, hfM, hdj⟩ := C1
  have hbA : ¬ (fun q : Nat => s.heap.size ≤ q) b := Nat.not_le.mpr hbl
  obtain ⟨par, kin, lea, mos, wrt, tal, siz, tol, hrs, ags, yea, kpar, kkin, klea, kmos, kwrt, ktal, ksiz, ktol, khrs, kags, kyea, isk, tly, gai, bes, low, hig, spn, byt, hld, sta, beh, sor, num, fnd, sbi, she, snu, msv, mkep, mbef, misk, mfnd, mman, mnex, mwor, msng, mhea, mlat, mtap, mtpd, mher, mflt, mvlu, mbit, mlon, mcel, mbtw, hPX, hPM, hRel⟩ := hI
  have hin1 : vp_in (nI i + 1) L := by rw [show (nI i + 1 : Int32) = nI (i + 1) from nI_add i 1]; exact vp_in_nI (by omega) (by omega)
  have hin2 : vp_in (nI i + 2) L := by rw [show (nI i + 2 : Int32) = nI (i + 2) from nI_add i 2]; exact vp_in_nI (by omega) (by omega)
  obtain ⟨rx, rm, ex, em, er, hRel⟩ := eq_tell hRel (xs (nI i + 1).toNatClampNeg) (xs (nI i + 2).toNatClampNeg)
  refine lv_aload_n hx hb dL_law_473 rfl (lv_at hl 1 rfl) ?_
  refine lv_aload_n hx hb dL_law_474 rfl (lv_at hl 0 rfl) ?_
  refine lv_iload_n hx hb dL_law_475 rfl (lv_at hl 3 rfl) ?_
  refine lv_iconst (v := 1) hx hb dL_law_476 (by decide) ?_
  refine lv_iadd hx hb dL_law_477 ?_
  refine va_sld hx hb hX hbl hbA hS hin1 dL_law_478 ?_
  refine lv_aload_n hx hb dL_law_479 rfl (lv_at hl 0 rfl) ?_
  refine lv_iload_n hx hb dL_law_480 rfl (lv_at hl 3 rfl) ?_
  refine lv_iconst (v := 2) hx hb dL_law_481 (by decide) ?_
  refine lv_iadd hx hb dL_law_482 ?_
  refine va_sld hx hb hX hbl hbA hS hin2 dL_law_483 ?_
  refine lwI (q0 := 0) (ci := 5) hx hb hml hown hts (envL_ok ut sa sb) hE hK hfX hPX hPM (fun k q hq j hj e => hdj j k hj (at_fst (a := aM) (N := 16) (ws := wM aM cI cJ cS msv mkep mbef misk mfnd mman mnex mwor msng mhea mlat mtap mtpd mher mflt mvlu mbit mlon mcel mbtw) rfl k q hq).1 (e.symm.trans (at_fst (a := aM) (N := 16) (ws := wM aM cI cJ cS msv mkep mbef misk mfnd mman mnex mwor msng mhea mlat mtap mtpd mher mflt mvlu mbit mlon mcel mbtw) rfl k q hq).2)) hS (kX5_tell l D aX cI cJ cS hdX (envL_ok ut sa sb) par kin lea mos wrt tal siz tol hrs ags yea kpar kkin klea kmos kwrt ktal ksiz ktol khrs kags kyea isk tly gai bes low hig spn byt hld sta beh sor num fnd sbi she snu (xs (nI i + 1).toNatClampNeg) (xs (nI i + 2).toNatClampNeg) rx ex) gT_X5_tell rfl hdX5_tell rfl rfl rfl ⟨rfl, rfl⟩ ⟨Nat.le_of_ble_eq_true rfl, Nat.le_of_ble_eq_true rfl⟩ ⟨Nat.le_refl _, Nat.le_refl _⟩ rfl hl.1 rfl (Nat.le_of_ble_eq_true rfl) dL_law_484 (fun H locs hPX hPM hS => ?_)
  refine lv_aload_n hx hb dL_law_487 rfl (lv_at hl 2 rfl) ?_
  refine lv_aload_n hx hb dL_law_488 rfl (lv_at hl 0 rfl) ?_
  refine lv_iload_n hx hb dL_law_489 rfl (lv_at hl 3 rfl) ?_
  refine lv_iconst (v := 1) hx hb dL_law_490 (by decide) ?_
  refine lv_iadd hx hb dL_law_491 ?_
  refine va_sld hx hb hX hbl hbA hS hin1 dL_law_492 ?_
  refine lv_aload_n hx hb dL_law_493 rfl (lv_at hl 0 rfl) ?_
  refine lv_iload_n hx hb dL_law_494 rfl (lv_at hl 3 rfl) ?_
  refine lv_iconst (v := 2) hx hb dL_law_495 (by decide) ?_
  refine lv_iadd hx hb dL_law_496 ?_
  refine va_sld hx hb hX hbl hbA hS hin2 dL_law_497 ?_
  refine lwI (q0 := 0) (ci := 6) hx hb hml hown hts (envL_ok ut sa sb) hE hK hfM hPM hPX (fun k q hq j hj e => hdj k j (at_fst (a := aX) (N := 36) (ws := wX aX cI cJ cS par kin lea mos wrt tal rx.2.1 rx.2.2.1 hrs ags yea kpar kkin klea kmos kwrt ktal ksiz ktol khrs kags kyea isk tly gai bes low hig spn byt hld sta beh sor num rx.2.2.2 sbi she snu) rfl k q hq).1 hj ((at_fst (a := aX) (N := 36) (ws := wX aX cI cJ cS par kin lea mos wrt tal rx.2.1 rx.2.2.1 hrs ags yea kpar kkin klea kmos kwrt ktal ksiz ktol khrs kags kyea isk tly gai bes low hig spn byt hld sta beh sor num rx.2.2.2 sbi she snu) rfl k q hq).2.symm.trans e)) hS (kX6_tell l D aM cI cJ cS hdM (envL_ok ut sa sb) msv mkep mbef misk mfnd mman mnex mwor msng mhea mlat mtap mtpd mher mflt mvlu mbit mlon mcel mbtw (xs (nI i + 1).toNatClampNeg) (xs (nI i + 2).toNatClampNeg) rm em) gT_X6_tell rfl hdX6_tell rfl rfl rfl ⟨rfl, rfl⟩ ⟨Nat.le_of_ble_eq_true rfl, Nat.le_of_ble_eq_true rfl⟩ ⟨Nat.le_refl _, Nat.le_refl _⟩ rfl hl.1 rfl (Nat.le_of_ble_eq_true rfl) dL_law_498 (fun H locs hPM hPX hS => ?_)
  refine lv_icmp_eq (tgt := 1683) hx hb dL_law_501 (by decide) (fun _ => ?_) (fun c => absurd er c)
  refine lv_iinc (v := nI i + 6) (lv' := [(3, .int (nI i + 6)), (0, .ref b), (1, .ref (aX 0)), (2, .ref (aM 0))]) hx hb dL_law_1683 hl (k := 3) rfl (congrArg (fun z => nI i + z) (by decide)) (by decide) rfl (fun ls hl => ?_)
  refine lv_goto (tgt := 18) hx hb dL_law_1686 (by decide) ?_
  exact ih _ _ _ ⟨_, _, _, _, _, _, _, _, _, _, _, _, _, _, _, _, _, _, _, _, _, _, _, _, _, _, _, _, _, _, _, _, _, _, _, _, _, _, _, _, _, _, _, _, _, _, _, _, _, _, _, _, _, _, _, _, _, _, _, hPX, hPM, hRel⟩ hS (lv_sub hl [1, 2, 3, 0] rfl)
set_option maxHeartbeats 4000000 in
set_option maxRecDepth 100000 in
theorem law_c8 {p : Program} {l : Launch} {e : Jvm.Env} {s : State} {m : MethodId} {below : List Frame} {meth : Method} {c : Code} {b L : Nat} {xs : Nat → Int32} {D : va_G} {aX aM : Nat → Nat} {cI cJ cS : ClassId} {ut : Nat} {sa sb : Nat → Nat} (C1 : LC p s m meth c b L xs D aX aM cI cJ cS ut sa sb) (hL : L ≤ 3072) {i : Nat} (hi : i + 6 ≤ L)
    (ih : ∀ (H : Heap) (locs : List Loc) (ls : Array Slot), LInv D aX aM cI cJ cS H → va_S (fun q : Nat => s.heap.size ≤ q) s.heap H locs → lv_has ls 4 [(0, .ref b), (1, .ref (aX 0)), (2, .ref (aM 0)), (3, .int (nI i + 6))] → W p l e room_1 s m #[Value.ref b] below meth c H locs 600000 7302250 (lw_Z below #[Value.ref b] s) (F0 m 18 ls [])) {H : Heap} {locs : List Loc} {ls : Array Slot} (hI : LInv D aX aM cI cJ cS H) (hS : va_S (fun q : Nat => s.heap.size ≤ q) s.heap H locs) (hl : lv_has ls 4 [(0, .ref b), (1, .ref (aX 0)), (2, .ref (aM 0)), (3, .int (nI i))]) : W p l e room_1 s m #[Value.ref b] below meth c H locs 600000 7302250 (lw_Z below #[Value.ref b] s) (F0 m 506 ls []) := by
  obtain ⟨⟨hx, hb, hml, hown, hts, hX, hbl⟩, hK, hE, hdX, hdM, hfX, hfM, hdj⟩ := C1
  have hbA : ¬ (fun q : Nat => s.heap.size ≤ q) b := Nat.not_le.mpr hbl
  obtain ⟨par, kin, lea, mos, wrt, tal, siz, tol, hrs, ags, yea, kpar, kkin, klea, kmos, kwrt, ktal, ksiz, ktol, khrs, kags, kyea, isk, tly, gai, bes, low, hig, spn, byt, hld, sta, beh, sor, num, fnd, sbi, she, snu, msv, mkep, mbef, misk, mfnd, mman, mnex, mwor, msng, mhea, mlat, mtap, mtpd, mher, mflt, mvlu, mbit, mlon, mcel, mbtw, hPX, hPM, hRel⟩ := hI
  have hin1 : vp_in (nI i + 1) L := by rw [show (nI i + 1 : Int32) = nI (i + 1) from nI_add i 1]; exact vp_in_nI (by omega) (by omega)
  obtain ⟨rx, rm, ex, em, er, hRel⟩ := eq_cut hRel (xs (nI i + 1).toNatClampNeg)
  refine lv_aload_n hx hb dL_law_506 rfl (lv_at hl 1 rfl) ?_
  refine lv_aload_n hx hb dL_law_507 rfl (lv_at hl 0 rfl) ?_
  refine lv_iload_n hx hb dL_law_508 rfl (lv_at hl 3 rfl) ?_
  refine lv_iconst (v := 1) hx hb dL_law_509 (by decide) ?_
  refine lv_iadd hx hb dL_law_510 ?_
  refine va_sld hx hb hX hbl hbA hS hin1 dL_law_511 ?_
  refine lwI (q0 := 0) (ci := 5) hx hb hml hown hts (envL_ok ut sa sb) hE hK hfX hPX hPM (fun k q hq j hj e => hdj j k hj (at_fst (a := aM) (N := 16) (ws := wM aM cI cJ cS msv mkep mbef misk mfnd mman mnex mwor msng mhea mlat mtap mtpd mher mflt mvlu mbit mlon mcel mbtw) rfl k q hq).1 (e.symm.trans (at_fst (a := aM) (N := 16) (ws := wM aM cI cJ cS msv mkep mbef misk mfnd mman mnex mwor msng mhea mlat mtap mtpd mher mflt mvlu mbit mlon mcel mbtw) rfl k q hq).2)) hS (kX5_cut l D aX cI cJ cS hdX (envL_ok ut sa sb) par kin lea mos wrt tal siz tol hrs ags yea kpar kkin klea kmos kwrt ktal ksiz ktol khrs kags kyea isk tly gai bes low hig spn byt hld sta beh sor num fnd sbi she snu (xs (nI i + 1).toNatClampNeg) rx ex) gT_X5_cut rfl hdX5_cut rfl rfl rfl ⟨rfl, rfl⟩ ⟨Nat.le_of_ble_eq_true rfl, Nat.le_of_ble_eq_true rfl⟩ ⟨Nat.le_refl _, Nat.le_refl _⟩ rfl hl.1 rfl (Nat.le_of_ble_eq_true rfl) dL_law_512 (fun H locs hPX hPM hS => ?_)
  refine lv_aload_n hx hb dL_law_515 rfl (lv_at hl 2 rfl) ?_
  refine lv_aload_n hx hb dL_law_516 rfl (lv_at hl 0 rfl) ?_
  refine lv_iload_n hx hb dL_law_517 rfl (lv_at hl 3 rfl) ?_
  refine lv_iconst (v := 1) hx hb dL_law_518 (by decide) ?_
  refine lv_iadd hx hb dL_law_519 ?_
  refine va_sld hx hb hX hbl hbA hS hin1 dL_law_520 ?_
  refine lwI (q0 := 0) (ci := 6) hx hb hml hown hts (envL_ok ut sa sb) hE hK hfM hPM hPX (fun k q hq j hj e => hdj k j (at_fst (a := aX) (N := 36) (ws := wX aX cI cJ cS par kin lea mos wrt tal rx.2.1 tol hrs ags yea kpar kkin klea kmos kwrt ktal ksiz ktol khrs kags kyea isk tly gai bes low hig spn byt hld sta beh sor num rx.2.2 sbi she snu) rfl k q hq).1 hj ((at_fst (a := aX) (N := 36) (ws := wX aX cI cJ cS par kin lea mos wrt tal rx.2.1 tol hrs ags yea kpar kkin klea kmos kwrt ktal ksiz ktol khrs kags kyea isk tly gai bes low hig spn byt hld sta beh sor num rx.2.2 sbi she snu) rfl k q hq).2.symm.trans e)) hS (kX6_cut l D aM cI cJ cS hdM (envL_ok ut sa sb) msv mkep mbef misk mfnd mman mnex mwor msng mhea mlat mtap mtpd mher mflt mvlu mbit mlon mcel mbtw (xs (nI i + 1).toNatClampNeg) rm em) gT_X6_cut rfl hdX6_cut rfl rfl rfl ⟨rfl, rfl⟩ ⟨Nat.le_of_ble_eq_true rfl, Nat.le_of_ble_eq_true rfl⟩ ⟨Nat.le_refl _, Nat.le_refl _⟩ rfl hl.1 rfl (Nat.le_of_ble_eq_true rfl) dL_law_521 (fun H locs hPM hPX hS => ?_)
  refine lv_icmp_eq (tgt := 1683) hx hb dL_law_524 (by decide) (fun _ => ?_) (fun c => absurd er c)
  refine lv_iinc (v := nI i + 6) (lv' := [(3, .int (nI i + 6)), (0, .ref b), (1, .ref (aX 0)), (2, .ref (aM 0))]) hx hb dL_law_1683 hl (k := 3) rfl (congrArg (fun z => nI i + z) (by decide)) (by decide) rfl (fun ls hl => ?_)
  refine lv_goto (tgt := 18) hx hb dL_law_1686 (by decide) ?_
  exact ih _ _ _ ⟨_, _, _, _, _, _, _, _, _, _, _, _, _, _, _, _, _, _, _, _, _, _, _, _, _, _, _, _, _, _, _, _, _, _, _, _, _, _, _, _, _, _, _, _, _, _, _, _, _, _, _, _, _, _, _, _, _, _, _, hPX, hPM, hRel⟩ hS (lv_sub hl [1, 2, 3, 0] rfl)
set_option maxHeartbeats 4000000 in
set_option maxRecDepth 100000 in
theorem law_c9 {p : Program} {l : Launch} {e : Jvm.Env} {s : State} {m : MethodId} {below : List Frame} {meth : Method} {c : Code} {b L : Nat} {xs : Nat → Int32} {D : va_G} {aX aM : Nat → Nat} {cI cJ cS : ClassId} {ut : Nat} {sa sb : Nat → Nat} (C1 : LC p s m meth c b L xs D aX aM cI cJ cS ut sa sb) (hL : L ≤ 3072) {i : Nat} (hi : i + 6 ≤ L)
    (ih : ∀ (H : Heap) (locs : List Loc) (ls : Array Slot), LInv D aX aM cI cJ cS H → va_S (fun q : Nat => s.heap.size ≤ q) s.heap H locs → lv_has ls 4 [(0, .ref b), (1, .ref (aX 0)), (2, .ref (aM 0)), (3, .int (nI i + 6))] → W p l e room_1 s m #[Value.ref b] below meth c H locs 600000 7302250 (lw_Z below #[Value.ref b] s) (F0 m 18 ls [])) {H : Heap} {locs : List Loc} {ls : Array Slot} (hI : LInv D aX aM cI cJ cS H) (hS : va_S (fun q : Nat => s.heap.size ≤ q) s.heap H locs) (hl : lv_has ls 4 [(0, .ref b), (1, .ref (aX 0)), (2, .ref (aM 0)), (3, .int (nI i))]) : W p l e room_1 s m #[Value.ref b] below meth c H locs 600000 7302250 (lw_Z below #[Value.ref b] s) (F0 m 529 ls []) := by
  obtain ⟨⟨hx, hb, hml, hown, hts, hX, hbl⟩, hK, hE, hdX, hdM, hfX, hfM, hdj⟩ := C1
  have hbA : ¬ (fun q : Nat => s.heap.size ≤ q) b := Nat.not_le.mpr hbl
  obtain ⟨par, kin, lea, mos, wrt, tal, siz, tol, hrs, ags, yea, kpar, kkin, klea, kmos, kwrt, ktal, ksiz, ktol, khrs, kags, kyea, isk, tly, gai, bes, low, hig, spn, byt, hld, sta, beh, sor, num, fnd, sbi, she, snu, msv, mkep, mbef, misk, mfnd, mman, mnex, mwor, msng, mhea, mlat, mtap, mtpd, mher, mflt, mvlu, mbit, mlon, mcel, mbtw, hPX, hPM, hRel⟩ := hI
  have hin1 : vp_in (nI i + 1) L := by rw [show (nI i + 1 : Int32) = nI (i + 1) from nI_add i 1]; exact vp_in_nI (by omega) (by omega)
  have hin2 : vp_in (nI i + 2) L := by rw [show (nI i + 2 : Int32) = nI (i + 2) from nI_add i 2]; exact vp_in_nI (by omega) (by omega)
  obtain ⟨rx, rm, ex, em, er, hRel⟩ := eq_ith hRel (xs (nI i + 1).toNatClampNeg) (xs (nI i + 2).toNatClampNeg)
  refine lv_aload_n hx hb dL_law_529 rfl (lv_at hl 1 rfl) ?_
  refine lv_aload_n hx hb dL_law_530 rfl (lv_at hl 0 rfl) ?_
  refine lv_iload_n hx hb dL_law_531 rfl (lv_at hl 3 rfl) ?_
  refine lv_iconst (v := 1) hx hb dL_law_532 (by decide) ?_
  refine lv_iadd hx hb dL_law_533 ?_
  refine va_sld hx hb hX hbl hbA hS hin1 dL_law_534 ?_
  refine lv_aload_n hx hb dL_law_535 rfl (lv_at hl 0 rfl) ?_
  refine lv_iload_n hx hb dL_law_536 rfl (lv_at hl 3 rfl) ?_
  refine lv_iconst (v := 2) hx hb dL_law_537 (by decide) ?_
  refine lv_iadd hx hb dL_law_538 ?_
  refine va_sld hx hb hX hbl hbA hS hin2 dL_law_539 ?_
  refine lwI (q0 := 0) (ci := 5) hx hb hml hown hts (envL_ok ut sa sb) hE hK hfX hPX hPM (fun k q hq j hj e => hdj j k hj (at_fst (a := aM) (N := 16) (ws := wM aM cI cJ cS msv mkep mbef misk mfnd mman mnex mwor msng mhea mlat mtap mtpd mher mflt mvlu mbit mlon mcel mbtw) rfl k q hq).1 (e.symm.trans (at_fst (a := aM) (N := 16) (ws := wM aM cI cJ cS msv mkep mbef misk mfnd mman mnex mwor msng mhea mlat mtap mtpd mher mflt mvlu mbit mlon mcel mbtw) rfl k q hq).2)) hS (kX5_ith l D aX cI cJ cS hdX (envL_ok ut sa sb) par kin lea mos wrt tal siz tol hrs ags yea kpar kkin klea kmos kwrt ktal ksiz ktol khrs kags kyea isk tly gai bes low hig spn byt hld sta beh sor num fnd sbi she snu (xs (nI i + 1).toNatClampNeg) (xs (nI i + 2).toNatClampNeg) rx ex) gT_X5_ith rfl hdX5_ith rfl rfl rfl ⟨rfl, rfl⟩ ⟨Nat.le_of_ble_eq_true rfl, Nat.le_of_ble_eq_true rfl⟩ ⟨Nat.le_refl _, Nat.le_refl _⟩ rfl hl.1 rfl (Nat.le_of_ble_eq_true rfl) dL_law_540 (fun H locs hPX hPM hS => ?_)
  refine lv_aload_n hx hb dL_law_543 rfl (lv_at hl 2 rfl) ?_
  refine lv_aload_n hx hb dL_law_544 rfl (lv_at hl 0 rfl) ?_
  refine lv_iload_n hx hb dL_law_545 rfl (lv_at hl 3 rfl) ?_
  refine lv_iconst (v := 1) hx hb dL_law_546 (by decide) ?_
  refine lv_iadd hx hb dL_law_547 ?_
  refine va_sld hx hb hX hbl hbA hS hin1 dL_law_548 ?_
  refine lv_aload_n hx hb dL_law_549 rfl (lv_at hl 0 rfl) ?_
  refine lv_iload_n hx hb dL_law_550 rfl (lv_at hl 3 rfl) ?_
  refine lv_iconst (v := 2) hx hb dL_law_551 (by decide) ?_
  refine lv_iadd hx hb dL_law_552 ?_
  refine va_sld hx hb hX hbl hbA hS hin2 dL_law_553 ?_
  refine lwI (q0 := 0) (ci := 6) hx hb hml hown hts (envL_ok ut sa sb) hE hK hfM hPM hPX (fun k q hq j hj e => hdj k j (at_fst (a := aX) (N := 36) (ws := wX aX cI cJ cS par kin lea mos wrt tal siz tol hrs ags yea kpar kkin klea kmos kwrt ktal ksiz ktol khrs kags kyea isk tly gai bes low hig spn byt hld sta beh sor num rx.2 sbi she snu) rfl k q hq).1 hj ((at_fst (a := aX) (N := 36) (ws := wX aX cI cJ cS par kin lea mos wrt tal siz tol hrs ags yea kpar kkin klea kmos kwrt ktal ksiz ktol khrs kags kyea isk tly gai bes low hig spn byt hld sta beh sor num rx.2 sbi she snu) rfl k q hq).2.symm.trans e)) hS (kX6_ith l D aM cI cJ cS hdM (envL_ok ut sa sb) msv mkep mbef misk mfnd mman mnex mwor msng mhea mlat mtap mtpd mher mflt mvlu mbit mlon mcel mbtw (xs (nI i + 1).toNatClampNeg) (xs (nI i + 2).toNatClampNeg) rm em) gT_X6_ith rfl hdX6_ith rfl rfl rfl ⟨rfl, rfl⟩ ⟨Nat.le_of_ble_eq_true rfl, Nat.le_of_ble_eq_true rfl⟩ ⟨Nat.le_refl _, Nat.le_refl _⟩ rfl hl.1 rfl (Nat.le_of_ble_eq_true rfl) dL_law_554 (fun H locs hPM hPX hS => ?_)
  refine lv_icmp_eq (tgt := 1683) hx hb dL_law_557 (by decide) (fun _ => ?_) (fun c => absurd er c)
  refine lv_iinc (v := nI i + 6) (lv' := [(3, .int (nI i + 6)), (0, .ref b), (1, .ref (aX 0)), (2, .ref (aM 0))]) hx hb dL_law_1683 hl (k := 3) rfl (congrArg (fun z => nI i + z) (by decide)) (by decide) rfl (fun ls hl => ?_)
  refine lv_goto (tgt := 18) hx hb dL_law_1686 (by decide) ?_
  exact ih _ _ _ ⟨_, _, _, _, _, _, _, _, _, _, _, _, _, _, _, _, _, _, _, _, _, _, _, _, _, _, _, _, _, _, _, _, _, _, _, _, _, _, _, _, _, _, _, _, _, _, _, _, _, _, _, _, _, _, _, _, _, _, _, hPX, hPM, hRel⟩ hS (lv_sub hl [1, 2, 3, 0] rfl)
set_option maxHeartbeats 4000000 in
set_option maxRecDepth 100000 in
theorem law_c10 {p : Program} {l : Launch} {e : Jvm.Env} {s : State} {m : MethodId} {below : List Frame} {meth : Method} {c : Code} {b L : Nat} {xs : Nat → Int32} {D : va_G} {aX aM : Nat → Nat} {cI cJ cS : ClassId} {ut : Nat} {sa sb : Nat → Nat} (C1 : LC p s m meth c b L xs D aX aM cI cJ cS ut sa sb) (hL : L ≤ 3072) {i : Nat} (hi : i + 6 ≤ L)
    (ih : ∀ (H : Heap) (locs : List Loc) (ls : Array Slot), LInv D aX aM cI cJ cS H → va_S (fun q : Nat => s.heap.size ≤ q) s.heap H locs → lv_has ls 4 [(0, .ref b), (1, .ref (aX 0)), (2, .ref (aM 0)), (3, .int (nI i + 6))] → W p l e room_1 s m #[Value.ref b] below meth c H locs 600000 7302250 (lw_Z below #[Value.ref b] s) (F0 m 18 ls [])) {H : Heap} {locs : List Loc} {ls : Array Slot} (hI : LInv D aX aM cI cJ cS H) (hS : va_S (fun q : Nat => s.heap.size ≤ q) s.heap H locs) (hl : lv_has ls 4 [(0, .ref b), (1, .ref (aX 0)), (2, .ref (aM 0)), (3, .int (nI i))]) : W p l e room_1 s m #[Value.ref b] below meth c H locs 600000 7302250 (lw_Z below #[Value.ref b] s) (F0 m 562 ls []) := by
  obtain ⟨⟨hx, hb, hml, hown, hts, hX, hbl⟩, hK, hE, hdX, hdM, hfX, hfM, hdj⟩ := C1
  have hbA : ¬ (fun q : Nat => s.heap.size ≤ q) b := Nat.not_le.mpr hbl
  obtain ⟨par, kin, lea, mos, wrt, tal, siz, tol, hrs, ags, yea, kpar, kkin, klea, kmos, kwrt, ktal, ksiz, ktol, khrs, kags, kyea, isk, tly, gai, bes, low, hig, spn, byt, hld, sta, beh, sor, num, fnd, sbi, she, snu, msv, mkep, mbef, misk, mfnd, mman, mnex, mwor, msng, mhea, mlat, mtap, mtpd, mher, mflt, mvlu, mbit, mlon, mcel, mbtw, hPX, hPM, hRel⟩ := hI
  have hin1 : vp_in (nI i + 1) L := by rw [show (nI i + 1 : Int32) = nI (i + 1) from nI_add i 1]; exact vp_in_nI (by omega) (by omega)
  obtain ⟨rx, rm, ex, em, er, hRel⟩ := eq_size hRel (xs (nI i + 1).toNatClampNeg)
  refine lv_aload_n hx hb dL_law_562 rfl (lv_at hl 1 rfl) ?_
  refine lv_aload_n hx hb dL_law_563 rfl (lv_at hl 0 rfl) ?_
  refine lv_iload_n hx hb dL_law_564 rfl (lv_at hl 3 rfl) ?_
  refine lv_iconst (v := 1) hx hb dL_law_565 (by decide) ?_
  refine lv_iadd hx hb dL_law_566 ?_
  refine va_sld hx hb hX hbl hbA hS hin1 dL_law_567 ?_
  refine lwI (q0 := 0) (ci := 5) hx hb hml hown hts (envL_ok ut sa sb) hE hK hfX hPX hPM (fun k q hq j hj e => hdj j k hj (at_fst (a := aM) (N := 16) (ws := wM aM cI cJ cS msv mkep mbef misk mfnd mman mnex mwor msng mhea mlat mtap mtpd mher mflt mvlu mbit mlon mcel mbtw) rfl k q hq).1 (e.symm.trans (at_fst (a := aM) (N := 16) (ws := wM aM cI cJ cS msv mkep mbef misk mfnd mman mnex mwor msng mhea mlat mtap mtpd mher mflt mvlu mbit mlon mcel mbtw) rfl k q hq).2)) hS (kX5_size l D aX cI cJ cS hdX (envL_ok ut sa sb) par kin lea mos wrt tal siz tol hrs ags yea kpar kkin klea kmos kwrt ktal ksiz ktol khrs kags kyea isk tly gai bes low hig spn byt hld sta beh sor num fnd sbi she snu (xs (nI i + 1).toNatClampNeg) rx ex) gT_X5_size rfl hdX5_size rfl rfl rfl ⟨rfl, rfl⟩ ⟨Nat.le_of_ble_eq_true rfl, Nat.le_of_ble_eq_true rfl⟩ ⟨Nat.le_refl _, Nat.le_refl _⟩ rfl hl.1 rfl (Nat.le_of_ble_eq_true rfl) dL_law_568 (fun H locs hPX hPM hS => ?_)
  refine lv_aload_n hx hb dL_law_571 rfl (lv_at hl 2 rfl) ?_
  refine lv_aload_n hx hb dL_law_572 rfl (lv_at hl 0 rfl) ?_
  refine lv_iload_n hx hb dL_law_573 rfl (lv_at hl 3 rfl) ?_
  refine lv_iconst (v := 1) hx hb dL_law_574 (by decide) ?_
  refine lv_iadd hx hb dL_law_575 ?_
  refine va_sld hx hb hX hbl hbA hS hin1 dL_law_576 ?_
  refine lwI (q0 := 0) (ci := 6) hx hb hml hown hts (envL_ok ut sa sb) hE hK hfM hPM hPX (fun k q hq j hj e => hdj k j (at_fst (a := aX) (N := 36) (ws := wX aX cI cJ cS par kin lea mos wrt tal siz tol hrs ags yea kpar kkin klea kmos kwrt ktal ksiz ktol khrs kags kyea isk tly gai bes low hig spn byt hld sta beh sor num rx.2 sbi she snu) rfl k q hq).1 hj ((at_fst (a := aX) (N := 36) (ws := wX aX cI cJ cS par kin lea mos wrt tal siz tol hrs ags yea kpar kkin klea kmos kwrt ktal ksiz ktol khrs kags kyea isk tly gai bes low hig spn byt hld sta beh sor num rx.2 sbi she snu) rfl k q hq).2.symm.trans e)) hS (kX6_size l D aM cI cJ cS hdM (envL_ok ut sa sb) msv mkep mbef misk mfnd mman mnex mwor msng mhea mlat mtap mtpd mher mflt mvlu mbit mlon mcel mbtw (xs (nI i + 1).toNatClampNeg) rm em) gT_X6_size rfl hdX6_size rfl rfl rfl ⟨rfl, rfl⟩ ⟨Nat.le_of_ble_eq_true rfl, Nat.le_of_ble_eq_true rfl⟩ ⟨Nat.le_refl _, Nat.le_refl _⟩ rfl hl.1 rfl (Nat.le_of_ble_eq_true rfl) dL_law_577 (fun H locs hPM hPX hS => ?_)
  refine lv_icmp_eq (tgt := 1683) hx hb dL_law_580 (by decide) (fun _ => ?_) (fun c => absurd er c)
  refine lv_iinc (v := nI i + 6) (lv' := [(3, .int (nI i + 6)), (0, .ref b), (1, .ref (aX 0)), (2, .ref (aM 0))]) hx hb dL_law_1683 hl (k := 3) rfl (congrArg (fun z => nI i + z) (by decide)) (by decide) rfl (fun ls hl => ?_)
  refine lv_goto (tgt := 18) hx hb dL_law_1686 (by decide) ?_
  exact ih _ _ _ ⟨_, _, _, _, _, _, _, _, _, _, _, _, _, _, _, _, _, _, _, _, _, _, _, _, _, _, _, _, _, _, _, _, _, _, _, _, _, _, _, _, _, _, _, _, _, _, _, _, _, _, _, _, _, _, _, _, _, _, _, hPX, hPM, hRel⟩ hS (lv_sub hl [1, 2, 3, 0] rfl)
set_option maxHeartbeats 4000000 in
set_option maxRecDepth 100000 in
theorem law_c11 {p : Program} {l : Launch} {e : Jvm.Env} {s : State} {m : MethodId} {below : List Frame} {meth : Method} {c : Code} {b L : Nat} {xs : Nat → Int32} {D : va_G} {aX aM : Nat → Nat} {cI cJ cS : ClassId} {ut : Nat} {sa sb : Nat → Nat} (C1 : LC p s m meth c b L xs D aX aM cI cJ cS ut sa sb) (hL : L ≤ 3072) {i : Nat} (hi : i + 6 ≤ L)
    (ih : ∀ (H : Heap) (locs : List Loc) (ls : Array Slot), LInv D aX aM cI cJ cS H → va_S (fun q : Nat => s.heap.size ≤ q) s.heap H locs → lv_has ls 4 [(0, .ref b), (1, .ref (aX 0)), (2, .ref (aM 0)), (3, .int (nI i + 6))] → W p l e room_1 s m #[Value.ref b] below meth c H locs 600000 7302250 (lw_Z below #[Value.ref b] s) (F0 m 18 ls [])) {H : Heap} {locs : List Loc} {ls : Array Slot} (hI : LInv D aX aM cI cJ cS H) (hS : va_S (fun q : Nat => s.heap.size ≤ q) s.heap H locs) (hl : lv_has ls 4 [(0, .ref b), (1, .ref (aX 0)), (2, .ref (aM 0)), (3, .int (nI i))]) : W p l e room_1 s m #[Value.ref b] below meth c H locs 600000 7302250 (lw_Z below #[Value.ref b] s) (F0 m 585 ls []) := by
  obtain ⟨⟨hx, hb, hml, hown, hts, hX, hbl⟩, hK, hE, hdX, hdM, hfX, hfM, hdj⟩ := C1
  have hbA : ¬ (fun q : Nat => s.heap.size ≤ q) b := Nat.not_le.mpr hbl
  obtain ⟨par, kin, lea, mos, wrt, tal, siz, tol, hrs, ags, yea, kpar, kkin, klea, kmos, kwrt, ktal, ksiz, ktol, khrs, kags, kyea, isk, tly, gai, bes, low, hig, spn, byt, hld, sta, beh, sor, num, fnd, sbi, she, snu, msv, mkep, mbef, misk, mfnd, mman, mnex, mwor, msng, mhea, mlat, mtap, mtpd, mher, mflt, mvlu, mbit, mlon, mcel, mbtw, hPX, hPM, hRel⟩ := hI
  have hin1 : vp_in (nI i + 1) L := by rw [show (nI i + 1 : Int32) = nI (i + 1) from nI_add i 1]; exact vp_in_nI (by omega) (by omega)
  have hin2 : vp_in (nI i + 2) L := by rw [show (nI i + 2 : Int32) = nI (i + 2) from nI_add i 2]; exact vp_in_nI (by omega) (by omega)
  obtain ⟨rx, rm, ex, em, er, hRel⟩ := eq_ways hRel (xs (nI i + 1).toNatClampNeg) (xs (nI i + 2).toNatClampNeg)
  refine lv_aload_n hx hb dL_law_585 rfl (lv_at hl 1 rfl) ?_
  refine lv_aload_n hx hb dL_law_586 rfl (lv_at hl 0 rfl) ?_
  refine lv_iload_n hx hb dL_law_587 rfl (lv_at hl 3 rfl) ?_
  refine lv_iconst (v := 1) hx hb dL_law_588 (by decide) ?_
  refine lv_iadd hx hb dL_law_589 ?_
  refine va_sld hx hb hX hbl hbA hS hin1 dL_law_590 ?_
  refine lv_aload_n hx hb dL_law_591 rfl (lv_at hl 0 rfl) ?_
  refine lv_iload_n hx hb dL_law_592 rfl (lv_at hl 3 rfl) ?_
  refine lv_iconst (v := 2) hx hb dL_law_593 (by decide) ?_
  refine lv_iadd hx hb dL_law_594 ?_
  refine va_sld hx hb hX hbl hbA hS hin2 dL_law_595 ?_
  refine lwL (q0 := 0) (ci := 5) hx hb hml hown hts (envL_ok ut sa sb) hE hK hfX hPX hPM (fun k q hq j hj e => hdj j k hj (at_fst (a := aM) (N := 16) (ws := wM aM cI cJ cS msv mkep mbef misk mfnd mman mnex mwor msng mhea mlat mtap mtpd mher mflt mvlu mbit mlon mcel mbtw) rfl k q hq).1 (e.symm.trans (at_fst (a := aM) (N := 16) (ws := wM aM cI cJ cS msv mkep mbef misk mfnd mman mnex mwor msng mhea mlat mtap mtpd mher mflt mvlu mbit mlon mcel mbtw) rfl k q hq).2)) hS (kX5_ways l D aX cI cJ cS hdX (envL_ok ut sa sb) par kin lea mos wrt tal siz tol hrs ags yea kpar kkin klea kmos kwrt ktal ksiz ktol khrs kags kyea isk tly gai bes low hig spn byt hld sta beh sor num fnd sbi she snu (xs (nI i + 1).toNatClampNeg) (xs (nI i + 2).toNatClampNeg) rx ex) gT_X5_ways rfl hdX5_ways rfl rfl rfl ⟨rfl, rfl⟩ ⟨Nat.le_of_ble_eq_true rfl, Nat.le_of_ble_eq_true rfl⟩ ⟨Nat.le_refl _, Nat.le_refl _⟩ rfl hl.1 rfl (Nat.le_of_ble_eq_true rfl) dL_law_596 (fun H locs hPX hPM hS => ?_)
  refine lv_aload_n hx hb dL_law_599 rfl (lv_at hl 2 rfl) ?_
  refine lv_aload_n hx hb dL_law_600 rfl (lv_at hl 0 rfl) ?_
  refine lv_iload_n hx hb dL_law_601 rfl (lv_at hl 3 rfl) ?_
  refine lv_iconst (v := 1) hx hb dL_law_602 (by decide) ?_
  refine lv_iadd hx hb dL_law_603 ?_
  refine va_sld hx hb hX hbl hbA hS hin1 dL_law_604 ?_
  refine lv_aload_n hx hb dL_law_605 rfl (lv_at hl 0 rfl) ?_
  refine lv_iload_n hx hb dL_law_606 rfl (lv_at hl 3 rfl) ?_
  refine lv_iconst (v := 2) hx hb dL_law_607 (by decide) ?_
  refine lv_iadd hx hb dL_law_608 ?_
  refine va_sld hx hb hX hbl hbA hS hin2 dL_law_609 ?_
  refine lwL (q0 := 0) (ci := 6) hx hb hml hown hts (envL_ok ut sa sb) hE hK hfM hPM hPX (fun k q hq j hj e => hdj k j (at_fst (a := aX) (N := 36) (ws := wX aX cI cJ cS par kin lea mos wrt tal siz tol hrs ags yea kpar kkin klea kmos kwrt ktal ksiz ktol khrs kags kyea isk rx.2.1 gai bes low hig spn byt hld sta beh sor num rx.2.2 sbi she snu) rfl k q hq).1 hj ((at_fst (a := aX) (N := 36) (ws := wX aX cI cJ cS par kin lea mos wrt tal siz tol hrs ags yea kpar kkin klea kmos kwrt ktal ksiz ktol khrs kags kyea isk rx.2.1 gai bes low hig spn byt hld sta beh sor num rx.2.2 sbi she snu) rfl k q hq).2.symm.trans e)) hS (kX6_ways l D aM cI cJ cS hdM (envL_ok ut sa sb) msv mkep mbef misk mfnd mman mnex mwor msng mhea mlat mtap mtpd mher mflt mvlu mbit mlon mcel mbtw (xs (nI i + 1).toNatClampNeg) (xs (nI i + 2).toNatClampNeg) rm em) gT_X6_ways rfl hdX6_ways rfl rfl rfl ⟨rfl, rfl⟩ ⟨Nat.le_of_ble_eq_true rfl, Nat.le_of_ble_eq_true rfl⟩ ⟨Nat.le_refl _, Nat.le_refl _⟩ rfl hl.1 rfl (Nat.le_of_ble_eq_true rfl) dL_law_610 (fun H locs hPM hPX hS => ?_)
  refine W.lcmp hx hb dL_law_613 ?_
  refine lv_if_eq (tgt := 1683) hx hb dL_law_614 (by decide) (fun _ => ?_) (fun c => absurd (by rw [er]; exact lg_cmp_same _) c)
  refine lv_iinc (v := nI i + 6) (lv' := [(3, .int (nI i + 6)), (0, .ref b), (1, .ref (aX 0)), (2, .ref (aM 0))]) hx hb dL_law_1683 hl (k := 3) rfl (congrArg (fun z => nI i + z) (by decide)) (by decide) rfl (fun ls hl => ?_)
  refine lv_goto (tgt := 18) hx hb dL_law_1686 (by decide) ?_
  exact ih _ _ _ ⟨_, _, _, _, _, _, _, _, _, _, _, _, _, _, _, _, _, _, _, _, _, _, _, _, _, _, _, _, _, _, _, _, _, _, _, _, _, _, _, _, _, _, _, _, _, _, _, _, _, _, _, _, _, _, _, _, _, _, _, hPX, hPM, hRel⟩ hS (lv_sub hl [1, 2, 3, 0] rfl)
set_option maxHeartbeats 4000000 in
set_option maxRecDepth 100000 in
theorem law_c12 {p : Program} {l : Launch} {e : Jvm.Env} {s : State} {m : MethodId} {below : List Frame} {meth : Method} {c : Code} {b L : Nat} {xs : Nat → Int32} {D : va_G} {aX aM : Nat → Nat} {cI cJ cS : ClassId} {ut : Nat} {sa sb : Nat → Nat} (C1 : LC p s m meth c b L xs D aX aM cI cJ cS ut sa sb) (hL : L ≤ 3072) {i : Nat} (hi : i + 6 ≤ L)
    (ih : ∀ (H : Heap) (locs : List Loc) (ls : Array Slot), LInv D aX aM cI cJ cS H → va_S (fun q : Nat => s.heap.size ≤ q) s.heap H locs → lv_has ls 4 [(0, .ref b), (1, .ref (aX 0)), (2, .ref (aM 0)), (3, .int (nI i + 6))] → W p l e room_1 s m #[Value.ref b] below meth c H locs 600000 7302250 (lw_Z below #[Value.ref b] s) (F0 m 18 ls [])) {H : Heap} {locs : List Loc} {ls : Array Slot} (hI : LInv D aX aM cI cJ cS H) (hS : va_S (fun q : Nat => s.heap.size ≤ q) s.heap H locs) (hl : lv_has ls 4 [(0, .ref b), (1, .ref (aX 0)), (2, .ref (aM 0)), (3, .int (nI i))]) : W p l e room_1 s m #[Value.ref b] below meth c H locs 600000 7302250 (lw_Z below #[Value.ref b] s) (F0 m 619 ls []) := by
  obtain ⟨⟨hx, hb, hml, hown, hts, hX, hbl⟩, hK, hE, hdX, hdM, hfX, hfM, hdj⟩ := C1
  have hbA : ¬ (fun q : Nat => s.heap.size ≤ q) b := Nat.not_le.mpr hbl
  obtain ⟨par, kin, lea, mos, wrt, tal, siz, tol, hrs, ags, yea, kpar, kkin, klea, kmos, kwrt, ktal, ksiz, ktol, khrs, kags, kyea, isk, tly, gai, bes, low, hig, spn, byt, hld, sta, beh, sor, num, fnd, sbi, she, snu, msv, mkep, mbef, misk, mfnd, mman, mnex, mwor, msng, mhea, mlat, mtap, mtpd, mher, mflt, mvlu, mbit, mlon, mcel, mbtw, hPX, hPM, hRel⟩ := hI
  have hin1 : vp_in (nI i + 1) L := by rw [show (nI i + 1 : Int32) = nI (i + 1) from nI_add i 1]; exact vp_in_nI (by omega) (by omega)
  obtain ⟨rx, rm, ex, em, er, hRel⟩ := eq_allWays hRel (xs (nI i + 1).toNatClampNeg)
  refine lv_aload_n hx hb dL_law_619 rfl (lv_at hl 1 rfl) ?_
  refine lv_aload_n hx hb dL_law_620 rfl (lv_at hl 0 rfl) ?_
  refine lv_iload_n hx hb dL_law_621 rfl (lv_at hl 3 rfl) ?_
  refine lv_iconst (v := 1) hx hb dL_law_622 (by decide) ?_
  refine lv_iadd hx hb dL_law_623 ?_
  refine va_sld hx hb hX hbl hbA hS hin1 dL_law_624 ?_
  refine lwL (q0 := 0) (ci := 5) hx hb hml hown hts (envL_ok ut sa sb) hE hK hfX hPX hPM (fun k q hq j hj e => hdj j k hj (at_fst (a := aM) (N := 16) (ws := wM aM cI cJ cS msv mkep mbef misk mfnd mman mnex mwor msng mhea mlat mtap mtpd mher mflt mvlu mbit mlon mcel mbtw) rfl k q hq).1 (e.symm.trans (at_fst (a := aM) (N := 16) (ws := wM aM cI cJ cS msv mkep mbef misk mfnd mman mnex mwor msng mhea mlat mtap mtpd mher mflt mvlu mbit mlon mcel mbtw) rfl k q hq).2)) hS (kX5_allWays l D aX cI cJ cS hdX (envL_ok ut sa sb) par kin lea mos wrt tal siz tol hrs ags yea kpar kkin klea kmos kwrt ktal ksiz ktol khrs kags kyea isk tly gai bes low hig spn byt hld sta beh sor num fnd sbi she snu (xs (nI i + 1).toNatClampNeg) rx ex) gT_X5_allWays rfl hdX5_allWays rfl rfl rfl ⟨rfl, rfl⟩ ⟨Nat.le_of_ble_eq_true rfl, Nat.le_of_ble_eq_true rfl⟩ ⟨Nat.le_refl _, Nat.le_refl _⟩ rfl hl.1 rfl (Nat.le_of_ble_eq_true rfl) dL_law_625 (fun H locs hPX hPM hS => ?_)
  refine lv_aload_n hx hb dL_law_628 rfl (lv_at hl 2 rfl) ?_
  refine lv_aload_n hx hb dL_law_629 rfl (lv_at hl 0 rfl) ?_
  refine lv_iload_n hx hb dL_law_630 rfl (lv_at hl 3 rfl) ?_
  refine lv_iconst (v := 1) hx hb dL_law_631 (by decide) ?_
  refine lv_iadd hx hb dL_law_632 ?_
  refine va_sld hx hb hX hbl hbA hS hin1 dL_law_633 ?_
  refine lwL (q0 := 0) (ci := 6) hx hb hml hown hts (envL_ok ut sa sb) hE hK hfM hPM hPX (fun k q hq j hj e => hdj k j (at_fst (a := aX) (N := 36) (ws := wX aX cI cJ cS par kin lea mos wrt tal siz tol hrs ags yea kpar kkin klea kmos kwrt ktal ksiz ktol khrs kags kyea isk tly gai bes low hig spn byt hld sta beh sor num rx.2 sbi she snu) rfl k q hq).1 hj ((at_fst (a := aX) (N := 36) (ws := wX aX cI cJ cS par kin lea mos wrt tal siz tol hrs ags yea kpar kkin klea kmos kwrt ktal ksiz ktol khrs kags kyea isk tly gai bes low hig spn byt hld sta beh sor num rx.2 sbi she snu) rfl k q hq).2.symm.trans e)) hS (kX6_allWays l D aM cI cJ cS hdM (envL_ok ut sa sb) msv mkep mbef misk mfnd mman mnex mwor msng mhea mlat mtap mtpd mher mflt mvlu mbit mlon mcel mbtw (xs (nI i + 1).toNatClampNeg) rm em) gT_X6_allWays rfl hdX6_allWays rfl rfl rfl ⟨rfl, rfl⟩ ⟨Nat.le_of_ble_eq_true rfl, Nat.le_of_ble_eq_true rfl⟩ ⟨Nat.le_refl _, Nat.le_refl _⟩ rfl hl.1 rfl (Nat.le_of_ble_eq_true rfl) dL_law_634 (fun H locs hPM hPX hS => ?_)
  refine W.lcmp hx hb dL_law_637 ?_
  refine lv_if_eq (tgt := 1683) hx hb dL_law_638 (by decide) (fun _ => ?_) (fun c => absurd (by rw [er]; exact lg_cmp_same _) c)
  refine lv_iinc (v := nI i + 6) (lv' := [(3, .int (nI i + 6)), (0, .ref b), (1, .ref (aX 0)), (2, .ref (aM 0))]) hx hb dL_law_1683 hl (k := 3) rfl (congrArg (fun z => nI i + z) (by decide)) (by decide) rfl (fun ls hl => ?_)
  refine lv_goto (tgt := 18) hx hb dL_law_1686 (by decide) ?_
  exact ih _ _ _ ⟨_, _, _, _, _, _, _, _, _, _, _, _, _, _, _, _, _, _, _, _, _, _, _, _, _, _, _, _, _, _, _, _, _, _, _, _, _, _, _, _, _, _, _, _, _, _, _, _, _, _, _, _, _, _, _, _, _, _, _, hPX, hPM, hRel⟩ hS (lv_sub hl [1, 2, 3, 0] rfl)
set_option maxHeartbeats 4000000 in
set_option maxRecDepth 100000 in
theorem law_c13 {p : Program} {l : Launch} {e : Jvm.Env} {s : State} {m : MethodId} {below : List Frame} {meth : Method} {c : Code} {b L : Nat} {xs : Nat → Int32} {D : va_G} {aX aM : Nat → Nat} {cI cJ cS : ClassId} {ut : Nat} {sa sb : Nat → Nat} (C1 : LC p s m meth c b L xs D aX aM cI cJ cS ut sa sb) (hL : L ≤ 3072) {i : Nat} (hi : i + 6 ≤ L)
    (ih : ∀ (H : Heap) (locs : List Loc) (ls : Array Slot), LInv D aX aM cI cJ cS H → va_S (fun q : Nat => s.heap.size ≤ q) s.heap H locs → lv_has ls 4 [(0, .ref b), (1, .ref (aX 0)), (2, .ref (aM 0)), (3, .int (nI i + 6))] → W p l e room_1 s m #[Value.ref b] below meth c H locs 600000 7302250 (lw_Z below #[Value.ref b] s) (F0 m 18 ls [])) {H : Heap} {locs : List Loc} {ls : Array Slot} (hI : LInv D aX aM cI cJ cS H) (hS : va_S (fun q : Nat => s.heap.size ≤ q) s.heap H locs) (hl : lv_has ls 4 [(0, .ref b), (1, .ref (aX 0)), (2, .ref (aM 0)), (3, .int (nI i))]) : W p l e room_1 s m #[Value.ref b] below meth c H locs 600000 7302250 (lw_Z below #[Value.ref b] s) (F0 m 643 ls []) := by
  obtain ⟨⟨hx, hb, hml, hown, hts, hX, hbl⟩, hK, hE, hdX, hdM, hfX, hfM, hdj⟩ := C1
  have hbA : ¬ (fun q : Nat => s.heap.size ≤ q) b := Nat.not_le.mpr hbl
  obtain ⟨par, kin, lea, mos, wrt, tal, siz, tol, hrs, ags, yea, kpar, kkin, klea, kmos, kwrt, ktal, ksiz, ktol, khrs, kags, kyea, isk, tly, gai, bes, low, hig, spn, byt, hld, sta, beh, sor, num, fnd, sbi, she, snu, msv, mkep, mbef, misk, mfnd, mman, mnex, mwor, msng, mhea, mlat, mtap, mtpd, mher, mflt, mvlu, mbit, mlon, mcel, mbtw, hPX, hPM, hRel⟩ := hI
  have hin1 : vp_in (nI i + 1) L := by rw [show (nI i + 1 : Int32) = nI (i + 1) from nI_add i 1]; exact vp_in_nI (by omega) (by omega)
  have hin2 : vp_in (nI i + 2) L := by rw [show (nI i + 2 : Int32) = nI (i + 2) from nI_add i 2]; exact vp_in_nI (by omega) (by omega)
  obtain ⟨rx, rm, ex, em, er, hRel⟩ := eq_length hRel (xs (nI i + 1).toNatClampNeg) (xs (nI i + 2).toNatClampNeg)
  refine lv_aload_n hx hb dL_law_643 rfl (lv_at hl 1 rfl) ?_
  refine lv_aload_n hx hb dL_law_644 rfl (lv_at hl 0 rfl) ?_
  refine lv_iload_n hx hb dL_law_645 rfl (lv_at hl 3 rfl) ?_
  refine lv_iconst (v := 1) hx hb dL_law_646 (by decide) ?_
  refine lv_iadd hx hb dL_law_647 ?_
  refine va_sld hx hb hX hbl hbA hS hin1 dL_law_648 ?_
  refine lv_aload_n hx hb dL_law_649 rfl (lv_at hl 0 rfl) ?_
  refine lv_iload_n hx hb dL_law_650 rfl (lv_at hl 3 rfl) ?_
  refine lv_iconst (v := 2) hx hb dL_law_651 (by decide) ?_
  refine lv_iadd hx hb dL_law_652 ?_
  refine va_sld hx hb hX hbl hbA hS hin2 dL_law_653 ?_
  refine lwI (q0 := 0) (ci := 5) hx hb hml hown hts (envL_ok ut sa sb) hE hK hfX hPX hPM (fun k q hq j hj e => hdj j k hj (at_fst (a := aM) (N := 16) (ws := wM aM cI cJ cS msv mkep mbef misk mfnd mman mnex mwor msng mhea mlat mtap mtpd mher mflt mvlu mbit mlon mcel mbtw) rfl k q hq).1 (e.symm.trans (at_fst (a := aM) (N := 16) (ws := wM aM cI cJ cS msv mkep mbef misk mfnd mman mnex mwor msng mhea mlat mtap mtpd mher mflt mvlu mbit mlon mcel mbtw) rfl k q hq).2)) hS (kX5_length l D aX cI cJ cS hdX (envL_ok ut sa sb) par kin lea mos wrt tal siz tol hrs ags yea kpar kkin klea kmos kwrt ktal ksiz ktol khrs kags kyea isk tly gai bes low hig spn byt hld sta beh sor num fnd sbi she snu (xs (nI i + 1).toNatClampNeg) (xs (nI i + 2).toNatClampNeg) rx ex) gT_X5_length rfl hdX5_length rfl rfl rfl ⟨rfl, rfl⟩ ⟨Nat.le_of_ble_eq_true rfl, Nat.le_of_ble_eq_true rfl⟩ ⟨Nat.le_refl _, Nat.le_refl _⟩ rfl hl.1 rfl (Nat.le_of_ble_eq_true rfl) dL_law_654 (fun H locs hPX hPM hS => ?_)
  refine lv_aload_n hx hb dL_law_657 rfl (lv_at hl 2 rfl) ?_
  refine lv_aload_n hx hb dL_law_658 rfl (lv_at hl 0 rfl) ?_
  refine lv_iload_n hx hb dL_law_659 rfl (lv_at hl 3 rfl) ?_
  refine lv_iconst (v := 1) hx hb dL_law_660 (by decide) ?_
  refine lv_iadd hx hb dL_law_661 ?_
  refine va_sld hx hb hX hbl hbA hS hin1 dL_law_662 ?_
  refine lv_aload_n hx hb dL_law_663 rfl (lv_at hl 0 rfl) ?_
  refine lv_iload_n hx hb dL_law_664 rfl (lv_at hl 3 rfl) ?_
  refine lv_iconst (v := 2) hx hb dL_law_665 (by decide) ?_
  refine lv_iadd hx hb dL_law_666 ?_
  refine va_sld hx hb hX hbl hbA hS hin2 dL_law_667 ?_
  refine lwI (q0 := 0) (ci := 6) hx hb hml hown hts (envL_ok ut sa sb) hE hK hfM hPM hPX (fun k q hq j hj e => hdj k j (at_fst (a := aX) (N := 36) (ws := wX aX cI cJ cS par kin lea mos wrt tal siz tol hrs ags yea kpar kkin klea kmos kwrt ktal ksiz ktol khrs kags kyea isk tly gai bes rx.2.1 rx.2.2.1 rx.2.2.2.1 byt hld sta beh sor num rx.2.2.2.2 sbi she snu) rfl k q hq).1 hj ((at_fst (a := aX) (N := 36) (ws := wX aX cI cJ cS par kin lea mos wrt tal siz tol hrs ags yea kpar kkin klea kmos kwrt ktal ksiz ktol khrs kags kyea isk tly gai bes rx.2.1 rx.2.2.1 rx.2.2.2.1 byt hld sta beh sor num rx.2.2.2.2 sbi she snu) rfl k q hq).2.symm.trans e)) hS (kX6_length l D aM cI cJ cS hdM (envL_ok ut sa sb) msv mkep mbef misk mfnd mman mnex mwor msng mhea mlat mtap mtpd mher mflt mvlu mbit mlon mcel mbtw (xs (nI i + 1).toNatClampNeg) (xs (nI i + 2).toNatClampNeg) rm em) gT_X6_length rfl hdX6_length rfl rfl rfl ⟨rfl, rfl⟩ ⟨Nat.le_of_ble_eq_true rfl, Nat.le_of_ble_eq_true rfl⟩ ⟨Nat.le_refl _, Nat.le_refl _⟩ rfl hl.1 rfl (Nat.le_of_ble_eq_true rfl) dL_law_668 (fun H locs hPM hPX hS => ?_)
  refine lv_icmp_eq (tgt := 1683) hx hb dL_law_671 (by decide) (fun _ => ?_) (fun c => absurd er c)
  refine lv_iinc (v := nI i + 6) (lv' := [(3, .int (nI i + 6)), (0, .ref b), (1, .ref (aX 0)), (2, .ref (aM 0))]) hx hb dL_law_1683 hl (k := 3) rfl (congrArg (fun z => nI i + z) (by decide)) (by decide) rfl (fun ls hl => ?_)
  refine lv_goto (tgt := 18) hx hb dL_law_1686 (by decide) ?_
  exact ih _ _ _ ⟨_, _, _, _, _, _, _, _, _, _, _, _, _, _, _, _, _, _, _, _, _, _, _, _, _, _, _, _, _, _, _, _, _, _, _, _, _, _, _, _, _, _, _, _, _, _, _, _, _, _, _, _, _, _, _, _, _, _, _, hPX, hPM, hRel⟩ hS (lv_sub hl [1, 2, 3, 0] rfl)
set_option maxHeartbeats 4000000 in
set_option maxRecDepth 100000 in
theorem law_c14 {p : Program} {l : Launch} {e : Jvm.Env} {s : State} {m : MethodId} {below : List Frame} {meth : Method} {c : Code} {b L : Nat} {xs : Nat → Int32} {D : va_G} {aX aM : Nat → Nat} {cI cJ cS : ClassId} {ut : Nat} {sa sb : Nat → Nat} (C1 : LC p s m meth c b L xs D aX aM cI cJ cS ut sa sb) (hL : L ≤ 3072) {i : Nat} (hi : i + 6 ≤ L)
    (ih : ∀ (H : Heap) (locs : List Loc) (ls : Array Slot), LInv D aX aM cI cJ cS H → va_S (fun q : Nat => s.heap.size ≤ q) s.heap H locs → lv_has ls 4 [(0, .ref b), (1, .ref (aX 0)), (2, .ref (aM 0)), (3, .int (nI i + 6))] → W p l e room_1 s m #[Value.ref b] below meth c H locs 600000 7302250 (lw_Z below #[Value.ref b] s) (F0 m 18 ls [])) {H : Heap} {locs : List Loc} {ls : Array Slot} (hI : LInv D aX aM cI cJ cS H) (hS : va_S (fun q : Nat => s.heap.size ≤ q) s.heap H locs) (hl : lv_has ls 4 [(0, .ref b), (1, .ref (aX 0)), (2, .ref (aM 0)), (3, .int (nI i))]) : W p l e room_1 s m #[Value.ref b] below meth c H locs 600000 7302250 (lw_Z below #[Value.ref b] s) (F0 m 676 ls []) := by
  obtain ⟨⟨hx, hb, hml, hown, hts, hX, hbl⟩, hK, hE, hdX, hdM, hfX, hfM, hdj⟩ := C1
  have hbA : ¬ (fun q : Nat => s.heap.size ≤ q) b := Nat.not_le.mpr hbl
  obtain ⟨par, kin, lea, mos, wrt, tal, siz, tol, hrs, ags, yea, kpar, kkin, klea, kmos, kwrt, ktal, ksiz, ktol, khrs, kags, kyea, isk, tly, gai, bes, low, hig, spn, byt, hld, sta, beh, sor, num, fnd, sbi, she, snu, msv, mkep, mbef, misk, mfnd, mman, mnex, mwor, msng, mhea, mlat, mtap, mtpd, mher, mflt, mvlu, mbit, mlon, mcel, mbtw, hPX, hPM, hRel⟩ := hI
  have hin1 : vp_in (nI i + 1) L := by rw [show (nI i + 1 : Int32) = nI (i + 1) from nI_add i 1]; exact vp_in_nI (by omega) (by omega)
  have hin2 : vp_in (nI i + 2) L := by rw [show (nI i + 2 : Int32) = nI (i + 2) from nI_add i 2]; exact vp_in_nI (by omega) (by omega)
  have hin3 : vp_in (nI i + 3) L := by rw [show (nI i + 3 : Int32) = nI (i + 3) from nI_add i 3]; exact vp_in_nI (by omega) (by omega)
  obtain ⟨rx, rm, ex, em, er, hRel⟩ := eq_best hRel (xs (nI i + 1).toNatClampNeg) (xs (nI i + 2).toNatClampNeg) (xs (nI i + 3).toNatClampNeg)
  refine lv_aload_n hx hb dL_law_676 rfl (lv_at hl 1 rfl) ?_
  refine lv_aload_n hx hb dL_law_677 rfl (lv_at hl 0 rfl) ?_
  refine lv_iload_n hx hb dL_law_678 rfl (lv_at hl 3 rfl) ?_
  refine lv_iconst (v := 1) hx hb dL_law_679 (by decide) ?_
  refine lv_iadd hx hb dL_law_680 ?_
  refine va_sld hx hb hX hbl hbA hS hin1 dL_law_681 ?_
  refine lv_aload_n hx hb dL_law_682 rfl (lv_at hl 0 rfl) ?_
  refine lv_iload_n hx hb dL_law_683 rfl (lv_at hl 3 rfl) ?_
  refine lv_iconst (v := 2) hx hb dL_law_684 (by decide) ?_
  refine lv_iadd hx hb dL_law_685 ?_
  refine va_sld hx hb hX hbl hbA hS hin2 dL_law_686 ?_
  refine lv_aload_n hx hb dL_law_687 rfl (lv_at hl 0 rfl) ?_
  refine lv_iload_n hx hb dL_law_688 rfl (lv_at hl 3 rfl) ?_
  refine lv_iconst (v := 3) hx hb dL_law_689 (by decide) ?_
  refine lv_iadd hx hb dL_law_690 ?_
  refine va_sld hx hb hX hbl hbA hS hin3 dL_law_691 ?_
  refine lwI (q0 := 0) (ci := 5) hx hb hml hown hts (envL_ok ut sa sb) hE hK hfX hPX hPM (fun k q hq j hj e => hdj j k hj (at_fst (a := aM) (N := 16) (ws := wM aM cI cJ cS msv mkep mbef misk mfnd mman mnex mwor msng mhea mlat mtap mtpd mher mflt mvlu mbit mlon mcel mbtw) rfl k q hq).1 (e.symm.trans (at_fst (a := aM) (N := 16) (ws := wM aM cI cJ cS msv mkep mbef misk mfnd mman mnex mwor msng mhea mlat mtap mtpd mher mflt mvlu mbit mlon mcel mbtw) rfl k q hq).2)) hS (kX5_best l D aX cI cJ cS hdX (envL_ok ut sa sb) par kin lea mos wrt tal siz tol hrs ags yea kpar kkin klea kmos kwrt ktal ksiz ktol khrs kags kyea isk tly gai bes low hig spn byt hld sta beh sor num fnd sbi she snu (xs (nI i + 1).toNatClampNeg) (xs (nI i + 2).toNatClampNeg) (xs (nI i + 3).toNatClampNeg) rx ex) gT_X5_best rfl hdX5_best rfl rfl rfl ⟨rfl, rfl⟩ ⟨Nat.le_of_ble_eq_true rfl, Nat.le_of_ble_eq_true rfl⟩ ⟨Nat.le_refl _, Nat.le_refl _⟩ rfl hl.1 rfl (Nat.le_of_ble_eq_true rfl) dL_law_692 (fun H locs hPX hPM hS => ?_)
  refine lv_aload_n hx hb dL_law_695 rfl (lv_at hl 2 rfl) ?_
  refine lv_aload_n hx hb dL_law_696 rfl (lv_at hl 0 rfl) ?_
  refine lv_iload_n hx hb dL_law_697 rfl (lv_at hl 3 rfl) ?_
  refine lv_iconst (v := 1) hx hb dL_law_698 (by decide) ?_
  refine lv_iadd hx hb dL_law_699 ?_
  refine va_sld hx hb hX hbl hbA hS hin1 dL_law_700 ?_
  refine lv_aload_n hx hb dL_law_701 rfl (lv_at hl 0 rfl) ?_
  refine lv_iload_n hx hb dL_law_702 rfl (lv_at hl 3 rfl) ?_
  refine lv_iconst (v := 2) hx hb dL_law_703 (by decide) ?_
  refine lv_iadd hx hb dL_law_704 ?_
  refine va_sld hx hb hX hbl hbA hS hin2 dL_law_705 ?_
  refine lv_aload_n hx hb dL_law_706 rfl (lv_at hl 0 rfl) ?_
  refine lv_iload_n hx hb dL_law_707 rfl (lv_at hl 3 rfl) ?_
  refine lv_iconst (v := 3) hx hb dL_law_708 (by decide) ?_
  refine lv_iadd hx hb dL_law_709 ?_
  refine va_sld hx hb hX hbl hbA hS hin3 dL_law_710 ?_
  refine lwI (q0 := 0) (ci := 6) hx hb hml hown hts (envL_ok ut sa sb) hE hK hfM hPM hPX (fun k q hq j hj e => hdj k j (at_fst (a := aX) (N := 36) (ws := wX aX cI cJ cS par kin lea mos wrt tal siz tol hrs ags yea kpar kkin klea kmos kwrt ktal ksiz ktol khrs kags kyea isk tly rx.2.1 rx.2.2.1 low hig spn byt hld sta beh sor num rx.2.2.2 sbi she snu) rfl k q hq).1 hj ((at_fst (a := aX) (N := 36) (ws := wX aX cI cJ cS par kin lea mos wrt tal siz tol hrs ags yea kpar kkin klea kmos kwrt ktal ksiz ktol khrs kags kyea isk tly rx.2.1 rx.2.2.1 low hig spn byt hld sta beh sor num rx.2.2.2 sbi she snu) rfl k q hq).2.symm.trans e)) hS (kX6_best l D aM cI cJ cS hdM (envL_ok ut sa sb) msv mkep mbef misk mfnd mman mnex mwor msng mhea mlat mtap mtpd mher mflt mvlu mbit mlon mcel mbtw (xs (nI i + 1).toNatClampNeg) (xs (nI i + 2).toNatClampNeg) (xs (nI i + 3).toNatClampNeg) rm em) gT_X6_best rfl hdX6_best rfl rfl rfl ⟨rfl, rfl⟩ ⟨Nat.le_of_ble_eq_true rfl, Nat.le_of_ble_eq_true rfl⟩ ⟨Nat.le_refl _, Nat.le_refl _⟩ rfl hl.1 rfl (Nat.le_of_ble_eq_true rfl) dL_law_711 (fun H locs hPM hPX hS => ?_)
  refine lv_icmp_eq (tgt := 1683) hx hb dL_law_714 (by decide) (fun _ => ?_) (fun c => absurd er c)
  refine lv_iinc (v := nI i + 6) (lv' := [(3, .int (nI i + 6)), (0, .ref b), (1, .ref (aX 0)), (2, .ref (aM 0))]) hx hb dL_law_1683 hl (k := 3) rfl (congrArg (fun z => nI i + z) (by decide)) (by decide) rfl (fun ls hl => ?_)
  refine lv_goto (tgt := 18) hx hb dL_law_1686 (by decide) ?_
  exact ih _ _ _ ⟨_, _, _, _, _, _, _, _, _, _, _, _, _, _, _, _, _, _, _, _, _, _, _, _, _, _, _, _, _, _, _, _, _, _, _, _, _, _, _, _, _, _, _, _, _, _, _, _, _, _, _, _, _, _, _, _, _, _, _, hPX, hPM, hRel⟩ hS (lv_sub hl [1, 2, 3, 0] rfl)
set_option maxHeartbeats 4000000 in
set_option maxRecDepth 100000 in
theorem law_c15 {p : Program} {l : Launch} {e : Jvm.Env} {s : State} {m : MethodId} {below : List Frame} {meth : Method} {c : Code} {b L : Nat} {xs : Nat → Int32} {D : va_G} {aX aM : Nat → Nat} {cI cJ cS : ClassId} {ut : Nat} {sa sb : Nat → Nat} (C1 : LC p s m meth c b L xs D aX aM cI cJ cS ut sa sb) (hL : L ≤ 3072) {i : Nat} (hi : i + 6 ≤ L)
    (ih : ∀ (H : Heap) (locs : List Loc) (ls : Array Slot), LInv D aX aM cI cJ cS H → va_S (fun q : Nat => s.heap.size ≤ q) s.heap H locs → lv_has ls 4 [(0, .ref b), (1, .ref (aX 0)), (2, .ref (aM 0)), (3, .int (nI i + 6))] → W p l e room_1 s m #[Value.ref b] below meth c H locs 600000 7302250 (lw_Z below #[Value.ref b] s) (F0 m 18 ls [])) {H : Heap} {locs : List Loc} {ls : Array Slot} (hI : LInv D aX aM cI cJ cS H) (hS : va_S (fun q : Nat => s.heap.size ≤ q) s.heap H locs) (hl : lv_has ls 4 [(0, .ref b), (1, .ref (aX 0)), (2, .ref (aM 0)), (3, .int (nI i))]) : W p l e room_1 s m #[Value.ref b] below meth c H locs 600000 7302250 (lw_Z below #[Value.ref b] s) (F0 m 719 ls []) := by
  obtain ⟨⟨hx, hb, hml, hown, hts, hX, hbl⟩, hK, hE, hdX, hdM, hfX, hfM, hdj⟩ := C1
  have hbA : ¬ (fun q : Nat => s.heap.size ≤ q) b := Nat.not_le.mpr hbl
  obtain ⟨par, kin, lea, mos, wrt, tal, siz, tol, hrs, ags, yea, kpar, kkin, klea, kmos, kwrt, ktal, ksiz, ktol, khrs, kags, kyea, isk, tly, gai, bes, low, hig, spn, byt, hld, sta, beh, sor, num, fnd, sbi, she, snu, msv, mkep, mbef, misk, mfnd, mman, mnex, mwor, msng, mhea, mlat, mtap, mtpd, mher, mflt, mvlu, mbit, mlon, mcel, mbtw, hPX, hPM, hRel⟩ := hI
  have hin1 : vp_in (nI i + 1) L := by rw [show (nI i + 1 : Int32) = nI (i + 1) from nI_add i 1]; exact vp_in_nI (by omega) (by omega)
  obtain ⟨rx, rm, ex, em, er, hRel⟩ := eq_richest hRel (xs (nI i + 1).toNatClampNeg)
  refine lv_aload_n hx hb dL_law_719 rfl (lv_at hl 1 rfl) ?_
  refine lv_aload_n hx hb dL_law_720 rfl (lv_at hl 0 rfl) ?_
  refine lv_iload_n hx hb dL_law_721 rfl (lv_at hl 3 rfl) ?_
  refine lv_iconst (v := 1) hx hb dL_law_722 (by decide) ?_
  refine lv_iadd hx hb dL_law_723 ?_
  refine va_sld hx hb hX hbl hbA hS hin1 dL_law_724 ?_
  refine lwI (q0 := 0) (ci := 5) hx hb hml hown hts (envL_ok ut sa sb) hE hK hfX hPX hPM (fun k q hq j hj e => hdj j k hj (at_fst (a := aM) (N := 16) (ws := wM aM cI cJ cS msv mkep mbef misk mfnd mman mnex mwor msng mhea mlat mtap mtpd mher mflt mvlu mbit mlon mcel mbtw) rfl k q hq).1 (e.symm.trans (at_fst (a := aM) (N := 16) (ws := wM aM cI cJ cS msv mkep mbef misk mfnd mman mnex mwor msng mhea mlat mtap mtpd mher mflt mvlu mbit mlon mcel mbtw) rfl k q hq).2)) hS (kX5_richest l D aX cI cJ cS hdX (envL_ok ut sa sb) par kin lea mos wrt tal siz tol hrs ags yea kpar kkin klea kmos kwrt ktal ksiz ktol khrs kags kyea isk tly gai bes low hig spn byt hld sta beh sor num fnd sbi she snu (xs (nI i + 1).toNatClampNeg) rx ex) gT_X5_richest rfl hdX5_richest rfl rfl rfl ⟨rfl, rfl⟩ ⟨Nat.le_of_ble_eq_true rfl, Nat.le_of_ble_eq_true rfl⟩ ⟨Nat.le_refl _, Nat.le_refl _⟩ rfl hl.1 rfl (Nat.le_of_ble_eq_true rfl) dL_law_725 (fun H locs hPX hPM hS => ?_)
  refine lv_aload_n hx hb dL_law_728 rfl (lv_at hl 2 rfl) ?_
  refine lv_aload_n hx hb dL_law_729 rfl (lv_at hl 0 rfl) ?_
  refine lv_iload_n hx hb dL_law_730 rfl (lv_at hl 3 rfl) ?_
  refine lv_iconst (v := 1) hx hb dL_law_731 (by decide) ?_
  refine lv_iadd hx hb dL_law_732 ?_
  refine va_sld hx hb hX hbl hbA hS hin1 dL_law_733 ?_
  refine lwI (q0 := 0) (ci := 6) hx hb hml hown hts (envL_ok ut sa sb) hE hK hfM hPM hPX (fun k q hq j hj e => hdj k j (at_fst (a := aX) (N := 36) (ws := wX aX cI cJ cS par kin lea mos wrt tal siz tol hrs ags yea kpar kkin klea kmos kwrt ktal ksiz ktol khrs kags kyea isk tly rx.2.1 bes low hig spn byt hld sta beh sor num rx.2.2 sbi she snu) rfl k q hq).1 hj ((at_fst (a := aX) (N := 36) (ws := wX aX cI cJ cS par kin lea mos wrt tal siz tol hrs ags yea kpar kkin klea kmos kwrt ktal ksiz ktol khrs kags kyea isk tly rx.2.1 bes low hig spn byt hld sta beh sor num rx.2.2 sbi she snu) rfl k q hq).2.symm.trans e)) hS (kX6_richest l D aM cI cJ cS hdM (envL_ok ut sa sb) msv mkep mbef misk mfnd mman mnex mwor msng mhea mlat mtap mtpd mher mflt mvlu mbit mlon mcel mbtw (xs (nI i + 1).toNatClampNeg) rm em) gT_X6_richest rfl hdX6_richest rfl rfl rfl ⟨rfl, rfl⟩ ⟨Nat.le_of_ble_eq_true rfl, Nat.le_of_ble_eq_true rfl⟩ ⟨Nat.le_refl _, Nat.le_refl _⟩ rfl hl.1 rfl (Nat.le_of_ble_eq_true rfl) dL_law_734 (fun H locs hPM hPX hS => ?_)
  refine lv_icmp_eq (tgt := 1683) hx hb dL_law_737 (by decide) (fun _ => ?_) (fun c => absurd er c)
  refine lv_iinc (v := nI i + 6) (lv' := [(3, .int (nI i + 6)), (0, .ref b), (1, .ref (aX 0)), (2, .ref (aM 0))]) hx hb dL_law_1683 hl (k := 3) rfl (congrArg (fun z => nI i + z) (by decide)) (by decide) rfl (fun ls hl => ?_)
  refine lv_goto (tgt := 18) hx hb dL_law_1686 (by decide) ?_
  exact ih _ _ _ ⟨_, _, _, _, _, _, _, _, _, _, _, _, _, _, _, _, _, _, _, _, _, _, _, _, _, _, _, _, _, _, _, _, _, _, _, _, _, _, _, _, _, _, _, _, _, _, _, _, _, _, _, _, _, _, _, _, _, _, _, hPX, hPM, hRel⟩ hS (lv_sub hl [1, 2, 3, 0] rfl)
