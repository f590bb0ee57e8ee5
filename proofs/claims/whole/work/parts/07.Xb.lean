def fJ6_bitCount_0f7a4 (x0 : Int32) : Int32 :=
 ((((((((x0 - (((x0.toUInt32 >>> ((1 : Int32).toUInt32 &&& Int32.toUInt32 31)).toInt32) &&& (1431655765 : Int32))) &&& (858993459 : Int32)) + ((((x0 - (((x0.toUInt32 >>> ((1 : Int32).toUInt32 &&& Int32.toUInt32 31)).toInt32) &&& (1431655765 : Int32))).toUInt32 >>> ((2 : Int32).toUInt32 &&& Int32.toUInt32 31)).toInt32) &&& (858993459 : Int32))) + (((((x0 - (((x0.toUInt32 >>> ((1 : Int32).toUInt32 &&& Int32.toUInt32 31)).toInt32) &&& (1431655765 : Int32))) &&& (858993459 : Int32)) + ((((x0 - (((x0.toUInt32 >>> ((1 : Int32).toUInt32 &&& Int32.toUInt32 31)).toInt32) &&& (1431655765 : Int32))).toUInt32 >>> ((2 : Int32).toUInt32 &&& Int32.toUInt32 31)).toInt32) &&& (858993459 : Int32))).toUInt32 >>> ((4 : Int32).toUInt32 &&& Int32.toUInt32 31)).toInt32)) &&& (252645135 : Int32)) + (((((((x0 - (((x0.toUInt32 >>> ((1 : Int32).toUInt32 &&& Int32.toUInt32 31)).toInt32) &&& (1431655765 : Int32))) &&& (858993459 : Int32)) + ((((x0 - (((x0.toUInt32 >>> ((1 : Int32).toUInt32 &&& Int32.toUInt32 31)).toInt32) &&& (1431655765 : Int32))).toUInt32 >>> ((2 : Int32).toUInt32 &&& Int32.toUInt32 31)).toInt32) &&& (858993459 : Int32))) + (((((x0 - (((x0.toUInt32 >>> ((1 : Int32).toUInt32 &&& Int32.toUInt32 31)).toInt32) &&& (1431655765 : Int32))) &&& (858993459 : Int32)) + ((((x0 - (((x0.toUInt32 >>> ((1 : Int32).toUInt32 &&& Int32.toUInt32 31)).toInt32) &&& (1431655765 : Int32))).toUInt32 >>> ((2 : Int32).toUInt32 &&& Int32.toUInt32 31)).toInt32) &&& (858993459 : Int32))).toUInt32 >>> ((4 : Int32).toUInt32 &&& Int32.toUInt32 31)).toInt32)) &&& (252645135 : Int32)).toUInt32 >>> ((8 : Int32).toUInt32 &&& Int32.toUInt32 31)).toInt32)) + ((((((((x0 - (((x0.toUInt32 >>> ((1 : Int32).toUInt32 &&& Int32.toUInt32 31)).toInt32) &&& (1431655765 : Int32))) &&& (858993459 : Int32)) + ((((x0 - (((x0.toUInt32 >>> ((1 : Int32).toUInt32 &&& Int32.toUInt32 31)).toInt32) &&& (1431655765 : Int32))).toUInt32 >>> ((2 : Int32).toUInt32 &&& Int32.toUInt32 31)).toInt32) &&& (858993459 : Int32))) + (((((x0 - (((x0.toUInt32 >>> ((1 : Int32).toUInt32 &&& Int32.toUInt32 31)).toInt32) &&& (1431655765 : Int32))) &&& (858993459 : Int32)) + ((((x0 - (((x0.toUInt32 >>> ((1 : Int32).toUInt32 &&& Int32.toUInt32 31)).toInt32) &&& (1431655765 : Int32))).toUInt32 >>> ((2 : Int32).toUInt32 &&& Int32.toUInt32 31)).toInt32) &&& (858993459 : Int32))).toUInt32 >>> ((4 : Int32).toUInt32 &&& Int32.toUInt32 31)).toInt32)) &&& (252645135 : Int32)) + (((((((x0 - (((x0.toUInt32 >>> ((1 : Int32).toUInt32 &&& Int32.toUInt32 31)).toInt32) &&& (1431655765 : Int32))) &&& (858993459 : Int32)) + ((((x0 - (((x0.toUInt32 >>> ((1 : Int32).toUInt32 &&& Int32.toUInt32 31)).toInt32) &&& (1431655765 : Int32))).toUInt32 >>> ((2 : Int32).toUInt32 &&& Int32.toUInt32 31)).toInt32) &&& (858993459 : Int32))) + (((((x0 - (((x0.toUInt32 >>> ((1 : Int32).toUInt32 &&& Int32.toUInt32 31)).toInt32) &&& (1431655765 : Int32))) &&& (858993459 : Int32)) + ((((x0 - (((x0.toUInt32 >>> ((1 : Int32).toUInt32 &&& Int32.toUInt32 31)).toInt32) &&& (1431655765 : Int32))).toUInt32 >>> ((2 : Int32).toUInt32 &&& Int32.toUInt32 31)).toInt32) &&& (858993459 : Int32))).toUInt32 >>> ((4 : Int32).toUInt32 &&& Int32.toUInt32 31)).toInt32)) &&& (252645135 : Int32)).toUInt32 >>> ((8 : Int32).toUInt32 &&& Int32.toUInt32 31)).toInt32)).toUInt32 >>> ((16 : Int32).toUInt32 &&& Int32.toUInt32 31)).toInt32)) &&& (63 : Int32))
abbrev rJ6_bitCount_0f7a4 : Room := { frames := 0, cells := 0, slots := 0, locals := 0 }
set_option maxHeartbeats 4000000 in
set_option maxRecDepth 100000 in
theorem kJ6_bitCount_0f7a4 (l : Launch) (D : va_G) (a : Nat → Nat) (cI cJ cS : ClassId) (hd : aok a 36) {Env : (Nat → Prop) → State → Heap → Prop} (hEo : envOK Env) (par : Int32) (kin lea mos wrt : Nat → Int32) (tal : Int32) (siz tol : Nat → Int32) (hrs : Int32) (ags : Nat → Int32) (yea kpar : Int32) (kkin klea kmos kwrt : Nat → Int32) (ktal : Int32) (ksiz ktol : Nat → Int32) (khrs : Int32) (kags : Nat → Int32) (kyea isk : Int32) (tly : Nat → Int64) (gai bes : Nat → Int32) (low hig : Nat → Int64) (spn : Int32) (byt : Nat → Int32) (hld sta beh sor num : Int32) (fnd sbi she : Nat → Int32) (snu : Nat → Nat → Int64) (x0 : Int32) : CtI l D (tyL cI cJ cS) 36 a Env yJ6_bitCount_0f7a4 wsJ6_bitCount_0f7a4 rJ6_bitCount_0f7a4 [.int x0] (wX a cI cJ cS par kin lea mos wrt tal siz tol hrs ags yea kpar kkin klea kmos kwrt ktal ksiz ktol khrs kags kyea isk tly gai bes low hig spn byt hld sta beh sor num fnd sbi she snu) (wX a cI cJ cS par kin lea mos wrt tal siz tol hrs ags yea kpar kkin klea kmos kwrt ktal ksiz ktol khrs kags kyea isk tly gai bes low hig spn byt hld sta beh sor num fnd sbi she snu) (fJ6_bitCount_0f7a4 x0) := by
  generalize hres : fJ6_bitCount_0f7a4 x0 = res
  refine CtI_mk (cc := cJ6_bitCount_0f7a4) (maxL := 1) (ret := (some .int)) (by decide) rfl (Nat.le_of_ble_eq_true rfl) ?_
  intro p e s m args below meth c ls hx hb hr hlk hml hown hts hP hK hE hl
  have hS : va_S (adA a 36 s.heap.size) s.heap s.heap [] := va_S.rf
  have hl : lv_has ls 1 [(0, .int x0)] := hl
  have hown : s.vm.findClass RJ6 = some m.cls := hown
  have u1 : (Cond.constant RJ6 265 (1431655765)).before args s = true := hts _ (List.mem_of_getElem? (i := 1) (by decide +kernel))
  have u2 : (Cond.constant RJ6 266 (858993459)).before args s = true := hts _ (List.mem_of_getElem? (i := 2) (by decide +kernel))
  have u3 : (Cond.constant RJ6 267 (252645135)).before args s = true := hts _ (List.mem_of_getElem? (i := 3) (by decide +kernel))
  obtain ⟨Q, hQ⟩ : ∃ Q, Q = mqI below D 36 a args s (wX a cI cJ cS par kin lea mos wrt tal siz tol hrs ags yea kpar kkin klea kmos kwrt ktal ksiz ktol khrs kags kyea isk tly gai bes low hig spn byt hld sta beh sor num fnd sbi she snu) res := ⟨_, rfl⟩
  rw [← hQ]
  unfold fJ6_bitCount_0f7a4 at hres
  refine lv_iload_n hx hb dJ6_bitCount_0f7a4_0 rfl (lv_at hl 0 rfl) ?_
  refine lv_iload_n hx hb dJ6_bitCount_0f7a4_1 rfl (lv_at hl 0 rfl) ?_
  refine lv_iconst (v := 1) hx hb dJ6_bitCount_0f7a4_2 (by decide) ?_
  refine lv_iushr hx hb dJ6_bitCount_0f7a4_3 rfl ?_
  refine lv_ldcw hx hb hown u1 dJ6_bitCount_0f7a4_4 ?_
  refine lv_iand hx hb dJ6_bitCount_0f7a4_7 ?_
  refine lv_isub hx hb dJ6_bitCount_0f7a4_8 ?_
  refine lv_istore_n (lv' := [(0, .int (x0 - (((x0.toUInt32 >>> ((1 : Int32).toUInt32 &&& Int32.toUInt32 31)).toInt32) &&& (1431655765 : Int32))))]) hx hb dJ6_bitCount_0f7a4_9 rfl hl (by decide) rfl (fun ls hl => ?_)
  refine lv_iload_n hx hb dJ6_bitCount_0f7a4_10 rfl (lv_at hl 0 rfl) ?_
  refine lv_ldcw hx hb hown u2 dJ6_bitCount_0f7a4_11 ?_
  refine lv_iand hx hb dJ6_bitCount_0f7a4_14 ?_
  refine lv_iload_n hx hb dJ6_bitCount_0f7a4_15 rfl (lv_at hl 0 rfl) ?_
  refine lv_iconst (v := 2) hx hb dJ6_bitCount_0f7a4_16 (by decide) ?_
  refine lv_iushr hx hb dJ6_bitCount_0f7a4_17 rfl ?_
  refine lv_ldcw hx hb hown u2 dJ6_bitCount_0f7a4_18 ?_
  refine lv_iand hx hb dJ6_bitCount_0f7a4_21 ?_
  refine lv_iadd hx hb dJ6_bitCount_0f7a4_22 ?_
  refine lv_istore_n (lv' := [(0, .int (((x0 - (((x0.toUInt32 >>> ((1 : Int32).toUInt32 &&& Int32.toUInt32 31)).toInt32) &&& (1431655765 : Int32))) &&& (858993459 : Int32)) + ((((x0 - (((x0.toUInt32 >>> ((1 : Int32).toUInt32 &&& Int32.toUInt32 31)).toInt32) &&& (1431655765 : Int32))).toUInt32 >>> ((2 : Int32).toUInt32 &&& Int32.toUInt32 31)).toInt32) &&& (858993459 : Int32))))]) hx hb dJ6_bitCount_0f7a4_23 rfl hl (by decide) rfl (fun ls hl => ?_)
  refine lv_iload_n hx hb dJ6_bitCount_0f7a4_24 rfl (lv_at hl 0 rfl) ?_
  refine lv_iload_n hx hb dJ6_bitCount_0f7a4_25 rfl (lv_at hl 0 rfl) ?_
  refine lv_iconst (v := 4) hx hb dJ6_bitCount_0f7a4_26 (by decide) ?_
  refine lv_iushr hx hb dJ6_bitCount_0f7a4_27 rfl ?_
  refine lv_iadd hx hb dJ6_bitCount_0f7a4_28 ?_
  refine lv_ldcw hx hb hown u3 dJ6_bitCount_0f7a4_29 ?_
  refine lv_iand hx hb dJ6_bitCount_0f7a4_32 ?_
  refine lv_istore_n (lv' := [(0, .int (((((x0 - (((x0.toUInt32 >>> ((1 : Int32).toUInt32 &&& Int32.toUInt32 31)).toInt32) &&& (1431655765 : Int32))) &&& (858993459 : Int32)) + ((((x0 - (((x0.toUInt32 >>> ((1 : Int32).toUInt32 &&& Int32.toUInt32 31)).toInt32) &&& (1431655765 : Int32))).toUInt32 >>> ((2 : Int32).toUInt32 &&& Int32.toUInt32 31)).toInt32) &&& (858993459 : Int32))) + (((((x0 - (((x0.toUInt32 >>> ((1 : Int32).toUInt32 &&& Int32.toUInt32 31)).toInt32) &&& (1431655765 : Int32))) &&& (858993459 : Int32)) + ((((x0 - (((x0.toUInt32 >>> ((1 : Int32).toUInt32 &&& Int32.toUInt32 31)).toInt32) &&& (1431655765 : Int32))).toUInt32 >>> ((2 : Int32).toUInt32 &&& Int32.toUInt32 31)).toInt32) &&& (858993459 : Int32))).toUInt32 >>> ((4 : Int32).toUInt32 &&& Int32.toUInt32 31)).toInt32)) &&& (252645135 : Int32)))]) hx hb dJ6_bitCount_0f7a4_33 rfl hl (by decide) rfl (fun ls hl => ?_)
  refine lv_iload_n hx hb dJ6_bitCount_0f7a4_34 rfl (lv_at hl 0 rfl) ?_
  refine lv_iload_n hx hb dJ6_bitCount_0f7a4_35 rfl (lv_at hl 0 rfl) ?_
  refine lv_bipush (v := 8) hx hb dJ6_bitCount_0f7a4_36 (by decide) ?_
  refine lv_iushr hx hb dJ6_bitCount_0f7a4_38 rfl ?_
  refine lv_iadd hx hb dJ6_bitCount_0f7a4_39 ?_
  refine lv_istore_n (lv' := [(0, .int ((((((x0 - (((x0.toUInt32 >>> ((1 : Int32).toUInt32 &&& Int32.toUInt32 31)).toInt32) &&& (1431655765 : Int32))) &&& (858993459 : Int32)) + ((((x0 - (((x0.toUInt32 >>> ((1 : Int32).toUInt32 &&& Int32.toUInt32 31)).toInt32) &&& (1431655765 : Int32))).toUInt32 >>> ((2 : Int32).toUInt32 &&& Int32.toUInt32 31)).toInt32) &&& (858993459 : Int32))) + (((((x0 - (((x0.toUInt32 >>> ((1 : Int32).toUInt32 &&& Int32.toUInt32 31)).toInt32) &&& (1431655765 : Int32))) &&& (858993459 : Int32)) + ((((x0 - (((x0.toUInt32 >>> ((1 : Int32).toUInt32 &&& Int32.toUInt32 31)).toInt32) &&& (1431655765 : Int32))).toUInt32 >>> ((2 : Int32).toUInt32 &&& Int32.toUInt32 31)).toInt32) &&& (858993459 : Int32))).toUInt32 >>> ((4 : Int32).toUInt32 &&& Int32.toUInt32 31)).toInt32)) &&& (252645135 : Int32)) + (((((((x0 - (((x0.toUInt32 >>> ((1 : Int32).toUInt32 &&& Int32.toUInt32 31)).toInt32) &&& (1431655765 : Int32))) &&& (858993459 : Int32)) + ((((x0 - (((x0.toUInt32 >>> ((1 : Int32).toUInt32 &&& Int32.toUInt32 31)).toInt32) &&& (1431655765 : Int32))).toUInt32 >>> ((2 : Int32).toUInt32 &&& Int32.toUInt32 31)).toInt32) &&& (858993459 : Int32))) + (((((x0 - (((x0.toUInt32 >>> ((1 : Int32).toUInt32 &&& Int32.toUInt32 31)).toInt32) &&& (1431655765 : Int32))) &&& (858993459 : Int32)) + ((((x0 - (((x0.toUInt32 >>> ((1 : Int32).toUInt32 &&& Int32.toUInt32 31)).toInt32) &&& (1431655765 : Int32))).toUInt32 >>> ((2 : Int32).toUInt32 &&& Int32.toUInt32 31)).toInt32) &&& (858993459 : Int32))).toUInt32 >>> ((4 : Int32).toUInt32 &&& Int32.toUInt32 31)).toInt32)) &&& (252645135 : Int32)).toUInt32 >>> ((8 : Int32).toUInt32 &&& Int32.toUInt32 31)).toInt32)))]) hx hb dJ6_bitCount_0f7a4_40 rfl hl (by decide) rfl (fun ls hl => ?_)
  refine lv_iload_n hx hb dJ6_bitCount_0f7a4_41 rfl (lv_at hl 0 rfl) ?_
  refine lv_iload_n hx hb dJ6_bitCount_0f7a4_42 rfl (lv_at hl 0 rfl) ?_
  refine lv_bipush (v := 16) hx hb dJ6_bitCount_0f7a4_43 (by decide) ?_
  refine lv_iushr hx hb dJ6_bitCount_0f7a4_45 rfl ?_
  refine lv_iadd hx hb dJ6_bitCount_0f7a4_46 ?_
  refine lv_istore_n (lv' := [(0, .int (((((((x0 - (((x0.toUInt32 >>> ((1 : Int32).toUInt32 &&& Int32.toUInt32 31)).toInt32) &&& (1431655765 : Int32))) &&& (858993459 : Int32)) + ((((x0 - (((x0.toUInt32 >>> ((1 : Int32).toUInt32 &&& Int32.toUInt32 31)).toInt32) &&& (1431655765 : Int32))).toUInt32 >>> ((2 : Int32).toUInt32 &&& Int32.toUInt32 31)).toInt32) &&& (858993459 : Int32))) + (((((x0 - (((x0.toUInt32 >>> ((1 : Int32).toUInt32 &&& Int32.toUInt32 31)).toInt32) &&& (1431655765 : Int32))) &&& (858993459 : Int32)) + ((((x0 - (((x0.toUInt32 >>> ((1 : Int32).toUInt32 &&& Int32.toUInt32 31)).toInt32) &&& (1431655765 : Int32))).toUInt32 >>> ((2 : Int32).toUInt32 &&& Int32.toUInt32 31)).toInt32) &&& (858993459 : Int32))).toUInt32 >>> ((4 : Int32).toUInt32 &&& Int32.toUInt32 31)).toInt32)) &&& (252645135 : Int32)) + (((((((x0 - (((x0.toUInt32 >>> ((1 : Int32).toUInt32 &&& Int32.toUInt32 31)).toInt32) &&& (1431655765 : Int32))) &&& (858993459 : Int32)) + ((((x0 - (((x0.toUInt32 >>> ((1 : Int32).toUInt32 &&& Int32.toUInt32 31)).toInt32) &&& (1431655765 : Int32))).toUInt32 >>> ((2 : Int32).toUInt32 &&& Int32.toUInt32 31)).toInt32) &&& (858993459 : Int32))) + (((((x0 - (((x0.toUInt32 >>> ((1 : Int32).toUInt32 &&& Int32.toUInt32 31)).toInt32) &&& (1431655765 : Int32))) &&& (858993459 : Int32)) + ((((x0 - (((x0.toUInt32 >>> ((1 : Int32).toUInt32 &&& Int32.toUInt32 31)).toInt32) &&& (1431655765 : Int32))).toUInt32 >>> ((2 : Int32).toUInt32 &&& Int32.toUInt32 31)).toInt32) &&& (858993459 : Int32))).toUInt32 >>> ((4 : Int32).toUInt32 &&& Int32.toUInt32 31)).toInt32)) &&& (252645135 : Int32)).toUInt32 >>> ((8 : Int32).toUInt32 &&& Int32.toUInt32 31)).toInt32)) + ((((((((x0 - (((x0.toUInt32 >>> ((1 : Int32).toUInt32 &&& Int32.toUInt32 31)).toInt32) &&& (1431655765 : Int32))) &&& (858993459 : Int32)) + ((((x0 - (((x0.toUInt32 >>> ((1 : Int32).toUInt32 &&& Int32.toUInt32 31)).toInt32) &&& (1431655765 : Int32))).toUInt32 >>> ((2 : Int32).toUInt32 &&& Int32.toUInt32 31)).toInt32) &&& (858993459 : Int32))) + (((((x0 - (((x0.toUInt32 >>> ((1 : Int32).toUInt32 &&& Int32.toUInt32 31)).toInt32) &&& (1431655765 : Int32))) &&& (858993459 : Int32)) + ((((x0 - (((x0.toUInt32 >>> ((1 : Int32).toUInt32 &&& Int32.toUInt32 31)).toInt32) &&& (1431655765 : Int32))).toUInt32 >>> ((2 : Int32).toUInt32 &&& Int32.toUInt32 31)).toInt32) &&& (858993459 : Int32))).toUInt32 >>> ((4 : Int32).toUInt32 &&& Int32.toUInt32 31)).toInt32)) &&& (252645135 : Int32)) + (((((((x0 - (((x0.toUInt32 >>> ((1 : Int32).toUInt32 &&& Int32.toUInt32 31)).toInt32) &&& (1431655765 : Int32))) &&& (858993459 : Int32)) + ((((x0 - (((x0.toUInt32 >>> ((1 : Int32).toUInt32 &&& Int32.toUInt32 31)).toInt32) &&& (1431655765 : Int32))).toUInt32 >>> ((2 : Int32).toUInt32 &&& Int32.toUInt32 31)).toInt32) &&& (858993459 : Int32))) + (((((x0 - (((x0.toUInt32 >>> ((1 : Int32).toUInt32 &&& Int32.toUInt32 31)).toInt32) &&& (1431655765 : Int32))) &&& (858993459 : Int32)) + ((((x0 - (((x0.toUInt32 >>> ((1 : Int32).toUInt32 &&& Int32.toUInt32 31)).toInt32) &&& (1431655765 : Int32))).toUInt32 >>> ((2 : Int32).toUInt32 &&& Int32.toUInt32 31)).toInt32) &&& (858993459 : Int32))).toUInt32 >>> ((4 : Int32).toUInt32 &&& Int32.toUInt32 31)).toInt32)) &&& (252645135 : Int32)).toUInt32 >>> ((8 : Int32).toUInt32 &&& Int32.toUInt32 31)).toInt32)).toUInt32 >>> ((16 : Int32).toUInt32 &&& Int32.toUInt32 31)).toInt32)))]) hx hb dJ6_bitCount_0f7a4_47 rfl hl (by decide) rfl (fun ls hl => ?_)
  refine lv_iload_n hx hb dJ6_bitCount_0f7a4_48 rfl (lv_at hl 0 rfl) ?_
  refine lv_bipush (v := 63) hx hb dJ6_bitCount_0f7a4_49 (by decide) ?_
  refine lv_iand hx hb dJ6_bitCount_0f7a4_51 ?_
  exact hQ ▸ rtI (v := (((((((x0 - (((x0.toUInt32 >>> ((1 : Int32).toUInt32 &&& Int32.toUInt32 31)).toInt32) &&& (1431655765 : Int32))) &&& (858993459 : Int32)) + ((((x0 - (((x0.toUInt32 >>> ((1 : Int32).toUInt32 &&& Int32.toUInt32 31)).toInt32) &&& (1431655765 : Int32))).toUInt32 >>> ((2 : Int32).toUInt32 &&& Int32.toUInt32 31)).toInt32) &&& (858993459 : Int32))) + (((((x0 - (((x0.toUInt32 >>> ((1 : Int32).toUInt32 &&& Int32.toUInt32 31)).toInt32) &&& (1431655765 : Int32))) &&& (858993459 : Int32)) + ((((x0 - (((x0.toUInt32 >>> ((1 : Int32).toUInt32 &&& Int32.toUInt32 31)).toInt32) &&& (1431655765 : Int32))).toUInt32 >>> ((2 : Int32).toUInt32 &&& Int32.toUInt32 31)).toInt32) &&& (858993459 : Int32))).toUInt32 >>> ((4 : Int32).toUInt32 &&& Int32.toUInt32 31)).toInt32)) &&& (252645135 : Int32)) + (((((((x0 - (((x0.toUInt32 >>> ((1 : Int32).toUInt32 &&& Int32.toUInt32 31)).toInt32) &&& (1431655765 : Int32))) &&& (858993459 : Int32)) + ((((x0 - (((x0.toUInt32 >>> ((1 : Int32).toUInt32 &&& Int32.toUInt32 31)).toInt32) &&& (1431655765 : Int32))).toUInt32 >>> ((2 : Int32).toUInt32 &&& Int32.toUInt32 31)).toInt32) &&& (858993459 : Int32))) + (((((x0 - (((x0.toUInt32 >>> ((1 : Int32).toUInt32 &&& Int32.toUInt32 31)).toInt32) &&& (1431655765 : Int32))) &&& (858993459 : Int32)) + ((((x0 - (((x0.toUInt32 >>> ((1 : Int32).toUInt32 &&& Int32.toUInt32 31)).toInt32) &&& (1431655765 : Int32))).toUInt32 >>> ((2 : Int32).toUInt32 &&& Int32.toUInt32 31)).toInt32) &&& (858993459 : Int32))).toUInt32 >>> ((4 : Int32).toUInt32 &&& Int32.toUInt32 31)).toInt32)) &&& (252645135 : Int32)).toUInt32 >>> ((8 : Int32).toUInt32 &&& Int32.toUInt32 31)).toInt32)) + ((((((((x0 - (((x0.toUInt32 >>> ((1 : Int32).toUInt32 &&& Int32.toUInt32 31)).toInt32) &&& (1431655765 : Int32))) &&& (858993459 : Int32)) + ((((x0 - (((x0.toUInt32 >>> ((1 : Int32).toUInt32 &&& Int32.toUInt32 31)).toInt32) &&& (1431655765 : Int32))).toUInt32 >>> ((2 : Int32).toUInt32 &&& Int32.toUInt32 31)).toInt32) &&& (858993459 : Int32))) + (((((x0 - (((x0.toUInt32 >>> ((1 : Int32).toUInt32 &&& Int32.toUInt32 31)).toInt32) &&& (1431655765 : Int32))) &&& (858993459 : Int32)) + ((((x0 - (((x0.toUInt32 >>> ((1 : Int32).toUInt32 &&& Int32.toUInt32 31)).toInt32) &&& (1431655765 : Int32))).toUInt32 >>> ((2 : Int32).toUInt32 &&& Int32.toUInt32 31)).toInt32) &&& (858993459 : Int32))).toUInt32 >>> ((4 : Int32).toUInt32 &&& Int32.toUInt32 31)).toInt32)) &&& (252645135 : Int32)) + (((((((x0 - (((x0.toUInt32 >>> ((1 : Int32).toUInt32 &&& Int32.toUInt32 31)).toInt32) &&& (1431655765 : Int32))) &&& (858993459 : Int32)) + ((((x0 - (((x0.toUInt32 >>> ((1 : Int32).toUInt32 &&& Int32.toUInt32 31)).toInt32) &&& (1431655765 : Int32))).toUInt32 >>> ((2 : Int32).toUInt32 &&& Int32.toUInt32 31)).toInt32) &&& (858993459 : Int32))) + (((((x0 - (((x0.toUInt32 >>> ((1 : Int32).toUInt32 &&& Int32.toUInt32 31)).toInt32) &&& (1431655765 : Int32))) &&& (858993459 : Int32)) + ((((x0 - (((x0.toUInt32 >>> ((1 : Int32).toUInt32 &&& Int32.toUInt32 31)).toInt32) &&& (1431655765 : Int32))).toUInt32 >>> ((2 : Int32).toUInt32 &&& Int32.toUInt32 31)).toInt32) &&& (858993459 : Int32))).toUInt32 >>> ((4 : Int32).toUInt32 &&& Int32.toUInt32 31)).toInt32)) &&& (252645135 : Int32)).toUInt32 >>> ((8 : Int32).toUInt32 &&& Int32.toUInt32 31)).toInt32)).toUInt32 >>> ((16 : Int32).toUInt32 &&& Int32.toUInt32 31)).toInt32)) &&& (63 : Int32))  hx hb hr hlk hP hS (by rw [← hres]) rfl dJ6_bitCount_0f7a4_52
def fX1_waysInAll_l5 (kin : Nat → Int32) (lea : Nat → Int32) (mos : Nat → Int32) (siz : Nat → Int32) (tol : Nat → Int32) (x1 : Int32) (K5 : Int64 → Int32 → Option (Int64)) (x2 : Int64) (x4 : Int32) : Option (Int64) :=
  gd (ib x1 8) (if (siz x1.toNatClampNeg) ≤ x4 then some x2 else (fX3_toldAt tol x1 x4).bind fun q31 => (fX3_lengthsOf kin lea mos q31).bind fun q34 => K5 (x2 * ((fJ6_bitCount_0f7a4 q34).toInt64)) (x4 + 1))
def fX1_waysInAll (kin : Nat → Int32) (lea : Nat → Int32) (mos : Nat → Int32) (siz : Nat → Int32) (tol : Nat → Int32) (x1 : Int32) : Option (Int64) :=
  fix2 (fX1_waysInAll_l5 kin lea mos siz tol x1) 2000 (1 : Int64) (0 : Int32)
theorem hdJ6_bitCount_0f7a4 : yJ6_bitCount_0f7a4.cls ≠ "java/lang/invoke/MethodHandle" ∧ yJ6_bitCount_0f7a4.cls ≠ "java/lang/invoke/VarHandle" ∧ (parseMethodDescriptor yJ6_bitCount_0f7a4.desc).map (fun d => d.parameters.length) = some 1 := by decide +kernel
abbrev rX1_waysInAll : Room := { frames := 2, cells := 0, slots := 0, locals := 44 }
set_option maxHeartbeats 4000000 in
set_option maxRecDepth 100000 in
theorem kX1_waysInAll (l : Launch) (D : va_G) (a : Nat → Nat) (cI cJ cS : ClassId) (hd : aok a 36) {Env : (Nat → Prop) → State → Heap → Prop} (hEo : envOK Env) (par : Int32) (kin lea mos wrt : Nat → Int32) (tal : Int32) (siz tol : Nat → Int32) (hrs : Int32) (ags : Nat → Int32) (yea kpar : Int32) (kkin klea kmos kwrt : Nat → Int32) (ktal : Int32) (ksiz ktol : Nat → Int32) (khrs : Int32) (kags : Nat → Int32) (kyea isk : Int32) (tly : Nat → Int64) (gai bes : Nat → Int32) (low hig : Nat → Int64) (spn : Int32) (byt : Nat → Int32) (hld sta beh sor num : Int32) (fnd sbi she : Nat → Int32) (snu : Nat → Nat → Int64) (x1 : Int32) (res : Int64) (hres : fX1_waysInAll kin lea mos siz tol x1 = some res) : CtL l D (tyL cI cJ cS) 36 a Env yX1_waysInAll wsX1_waysInAll rX1_waysInAll [.ref (a 17), .int x1] (wX a cI cJ cS par kin lea mos wrt tal siz tol hrs ags yea kpar kkin klea kmos kwrt ktal ksiz ktol khrs kags kyea isk tly gai bes low hig spn byt hld sta beh sor num fnd sbi she snu) (wX a cI cJ cS par kin lea mos wrt tal siz tol hrs ags yea kpar kkin klea kmos kwrt ktal ksiz ktol khrs kags kyea isk tly gai bes low hig spn byt hld sta beh sor num fnd sbi she snu) res := by
  refine CtL_mk (cc := cX1_waysInAll) (maxL := 5) (ret := (some .long)) (by decide) rfl (Nat.le_of_ble_eq_true rfl) ?_
  intro p e s m args below meth c ls hx hb hr hlk hml hown hts hP hK hE hl
  have hS : va_S (adA a 36 s.heap.size) s.heap s.heap [] := va_S.rf
  have hl : lv_has ls 5 [(0, .ref (a 17)), (1, .int x1)] := hl
  have hown : s.vm.findClass RX1 = some m.cls := hown
  have hw1 : ∀ w ∈ wsX10, w.before args s = true := fun w h => hts w (List.mem_cons_of_mem _ (List.mem_append_left _ (List.mem_append_right _ h)))
  have hw3 : ∀ w ∈ wsX30, w.before args s = true := fun w h => hts w (List.mem_cons_of_mem _ (List.mem_append_right _ h))
  have u1 : (Cond.fieldLink RX1 32 "YearWords$Sayings" "stock" "LYearWords$Stock;").before args s = true := hts _ (List.mem_of_getElem? (i := 1) (by decide +kernel))
  have u2 : (Cond.fieldLink RX1 36 "YearWords$Stock" "sizes" "[I").before args s = true := hts _ (List.mem_of_getElem? (i := 2) (by decide +kernel))
  obtain ⟨Q, hQ⟩ : ∃ Q, Q = mqL below D 36 a args s (wX a cI cJ cS par kin lea mos wrt tal siz tol hrs ags yea kpar kkin klea kmos kwrt ktal ksiz ktol khrs kags kyea isk tly gai bes low hig spn byt hld sta beh sor num fnd sbi she snu) res := ⟨_, rfl⟩
  rw [← hQ]
  have b5 : ∀  (n : Nat) (x2 : Int64) (x4 : Int32), fix2 (fX1_waysInAll_l5 kin lea mos siz tol x1) n x2 x4 = some res → ∀ (H : Heap) (locs : List Loc) (ls : Array Slot), va_P D vwCl (wX a cI cJ cS par kin lea mos wrt tal siz tol hrs ags yea kpar kkin klea kmos kwrt ktal ksiz ktol khrs kags kyea isk tly gai bes low hig spn byt hld sta beh sor num fnd sbi she snu) H → va_S (adA a 36 s.heap.size) s.heap H locs → lv_has ls 5 [(0, .ref (a 17)), (1, .int x1), (2, .long x2), (4, .int x4)] → W p l e rX1_waysInAll s m args below meth c H locs 0 0 Q (F0 m 5 ls []) := by
    refine fix2_r ?_
    intro K5 hK5 x2 x4 hres H locs ls hP hS hl
    unfold fX1_waysInAll_l5 at hres
    refine lv_iload hx hb dX1_waysInAll_5 (lv_at hl 3 rfl) ?_
    refine lv_aload_n hx hb dX1_waysInAll_7 rfl (lv_at hl 0 rfl) ?_
    refine gX_sayo_stock hx hb hown hw1 hK hP u1 dX1_waysInAll_8 ?_
    refine gX_now_sizes hx hb hown hw3 hK hP u2 dX1_waysInAll_11 ?_
    refine lv_iload_n hx hb dX1_waysInAll_14 rfl (lv_at hl 1 rfl) ?_
    obtain ⟨i15, hres⟩ := gdi hres
    refine lX_siz hx hb hK hP i15 dX1_waysInAll_15 ?_
    refine lv_icmp_ge (tgt := 49) hx hb dX1_waysInAll_16 (by decide) (fun c16 => ?_) (fun c16 => ?_)
    · have hres := (itl hres).1 c16
      refine lv_lload_n hx hb dX1_waysInAll_49 rfl (lv_at hl 2 rfl) ?_
      exact hQ ▸ rtL (v := x2)  hx hb hr hlk hP hS (by rw [← (Option.some.inj hres)]) rfl dX1_waysInAll_50
    · have hres := (itl hres).2 c16
      refine lv_lload_n hx hb dX1_waysInAll_19 rfl (lv_at hl 2 rfl) ?_
      refine lv_aload_n hx hb dX1_waysInAll_20 rfl (lv_at hl 0 rfl) ?_
      refine gX_sayo_stock hx hb hown hw1 hK hP u1 dX1_waysInAll_21 ?_
      refine lv_aload_n hx hb dX1_waysInAll_24 rfl (lv_at hl 0 rfl) ?_
      refine gX_sayo_stock hx hb hown hw1 hK hP u1 dX1_waysInAll_25 ?_
      refine lv_iload_n hx hb dX1_waysInAll_28 rfl (lv_at hl 1 rfl) ?_
      refine lv_iload hx hb dX1_waysInAll_29 (lv_at hl 3 rfl) ?_
      obtain ⟨q31, e31, hres⟩ := obd hres
      refine cvI (q0 := 1) (ci := 3) hx hb hml hown hts hEo hE hK hP hS (kX3_toldAt l D a cI cJ cS hd hEo par kin lea mos wrt tal siz tol hrs ags yea kpar kkin klea kmos kwrt ktal ksiz ktol khrs kags kyea isk tly gai bes low hig spn byt hld sta beh sor num fnd sbi she snu x1 x4 q31 e31) gX1_waysInAll_X3_toldAt rfl hdX3_toldAt rfl rfl rfl ⟨rfl, rfl⟩ ⟨Nat.le_of_ble_eq_true rfl, Nat.le_of_ble_eq_true rfl⟩ ⟨Nat.zero_le _, Nat.zero_le _⟩ rfl hl.1 rfl (Nat.le_of_ble_eq_true rfl) dX1_waysInAll_31 (fun H locs hP hS => ?_)
      obtain ⟨q34, e34, hres⟩ := obd hres
      refine cvI (q0 := 1) (ci := 3) hx hb hml hown hts hEo hE hK hP hS (kX3_lengthsOf l D a cI cJ cS hd hEo par kin lea mos wrt tal siz tol hrs ags yea kpar kkin klea kmos kwrt ktal ksiz ktol khrs kags kyea isk tly gai bes low hig spn byt hld sta beh sor num fnd sbi she snu q31 q34 e34) gX1_waysInAll_X3_lengthsOf rfl hdX3_lengthsOf rfl rfl rfl ⟨rfl, rfl⟩ ⟨Nat.le_of_ble_eq_true rfl, Nat.le_of_ble_eq_true rfl⟩ ⟨Nat.zero_le _, Nat.zero_le _⟩ rfl hl.1 rfl (Nat.le_of_ble_eq_true rfl) dX1_waysInAll_34 (fun H locs hP hS => ?_)
      refine csI hx hb hml hown hts hEo hE hK hP hS (kJ6_bitCount_0f7a4 l D a cI cJ cS hd hEo par kin lea mos wrt tal siz tol hrs ags yea kpar kkin klea kmos kwrt ktal ksiz ktol khrs kags kyea isk tly gai bes low hig spn byt hld sta beh sor num fnd sbi she snu q34) gX1_waysInAll_J6_bitCount_0f7a4 rfl hdJ6_bitCount_0f7a4 ⟨rfl, rfl⟩ ⟨Nat.le_of_ble_eq_true rfl, Nat.le_of_ble_eq_true rfl⟩ ⟨Nat.zero_le _, Nat.zero_le _⟩ rfl hl.1 rfl (Nat.le_of_ble_eq_true rfl) dX1_waysInAll_37 (fun H locs hP hS => ?_)
      refine lv_i2l hx hb dX1_waysInAll_40 rfl ?_
      refine lv_lmul hx hb dX1_waysInAll_41 ?_
      refine lv_lstore_n (lv' := [(2, .long (x2 * ((fJ6_bitCount_0f7a4 q34).toInt64))), (0, .ref (a 17)), (1, .int x1), (4, .int x4)]) hx hb dX1_waysInAll_42 rfl hl (by decide) rfl (fun ls hl => ?_)
      refine lv_iinc (v := x4 + 1) (lv' := [(4, .int (x4 + 1)), (2, .long (x2 * ((fJ6_bitCount_0f7a4 q34).toInt64))), (0, .ref (a 17)), (1, .int x1)]) hx hb dX1_waysInAll_43 hl (k := 3) rfl (congrArg (fun z => x4 + z) (by decide)) (by decide) rfl (fun ls hl => ?_)
      refine lv_goto (tgt := 5) hx hb dX1_waysInAll_46 (by decide) ?_
      exact hK5 (x2 * ((fJ6_bitCount_0f7a4 q34).toInt64)) (x4 + 1) hres _ _ _ hP hS (lv_sub hl [2, 3, 1, 0] rfl)
  unfold fX1_waysInAll at hres
  refine lv_lconst (v := 1) hx hb dX1_waysInAll_0 (by decide) ?_
  refine lv_lstore_n (lv' := [(2, .long (1 : Int64)), (0, .ref (a 17)), (1, .int x1)]) hx hb dX1_waysInAll_1 rfl hl (by decide) rfl (fun ls hl => ?_)
  refine lv_iconst (v := 0) hx hb dX1_waysInAll_2 (by decide) ?_
  refine lv_istore (lv' := [(4, .int (0 : Int32)), (2, .long (1 : Int64)), (0, .ref (a 17)), (1, .int x1)]) hx hb dX1_waysInAll_3 hl (by decide) rfl (fun ls hl => ?_)
  exact b5  2000 (1 : Int64) (0 : Int32) hres _ _ _ hP hS (lv_sub hl [2, 3, 1, 0] rfl)
def fX1_spanPart_b73 (K8 : Int64 → Int64 → Int32 → Option ((Nat → Int64) × (Nat → Int64))) (x3 : Int64) (x5 : Int64) (x7 : Int32) : Option ((Nat → Int64) × (Nat → Int64)) :=
  K8 x3 x5 (x7 + 1)
def fX1_spanPart_b69 (K8 : Int64 → Int64 → Int32 → Option ((Nat → Int64) × (Nat → Int64))) (x3 : Int64) (x7 : Int32) (z0 : Int64) (z1 : Int64) (z2 : Int64) : Option ((Nat → Int64) × (Nat → Int64)) :=
  fX1_spanPart_b73 K8 x3 (z0 ||| (z1 ||| z2)) x7
def fX1_spanPart_b79 (low : Nat → Int64) (hig : Nat → Int64) (x1 : Int32) (x3 : Int64) (x5 : Int64) : Option ((Nat → Int64) × (Nat → Int64)) :=
  gd (ib (x1 + (1 : Int32)) 11) (gd (ib (x1 + (1 : Int32)) 11) (some (vp_updL low (x1 + (1 : Int32)).toNatClampNeg x3, vp_updL hig (x1 + (1 : Int32)).toNatClampNeg x5)))
def fX1_spanPart_l8 (low : Nat → Int64) (hig : Nat → Int64) (x1 : Int32) (x2 : Int32) (K8 : Int64 → Int64 → Int32 → Option ((Nat → Int64) × (Nat → Int64))) (x3 : Int64) (x5 : Int64) (x7 : Int32) : Option ((Nat → Int64) × (Nat → Int64)) :=
  if (24 : Int32) < x7 then fX1_spanPart_b79 low hig x1 x3 x5 else if ((x2 >>> (x7 &&& 31)) &&& (1 : Int32)) = (1 : Int32) then gd (ib x1 11) (gd (ib x1 11) (if x7 = 0 then fX1_spanPart_b69 K8 (x3 ||| ((low x1.toNatClampNeg) <<< (x7.toInt64 &&& 63))) x7 x5 ((hig x1.toNatClampNeg) <<< (x7.toInt64 &&& 63)) (0 : Int64) else gd (ib x1 11) (fX1_spanPart_b69 K8 (x3 ||| ((low x1.toNatClampNeg) <<< (x7.toInt64 &&& 63))) x7 x5 ((hig x1.toNatClampNeg) <<< (x7.toInt64 &&& 63)) (((low x1.toNatClampNeg).toUInt64 >>> (((64 : Int32) - x7).toInt64.toUInt64 &&& Int64.toUInt64 63)).toInt64)))) else fX1_spanPart_b73 K8 x3 x5 x7
def fX1_spanPart (low : Nat → Int64) (hig : Nat → Int64) (x1 : Int32) (x2 : Int32) : Option ((Nat → Int64) × (Nat → Int64)) :=
  fix3 (fX1_spanPart_l8 low hig x1 x2) 2000 (0 : Int64) (0 : Int64) (0 : Int32)
abbrev rX1_spanPart : Room := { frames := 0, cells := 0, slots := 0, locals := 0 }
set_option maxHeartbeats 4000000 in
set_option maxRecDepth 100000 in
theorem kX1_spanPart (l : Launch) (D : va_G) (a : Nat → Nat) (cI cJ cS : ClassId) (hd : aok a 36) {Env : (Nat → Prop) → State → Heap → Prop} (hEo : envOK Env) (par : Int32) (kin lea mos wrt : Nat → Int32) (tal : Int32) (siz tol : Nat → Int32) (hrs : Int32) (ags : Nat → Int32) (yea kpar : Int32) (kkin klea kmos kwrt : Nat → Int32) (ktal : Int32) (ksiz ktol : Nat → Int32) (khrs : Int32) (kags : Nat → Int32) (kyea isk : Int32) (tly : Nat → Int64) (gai bes : Nat → Int32) (low hig : Nat → Int64) (spn : Int32) (byt : Nat → Int32) (hld sta beh sor num : Int32) (fnd sbi she : Nat → Int32) (snu : Nat → Nat → Int64) (x1 : Int32) (x2 : Int32) (res : (Nat → Int64) × (Nat → Int64)) (hres : fX1_spanPart low hig x1 x2 = some res) : CtV l D (tyL cI cJ cS) 36 a Env yX1_spanPart wsX1_spanPart rX1_spanPart [.ref (a 17), .int x1, .int x2] (wX a cI cJ cS par kin lea mos wrt tal siz tol hrs ags yea kpar kkin klea kmos kwrt ktal ksiz ktol khrs kags kyea isk tly gai bes low hig spn byt hld sta beh sor num fnd sbi she snu) (wX a cI cJ cS par kin lea mos wrt tal siz tol hrs ags yea kpar kkin klea kmos kwrt ktal ksiz ktol khrs kags kyea isk tly gai bes res.1 res.2 spn byt hld sta beh sor num fnd sbi she snu) := by
  refine CtV_mk (cc := cX1_spanPart) (maxL := 8) (ret := none) (by decide) rfl (Nat.le_of_ble_eq_true rfl) ?_
  intro p e s m args below meth c ls hx hb hr hlk hml hown hts hP hK hE hl
  have hS : va_S (adA a 36 s.heap.size) s.heap s.heap [] := va_S.rf
  have hl : lv_has ls 8 [(0, .ref (a 17)), (1, .int x1), (2, .int x2)] := hl
  have hown : s.vm.findClass RX1 = some m.cls := hown
  have hw1 : ∀ w ∈ wsX10, w.before args s = true := fun w h => hts w (List.mem_cons_of_mem _ (List.mem_append_right _ h))
  have u1 : (Cond.fieldLink RX1 22 "YearWords$Sayings" "low" "[J").before args s = true := hts _ (List.mem_of_getElem? (i := 1) (by decide +kernel))
  have u2 : (Cond.fieldLink RX1 25 "YearWords$Sayings" "high" "[J").before args s = true := hts _ (List.mem_of_getElem? (i := 2) (by decide +kernel))
  obtain ⟨Q, hQ⟩ : ∃ Q, Q = mqV below D 36 a args s (wX a cI cJ cS par kin lea mos wrt tal siz tol hrs ags yea kpar kkin klea kmos kwrt ktal ksiz ktol khrs kags kyea isk tly gai bes res.1 res.2 spn byt hld sta beh sor num fnd sbi she snu) := ⟨_, rfl⟩
  rw [← hQ]
  have b79 : ∀ (low : Nat → Int64) (hig : Nat → Int64) (x3 : Int64) (x5 : Int64), fX1_spanPart_b79 low hig x1 x3 x5 = some res → ∀ (H : Heap) (locs : List Loc) (ls : Array Slot), va_P D vwCl (wX a cI cJ cS par kin lea mos wrt tal siz tol hrs ags yea kpar kkin klea kmos kwrt ktal ksiz ktol khrs kags kyea isk tly gai bes low hig spn byt hld sta beh sor num fnd sbi she snu) H → va_S (adA a 36 s.heap.size) s.heap H locs → lv_has ls 8 [(0, .ref (a 17)), (1, .int x1), (3, .long x3), (5, .long x5)] → W p l e rX1_spanPart s m args below meth c H locs 0 0 Q (F0 m 79 ls []) := by
    intro low hig x3 x5 hres H locs ls hP hS hl
    unfold fX1_spanPart_b79 at hres
    refine lv_aload_n hx hb dX1_spanPart_79 rfl (lv_at hl 0 rfl) ?_
    refine gX_sayo_low hx hb hown hw1 hK hP u1 dX1_spanPart_80 ?_
    refine lv_iload_n hx hb dX1_spanPart_83 rfl (lv_at hl 1 rfl) ?_
    refine lv_iconst (v := 1) hx hb dX1_spanPart_84 (by decide) ?_
    refine lv_iadd hx hb dX1_spanPart_85 ?_
    refine lv_lload_n hx hb dX1_spanPart_86 rfl (lv_at hl 2 rfl) ?_
    obtain ⟨i87, hres⟩ := gdi hres
    refine sX_low hx hb hK hP hd hS i87 dX1_spanPart_87 (fun H locs hP hS => ?_)
    refine lv_aload_n hx hb dX1_spanPart_88 rfl (lv_at hl 0 rfl) ?_
    refine gX_sayo_high hx hb hown hw1 hK hP u2 dX1_spanPart_89 ?_
    refine lv_iload_n hx hb dX1_spanPart_92 rfl (lv_at hl 1 rfl) ?_
    refine lv_iconst (v := 1) hx hb dX1_spanPart_93 (by decide) ?_
    refine lv_iadd hx hb dX1_spanPart_94 ?_
    refine lv_lload hx hb dX1_spanPart_95 (lv_at hl 3 rfl) ?_
    obtain ⟨i97, hres⟩ := gdi hres
    refine sX_hig hx hb hK hP hd hS i97 dX1_spanPart_97 (fun H locs hP hS => ?_)
    exact hQ ▸ rtV hx hb hr hlk hP hS (by rw [← (Option.some.inj hres)]) dX1_spanPart_98
  have b8 : ∀ (low : Nat → Int64) (hig : Nat → Int64) (n : Nat) (x3 : Int64) (x5 : Int64) (x7 : Int32), fix3 (fX1_spanPart_l8 low hig x1 x2) n x3 x5 x7 = some res → ∀ (H : Heap) (locs : List Loc) (ls : Array Slot), va_P D vwCl (wX a cI cJ cS par kin lea mos wrt tal siz tol hrs ags yea kpar kkin klea kmos kwrt ktal ksiz ktol khrs kags kyea isk tly gai bes low hig spn byt hld sta beh sor num fnd sbi she snu) H → va_S (adA a 36 s.heap.size) s.heap H locs → lv_has ls 8 [(0, .ref (a 17)), (1, .int x1), (2, .int x2), (3, .long x3), (5, .long x5), (7, .int x7)] → W p l e rX1_spanPart s m args below meth c H locs 0 0 Q (F0 m 8 ls []) := by
    intro low hig
    refine fix3_r ?_
    intro K8 hK8 x3 x5 x7 hres H locs ls hP hS hl
    have b73 : ∀ (x3 : Int64) (x5 : Int64) (x7 : Int32), fX1_spanPart_b73 K8 x3 x5 x7 = some res → ∀ (H : Heap) (locs : List Loc) (ls : Array Slot), va_P D vwCl (wX a cI cJ cS par kin lea mos wrt tal siz tol hrs ags yea kpar kkin klea kmos kwrt ktal ksiz ktol khrs kags kyea isk tly gai bes low hig spn byt hld sta beh sor num fnd sbi she snu) H → va_S (adA a 36 s.heap.size) s.heap H locs → lv_has ls 8 [(0, .ref (a 17)), (1, .int x1), (2, .int x2), (3, .long x3), (5, .long x5), (7, .int x7)] → W p l e rX1_spanPart s m args below meth c H locs 0 0 Q (F0 m 73 ls []) := by
      intro x3 x5 x7 hres H locs ls hP hS hl
      unfold fX1_spanPart_b73 at hres
      refine lv_iinc (v := x7 + 1) (lv' := [(7, .int (x7 + 1)), (0, .ref (a 17)), (1, .int x1), (2, .int x2), (3, .long x3), (5, .long x5)]) hx hb dX1_spanPart_73 hl (k := 5) rfl (congrArg (fun z => x7 + z) (by decide)) (by decide) rfl (fun ls hl => ?_)
      refine lv_goto (tgt := 8) hx hb dX1_spanPart_76 (by decide) ?_
      exact hK8 x3 x5 (x7 + 1) hres _ _ _ hP hS (lv_sub hl [1, 2, 3, 4, 5, 0] rfl)
    have b69 : ∀ (x3 : Int64) (x7 : Int32) (z0 : Int64) (z1 : Int64) (z2 : Int64), fX1_spanPart_b69 K8 x3 x7 z0 z1 z2 = some res → ∀ (H : Heap) (locs : List Loc) (ls : Array Slot), va_P D vwCl (wX a cI cJ cS par kin lea mos wrt tal siz tol hrs ags yea kpar kkin klea kmos kwrt ktal ksiz ktol khrs kags kyea isk tly gai bes low hig spn byt hld sta beh sor num fnd sbi she snu) H → va_S (adA a 36 s.heap.size) s.heap H locs → lv_has ls 8 [(0, .ref (a 17)), (1, .int x1), (2, .int x2), (3, .long x3), (7, .int x7)] → W p l e rX1_spanPart s m args below meth c H locs 0 0 Q (F0 m 69 ls [.long z2, .long z1, .long z0]) := by
      intro x3 x7 z0 z1 z2 hres H locs ls hP hS hl
      unfold fX1_spanPart_b69 at hres
      refine lv_lor hx hb dX1_spanPart_69 ?_
      refine lv_lor hx hb dX1_spanPart_70 ?_
      refine lv_lstore (lv' := [(5, .long (z0 ||| (z1 ||| z2))), (0, .ref (a 17)), (1, .int x1), (2, .int x2), (3, .long x3), (7, .int x7)]) hx hb dX1_spanPart_71 hl (by decide) rfl (fun ls hl => ?_)
      exact b73 x3 (z0 ||| (z1 ||| z2)) x7 hres _ _ _ hP hS (lv_sub hl [1, 2, 3, 4, 0, 5] rfl)
    unfold fX1_spanPart_l8 at hres
    refine lv_iload hx hb dX1_spanPart_8 (lv_at hl 5 rfl) ?_
    refine lv_bipush (v := 24) hx hb dX1_spanPart_10 (by decide) ?_
    refine lv_icmp_gt (tgt := 79) hx hb dX1_spanPart_12 (by decide) (fun c12 => ?_) (fun c12 => ?_)
    · have hres := (itl hres).1 c12
      exact b79 low hig x3 x5 hres _ _ _ hP hS (lv_sub hl [0, 1, 3, 4] rfl)
    · have hres := (itl hres).2 c12
      refine lv_iload_n hx hb dX1_spanPart_15 rfl (lv_at hl 2 rfl) ?_
      refine lv_iload hx hb dX1_spanPart_16 (lv_at hl 5 rfl) ?_
      refine lv_ishr hx hb dX1_spanPart_18 ?_
      refine lv_iconst (v := 1) hx hb dX1_spanPart_19 (by decide) ?_
      refine lv_iand hx hb dX1_spanPart_20 ?_
      refine lv_iconst (v := 1) hx hb dX1_spanPart_21 (by decide) ?_
      refine lv_icmp_ne (tgt := 73) hx hb dX1_spanPart_22 (by decide) (fun c22 => ?_) (fun c22 => ?_)
      · have hres := (itl hres).2 c22
        exact b73 x3 x5 x7 hres _ _ _ hP hS (lv_sub hl [0, 1, 2, 3, 4, 5] rfl)
      · have hres := (itl hres).1 c22
        refine lv_lload_n hx hb dX1_spanPart_25 rfl (lv_at hl 3 rfl) ?_
        refine lv_aload_n hx hb dX1_spanPart_26 rfl (lv_at hl 0 rfl) ?_
        refine gX_sayo_low hx hb hown hw1 hK hP u1 dX1_spanPart_27 ?_
        refine lv_iload_n hx hb dX1_spanPart_30 rfl (lv_at hl 1 rfl) ?_
        obtain ⟨i31, hres⟩ := gdi hres
        refine lX_low hx hb hK hP i31 dX1_spanPart_31 ?_
        refine lv_iload hx hb dX1_spanPart_32 (lv_at hl 5 rfl) ?_
        refine lv_lshl hx hb dX1_spanPart_34 rfl ?_
        refine lv_lor hx hb dX1_spanPart_35 ?_
        refine lv_lstore_n (lv' := [(3, .long (x3 ||| ((low x1.toNatClampNeg) <<< (x7.toInt64 &&& 63)))), (0, .ref (a 17)), (1, .int x1), (2, .int x2), (5, .long x5), (7, .int x7)]) hx hb dX1_spanPart_36 rfl hl (by decide) rfl (fun ls hl => ?_)
        refine lv_lload hx hb dX1_spanPart_37 (lv_at hl 4 rfl) ?_
        refine lv_aload_n hx hb dX1_spanPart_39 rfl (lv_at hl 1 rfl) ?_
        refine gX_sayo_high hx hb hown hw1 hK hP u2 dX1_spanPart_40 ?_
        refine lv_iload_n hx hb dX1_spanPart_43 rfl (lv_at hl 2 rfl) ?_
        obtain ⟨i44, hres⟩ := gdi hres
        refine lX_hig hx hb hK hP i44 dX1_spanPart_44 ?_
        refine lv_iload hx hb dX1_spanPart_45 (lv_at hl 5 rfl) ?_
        refine lv_lshl hx hb dX1_spanPart_47 rfl ?_
        refine lv_iload hx hb dX1_spanPart_48 (lv_at hl 5 rfl) ?_
        refine lv_if_ne (tgt := 57) hx hb dX1_spanPart_50 (by decide) (fun c50 => ?_) (fun c50 => ?_)
        · have hres := (itl hres).2 c50
          refine lv_aload_n hx hb dX1_spanPart_57 rfl (lv_at hl 1 rfl) ?_
          refine gX_sayo_low hx hb hown hw1 hK hP u1 dX1_spanPart_58 ?_
          refine lv_iload_n hx hb dX1_spanPart_61 rfl (lv_at hl 2 rfl) ?_
          obtain ⟨i62, hres⟩ := gdi hres
          refine lX_low hx hb hK hP i62 dX1_spanPart_62 ?_
          refine lv_bipush (v := 64) hx hb dX1_spanPart_63 (by decide) ?_
          refine lv_iload hx hb dX1_spanPart_65 (lv_at hl 5 rfl) ?_
          refine lv_isub hx hb dX1_spanPart_67 ?_
          refine lv_lushr hx hb dX1_spanPart_68 rfl ?_
          exact b69 (x3 ||| ((low x1.toNatClampNeg) <<< (x7.toInt64 &&& 63))) x7 x5 ((hig x1.toNatClampNeg) <<< (x7.toInt64 &&& 63)) (((low x1.toNatClampNeg).toUInt64 >>> (((64 : Int32) - x7).toInt64.toUInt64 &&& Int64.toUInt64 63)).toInt64) hres _ _ _ hP hS (lv_sub hl [1, 2, 3, 0, 5] rfl)
        · have hres := (itl hres).1 c50
          refine lv_lconst (v := 0) hx hb dX1_spanPart_53 (by decide) ?_
          refine lv_goto (tgt := 69) hx hb dX1_spanPart_54 (by decide) ?_
          exact b69 (x3 ||| ((low x1.toNatClampNeg) <<< (x7.toInt64 &&& 63))) x7 x5 ((hig x1.toNatClampNeg) <<< (x7.toInt64 &&& 63)) (0 : Int64) hres _ _ _ hP hS (lv_sub hl [1, 2, 3, 0, 5] rfl)
  unfold fX1_spanPart at hres
  refine lv_lconst (v := 0) hx hb dX1_spanPart_0 (by decide) ?_
  refine lv_lstore_n (lv' := [(3, .long (0 : Int64)), (0, .ref (a 17)), (1, .int x1), (2, .int x2)]) hx hb dX1_spanPart_1 rfl hl (by decide) rfl (fun ls hl => ?_)
  refine lv_lconst (v := 0) hx hb dX1_spanPart_2 (by decide) ?_
  refine lv_lstore (lv' := [(5, .long (0 : Int64)), (3, .long (0 : Int64)), (0, .ref (a 17)), (1, .int x1), (2, .int x2)]) hx hb dX1_spanPart_3 hl (by decide) rfl (fun ls hl => ?_)
  refine lv_iconst (v := 0) hx hb dX1_spanPart_5 (by decide) ?_
  refine lv_istore (lv' := [(7, .int (0 : Int32)), (5, .long (0 : Int64)), (3, .long (0 : Int64)), (0, .ref (a 17)), (1, .int x1), (2, .int x2)]) hx hb dX1_spanPart_6 hl (by decide) rfl (fun ls hl => ?_)
  exact b8 low hig 2000 (0 : Int64) (0 : Int64) (0 : Int32) hres _ _ _ hP hS (lv_sub hl [3, 4, 5, 2, 1, 0] rfl)
def fX1_spanWords_l29 (kin : Nat → Int32) (lea : Nat → Int32) (mos : Nat → Int32) (tol : Nat → Int32) (spn : Int32) (x1 : Int32) (K29 : Int32 → (Nat → Int64) → (Nat → Int64) → Option ((Nat → Int64) × (Nat → Int64) × Int32)) (x2 : Int32) (low : Nat → Int64) (hig : Nat → Int64) : Option ((Nat → Int64) × (Nat → Int64) × Int32) :=
  if spn ≤ x2 then some (low, hig, spn) else (fX3_toldAt tol x1 x2).bind fun q49 => (fX3_lengthsOf kin lea mos q49).bind fun q52 => (fX1_spanPart low hig x2 q52).bind fun q55 => K29 (x2 + 1) q55.1 q55.2
def fX1_spanWords (kin : Nat → Int32) (lea : Nat → Int32) (mos : Nat → Int32) (siz : Nat → Int32) (tol : Nat → Int32) (low : Nat → Int64) (hig : Nat → Int64) (spn : Int32) (x1 : Int32) : Option ((Nat → Int64) × (Nat → Int64) × Int32) :=
  gd (ib x1 8) (fix3 (fX1_spanWords_l29 kin lea mos tol (siz x1.toNatClampNeg) x1) 2000 (0 : Int32) (vp_updL low (0 : Int32).toNatClampNeg (1 : Int64)) (vp_updL hig (0 : Int32).toNatClampNeg (0 : Int64)))
theorem hdX1_spanPart : yX1_spanPart.cls = RX1 ∧ yX1_spanPart.cls ≠ "java/lang/invoke/MethodHandle" ∧ yX1_spanPart.cls ≠ "java/lang/invoke/VarHandle" ∧ (parseMethodDescriptor yX1_spanPart.desc).map (fun d => d.parameters.length) = some 2 := by decide +kernel
abbrev rX1_spanWords : Room := { frames := 2, cells := 0, slots := 0, locals := 44 }
set_option maxHeartbeats 4000000 in
set_option maxRecDepth 100000 in
theorem kX1_spanWords (l : Launch) (D : va_G) (a : Nat → Nat) (cI cJ cS : ClassId) (hd : aok a 36) {Env : (Nat → Prop) → State → Heap → Prop} (hEo : envOK Env) (par : Int32) (kin lea mos wrt : Nat → Int32) (tal : Int32) (siz tol : Nat → Int32) (hrs : Int32) (ags : Nat → Int32) (yea kpar : Int32) (kkin klea kmos kwrt : Nat → Int32) (ktal : Int32) (ksiz ktol : Nat → Int32) (khrs : Int32) (kags : Nat → Int32) (kyea isk : Int32) (tly : Nat → Int64) (gai bes : Nat → Int32) (low hig : Nat → Int64) (spn : Int32) (byt : Nat → Int32) (hld sta beh sor num : Int32) (fnd sbi she : Nat → Int32) (snu : Nat → Nat → Int64) (x1 : Int32) (res : (Nat → Int64) × (Nat → Int64) × Int32) (hres : fX1_spanWords kin lea mos siz tol low hig spn x1 = some res) : CtV l D (tyL cI cJ cS) 36 a Env yX1_spanWords wsX1_spanWords rX1_spanWords [.ref (a 17), .int x1] (wX a cI cJ cS par kin lea mos wrt tal siz tol hrs ags yea kpar kkin klea kmos kwrt ktal ksiz ktol khrs kags kyea isk tly gai bes low hig spn byt hld sta beh sor num fnd sbi she snu) (wX a cI cJ cS par kin lea mos wrt tal siz tol hrs ags yea kpar kkin klea kmos kwrt ktal ksiz ktol khrs kags kyea isk tly gai bes res.1 res.2.1 res.2.2 byt hld sta beh sor num fnd sbi she snu) := by
  refine CtV_mk (cc := cX1_spanWords) (maxL := 3) (ret := none) (by decide) rfl (Nat.le_of_ble_eq_true rfl) ?_
  intro p e s m args below meth c ls hx hb hr hlk hml hown hts hP hK hE hl
  have hS : va_S (adA a 36 s.heap.size) s.heap s.heap [] := va_S.rf
  have hl : lv_has ls 3 [(0, .ref (a 17)), (1, .int x1)] := hl
  have hown : s.vm.findClass RX1 = some m.cls := hown
  have hw1 : ∀ w ∈ wsX10, w.before args s = true := fun w h => hts w (List.mem_cons_of_mem _ (List.mem_append_left _ (List.mem_append_right _ h)))
  have hw3 : ∀ w ∈ wsX30, w.before args s = true := fun w h => hts w (List.mem_cons_of_mem _ (List.mem_append_right _ h))
  have u1 : (Cond.fieldLink RX1 32 "YearWords$Sayings" "stock" "LYearWords$Stock;").before args s = true := hts _ (List.mem_of_getElem? (i := 1) (by decide +kernel))
  have u2 : (Cond.fieldLink RX1 36 "YearWords$Stock" "sizes" "[I").before args s = true := hts _ (List.mem_of_getElem? (i := 2) (by decide +kernel))
  have u3 : (Cond.fieldLink RX1 28 "YearWords$Sayings" "spanned" "I").before args s = true := hts _ (List.mem_of_getElem? (i := 3) (by decide +kernel))
  have u4 : (Cond.fieldLink RX1 22 "YearWords$Sayings" "low" "[J").before args s = true := hts _ (List.mem_of_getElem? (i := 4) (by decide +kernel))
  have u5 : (Cond.fieldLink RX1 25 "YearWords$Sayings" "high" "[J").before args s = true := hts _ (List.mem_of_getElem? (i := 5) (by decide +kernel))
  obtain ⟨Q, hQ⟩ : ∃ Q, Q = mqV below D 36 a args s (wX a cI cJ cS par kin lea mos wrt tal siz tol hrs ags yea kpar kkin klea kmos kwrt ktal ksiz ktol khrs kags kyea isk tly gai bes res.1 res.2.1 res.2.2 byt hld sta beh sor num fnd sbi she snu) := ⟨_, rfl⟩
  rw [← hQ]
  have b29 : ∀ (spn : Int32) (n : Nat) (x2 : Int32) (low : Nat → Int64) (hig : Nat → Int64), fix3 (fX1_spanWords_l29 kin lea mos tol spn x1) n x2 low hig = some res → ∀ (H : Heap) (locs : List Loc) (ls : Array Slot), va_P D vwCl (wX a cI cJ cS par kin lea mos wrt tal siz tol hrs ags yea kpar kkin klea kmos kwrt ktal ksiz ktol khrs kags kyea isk tly gai bes low hig spn byt hld sta beh sor num fnd sbi she snu) H → va_S (adA a 36 s.heap.size) s.heap H locs → lv_has ls 3 [(0, .ref (a 17)), (1, .int x1), (2, .int x2)] → W p l e rX1_spanWords s m args below meth c H locs 0 0 Q (F0 m 29 ls []) := by
    intro spn
    refine fix3_r ?_
    intro K29 hK29 x2 low hig hres H locs ls hP hS hl
    unfold fX1_spanWords_l29 at hres
    refine lv_iload_n hx hb dX1_spanWords_29 rfl (lv_at hl 2 rfl) ?_
    refine lv_aload_n hx hb dX1_spanWords_30 rfl (lv_at hl 0 rfl) ?_
    refine gX_sayo_spanned hx hb hown hw1 hK hP u3 dX1_spanWords_31 ?_
    refine lv_icmp_ge (tgt := 64) hx hb dX1_spanWords_34 (by decide) (fun c34 => ?_) (fun c34 => ?_)
    · have hres := (itl hres).1 c34
      exact hQ ▸ rtV hx hb hr hlk hP hS (by rw [← (Option.some.inj hres)]) dX1_spanWords_64
    · have hres := (itl hres).2 c34
      refine lv_aload_n hx hb dX1_spanWords_37 rfl (lv_at hl 0 rfl) ?_
      refine lv_iload_n hx hb dX1_spanWords_38 rfl (lv_at hl 2 rfl) ?_
      refine lv_aload_n hx hb dX1_spanWords_39 rfl (lv_at hl 0 rfl) ?_
      refine gX_sayo_stock hx hb hown hw1 hK hP u1 dX1_spanWords_40 ?_
      refine lv_aload_n hx hb dX1_spanWords_43 rfl (lv_at hl 0 rfl) ?_
      refine gX_sayo_stock hx hb hown hw1 hK hP u1 dX1_spanWords_44 ?_
      refine lv_iload_n hx hb dX1_spanWords_47 rfl (lv_at hl 1 rfl) ?_
      refine lv_iload_n hx hb dX1_spanWords_48 rfl (lv_at hl 2 rfl) ?_
      obtain ⟨q49, e49, hres⟩ := obd hres
      refine cvI (q0 := 1) (ci := 3) hx hb hml hown hts hEo hE hK hP hS (kX3_toldAt l D a cI cJ cS hd hEo par kin lea mos wrt tal siz tol hrs ags yea kpar kkin klea kmos kwrt ktal ksiz ktol khrs kags kyea isk tly gai bes low hig spn byt hld sta beh sor num fnd sbi she snu x1 x2 q49 e49) gX1_spanWords_X3_toldAt rfl hdX3_toldAt rfl rfl rfl ⟨rfl, rfl⟩ ⟨Nat.le_of_ble_eq_true rfl, Nat.le_of_ble_eq_true rfl⟩ ⟨Nat.zero_le _, Nat.zero_le _⟩ rfl hl.1 rfl (Nat.le_of_ble_eq_true rfl) dX1_spanWords_49 (fun H locs hP hS => ?_)
      obtain ⟨q52, e52, hres⟩ := obd hres
      refine cvI (q0 := 1) (ci := 3) hx hb hml hown hts hEo hE hK hP hS (kX3_lengthsOf l D a cI cJ cS hd hEo par kin lea mos wrt tal siz tol hrs ags yea kpar kkin klea kmos kwrt ktal ksiz ktol khrs kags kyea isk tly gai bes low hig spn byt hld sta beh sor num fnd sbi she snu q49 q52 e52) gX1_spanWords_X3_lengthsOf rfl hdX3_lengthsOf rfl rfl rfl ⟨rfl, rfl⟩ ⟨Nat.le_of_ble_eq_true rfl, Nat.le_of_ble_eq_true rfl⟩ ⟨Nat.zero_le _, Nat.zero_le _⟩ rfl hl.1 rfl (Nat.le_of_ble_eq_true rfl) dX1_spanWords_52 (fun H locs hP hS => ?_)
      obtain ⟨q55, e55, hres⟩ := obd hres
      refine cvV (q0 := 17) (ci := 1) hx hb hml hown hts hEo hE hK hP hS (kX1_spanPart l D a cI cJ cS hd hEo par kin lea mos wrt tal siz tol hrs ags yea kpar kkin klea kmos kwrt ktal ksiz ktol khrs kags kyea isk tly gai bes low hig spn byt hld sta beh sor num fnd sbi she snu x2 q52 q55 e55) gX1_spanWords_X1_spanPart rfl hdX1_spanPart rfl rfl rfl ⟨rfl, rfl⟩ ⟨Nat.le_of_ble_eq_true rfl, Nat.le_of_ble_eq_true rfl⟩ ⟨Nat.zero_le _, Nat.zero_le _⟩ rfl hl.1 rfl (Nat.le_of_ble_eq_true rfl) dX1_spanWords_55 (fun H locs hP hS => ?_)
      refine lv_iinc (v := x2 + 1) (lv' := [(2, .int (x2 + 1)), (0, .ref (a 17)), (1, .int x1)]) hx hb dX1_spanWords_58 hl (k := 2) rfl (congrArg (fun z => x2 + z) (by decide)) (by decide) rfl (fun ls hl => ?_)
      refine lv_goto (tgt := 29) hx hb dX1_spanWords_61 (by decide) ?_
      exact hK29 (x2 + 1) q55.1 q55.2 hres _ _ _ hP hS (lv_sub hl [1, 2, 0] rfl)
  unfold fX1_spanWords at hres
  refine lv_aload_n hx hb dX1_spanWords_0 rfl (lv_at hl 0 rfl) ?_
  refine lv_aload_n hx hb dX1_spanWords_1 rfl (lv_at hl 0 rfl) ?_
  refine gX_sayo_stock hx hb hown hw1 hK hP u1 dX1_spanWords_2 ?_
  refine gX_now_sizes hx hb hown hw3 hK hP u2 dX1_spanWords_5 ?_
  refine lv_iload_n hx hb dX1_spanWords_8 rfl (lv_at hl 1 rfl) ?_
  obtain ⟨i9, hres⟩ := gdi hres
  refine lX_siz hx hb hK hP i9 dX1_spanWords_9 ?_
  refine pX_sayo_spanned hx hb hown hw1 hK hP hd hS u3 dX1_spanWords_10 (fun H locs hP hS => ?_)
  refine lv_aload_n hx hb dX1_spanWords_13 rfl (lv_at hl 0 rfl) ?_
  refine gX_sayo_low hx hb hown hw1 hK hP u4 dX1_spanWords_14 ?_
  refine lv_iconst (v := 0) hx hb dX1_spanWords_17 (by decide) ?_
  refine lv_lconst (v := 1) hx hb dX1_spanWords_18 (by decide) ?_
  have i19 : vp_in (0 : Int32) 11 := ib_in (by decide)
  refine sX_low hx hb hK hP hd hS i19 dX1_spanWords_19 (fun H locs hP hS => ?_)
  refine lv_aload_n hx hb dX1_spanWords_20 rfl (lv_at hl 0 rfl) ?_
  refine gX_sayo_high hx hb hown hw1 hK hP u5 dX1_spanWords_21 ?_
  refine lv_iconst (v := 0) hx hb dX1_spanWords_24 (by decide) ?_
  refine lv_lconst (v := 0) hx hb dX1_spanWords_25 (by decide) ?_
  have i26 : vp_in (0 : Int32) 11 := ib_in (by decide)
  refine sX_hig hx hb hK hP hd hS i26 dX1_spanWords_26 (fun H locs hP hS => ?_)
  refine lv_iconst (v := 0) hx hb dX1_spanWords_27 (by decide) ?_
  refine lv_istore_n (lv' := [(2, .int (0 : Int32)), (0, .ref (a 17)), (1, .int x1)]) hx hb dX1_spanWords_28 rfl hl (by decide) rfl (fun ls hl => ?_)
  exact b29 (siz x1.toNatClampNeg) 2000 (0 : Int32) (vp_updL low (0 : Int32).toNatClampNeg (1 : Int64)) (vp_updL hig (0 : Int32).toNatClampNeg (0 : Int64)) hres _ _ _ hP hS (lv_sub hl [1, 2, 0] rfl)
def fX1_isSpanned_b40 (z0 : Int64) : Option (Bool) :=
  if (lg_cmp (z0 &&& (1 : Int64)) (1 : Int64)) = 0 then some true else some false
def fX1_isSpanned (low : Nat → Int64) (hig : Nat → Int64) (x1 : Int32) (x2 : Int32) : Option (Bool) :=
  if x2 < 0 then some false else if x2 ≤ (120 : Int32) then if (64 : Int32) ≤ x2 then gd (ib x1 11) (fX1_isSpanned_b40 (((hig x1.toNatClampNeg).toUInt64 >>> ((x2 - (64 : Int32)).toInt64.toUInt64 &&& Int64.toUInt64 63)).toInt64)) else gd (ib x1 11) (fX1_isSpanned_b40 (((low x1.toNatClampNeg).toUInt64 >>> (x2.toInt64.toUInt64 &&& Int64.toUInt64 63)).toInt64)) else some false
abbrev rX1_isSpanned : Room := { frames := 0, cells := 0, slots := 0, locals := 0 }
set_option maxHeartbeats 4000000 in
set_option maxRecDepth 100000 in
theorem kX1_isSpanned (l : Launch) (D : va_G) (a : Nat → Nat) (cI cJ cS : ClassId) (hd : aok a 36) {Env : (Nat → Prop) → State → Heap → Prop} (hEo : envOK Env) (par : Int32) (kin lea mos wrt : Nat → Int32) (tal : Int32) (siz tol : Nat → Int32) (hrs : Int32) (ags : Nat → Int32) (yea kpar : Int32) (kkin klea kmos kwrt : Nat → Int32) (ktal : Int32) (ksiz ktol : Nat → Int32) (khrs : Int32) (kags : Nat → Int32) (kyea isk : Int32) (tly : Nat → Int64) (gai bes : Nat → Int32) (low hig : Nat → Int64) (spn : Int32) (byt : Nat → Int32) (hld sta beh sor num : Int32) (fnd sbi she : Nat → Int32) (snu : Nat → Nat → Int64) (x1 : Int32) (x2 : Int32) (res : Bool) (hres : fX1_isSpanned low hig x1 x2 = some res) : CtI l D (tyL cI cJ cS) 36 a Env yX1_isSpanned wsX1_isSpanned rX1_isSpanned [.ref (a 17), .int x1, .int x2] (wX a cI cJ cS par kin lea mos wrt tal siz tol hrs ags yea kpar kkin klea kmos kwrt ktal ksiz ktol khrs kags kyea isk tly gai bes low hig spn byt hld sta beh sor num fnd sbi she snu) (wX a cI cJ cS par kin lea mos wrt tal siz tol hrs ags yea kpar kkin klea kmos kwrt ktal ksiz ktol khrs kags kyea isk tly gai bes low hig spn byt hld sta beh sor num fnd sbi she snu) (bI res) := by
  refine CtI_mk (cc := cX1_isSpanned) (maxL := 3) (ret := (some .boolean)) (by decide) rfl (Nat.le_of_ble_eq_true rfl) ?_
  intro p e s m args below meth c ls hx hb hr hlk hml hown hts hP hK hE hl
  have hS : va_S (adA a 36 s.heap.size) s.heap s.heap [] := va_S.rf
  have hl : lv_has ls 3 [(0, .ref (a 17)), (1, .int x1), (2, .int x2)] := hl
  have hown : s.vm.findClass RX1 = some m.cls := hown
  have hw1 : ∀ w ∈ wsX10, w.before args s = true := fun w h => hts w (List.mem_cons_of_mem _ (List.mem_append_right _ h))
  have u1 : (Cond.fieldLink RX1 22 "YearWords$Sayings" "low" "[J").before args s = true := hts _ (List.mem_of_getElem? (i := 1) (by decide +kernel))
  have u2 : (Cond.fieldLink RX1 25 "YearWords$Sayings" "high" "[J").before args s = true := hts _ (List.mem_of_getElem? (i := 2) (by decide +kernel))
  obtain ⟨Q, hQ⟩ : ∃ Q, Q = mqI below D 36 a args s (wX a cI cJ cS par kin lea mos wrt tal siz tol hrs ags yea kpar kkin klea kmos kwrt ktal ksiz ktol khrs kags kyea isk tly gai bes low hig spn byt hld sta beh sor num fnd sbi she snu) (bI res) := ⟨_, rfl⟩
  rw [← hQ]
  have b40 : ∀ (z0 : Int64), fX1_isSpanned_b40 z0 = some res → ∀ (H : Heap) (locs : List Loc) (ls : Array Slot), va_P D vwCl (wX a cI cJ cS par kin lea mos wrt tal siz tol hrs ags yea kpar kkin klea kmos kwrt ktal ksiz ktol khrs kags kyea isk tly gai bes low hig spn byt hld sta beh sor num fnd sbi she snu) H → va_S (adA a 36 s.heap.size) s.heap H locs → lv_has ls 3 [(0, .ref (a 17))] → W p l e rX1_isSpanned s m args below meth c H locs 0 0 Q (F0 m 40 ls [.long z0]) := by
    intro z0 hres H locs ls hP hS hl
    unfold fX1_isSpanned_b40 at hres
    refine lv_lconst (v := 1) hx hb dX1_isSpanned_40 (by decide) ?_
    refine lv_land hx hb dX1_isSpanned_41 ?_
    refine lv_lconst (v := 1) hx hb dX1_isSpanned_42 (by decide) ?_
    refine W.lcmp hx hb dX1_isSpanned_43 ?_
    refine lv_if_ne (tgt := 51) hx hb dX1_isSpanned_44 (by decide) (fun c44 => ?_) (fun c44 => ?_)
    · have hres := (itl hres).2 c44
      refine lv_iconst (v := 0) hx hb dX1_isSpanned_51 (by decide) ?_
      exact hQ ▸ rtZ (v := false)  hx hb hr hlk hP hS (by rw [← (Option.some.inj hres)]) rfl dX1_isSpanned_52
    · have hres := (itl hres).1 c44
      refine lv_iconst (v := 1) hx hb dX1_isSpanned_47 (by decide) ?_
      refine lv_goto (tgt := 52) hx hb dX1_isSpanned_48 (by decide) ?_
      exact hQ ▸ rtZ (v := true)  hx hb hr hlk hP hS (by rw [← (Option.some.inj hres)]) rfl dX1_isSpanned_52
  unfold fX1_isSpanned at hres
  refine lv_iload_n hx hb dX1_isSpanned_0 rfl (lv_at hl 2 rfl) ?_
  refine lv_if_lt (tgt := 10) hx hb dX1_isSpanned_1 (by decide) (fun c1 => ?_) (fun c1 => ?_)
  · have hres := (itl hres).1 c1
    refine lv_iconst (v := 0) hx hb dX1_isSpanned_10 (by decide) ?_
    exact hQ ▸ rtZ (v := false)  hx hb hr hlk hP hS (by rw [← (Option.some.inj hres)]) rfl dX1_isSpanned_11
  · have hres := (itl hres).2 c1
    refine lv_iload_n hx hb dX1_isSpanned_4 rfl (lv_at hl 2 rfl) ?_
    refine lv_bipush (v := 120) hx hb dX1_isSpanned_5 (by decide) ?_
    refine lv_icmp_le (tgt := 12) hx hb dX1_isSpanned_7 (by decide) (fun c7 => ?_) (fun c7 => ?_)
    · have hres := (itl hres).1 c7
      refine lv_iload_n hx hb dX1_isSpanned_12 rfl (lv_at hl 2 rfl) ?_
      refine lv_bipush (v := 64) hx hb dX1_isSpanned_13 (by decide) ?_
      refine lv_icmp_ge (tgt := 29) hx hb dX1_isSpanned_15 (by decide) (fun c15 => ?_) (fun c15 => ?_)
      · have hres := (itl hres).1 c15
        refine lv_aload_n hx hb dX1_isSpanned_29 rfl (lv_at hl 0 rfl) ?_
        refine gX_sayo_high hx hb hown hw1 hK hP u2 dX1_isSpanned_30 ?_
        refine lv_iload_n hx hb dX1_isSpanned_33 rfl (lv_at hl 1 rfl) ?_
        obtain ⟨i34, hres⟩ := gdi hres
        refine lX_hig hx hb hK hP i34 dX1_isSpanned_34 ?_
        refine lv_iload_n hx hb dX1_isSpanned_35 rfl (lv_at hl 2 rfl) ?_
        refine lv_bipush (v := 64) hx hb dX1_isSpanned_36 (by decide) ?_
        refine lv_isub hx hb dX1_isSpanned_38 ?_
        refine lv_lushr hx hb dX1_isSpanned_39 rfl ?_
        exact b40 (((hig x1.toNatClampNeg).toUInt64 >>> ((x2 - (64 : Int32)).toInt64.toUInt64 &&& Int64.toUInt64 63)).toInt64) hres _ _ _ hP hS (lv_sub hl [0] rfl)
      · have hres := (itl hres).2 c15
        refine lv_aload_n hx hb dX1_isSpanned_18 rfl (lv_at hl 0 rfl) ?_
        refine gX_sayo_low hx hb hown hw1 hK hP u1 dX1_isSpanned_19 ?_
        refine lv_iload_n hx hb dX1_isSpanned_22 rfl (lv_at hl 1 rfl) ?_
        obtain ⟨i23, hres⟩ := gdi hres
        refine lX_low hx hb hK hP i23 dX1_isSpanned_23 ?_
        refine lv_iload_n hx hb dX1_isSpanned_24 rfl (lv_at hl 2 rfl) ?_
        refine lv_lushr hx hb dX1_isSpanned_25 rfl ?_
        refine lv_goto (tgt := 40) hx hb dX1_isSpanned_26 (by decide) ?_
        exact b40 (((low x1.toNatClampNeg).toUInt64 >>> (x2.toInt64.toUInt64 &&& Int64.toUInt64 63)).toInt64) hres _ _ _ hP hS (lv_sub hl [0] rfl)
    · have hres := (itl hres).2 c7
      refine lv_iconst (v := 0) hx hb dX1_isSpanned_10 (by decide) ?_
      exact hQ ▸ rtZ (v := false)  hx hb hr hlk hP hS (by rw [← (Option.some.inj hres)]) rfl dX1_isSpanned_11
def fX1_canBeIn (low : Nat → Int64) (hig : Nat → Int64) (spn : Int32) (x1 : Int32) : Option (Bool) :=
 (fX1_isSpanned low hig spn x1).bind fun q6 => some q6
theorem hdX1_isSpanned : yX1_isSpanned.cls = RX1 ∧ yX1_isSpanned.cls ≠ "java/lang/invoke/MethodHandle" ∧ yX1_isSpanned.cls ≠ "java/lang/invoke/VarHandle" ∧ (parseMethodDescriptor yX1_isSpanned.desc).map (fun d => d.parameters.length) = some 2 := by decide +kernel
abbrev rX1_canBeIn : Room := { frames := 1, cells := 0, slots := 0, locals := 22 }
set_option maxHeartbeats 4000000 in
set_option maxRecDepth 100000 in
theorem kX1_canBeIn (l : Launch) (D : va_G) (a : Nat → Nat) (cI cJ cS : ClassId) (hd : aok a 36) {Env : (Nat → Prop) → State → Heap → Prop} (hEo : envOK Env) (par : Int32) (kin lea mos wrt : Nat → Int32) (tal : Int32) (siz tol : Nat → Int32) (hrs : Int32) (ags : Nat → Int32) (yea kpar : Int32) (kkin klea kmos kwrt : Nat → Int32) (ktal : Int32) (ksiz ktol : Nat → Int32) (khrs : Int32) (kags : Nat → Int32) (kyea isk : Int32) (tly : Nat → Int64) (gai bes : Nat → Int32) (low hig : Nat → Int64) (spn : Int32) (byt : Nat → Int32) (hld sta beh sor num : Int32) (fnd sbi she : Nat → Int32) (snu : Nat → Nat → Int64) (x1 : Int32) (res : Bool) (hres : fX1_canBeIn low hig spn x1 = some res) : CtI l D (tyL cI cJ cS) 36 a Env yX1_canBeIn wsX1_canBeIn rX1_canBeIn [.ref (a 17), .int x1] (wX a cI cJ cS par kin lea mos wrt tal siz tol hrs ags yea kpar kkin klea kmos kwrt ktal ksiz ktol khrs kags kyea isk tly gai bes low hig spn byt hld sta beh sor num fnd sbi she snu) (wX a cI cJ cS par kin lea mos wrt tal siz tol hrs ags yea kpar kkin klea kmos kwrt ktal ksiz ktol khrs kags kyea isk tly gai bes low hig spn byt hld sta beh sor num fnd sbi she snu) (bI res) := by
  refine CtI_mk (cc := cX1_canBeIn) (maxL := 2) (ret := (some .boolean)) (by decide) rfl (Nat.le_of_ble_eq_true rfl) ?_
  intro p e s m args below meth c ls hx hb hr hlk hml hown hts hP hK hE hl
  have hS : va_S (adA a 36 s.heap.size) s.heap s.heap [] := va_S.rf
  have hl : lv_has ls 2 [(0, .ref (a 17)), (1, .int x1)] := hl
  have hown : s.vm.findClass RX1 = some m.cls := hown
  have hw1 : ∀ w ∈ wsX10, w.before args s = true := fun w h => hts w (List.mem_cons_of_mem _ (List.mem_append_right _ h))
  have u1 : (Cond.fieldLink RX1 28 "YearWords$Sayings" "spanned" "I").before args s = true := hts _ (List.mem_of_getElem? (i := 1) (by decide +kernel))
  obtain ⟨Q, hQ⟩ : ∃ Q, Q = mqI below D 36 a args s (wX a cI cJ cS par kin lea mos wrt tal siz tol hrs ags yea kpar kkin klea kmos kwrt ktal ksiz ktol khrs kags kyea isk tly gai bes low hig spn byt hld sta beh sor num fnd sbi she snu) (bI res) := ⟨_, rfl⟩
  rw [← hQ]
  unfold fX1_canBeIn at hres
  refine lv_aload_n hx hb dX1_canBeIn_0 rfl (lv_at hl 0 rfl) ?_
  refine lv_aload_n hx hb dX1_canBeIn_1 rfl (lv_at hl 0 rfl) ?_
  refine gX_sayo_spanned hx hb hown hw1 hK hP u1 dX1_canBeIn_2 ?_
  refine lv_iload_n hx hb dX1_canBeIn_5 rfl (lv_at hl 1 rfl) ?_
  obtain ⟨q6, e6, hres⟩ := obd hres
  refine cvI (q0 := 17) (ci := 1) hx hb hml hown hts hEo hE hK hP hS (kX1_isSpanned l D a cI cJ cS hd hEo par kin lea mos wrt tal siz tol hrs ags yea kpar kkin klea kmos kwrt ktal ksiz ktol khrs kags kyea isk tly gai bes low hig spn byt hld sta beh sor num fnd sbi she snu spn x1 q6 e6) gX1_canBeIn_X1_isSpanned rfl hdX1_isSpanned rfl rfl rfl ⟨rfl, rfl⟩ ⟨Nat.le_of_ble_eq_true rfl, Nat.le_of_ble_eq_true rfl⟩ ⟨Nat.zero_le _, Nat.zero_le _⟩ rfl hl.1 rfl (Nat.le_of_ble_eq_true rfl) dX1_canBeIn_6 (fun H locs hP hS => ?_)
  exact hQ ▸ rtZ (v := q6)  hx hb hr hlk hP hS (by rw [← (Option.some.inj hres)]) rfl dX1_canBeIn_9
def fX1_isFilledBy_b29 (K2 : Int32 → Option (Bool)) (x3 : Int32) : Option (Bool) :=
  K2 (x3 + 1)
def fX1_isFilledBy_l2 (low : Nat → Int64) (hig : Nat → Int64) (spn : Int32) (x1 : Int32) (x2 : Int32) (K2 : Int32 → Option (Bool)) (x3 : Int32) : Option (Bool) :=
  if (24 : Int32) < x3 then some false else if ((x1 >>> (x3 &&& 31)) &&& (1 : Int32)) = (1 : Int32) then (fX1_canBeIn low hig spn (x2 - x3)).bind fun q21 => if (bI q21) = 0 then fX1_isFilledBy_b29 K2 x3 else some true else fX1_isFilledBy_b29 K2 x3
def fX1_isFilledBy (low : Nat → Int64) (hig : Nat → Int64) (spn : Int32) (x1 : Int32) (x2 : Int32) : Option (Bool) :=
  fix1 (fX1_isFilledBy_l2 low hig spn x1 x2) 2000 (0 : Int32)
theorem hdX1_canBeIn : yX1_canBeIn.cls = RX1 ∧ yX1_canBeIn.cls ≠ "java/lang/invoke/MethodHandle" ∧ yX1_canBeIn.cls ≠ "java/lang/invoke/VarHandle" ∧ (parseMethodDescriptor yX1_canBeIn.desc).map (fun d => d.parameters.length) = some 1 := by decide +kernel
abbrev rX1_isFilledBy : Room := { frames := 2, cells := 0, slots := 0, locals := 43 }
set_option maxHeartbeats 4000000 in
set_option maxRecDepth 100000 in
theorem kX1_isFilledBy (l : Launch) (D : va_G) (a : Nat → Nat) (cI cJ cS : ClassId) (hd : aok a 36) {Env : (Nat → Prop) → State → Heap → Prop} (hEo : envOK Env) (par : Int32) (kin lea mos wrt : Nat → Int32) (tal : Int32) (siz tol : Nat → Int32) (hrs : Int32) (ags : Nat → Int32) (yea kpar : Int32) (kkin klea kmos kwrt : Nat → Int32) (ktal : Int32) (ksiz ktol : Nat → Int32) (khrs : Int32) (kags : Nat → Int32) (kyea isk : Int32) (tly : Nat → Int64) (gai bes : Nat → Int32) (low hig : Nat → Int64) (spn : Int32) (byt : Nat → Int32) (hld sta beh sor num : Int32) (fnd sbi she : Nat → Int32) (snu : Nat → Nat → Int64) (x1 : Int32) (x2 : Int32) (res : Bool) (hres : fX1_isFilledBy low hig spn x1 x2 = some res) : CtI l D (tyL cI cJ cS) 36 a Env yX1_isFilledBy wsX1_isFilledBy rX1_isFilledBy [.ref (a 17), .int x1, .int x2] (wX a cI cJ cS par kin lea mos wrt tal siz tol hrs ags yea kpar kkin klea kmos kwrt ktal ksiz ktol khrs kags kyea isk tly gai bes low hig spn byt hld sta beh sor num fnd sbi she snu) (wX a cI cJ cS par kin lea mos wrt tal siz tol hrs ags yea kpar kkin klea kmos kwrt ktal ksiz ktol khrs kags kyea isk tly gai bes low hig spn byt hld sta beh sor num fnd sbi she snu) (bI res) := by
  refine CtI_mk (cc := cX1_isFilledBy) (maxL := 4) (ret := (some .boolean)) (by decide) rfl (Nat.le_of_ble_eq_true rfl) ?_
  intro p e s m args below meth c ls hx hb hr hlk hml hown hts hP hK hE hl
  have hS : va_S (adA a 36 s.heap.size) s.heap s.heap [] := va_S.rf
  have hl : lv_has ls 4 [(0, .ref (a 17)), (1, .int x1), (2, .int x2)] := hl
  have hown : s.vm.findClass RX1 = some m.cls := hown
  obtain ⟨Q, hQ⟩ : ∃ Q, Q = mqI below D 36 a args s (wX a cI cJ cS par kin lea mos wrt tal siz tol hrs ags yea kpar kkin klea kmos kwrt ktal ksiz ktol khrs kags kyea isk tly gai bes low hig spn byt hld sta beh sor num fnd sbi she snu) (bI res) := ⟨_, rfl⟩
  rw [← hQ]
  have b2 : ∀  (n : Nat) (x3 : Int32), fix1 (fX1_isFilledBy_l2 low hig spn x1 x2) n x3 = some res → ∀ (H : Heap) (locs : List Loc) (ls : Array Slot), va_P D vwCl (wX a cI cJ cS par kin lea mos wrt tal siz tol hrs ags yea kpar kkin klea kmos kwrt ktal ksiz ktol khrs kags kyea isk tly gai bes low hig spn byt hld sta beh sor num fnd sbi she snu) H → va_S (adA a 36 s.heap.size) s.heap H locs → lv_has ls 4 [(0, .ref (a 17)), (1, .int x1), (2, .int x2), (3, .int x3)] → W p l e rX1_isFilledBy s m args below meth c H locs 0 0 Q (F0 m 2 ls []) := by
    refine fix1_r ?_
    intro K2 hK2 x3 hres H locs ls hP hS hl
    have b29 : ∀ (x3 : Int32), fX1_isFilledBy_b29 K2 x3 = some res → ∀ (H : Heap) (locs : List Loc) (ls : Array Slot), va_P D vwCl (wX a cI cJ cS par kin lea mos wrt tal siz tol hrs ags yea kpar kkin klea kmos kwrt ktal ksiz ktol khrs kags kyea isk tly gai bes low hig spn byt hld sta beh sor num fnd sbi she snu) H → va_S (adA a 36 s.heap.size) s.heap H locs → lv_has ls 4 [(0, .ref (a 17)), (1, .int x1), (2, .int x2), (3, .int x3)] → W p l e rX1_isFilledBy s m args below meth c H locs 0 0 Q (F0 m 29 ls []) := by
      intro x3 hres H locs ls hP hS hl
      unfold fX1_isFilledBy_b29 at hres
      refine lv_iinc (v := x3 + 1) (lv' := [(3, .int (x3 + 1)), (0, .ref (a 17)), (1, .int x1), (2, .int x2)]) hx hb dX1_isFilledBy_29 hl (k := 3) rfl (congrArg (fun z => x3 + z) (by decide)) (by decide) rfl (fun ls hl => ?_)
      refine lv_goto (tgt := 2) hx hb dX1_isFilledBy_32 (by decide) ?_
      exact hK2 (x3 + 1) hres _ _ _ hP hS (lv_sub hl [1, 2, 3, 0] rfl)
    unfold fX1_isFilledBy_l2 at hres
    refine lv_iload_n hx hb dX1_isFilledBy_2 rfl (lv_at hl 3 rfl) ?_
    refine lv_bipush (v := 24) hx hb dX1_isFilledBy_3 (by decide) ?_
    refine lv_icmp_gt (tgt := 35) hx hb dX1_isFilledBy_5 (by decide) (fun c5 => ?_) (fun c5 => ?_)
    · have hres := (itl hres).1 c5
      refine lv_iconst (v := 0) hx hb dX1_isFilledBy_35 (by decide) ?_
      exact hQ ▸ rtZ (v := false)  hx hb hr hlk hP hS (by rw [← (Option.some.inj hres)]) rfl dX1_isFilledBy_36
    · have hres := (itl hres).2 c5
      refine lv_iload_n hx hb dX1_isFilledBy_8 rfl (lv_at hl 1 rfl) ?_
      refine lv_iload_n hx hb dX1_isFilledBy_9 rfl (lv_at hl 3 rfl) ?_
      refine lv_ishr hx hb dX1_isFilledBy_10 ?_
      refine lv_iconst (v := 1) hx hb dX1_isFilledBy_11 (by decide) ?_
      refine lv_iand hx hb dX1_isFilledBy_12 ?_
      refine lv_iconst (v := 1) hx hb dX1_isFilledBy_13 (by decide) ?_
      refine lv_icmp_ne (tgt := 29) hx hb dX1_isFilledBy_14 (by decide) (fun c14 => ?_) (fun c14 => ?_)
      · have hres := (itl hres).2 c14
        exact b29 x3 hres _ _ _ hP hS (lv_sub hl [0, 1, 2, 3] rfl)
      · have hres := (itl hres).1 c14
        refine lv_aload_n hx hb dX1_isFilledBy_17 rfl (lv_at hl 0 rfl) ?_
        refine lv_iload_n hx hb dX1_isFilledBy_18 rfl (lv_at hl 2 rfl) ?_
        refine lv_iload_n hx hb dX1_isFilledBy_19 rfl (lv_at hl 3 rfl) ?_
        refine lv_isub hx hb dX1_isFilledBy_20 ?_
        obtain ⟨q21, e21, hres⟩ := obd hres
        refine cvI (q0 := 17) (ci := 1) hx hb hml hown hts hEo hE hK hP hS (kX1_canBeIn l D a cI cJ cS hd hEo par kin lea mos wrt tal siz tol hrs ags yea kpar kkin klea kmos kwrt ktal ksiz ktol khrs kags kyea isk tly gai bes low hig spn byt hld sta beh sor num fnd sbi she snu (x2 - x3) q21 e21) gX1_isFilledBy_X1_canBeIn rfl hdX1_canBeIn rfl rfl rfl ⟨rfl, rfl⟩ ⟨Nat.le_of_ble_eq_true rfl, Nat.le_of_ble_eq_true rfl⟩ ⟨Nat.zero_le _, Nat.zero_le _⟩ rfl hl.1 rfl (Nat.le_of_ble_eq_true rfl) dX1_isFilledBy_21 (fun H locs hP hS => ?_)
        refine lv_if_eq (tgt := 29) hx hb dX1_isFilledBy_24 (by decide) (fun c24 => ?_) (fun c24 => ?_)
        · have hres := (itl hres).1 c24
          exact b29 x3 hres _ _ _ hP hS (lv_sub hl [0, 1, 2, 3] rfl)
        · have hres := (itl hres).2 c24
          refine lv_iconst (v := 1) hx hb dX1_isFilledBy_27 (by decide) ?_
          exact hQ ▸ rtZ (v := true)  hx hb hr hlk hP hS (by rw [← (Option.some.inj hres)]) rfl dX1_isFilledBy_28
  unfold fX1_isFilledBy at hres
  refine lv_iconst (v := 0) hx hb dX1_isFilledBy_0 (by decide) ?_
  refine lv_istore_n (lv' := [(3, .int (0 : Int32)), (0, .ref (a 17)), (1, .int x1), (2, .int x2)]) hx hb dX1_isFilledBy_1 rfl hl (by decide) rfl (fun ls hl => ?_)
  exact b2  2000 (0 : Int32) hres _ _ _ hP hS (lv_sub hl [1, 2, 3, 0] rfl)
def fX1_fewestWords_l2 (low : Nat → Int64) (hig : Nat → Int64) (spn : Int32) (K2 : Int32 → Option (Int32)) (x1 : Int32) : Option (Int32) :=
  if (120 : Int32) < x1 then some (121 : Int32) else (fX1_canBeIn low hig spn x1).bind fun q10 => if (bI q10) = 0 then K2 (x1 + 1) else some x1
def fX1_fewestWords (low : Nat → Int64) (hig : Nat → Int64) (spn : Int32) : Option (Int32) :=
  fix1 (fX1_fewestWords_l2 low hig spn) 2000 (0 : Int32)
abbrev rX1_fewestWords : Room := { frames := 2, cells := 0, slots := 0, locals := 43 }
set_option maxHeartbeats 4000000 in
set_option maxRecDepth 100000 in
theorem kX1_fewestWords (l : Launch) (D : va_G) (a : Nat → Nat) (cI cJ cS : ClassId) (hd : aok a 36) {Env : (Nat → Prop) → State → Heap → Prop} (hEo : envOK Env) (par : Int32) (kin lea mos wrt : Nat → Int32) (tal : Int32) (siz tol : Nat → Int32) (hrs : Int32) (ags : Nat → Int32) (yea kpar : Int32) (kkin klea kmos kwrt : Nat → Int32) (ktal : Int32) (ksiz ktol : Nat → Int32) (khrs : Int32) (kags : Nat → Int32) (kyea isk : Int32) (tly : Nat → Int64) (gai bes : Nat → Int32) (low hig : Nat → Int64) (spn : Int32) (byt : Nat → Int32) (hld sta beh sor num : Int32) (fnd sbi she : Nat → Int32) (snu : Nat → Nat → Int64)  (res : Int32) (hres : fX1_fewestWords low hig spn = some res) : CtI l D (tyL cI cJ cS) 36 a Env yX1_fewestWords wsX1_fewestWords rX1_fewestWords [.ref (a 17)] (wX a cI cJ cS par kin lea mos wrt tal siz tol hrs ags yea kpar kkin klea kmos kwrt ktal ksiz ktol khrs kags kyea isk tly gai bes low hig spn byt hld sta beh sor num fnd sbi she snu) (wX a cI cJ cS par kin lea mos wrt tal siz tol hrs ags yea kpar kkin klea kmos kwrt ktal ksiz ktol khrs kags kyea isk tly gai bes low hig spn byt hld sta beh sor num fnd sbi she snu) res := by
  refine CtI_mk (cc := cX1_fewestWords) (maxL := 2) (ret := (some .int)) (by decide) rfl (Nat.le_of_ble_eq_true rfl) ?_
  intro p e s m args below meth c ls hx hb hr hlk hml hown hts hP hK hE hl
  have hS : va_S (adA a 36 s.heap.size) s.heap s.heap [] := va_S.rf
  have hl : lv_has ls 2 [(0, .ref (a 17))] := hl
  have hown : s.vm.findClass RX1 = some m.cls := hown
  obtain ⟨Q, hQ⟩ : ∃ Q, Q = mqI below D 36 a args s (wX a cI cJ cS par kin lea mos wrt tal siz tol hrs ags yea kpar kkin klea kmos kwrt ktal ksiz ktol khrs kags kyea isk tly gai bes low hig spn byt hld sta beh sor num fnd sbi she snu) res := ⟨_, rfl⟩
  rw [← hQ]
  have b2 : ∀  (n : Nat) (x1 : Int32), fix1 (fX1_fewestWords_l2 low hig spn) n x1 = some res → ∀ (H : Heap) (locs : List Loc) (ls : Array Slot), va_P D vwCl (wX a cI cJ cS par kin lea mos wrt tal siz tol hrs ags yea kpar kkin klea kmos kwrt ktal ksiz ktol khrs kags kyea isk tly gai bes low hig spn byt hld sta beh sor num fnd sbi she snu) H → va_S (adA a 36 s.heap.size) s.heap H locs → lv_has ls 2 [(0, .ref (a 17)), (1, .int x1)] → W p l e rX1_fewestWords s m args below meth c H locs 0 0 Q (F0 m 2 ls []) := by
    refine fix1_r ?_
    intro K2 hK2 x1 hres H locs ls hP hS hl
    unfold fX1_fewestWords_l2 at hres
    refine lv_iload_n hx hb dX1_fewestWords_2 rfl (lv_at hl 1 rfl) ?_
    refine lv_bipush (v := 120) hx hb dX1_fewestWords_3 (by decide) ?_
    refine lv_icmp_gt (tgt := 24) hx hb dX1_fewestWords_5 (by decide) (fun c5 => ?_) (fun c5 => ?_)
    · have hres := (itl hres).1 c5
      refine lv_bipush (v := 121) hx hb dX1_fewestWords_24 (by decide) ?_
      exact hQ ▸ rtI (v := (121 : Int32))  hx hb hr hlk hP hS (by rw [← (Option.some.inj hres)]) rfl dX1_fewestWords_26
    · have hres := (itl hres).2 c5
      refine lv_aload_n hx hb dX1_fewestWords_8 rfl (lv_at hl 0 rfl) ?_
      refine lv_iload_n hx hb dX1_fewestWords_9 rfl (lv_at hl 1 rfl) ?_
      obtain ⟨q10, e10, hres⟩ := obd hres
      refine cvI (q0 := 17) (ci := 1) hx hb hml hown hts hEo hE hK hP hS (kX1_canBeIn l D a cI cJ cS hd hEo par kin lea mos wrt tal siz tol hrs ags yea kpar kkin klea kmos kwrt ktal ksiz ktol khrs kags kyea isk tly gai bes low hig spn byt hld sta beh sor num fnd sbi she snu x1 q10 e10) gX1_fewestWords_X1_canBeIn rfl hdX1_canBeIn rfl rfl rfl ⟨rfl, rfl⟩ ⟨Nat.le_of_ble_eq_true rfl, Nat.le_of_ble_eq_true rfl⟩ ⟨Nat.zero_le _, Nat.zero_le _⟩ rfl hl.1 rfl (Nat.le_of_ble_eq_true rfl) dX1_fewestWords_10 (fun H locs hP hS => ?_)
      refine lv_if_eq (tgt := 18) hx hb dX1_fewestWords_13 (by decide) (fun c13 => ?_) (fun c13 => ?_)
      · have hres := (itl hres).1 c13
        refine lv_iinc (v := x1 + 1) (lv' := [(1, .int (x1 + 1)), (0, .ref (a 17))]) hx hb dX1_fewestWords_18 hl (k := 1) rfl (congrArg (fun z => x1 + z) (by decide)) (by decide) rfl (fun ls hl => ?_)
        refine lv_goto (tgt := 2) hx hb dX1_fewestWords_21 (by decide) ?_
        exact hK2 (x1 + 1) hres _ _ _ hP hS (lv_sub hl [1, 0] rfl)
      · have hres := (itl hres).2 c13
        refine lv_iload_n hx hb dX1_fewestWords_16 rfl (lv_at hl 1 rfl) ?_
        exact hQ ▸ rtI (v := x1)  hx hb hr hlk hP hS (by rw [← (Option.some.inj hres)]) rfl dX1_fewestWords_17
  unfold fX1_fewestWords at hres
  refine lv_iconst (v := 0) hx hb dX1_fewestWords_0 (by decide) ?_
  refine lv_istore_n (lv' := [(1, .int (0 : Int32)), (0, .ref (a 17))]) hx hb dX1_fewestWords_1 rfl hl (by decide) rfl (fun ls hl => ?_)
  exact b2  2000 (0 : Int32) hres _ _ _ hP hS (lv_sub hl [1, 0] rfl)
def fX1_mostWords_l3 (low : Nat → Int64) (hig : Nat → Int64) (spn : Int32) (K3 : Int32 → Option (Int32)) (x1 : Int32) : Option (Int32) :=
  if x1 < 0 then some (-1 : Int32) else (fX1_canBeIn low hig spn x1).bind fun q9 => if (bI q9) = 0 then K3 (x1 + (-1)) else some x1
def fX1_mostWords (low : Nat → Int64) (hig : Nat → Int64) (spn : Int32) : Option (Int32) :=
  fix1 (fX1_mostWords_l3 low hig spn) 2000 (120 : Int32)
abbrev rX1_mostWords : Room := { frames := 2, cells := 0, slots := 0, locals := 43 }
set_option maxHeartbeats 4000000 in
set_option maxRecDepth 100000 in
theorem kX1_mostWords (l : Launch) (D : va_G) (a : Nat → Nat) (cI cJ cS : ClassId) (hd : aok a 36) {Env : (Nat → Prop) → State → Heap → Prop} (hEo : envOK Env) (par : Int32) (kin lea mos wrt : Nat → Int32) (tal : Int32) (siz tol : Nat → Int32) (hrs : Int32) (ags : Nat → Int32) (yea kpar : Int32) (kkin klea kmos kwrt : Nat → Int32) (ktal : Int32) (ksiz ktol : Nat → Int32) (khrs : Int32) (kags : Nat → Int32) (kyea isk : Int32) (tly : Nat → Int64) (gai bes : Nat → Int32) (low hig : Nat → Int64) (spn : Int32) (byt : Nat → Int32) (hld sta beh sor num : Int32) (fnd sbi she : Nat → Int32) (snu : Nat → Nat → Int64)  (res : Int32) (hres : fX1_mostWords low hig spn = some res) : CtI l D (tyL cI cJ cS) 36 a Env yX1_mostWords wsX1_mostWords rX1_mostWords [.ref (a 17)] (wX a cI cJ cS par kin lea mos wrt tal siz tol hrs ags yea kpar kkin klea kmos kwrt ktal ksiz ktol khrs kags kyea isk tly gai bes low hig spn byt hld sta beh sor num fnd sbi she snu) (wX a cI cJ cS par kin lea mos wrt tal siz tol hrs ags yea kpar kkin klea kmos kwrt ktal ksiz ktol khrs kags kyea isk tly gai bes low hig spn byt hld sta beh sor num fnd sbi she snu) res := by
  refine CtI_mk (cc := cX1_mostWords) (maxL := 2) (ret := (some .int)) (by decide) rfl (Nat.le_of_ble_eq_true rfl) ?_
  intro p e s m args below meth c ls hx hb hr hlk hml hown hts hP hK hE hl
  have hS : va_S (adA a 36 s.heap.size) s.heap s.heap [] := va_S.rf
  have hl : lv_has ls 2 [(0, .ref (a 17))] := hl
  have hown : s.vm.findClass RX1 = some m.cls := hown
  obtain ⟨Q, hQ⟩ : ∃ Q, Q = mqI below D 36 a args s (wX a cI cJ cS par kin lea mos wrt tal siz tol hrs ags yea kpar kkin klea kmos kwrt ktal ksiz ktol khrs kags kyea isk tly gai bes low hig spn byt hld sta beh sor num fnd sbi she snu) res := ⟨_, rfl⟩
  rw [← hQ]
  have b3 : ∀  (n : Nat) (x1 : Int32), fix1 (fX1_mostWords_l3 low hig spn) n x1 = some res → ∀ (H : Heap) (locs : List Loc) (ls : Array Slot), va_P D vwCl (wX a cI cJ cS par kin lea mos wrt tal siz tol hrs ags yea kpar kkin klea kmos kwrt ktal ksiz ktol khrs kags kyea isk tly gai bes low hig spn byt hld sta beh sor num fnd sbi she snu) H → va_S (adA a 36 s.heap.size) s.heap H locs → lv_has ls 2 [(0, .ref (a 17)), (1, .int x1)] → W p l e rX1_mostWords s m args below meth c H locs 0 0 Q (F0 m 3 ls []) := by
    refine fix1_r ?_
    intro K3 hK3 x1 hres H locs ls hP hS hl
    unfold fX1_mostWords_l3 at hres
    refine lv_iload_n hx hb dX1_mostWords_3 rfl (lv_at hl 1 rfl) ?_
    refine lv_if_lt (tgt := 23) hx hb dX1_mostWords_4 (by decide) (fun c4 => ?_) (fun c4 => ?_)
    · have hres := (itl hres).1 c4
      refine lv_iconst (v := (-1)) hx hb dX1_mostWords_23 (by decide) ?_
      exact hQ ▸ rtI (v := (-1 : Int32))  hx hb hr hlk hP hS (by rw [← (Option.some.inj hres)]) rfl dX1_mostWords_24
    · have hres := (itl hres).2 c4
      refine lv_aload_n hx hb dX1_mostWords_7 rfl (lv_at hl 0 rfl) ?_
      refine lv_iload_n hx hb dX1_mostWords_8 rfl (lv_at hl 1 rfl) ?_
      obtain ⟨q9, e9, hres⟩ := obd hres
      refine cvI (q0 := 17) (ci := 1) hx hb hml hown hts hEo hE hK hP hS (kX1_canBeIn l D a cI cJ cS hd hEo par kin lea mos wrt tal siz tol hrs ags yea kpar kkin klea kmos kwrt ktal ksiz ktol khrs kags kyea isk tly gai bes low hig spn byt hld sta beh sor num fnd sbi she snu x1 q9 e9) gX1_mostWords_X1_canBeIn rfl hdX1_canBeIn rfl rfl rfl ⟨rfl, rfl⟩ ⟨Nat.le_of_ble_eq_true rfl, Nat.le_of_ble_eq_true rfl⟩ ⟨Nat.zero_le _, Nat.zero_le _⟩ rfl hl.1 rfl (Nat.le_of_ble_eq_true rfl) dX1_mostWords_9 (fun H locs hP hS => ?_)
      refine lv_if_eq (tgt := 17) hx hb dX1_mostWords_12 (by decide) (fun c12 => ?_) (fun c12 => ?_)
      · have hres := (itl hres).1 c12
        refine lv_iinc (v := x1 + (-1)) (lv' := [(1, .int (x1 + (-1))), (0, .ref (a 17))]) hx hb dX1_mostWords_17 hl (k := 1) rfl (congrArg (fun z => x1 + z) (by decide)) (by decide) rfl (fun ls hl => ?_)
        refine lv_goto (tgt := 3) hx hb dX1_mostWords_20 (by decide) ?_
        exact hK3 (x1 + (-1)) hres _ _ _ hP hS (lv_sub hl [1, 0] rfl)
      · have hres := (itl hres).2 c12
        refine lv_iload_n hx hb dX1_mostWords_15 rfl (lv_at hl 1 rfl) ?_
        exact hQ ▸ rtI (v := x1)  hx hb hr hlk hP hS (by rw [← (Option.some.inj hres)]) rfl dX1_mostWords_16
  unfold fX1_mostWords at hres
  refine lv_bipush (v := 120) hx hb dX1_mostWords_0 (by decide) ?_
  refine lv_istore_n (lv' := [(1, .int (120 : Int32)), (0, .ref (a 17))]) hx hb dX1_mostWords_2 rfl hl (by decide) rfl (fun ls hl => ?_)
  exact b3  2000 (120 : Int32) hres _ _ _ hP hS (lv_sub hl [1, 0] rfl)
def fX1_gapsBetween_b23 (K5 : Int32 → Int32 → Option (Int32)) (x3 : Int32) (x4 : Int32) : Option (Int32) :=
  K5 x3 (x4 + 1)
def fX1_gapsBetween_l5 (low : Nat → Int64) (hig : Nat → Int64) (spn : Int32) (x2 : Int32) (K5 : Int32 → Int32 → Option (Int32)) (x3 : Int32) (x4 : Int32) : Option (Int32) :=
  if x2 < x4 then some x3 else (fX1_canBeIn low hig spn x4).bind fun q14 => if (bI q14) = 0 then fX1_gapsBetween_b23 K5 (x3 + 1) x4 else fX1_gapsBetween_b23 K5 x3 x4
def fX1_gapsBetween (low : Nat → Int64) (hig : Nat → Int64) (spn : Int32) (x1 : Int32) (x2 : Int32) : Option (Int32) :=
  fix2 (fX1_gapsBetween_l5 low hig spn x2) 2000 (0 : Int32) x1
abbrev rX1_gapsBetween : Room := { frames := 2, cells := 0, slots := 0, locals := 43 }
set_option maxHeartbeats 4000000 in
set_option maxRecDepth 100000 in
theorem kX1_gapsBetween (l : Launch) (D : va_G) (a : Nat → Nat) (cI cJ cS : ClassId) (hd : aok a 36) {Env : (Nat → Prop) → State → Heap → Prop} (hEo : envOK Env) (par : Int32) (kin lea mos wrt : Nat → Int32) (tal : Int32) (siz tol : Nat → Int32) (hrs : Int32) (ags : Nat → Int32) (yea kpar : Int32) (kkin klea kmos kwrt : Nat → Int32) (ktal : Int32) (ksiz ktol : Nat → Int32) (khrs : Int32) (kags : Nat → Int32) (kyea isk : Int32) (tly : Nat → Int64) (gai bes : Nat → Int32) (low hig : Nat → Int64) (spn : Int32) (byt : Nat → Int32) (hld sta beh sor num : Int32) (fnd sbi she : Nat → Int32) (snu : Nat → Nat → Int64) (x1 : Int32) (x2 : Int32) (res : Int32) (hres : fX1_gapsBetween low hig spn x1 x2 = some res) : CtI l D (tyL cI cJ cS) 36 a Env yX1_gapsBetween wsX1_gapsBetween rX1_gapsBetween [.ref (a 17), .int x1, .int x2] (wX a cI cJ cS par kin lea mos wrt tal siz tol hrs ags yea kpar kkin klea kmos kwrt ktal ksiz ktol khrs kags kyea isk tly gai bes low hig spn byt hld sta beh sor num fnd sbi she snu) (wX a cI cJ cS par kin lea mos wrt tal siz tol hrs ags yea kpar kkin klea kmos kwrt ktal ksiz ktol khrs kags kyea isk tly gai bes low hig spn byt hld sta beh sor num fnd sbi she snu) res := by
  refine CtI_mk (cc := cX1_gapsBetween) (maxL := 5) (ret := (some .int)) (by decide) rfl (Nat.le_of_ble_eq_true rfl) ?_
  intro p e s m args below meth c ls hx hb hr hlk hml hown hts hP hK hE hl
  have hS : va_S (adA a 36 s.heap.size) s.heap s.heap [] := va_S.rf
  have hl : lv_has ls 5 [(0, .ref (a 17)), (1, .int x1), (2, .int x2)] := hl
  have hown : s.vm.findClass RX1 = some m.cls := hown
  obtain ⟨Q, hQ⟩ : ∃ Q, Q = mqI below D 36 a args s (wX a cI cJ cS par kin lea mos wrt tal siz tol hrs ags yea kpar kkin klea kmos kwrt ktal ksiz ktol khrs kags kyea isk tly gai bes low hig spn byt hld sta beh sor num fnd sbi she snu) res := ⟨_, rfl⟩
  rw [← hQ]
  have b5 : ∀  (n : Nat) (x3 : Int32) (x4 : Int32), fix2 (fX1_gapsBetween_l5 low hig spn x2) n x3 x4 = some res → ∀ (H : Heap) (locs : List Loc) (ls : Array Slot), va_P D vwCl (wX a cI cJ cS par kin lea mos wrt tal siz tol hrs ags yea kpar kkin klea kmos kwrt ktal ksiz ktol khrs kags kyea isk tly gai bes low hig spn byt hld sta beh sor num fnd sbi she snu) H → va_S (adA a 36 s.heap.size) s.heap H locs → lv_has ls 5 [(0, .ref (a 17)), (2, .int x2), (3, .int x3), (4, .int x4)] → W p l e rX1_gapsBetween s m args below meth c H locs 0 0 Q (F0 m 5 ls []) := by
    refine fix2_r ?_
    intro K5 hK5 x3 x4 hres H locs ls hP hS hl
    have b23 : ∀ (x3 : Int32) (x4 : Int32), fX1_gapsBetween_b23 K5 x3 x4 = some res → ∀ (H : Heap) (locs : List Loc) (ls : Array Slot), va_P D vwCl (wX a cI cJ cS par kin lea mos wrt tal siz tol hrs ags yea kpar kkin klea kmos kwrt ktal ksiz ktol khrs kags kyea isk tly gai bes low hig spn byt hld sta beh sor num fnd sbi she snu) H → va_S (adA a 36 s.heap.size) s.heap H locs → lv_has ls 5 [(0, .ref (a 17)), (2, .int x2), (3, .int x3), (4, .int x4)] → W p l e rX1_gapsBetween s m args below meth c H locs 0 0 Q (F0 m 23 ls []) := by
      intro x3 x4 hres H locs ls hP hS hl
      unfold fX1_gapsBetween_b23 at hres
      refine lv_iinc (v := x4 + 1) (lv' := [(4, .int (x4 + 1)), (0, .ref (a 17)), (2, .int x2), (3, .int x3)]) hx hb dX1_gapsBetween_23 hl (k := 3) rfl (congrArg (fun z => x4 + z) (by decide)) (by decide) rfl (fun ls hl => ?_)
      refine lv_goto (tgt := 5) hx hb dX1_gapsBetween_26 (by decide) ?_
      exact hK5 x3 (x4 + 1) hres _ _ _ hP hS (lv_sub hl [1, 2, 3, 0] rfl)
    unfold fX1_gapsBetween_l5 at hres
    refine lv_iload hx hb dX1_gapsBetween_5 (lv_at hl 3 rfl) ?_
    refine lv_iload_n hx hb dX1_gapsBetween_7 rfl (lv_at hl 1 rfl) ?_
    refine lv_icmp_gt (tgt := 29) hx hb dX1_gapsBetween_8 (by decide) (fun c8 => ?_) (fun c8 => ?_)
    · have hres := (itl hres).1 c8
      refine lv_iload_n hx hb dX1_gapsBetween_29 rfl (lv_at hl 2 rfl) ?_
      exact hQ ▸ rtI (v := x3)  hx hb hr hlk hP hS (by rw [← (Option.some.inj hres)]) rfl dX1_gapsBetween_30
    · have hres := (itl hres).2 c8
      refine lv_aload_n hx hb dX1_gapsBetween_11 rfl (lv_at hl 0 rfl) ?_
      refine lv_iload hx hb dX1_gapsBetween_12 (lv_at hl 3 rfl) ?_
      obtain ⟨q14, e14, hres⟩ := obd hres
      refine cvI (q0 := 17) (ci := 1) hx hb hml hown hts hEo hE hK hP hS (kX1_canBeIn l D a cI cJ cS hd hEo par kin lea mos wrt tal siz tol hrs ags yea kpar kkin klea kmos kwrt ktal ksiz ktol khrs kags kyea isk tly gai bes low hig spn byt hld sta beh sor num fnd sbi she snu x4 q14 e14) gX1_gapsBetween_X1_canBeIn rfl hdX1_canBeIn rfl rfl rfl ⟨rfl, rfl⟩ ⟨Nat.le_of_ble_eq_true rfl, Nat.le_of_ble_eq_true rfl⟩ ⟨Nat.zero_le _, Nat.zero_le _⟩ rfl hl.1 rfl (Nat.le_of_ble_eq_true rfl) dX1_gapsBetween_14 (fun H locs hP hS => ?_)
      refine lv_if_ne (tgt := 23) hx hb dX1_gapsBetween_17 (by decide) (fun c17 => ?_) (fun c17 => ?_)
      · have hres := (itl hres).2 c17
        exact b23 x3 x4 hres _ _ _ hP hS (lv_sub hl [0, 1, 2, 3] rfl)
      · have hres := (itl hres).1 c17
        refine lv_iinc (v := x3 + 1) (lv' := [(3, .int (x3 + 1)), (0, .ref (a 17)), (2, .int x2), (4, .int x4)]) hx hb dX1_gapsBetween_20 hl (k := 2) rfl (congrArg (fun z => x3 + z) (by decide)) (by decide) rfl (fun ls hl => ?_)
        exact b23 (x3 + 1) x4 hres _ _ _ hP hS (lv_sub hl [1, 2, 0, 3] rfl)
  unfold fX1_gapsBetween at hres
  refine lv_iconst (v := 0) hx hb dX1_gapsBetween_0 (by decide) ?_
  refine lv_istore_n (lv' := [(3, .int (0 : Int32)), (0, .ref (a 17)), (1, .int x1), (2, .int x2)]) hx hb dX1_gapsBetween_1 rfl hl (by decide) rfl (fun ls hl => ?_)
  refine lv_iload_n hx hb dX1_gapsBetween_2 rfl (lv_at hl 2 rfl) ?_
  refine lv_istore (lv' := [(4, .int x1), (3, .int (0 : Int32)), (0, .ref (a 17)), (1, .int x1), (2, .int x2)]) hx hb dX1_gapsBetween_3 hl (by decide) rfl (fun ls hl => ?_)
  exact b5  2000 (0 : Int32) x1 hres _ _ _ hP hS (lv_sub hl [2, 4, 1, 0] rfl)
def fX1_sayableTo_b37 (K4 : Int32 → Int32 → Option (Int32)) (x1 : Int32) (x2 : Int32) : Option (Int32) :=
  K4 x1 (x2 + 1)
def fX1_sayableTo_l4 (hrs : Int32) (ags : Nat → Int32) (low : Nat → Int64) (hig : Nat → Int64) (spn : Int32) (K4 : Int32 → Int32 → Option (Int32)) (x1 : Int32) (x2 : Int32) : Option (Int32) :=
  if hrs ≤ x2 then some x1 else gd (ib x2 10) ((fX1_canBeIn low hig spn (ags x2.toNatClampNeg)).bind fun q25 => if (bI q25) = 0 then fX1_sayableTo_b37 K4 x1 x2 else fX1_sayableTo_b37 K4 (x1 ||| ((1 : Int32) <<< (x2 &&& 31))) x2)
def fX1_sayableTo (hrs : Int32) (ags : Nat → Int32) (low : Nat → Int64) (hig : Nat → Int64) (spn : Int32) : Option (Int32) :=
  fix2 (fX1_sayableTo_l4 hrs ags low hig spn) 2000 (0 : Int32) (0 : Int32)
abbrev rX1_sayableTo : Room := { frames := 2, cells := 0, slots := 0, locals := 43 }
set_option maxHeartbeats 4000000 in
set_option maxRecDepth 100000 in
theorem kX1_sayableTo (l : Launch) (D : va_G) (a : Nat → Nat) (cI cJ cS : ClassId) (hd : aok a 36) {Env : (Nat → Prop) → State → Heap → Prop} (hEo : envOK Env) (par : Int32) (kin lea mos wrt : Nat → Int32) (tal : Int32) (siz tol : Nat → Int32) (hrs : Int32) (ags : Nat → Int32) (yea kpar : Int32) (kkin klea kmos kwrt : Nat → Int32) (ktal : Int32) (ksiz ktol : Nat → Int32) (khrs : Int32) (kags : Nat → Int32) (kyea isk : Int32) (tly : Nat → Int64) (gai bes : Nat → Int32) (low hig : Nat → Int64) (spn : Int32) (byt : Nat → Int32) (hld sta beh sor num : Int32) (fnd sbi she : Nat → Int32) (snu : Nat → Nat → Int64)  (res : Int32) (hres : fX1_sayableTo hrs ags low hig spn = some res) : CtI l D (tyL cI cJ cS) 36 a Env yX1_sayableTo wsX1_sayableTo rX1_sayableTo [.ref (a 17)] (wX a cI cJ cS par kin lea mos wrt tal siz tol hrs ags yea kpar kkin klea kmos kwrt ktal ksiz ktol khrs kags kyea isk tly gai bes low hig spn byt hld sta beh sor num fnd sbi she snu) (wX a cI cJ cS par kin lea mos wrt tal siz tol hrs ags yea kpar kkin klea kmos kwrt ktal ksiz ktol khrs kags kyea isk tly gai bes low hig spn byt hld sta beh sor num fnd sbi she snu) res := by
  refine CtI_mk (cc := cX1_sayableTo) (maxL := 3) (ret := (some .int)) (by decide) rfl (Nat.le_of_ble_eq_true rfl) ?_
  intro p e s m args below meth c ls hx hb hr hlk hml hown hts hP hK hE hl
  have hS : va_S (adA a 36 s.heap.size) s.heap s.heap [] := va_S.rf
  have hl : lv_has ls 3 [(0, .ref (a 17))] := hl
  have hown : s.vm.findClass RX1 = some m.cls := hown
  have hw1 : ∀ w ∈ wsX10, w.before args s = true := fun w h => hts w (List.mem_cons_of_mem _ (List.mem_append_left _ (List.mem_append_right _ h)))
  have hw3 : ∀ w ∈ wsX30, w.before args s = true := fun w h => hts w (List.mem_cons_of_mem _ (List.mem_append_right _ h))
  have u1 : (Cond.fieldLink RX1 32 "YearWords$Sayings" "stock" "LYearWords$Stock;").before args s = true := hts _ (List.mem_of_getElem? (i := 1) (by decide +kernel))
  have u2 : (Cond.fieldLink RX1 69 "YearWords$Stock" "hearers" "I").before args s = true := hts _ (List.mem_of_getElem? (i := 2) (by decide +kernel))
  have u3 : (Cond.fieldLink RX1 72 "YearWords$Stock" "ages" "[I").before args s = true := hts _ (List.mem_of_getElem? (i := 3) (by decide +kernel))
  obtain ⟨Q, hQ⟩ : ∃ Q, Q = mqI below D 36 a args s (wX a cI cJ cS par kin lea mos wrt tal siz tol hrs ags yea kpar kkin klea kmos kwrt ktal ksiz ktol khrs kags kyea isk tly gai bes low hig spn byt hld sta beh sor num fnd sbi she snu) res := ⟨_, rfl⟩
  rw [← hQ]
  have b4 : ∀  (n : Nat) (x1 : Int32) (x2 : Int32), fix2 (fX1_sayableTo_l4 hrs ags low hig spn) n x1 x2 = some res → ∀ (H : Heap) (locs : List Loc) (ls : Array Slot), va_P D vwCl (wX a cI cJ cS par kin lea mos wrt tal siz tol hrs ags yea kpar kkin klea kmos kwrt ktal ksiz ktol khrs kags kyea isk tly gai bes low hig spn byt hld sta beh sor num fnd sbi she snu) H → va_S (adA a 36 s.heap.size) s.heap H locs → lv_has ls 3 [(0, .ref (a 17)), (1, .int x1), (2, .int x2)] → W p l e rX1_sayableTo s m args below meth c H locs 0 0 Q (F0 m 4 ls []) := by
    refine fix2_r ?_
    intro K4 hK4 x1 x2 hres H locs ls hP hS hl
    have b37 : ∀ (x1 : Int32) (x2 : Int32), fX1_sayableTo_b37 K4 x1 x2 = some res → ∀ (H : Heap) (locs : List Loc) (ls : Array Slot), va_P D vwCl (wX a cI cJ cS par kin lea mos wrt tal siz tol hrs ags yea kpar kkin klea kmos kwrt ktal ksiz ktol khrs kags kyea isk tly gai bes low hig spn byt hld sta beh sor num fnd sbi she snu) H → va_S (adA a 36 s.heap.size) s.heap H locs → lv_has ls 3 [(0, .ref (a 17)), (1, .int x1), (2, .int x2)] → W p l e rX1_sayableTo s m args below meth c H locs 0 0 Q (F0 m 37 ls []) := by
      intro x1 x2 hres H locs ls hP hS hl
      unfold fX1_sayableTo_b37 at hres
      refine lv_iinc (v := x2 + 1) (lv' := [(2, .int (x2 + 1)), (0, .ref (a 17)), (1, .int x1)]) hx hb dX1_sayableTo_37 hl (k := 2) rfl (congrArg (fun z => x2 + z) (by decide)) (by decide) rfl (fun ls hl => ?_)
      refine lv_goto (tgt := 4) hx hb dX1_sayableTo_40 (by decide) ?_
      exact hK4 x1 (x2 + 1) hres _ _ _ hP hS (lv_sub hl [1, 2, 0] rfl)
    unfold fX1_sayableTo_l4 at hres
    refine lv_iload_n hx hb dX1_sayableTo_4 rfl (lv_at hl 2 rfl) ?_
    refine lv_aload_n hx hb dX1_sayableTo_5 rfl (lv_at hl 0 rfl) ?_
    refine gX_sayo_stock hx hb hown hw1 hK hP u1 dX1_sayableTo_6 ?_
    refine gX_now_hearers hx hb hown hw3 hK hP u2 dX1_sayableTo_9 ?_
    refine lv_icmp_ge (tgt := 43) hx hb dX1_sayableTo_12 (by decide) (fun c12 => ?_) (fun c12 => ?_)
    · have hres := (itl hres).1 c12
      refine lv_iload_n hx hb dX1_sayableTo_43 rfl (lv_at hl 1 rfl) ?_
      exact hQ ▸ rtI (v := x1)  hx hb hr hlk hP hS (by rw [← (Option.some.inj hres)]) rfl dX1_sayableTo_44
    · have hres := (itl hres).2 c12
      refine lv_aload_n hx hb dX1_sayableTo_15 rfl (lv_at hl 0 rfl) ?_
      refine lv_aload_n hx hb dX1_sayableTo_16 rfl (lv_at hl 0 rfl) ?_
      refine gX_sayo_stock hx hb hown hw1 hK hP u1 dX1_sayableTo_17 ?_
      refine gX_now_ages hx hb hown hw3 hK hP u3 dX1_sayableTo_20 ?_
      refine lv_iload_n hx hb dX1_sayableTo_23 rfl (lv_at hl 2 rfl) ?_
      obtain ⟨i24, hres⟩ := gdi hres
      refine lX_ags hx hb hK hP i24 dX1_sayableTo_24 ?_
      obtain ⟨q25, e25, hres⟩ := obd hres
      refine cvI (q0 := 17) (ci := 1) hx hb hml hown hts hEo hE hK hP hS (kX1_canBeIn l D a cI cJ cS hd hEo par kin lea mos wrt tal siz tol hrs ags yea kpar kkin klea kmos kwrt ktal ksiz ktol khrs kags kyea isk tly gai bes low hig spn byt hld sta beh sor num fnd sbi she snu (ags x2.toNatClampNeg) q25 e25) gX1_sayableTo_X1_canBeIn rfl hdX1_canBeIn rfl rfl rfl ⟨rfl, rfl⟩ ⟨Nat.le_of_ble_eq_true rfl, Nat.le_of_ble_eq_true rfl⟩ ⟨Nat.zero_le _, Nat.zero_le _⟩ rfl hl.1 rfl (Nat.le_of_ble_eq_true rfl) dX1_sayableTo_25 (fun H locs hP hS => ?_)
      refine lv_if_eq (tgt := 37) hx hb dX1_sayableTo_28 (by decide) (fun c28 => ?_) (fun c28 => ?_)
      · have hres := (itl hres).1 c28
        exact b37 x1 x2 hres _ _ _ hP hS (lv_sub hl [0, 1, 2] rfl)
      · have hres := (itl hres).2 c28
        refine lv_iload_n hx hb dX1_sayableTo_31 rfl (lv_at hl 1 rfl) ?_
        refine lv_iconst (v := 1) hx hb dX1_sayableTo_32 (by decide) ?_
        refine lv_iload_n hx hb dX1_sayableTo_33 rfl (lv_at hl 2 rfl) ?_
        refine lv_ishl hx hb dX1_sayableTo_34 ?_
        refine lv_ior hx hb dX1_sayableTo_35 ?_
        refine lv_istore_n (lv' := [(1, .int (x1 ||| ((1 : Int32) <<< (x2 &&& 31)))), (0, .ref (a 17)), (2, .int x2)]) hx hb dX1_sayableTo_36 rfl hl (by decide) rfl (fun ls hl => ?_)
        exact b37 (x1 ||| ((1 : Int32) <<< (x2 &&& 31))) x2 hres _ _ _ hP hS (lv_sub hl [1, 0, 2] rfl)
  unfold fX1_sayableTo at hres
  refine lv_iconst (v := 0) hx hb dX1_sayableTo_0 (by decide) ?_
  refine lv_istore_n (lv' := [(1, .int (0 : Int32)), (0, .ref (a 17))]) hx hb dX1_sayableTo_1 rfl hl (by decide) rfl (fun ls hl => ?_)
  refine lv_iconst (v := 0) hx hb dX1_sayableTo_2 (by decide) ?_
  refine lv_istore_n (lv' := [(2, .int (0 : Int32)), (1, .int (0 : Int32)), (0, .ref (a 17))]) hx hb dX1_sayableTo_3 rfl hl (by decide) rfl (fun ls hl => ?_)
  exact b4  2000 (0 : Int32) (0 : Int32) hres _ _ _ hP hS (lv_sub hl [2, 1, 0] rfl)
def fX1_comesOf_l2 (low : Nat → Int64) (hig : Nat → Int64) (x2 : Int32) (K2 : Int32 → Option (Int32)) (x3 : Int32) : Option (Int32) :=
  if x3 ≤ 0 then some (0 : Int32) else (fX1_isSpanned low hig x3 x2).bind fun q9 => if (bI q9) = 0 then K2 (x3 + (-1)) else some x3
def fX1_comesOf (low : Nat → Int64) (hig : Nat → Int64) (x1 : Int32) (x2 : Int32) : Option (Int32) :=
  fix1 (fX1_comesOf_l2 low hig x2) 2000 x1
abbrev rX1_comesOf : Room := { frames := 1, cells := 0, slots := 0, locals := 22 }
set_option maxHeartbeats 4000000 in
set_option maxRecDepth 100000 in
theorem kX1_comesOf (l : Launch) (D : va_G) (a : Nat → Nat) (cI cJ cS : ClassId) (hd : aok a 36) {Env : (Nat → Prop) → State → Heap → Prop} (hEo : envOK Env) (par : Int32) (kin lea mos wrt : Nat → Int32) (tal : Int32) (siz tol : Nat → Int32) (hrs : Int32) (ags : Nat → Int32) (yea kpar : Int32) (kkin klea kmos kwrt : Nat → Int32) (ktal : Int32) (ksiz ktol : Nat → Int32) (khrs : Int32) (kags : Nat → Int32) (kyea isk : Int32) (tly : Nat → Int64) (gai bes : Nat → Int32) (low hig : Nat → Int64) (spn : Int32) (byt : Nat → Int32) (hld sta beh sor num : Int32) (fnd sbi she : Nat → Int32) (snu : Nat → Nat → Int64) (x1 : Int32) (x2 : Int32) (res : Int32) (hres : fX1_comesOf low hig x1 x2 = some res) : CtI l D (tyL cI cJ cS) 36 a Env yX1_comesOf wsX1_comesOf rX1_comesOf [.ref (a 17), .int x1, .int x2] (wX a cI cJ cS par kin lea mos wrt tal siz tol hrs ags yea kpar kkin klea kmos kwrt ktal ksiz ktol khrs kags kyea isk tly gai bes low hig spn byt hld sta beh sor num fnd sbi she snu) (wX a cI cJ cS par kin lea mos wrt tal siz tol hrs ags yea kpar kkin klea kmos kwrt ktal ksiz ktol khrs kags kyea isk tly gai bes low hig spn byt hld sta beh sor num fnd sbi she snu) res := by
  refine CtI_mk (cc := cX1_comesOf) (maxL := 4) (ret := (some .int)) (by decide) rfl (Nat.le_of_ble_eq_true rfl) ?_
  intro p e s m args below meth c ls hx hb hr hlk hml hown hts hP hK hE hl
  have hS : va_S (adA a 36 s.heap.size) s.heap s.heap [] := va_S.rf
  have hl : lv_has ls 4 [(0, .ref (a 17)), (1, .int x1), (2, .int x2)] := hl
  have hown : s.vm.findClass RX1 = some m.cls := hown
  obtain ⟨Q, hQ⟩ : ∃ Q, Q = mqI below D 36 a args s (wX a cI cJ cS par kin lea mos wrt tal siz tol hrs ags yea kpar kkin klea kmos kwrt ktal ksiz ktol khrs kags kyea isk tly gai bes low hig spn byt hld sta beh sor num fnd sbi she snu) res := ⟨_, rfl⟩
  rw [← hQ]
  have b2 : ∀  (n : Nat) (x3 : Int32), fix1 (fX1_comesOf_l2 low hig x2) n x3 = some res → ∀ (H : Heap) (locs : List Loc) (ls : Array Slot), va_P D vwCl (wX a cI cJ cS par kin lea mos wrt tal siz tol hrs ags yea kpar kkin klea kmos kwrt ktal ksiz ktol khrs kags kyea isk tly gai bes low hig spn byt hld sta beh sor num fnd sbi she snu) H → va_S (adA a 36 s.heap.size) s.heap H locs → lv_has ls 4 [(0, .ref (a 17)), (2, .int x2), (3, .int x3)] → W p l e rX1_comesOf s m args below meth c H locs 0 0 Q (F0 m 2 ls []) := by
    refine fix1_r ?_
    intro K2 hK2 x3 hres H locs ls hP hS hl
    unfold fX1_comesOf_l2 at hres
    refine lv_iload_n hx hb dX1_comesOf_2 rfl (lv_at hl 2 rfl) ?_
    refine lv_if_le (tgt := 23) hx hb dX1_comesOf_3 (by decide) (fun c3 => ?_) (fun c3 => ?_)
    · have hres := (itl hres).1 c3
      refine lv_iconst (v := 0) hx hb dX1_comesOf_23 (by decide) ?_
      exact hQ ▸ rtI (v := (0 : Int32))  hx hb hr hlk hP hS (by rw [← (Option.some.inj hres)]) rfl dX1_comesOf_24
    · have hres := (itl hres).2 c3
      refine lv_aload_n hx hb dX1_comesOf_6 rfl (lv_at hl 0 rfl) ?_
      refine lv_iload_n hx hb dX1_comesOf_7 rfl (lv_at hl 2 rfl) ?_
      refine lv_iload_n hx hb dX1_comesOf_8 rfl (lv_at hl 1 rfl) ?_
      obtain ⟨q9, e9, hres⟩ := obd hres
      refine cvI (q0 := 17) (ci := 1) hx hb hml hown hts hEo hE hK hP hS (kX1_isSpanned l D a cI cJ cS hd hEo par kin lea mos wrt tal siz tol hrs ags yea kpar kkin klea kmos kwrt ktal ksiz ktol khrs kags kyea isk tly gai bes low hig spn byt hld sta beh sor num fnd sbi she snu x3 x2 q9 e9) gX1_comesOf_X1_isSpanned rfl hdX1_isSpanned rfl rfl rfl ⟨rfl, rfl⟩ ⟨Nat.le_of_ble_eq_true rfl, Nat.le_of_ble_eq_true rfl⟩ ⟨Nat.zero_le _, Nat.zero_le _⟩ rfl hl.1 rfl (Nat.le_of_ble_eq_true rfl) dX1_comesOf_9 (fun H locs hP hS => ?_)
      refine lv_if_eq (tgt := 17) hx hb dX1_comesOf_12 (by decide) (fun c12 => ?_) (fun c12 => ?_)
      · have hres := (itl hres).1 c12
        refine lv_iinc (v := x3 + (-1)) (lv' := [(3, .int (x3 + (-1))), (0, .ref (a 17)), (2, .int x2)]) hx hb dX1_comesOf_17 hl (k := 2) rfl (congrArg (fun z => x3 + z) (by decide)) (by decide) rfl (fun ls hl => ?_)
        refine lv_goto (tgt := 2) hx hb dX1_comesOf_20 (by decide) ?_
        exact hK2 (x3 + (-1)) hres _ _ _ hP hS (lv_sub hl [1, 2, 0] rfl)
      · have hres := (itl hres).2 c12
        refine lv_iload_n hx hb dX1_comesOf_15 rfl (lv_at hl 2 rfl) ?_
        exact hQ ▸ rtI (v := x3)  hx hb hr hlk hP hS (by rw [← (Option.some.inj hres)]) rfl dX1_comesOf_16
  unfold fX1_comesOf at hres
  refine lv_iload_n hx hb dX1_comesOf_0 rfl (lv_at hl 1 rfl) ?_
  refine lv_istore_n (lv' := [(3, .int x1), (0, .ref (a 17)), (1, .int x1), (2, .int x2)]) hx hb dX1_comesOf_1 rfl hl (by decide) rfl (fun ls hl => ?_)
  exact b2  2000 x1 hres _ _ _ hP hS (lv_sub hl [1, 3, 0] rfl)
def fX3_valueOf_b88 (z0 : Int32) (z1 : Int32) : Option (Int32) :=
  some (z0 * z1)
def fX3_valueOf (kin : Nat → Int32) (mos : Nat → Int32) (wrt : Nat → Int32) (x1 : Int32) (x2 : Int32) : Option (Int32) :=
  gd (ib x1 16) (gd (ib x1 16) (if (kin x1.toNatClampNeg) = 0 then some (wrt x1.toNatClampNeg) else if (kin x1.toNatClampNeg) = 1 then some ((wrt x1.toNatClampNeg) * x2) else if (kin x1.toNatClampNeg) = 2 then if x2 ≤ 0 then some (0 : Int32) else some (wrt x1.toNatClampNeg) else if (kin x1.toNatClampNeg) = 3 then some (((wrt x1.toNatClampNeg) * x2) + (5 : Int32)) else if (kin x1.toNatClampNeg) = 4 then gd (ib x1 16) (if x2 ≤ (mos x1.toNatClampNeg) then fX3_valueOf_b88 (wrt x1.toNatClampNeg) x2 else fX3_valueOf_b88 (wrt x1.toNatClampNeg) (x2 / (2 : Int32))) else some (-x2)))
abbrev rX3_valueOf : Room := { frames := 0, cells := 0, slots := 0, locals := 0 }
set_option maxHeartbeats 4000000 in
set_option maxRecDepth 100000 in
theorem kX3_valueOf (l : Launch) (D : va_G) (a : Nat → Nat) (cI cJ cS : ClassId) (hd : aok a 36) {Env : (Nat → Prop) → State → Heap → Prop} (hEo : envOK Env) (par : Int32) (kin lea mos wrt : Nat → Int32) (tal : Int32) (siz tol : Nat → Int32) (hrs : Int32) (ags : Nat → Int32) (yea kpar : Int32) (kkin klea kmos kwrt : Nat → Int32) (ktal : Int32) (ksiz ktol : Nat → Int32) (khrs : Int32) (kags : Nat → Int32) (kyea isk : Int32) (tly : Nat → Int64) (gai bes : Nat → Int32) (low hig : Nat → Int64) (spn : Int32) (byt : Nat → Int32) (hld sta beh sor num : Int32) (fnd sbi she : Nat → Int32) (snu : Nat → Nat → Int64) (x1 : Int32) (x2 : Int32) (res : Int32) (hres : fX3_valueOf kin mos wrt x1 x2 = some res) : CtI l D (tyL cI cJ cS) 36 a Env yX3_valueOf wsX3_valueOf rX3_valueOf [.ref (a 1), .int x1, .int x2] (wX a cI cJ cS par kin lea mos wrt tal siz tol hrs ags yea kpar kkin klea kmos kwrt ktal ksiz ktol khrs kags kyea isk tly gai bes low hig spn byt hld sta beh sor num fnd sbi she snu) (wX a cI cJ cS par kin lea mos wrt tal siz tol hrs ags yea kpar kkin klea kmos kwrt ktal ksiz ktol khrs kags kyea isk tly gai bes low hig spn byt hld sta beh sor num fnd sbi she snu) res := by
  refine CtI_mk (cc := cX3_valueOf) (maxL := 4) (ret := (some .int)) (by decide) rfl (Nat.le_of_ble_eq_true rfl) ?_
  intro p e s m args below meth c ls hx hb hr hlk hml hown hts hP hK hE hl
  have hS : va_S (adA a 36 s.heap.size) s.heap s.heap [] := va_S.rf
  have hl : lv_has ls 4 [(0, .ref (a 1)), (1, .int x1), (2, .int x2)] := hl
  have hown : s.vm.findClass RX3 = some m.cls := hown
  have hw3 : ∀ w ∈ wsX30, w.before args s = true := fun w h => hts w (List.mem_cons_of_mem _ (List.mem_append_right _ h))
  have u1 : (Cond.fieldLink RX3 25 "YearWords$Stock" "worths" "[I").before args s = true := hts _ (List.mem_of_getElem? (i := 1) (by decide +kernel))
  have u2 : (Cond.fieldLink RX3 15 "YearWords$Stock" "kinds" "[I").before args s = true := hts _ (List.mem_of_getElem? (i := 2) (by decide +kernel))
  have u3 : (Cond.fieldLink RX3 22 "YearWords$Stock" "mosts" "[I").before args s = true := hts _ (List.mem_of_getElem? (i := 3) (by decide +kernel))
  obtain ⟨Q, hQ⟩ : ∃ Q, Q = mqI below D 36 a args s (wX a cI cJ cS par kin lea mos wrt tal siz tol hrs ags yea kpar kkin klea kmos kwrt ktal ksiz ktol khrs kags kyea isk tly gai bes low hig spn byt hld sta beh sor num fnd sbi she snu) res := ⟨_, rfl⟩
  rw [← hQ]
  have b88 : ∀ (z0 : Int32) (z1 : Int32), fX3_valueOf_b88 z0 z1 = some res → ∀ (H : Heap) (locs : List Loc) (ls : Array Slot), va_P D vwCl (wX a cI cJ cS par kin lea mos wrt tal siz tol hrs ags yea kpar kkin klea kmos kwrt ktal ksiz ktol khrs kags kyea isk tly gai bes low hig spn byt hld sta beh sor num fnd sbi she snu) H → va_S (adA a 36 s.heap.size) s.heap H locs → lv_has ls 4 [(0, .ref (a 1))] → W p l e rX3_valueOf s m args below meth c H locs 0 0 Q (F0 m 88 ls [.int z1, .int z0]) := by
    intro z0 z1 hres H locs ls hP hS hl
    unfold fX3_valueOf_b88 at hres
    refine lv_imul hx hb dX3_valueOf_88 ?_
    exact hQ ▸ rtI (v := z0 * z1)  hx hb hr hlk hP hS (by rw [← (Option.some.inj hres)]) rfl dX3_valueOf_89
  unfold fX3_valueOf at hres
  refine lv_aload_n hx hb dX3_valueOf_0 rfl (lv_at hl 0 rfl) ?_
  refine gX_now_worths hx hb hown hw3 hK hP u1 dX3_valueOf_1 ?_
  refine lv_iload_n hx hb dX3_valueOf_4 rfl (lv_at hl 1 rfl) ?_
  obtain ⟨i5, hres⟩ := gdi hres
  refine lX_wrt hx hb hK hP i5 dX3_valueOf_5 ?_
  refine lv_istore_n (lv' := [(3, .int (wrt x1.toNatClampNeg)), (0, .ref (a 1)), (1, .int x1), (2, .int x2)]) hx hb dX3_valueOf_6 rfl hl (by decide) rfl (fun ls hl => ?_)
  refine lv_aload_n hx hb dX3_valueOf_7 rfl (lv_at hl 1 rfl) ?_
  refine gX_now_kinds hx hb hown hw3 hK hP u2 dX3_valueOf_8 ?_
  refine lv_iload_n hx hb dX3_valueOf_11 rfl (lv_at hl 2 rfl) ?_
  obtain ⟨i12, hres⟩ := gdi hres
  refine lX_kin hx hb hK hP i12 dX3_valueOf_12 ?_
  by_cases v13_0 : (kin x1.toNatClampNeg) = 0
  · have hres := (itl hres).1 v13_0
    refine lv_tableIn (off := 35) (tgt := 48) hx hb dX3_valueOf_13 (by rw [v13_0]; decide) (by rw [v13_0]; decide) (by rw [v13_0]; rfl) (by decide) ?_
    refine lv_iload_n hx hb dX3_valueOf_48 rfl (lv_at hl 0 rfl) ?_
    exact hQ ▸ rtI (v := wrt x1.toNatClampNeg)  hx hb hr hlk hP hS (by rw [← (Option.some.inj hres)]) rfl dX3_valueOf_49
  · have hres := (itl hres).2 v13_0
    by_cases v13_1 : (kin x1.toNatClampNeg) = 1
    · have hres := (itl hres).1 v13_1
      refine lv_tableIn (off := 37) (tgt := 50) hx hb dX3_valueOf_13 (by rw [v13_1]; decide) (by rw [v13_1]; decide) (by rw [v13_1]; rfl) (by decide) ?_
      refine lv_iload_n hx hb dX3_valueOf_50 rfl (lv_at hl 0 rfl) ?_
      refine lv_iload_n hx hb dX3_valueOf_51 rfl (lv_at hl 3 rfl) ?_
      refine lv_imul hx hb dX3_valueOf_52 ?_
      exact hQ ▸ rtI (v := (wrt x1.toNatClampNeg) * x2)  hx hb hr hlk hP hS (by rw [← (Option.some.inj hres)]) rfl dX3_valueOf_53
    · have hres := (itl hres).2 v13_1
      by_cases v13_2 : (kin x1.toNatClampNeg) = 2
      · have hres := (itl hres).1 v13_2
        refine lv_tableIn (off := 41) (tgt := 54) hx hb dX3_valueOf_13 (by rw [v13_2]; decide) (by rw [v13_2]; decide) (by rw [v13_2]; rfl) (by decide) ?_
        refine lv_iload_n hx hb dX3_valueOf_54 rfl (lv_at hl 3 rfl) ?_
        refine lv_if_le (tgt := 62) hx hb dX3_valueOf_55 (by decide) (fun c55 => ?_) (fun c55 => ?_)
        · have hres := (itl hres).1 c55
          refine lv_iconst (v := 0) hx hb dX3_valueOf_62 (by decide) ?_
          exact hQ ▸ rtI (v := (0 : Int32))  hx hb hr hlk hP hS (by rw [← (Option.some.inj hres)]) rfl dX3_valueOf_63
        · have hres := (itl hres).2 c55
          refine lv_iload_n hx hb dX3_valueOf_58 rfl (lv_at hl 0 rfl) ?_
          refine lv_goto (tgt := 63) hx hb dX3_valueOf_59 (by decide) ?_
          exact hQ ▸ rtI (v := wrt x1.toNatClampNeg)  hx hb hr hlk hP hS (by rw [← (Option.some.inj hres)]) rfl dX3_valueOf_63
      · have hres := (itl hres).2 v13_2
        by_cases v13_3 : (kin x1.toNatClampNeg) = 3
        · have hres := (itl hres).1 v13_3
          refine lv_tableIn (off := 51) (tgt := 64) hx hb dX3_valueOf_13 (by rw [v13_3]; decide) (by rw [v13_3]; decide) (by rw [v13_3]; rfl) (by decide) ?_
          refine lv_iload_n hx hb dX3_valueOf_64 rfl (lv_at hl 0 rfl) ?_
          refine lv_iload_n hx hb dX3_valueOf_65 rfl (lv_at hl 3 rfl) ?_
          refine lv_imul hx hb dX3_valueOf_66 ?_
          refine lv_iconst (v := 5) hx hb dX3_valueOf_67 (by decide) ?_
          refine lv_iadd hx hb dX3_valueOf_68 ?_
          exact hQ ▸ rtI (v := ((wrt x1.toNatClampNeg) * x2) + (5 : Int32))  hx hb hr hlk hP hS (by rw [← (Option.some.inj hres)]) rfl dX3_valueOf_69
        · have hres := (itl hres).2 v13_3
          by_cases v13_4 : (kin x1.toNatClampNeg) = 4
          · have hres := (itl hres).1 v13_4
            refine lv_tableIn (off := 57) (tgt := 70) hx hb dX3_valueOf_13 (by rw [v13_4]; decide) (by rw [v13_4]; decide) (by rw [v13_4]; rfl) (by decide) ?_
            refine lv_iload_n hx hb dX3_valueOf_70 rfl (lv_at hl 0 rfl) ?_
            refine lv_iload_n hx hb dX3_valueOf_71 rfl (lv_at hl 3 rfl) ?_
            refine lv_aload_n hx hb dX3_valueOf_72 rfl (lv_at hl 1 rfl) ?_
            refine gX_now_mosts hx hb hown hw3 hK hP u3 dX3_valueOf_73 ?_
            refine lv_iload_n hx hb dX3_valueOf_76 rfl (lv_at hl 2 rfl) ?_
            obtain ⟨i77, hres⟩ := gdi hres
            refine lX_mos hx hb hK hP i77 dX3_valueOf_77 ?_
            refine lv_icmp_le (tgt := 87) hx hb dX3_valueOf_78 (by decide) (fun c78 => ?_) (fun c78 => ?_)
            · have hres := (itl hres).1 c78
              refine lv_iload_n hx hb dX3_valueOf_87 rfl (lv_at hl 3 rfl) ?_
              exact b88 (wrt x1.toNatClampNeg) x2 hres _ _ _ hP hS (lv_sub hl [1] rfl)
            · have hres := (itl hres).2 c78
              refine lv_iload_n hx hb dX3_valueOf_81 rfl (lv_at hl 3 rfl) ?_
              refine lv_iconst (v := 2) hx hb dX3_valueOf_82 (by decide) ?_
              refine lv_idiv hx hb dX3_valueOf_83 (by decide) ?_
              refine lv_goto (tgt := 88) hx hb dX3_valueOf_84 (by decide) ?_
              exact b88 (wrt x1.toNatClampNeg) (x2 / (2 : Int32)) hres _ _ _ hP hS (lv_sub hl [1] rfl)
          · have hres := (itl hres).2 v13_4
            refine lv_tableOut (tgt := 90) hx hb dX3_valueOf_13 (sw04 v13_0 v13_1 v13_2 v13_3 v13_4) (by decide) ?_
            refine lv_iload_n hx hb dX3_valueOf_90 rfl (lv_at hl 3 rfl) ?_
            refine lv_ineg hx hb dX3_valueOf_91 ?_
            exact hQ ▸ rtI (v := -x2)  hx hb hr hlk hP hS (by rw [← (Option.some.inj hres)]) rfl dX3_valueOf_92
def fX1_gainWith_b78 (K19 : Int32 → (Nat → Int32) → Option ((Nat → Int32))) (gai : Nat → Int32) (x6 : Int32) : Option ((Nat → Int32)) :=
  K19 (x6 + 1) gai
def fX1_gainWith_l19 (x2 : Int32) (x3 : Int32) (x4 : Int32) (x5 : Int32) (K19 : Int32 → (Nat → Int32) → Option ((Nat → Int32))) (x6 : Int32) (gai : Nat → Int32) : Option ((Nat → Int32)) :=
  if (121 : Int32) ≤ (x6 + x2) then some gai else gd (ib (x5 + x6) 1331) (if (gai (x5 + x6).toNatClampNeg) = (-1000000000 : Int32) then fX1_gainWith_b78 K19 gai x6 else gd (ib (x4 + x6) 1331) (if ((gai (x5 + x6).toNatClampNeg) + x3) ≤ (gai (x4 + x6).toNatClampNeg) then fX1_gainWith_b78 K19 gai x6 else gd (ib (x4 + x6) 1331) (fX1_gainWith_b78 K19 (upd gai (x4 + x6).toNatClampNeg ((gai (x5 + x6).toNatClampNeg) + x3)) x6)))
def fX1_gainWith (gai : Nat → Int32) (x1 : Int32) (x2 : Int32) (x3 : Int32) : Option ((Nat → Int32)) :=
  fix2 (fX1_gainWith_l19 x2 x3 ((x1 * (121 : Int32)) + x2) ((x1 + (1 : Int32)) * (121 : Int32))) 2000 (0 : Int32) gai
abbrev rX1_gainWith : Room := { frames := 0, cells := 0, slots := 0, locals := 0 }
set_option maxHeartbeats 4000000 in
set_option maxRecDepth 100000 in
theorem kX1_gainWith (l : Launch) (D : va_G) (a : Nat → Nat) (cI cJ cS : ClassId) (hd : aok a 36) {Env : (Nat → Prop) → State → Heap → Prop} (hEo : envOK Env) (par : Int32) (kin lea mos wrt : Nat → Int32) (tal : Int32) (siz tol : Nat → Int32) (hrs : Int32) (ags : Nat → Int32) (yea kpar : Int32) (kkin klea kmos kwrt : Nat → Int32) (ktal : Int32) (ksiz ktol : Nat → Int32) (khrs : Int32) (kags : Nat → Int32) (kyea isk : Int32) (tly : Nat → Int64) (gai bes : Nat → Int32) (low hig : Nat → Int64) (spn : Int32) (byt : Nat → Int32) (hld sta beh sor num : Int32) (fnd sbi she : Nat → Int32) (snu : Nat → Nat → Int64) (x1 : Int32) (x2 : Int32) (x3 : Int32) (res : (Nat → Int32)) (hres : fX1_gainWith gai x1 x2 x3 = some res) : CtV l D (tyL cI cJ cS) 36 a Env yX1_gainWith wsX1_gainWith rX1_gainWith [.ref (a 17), .int x1, .int x2, .int x3] (wX a cI cJ cS par kin lea mos wrt tal siz tol hrs ags yea kpar kkin klea kmos kwrt ktal ksiz ktol khrs kags kyea isk tly gai bes low hig spn byt hld sta beh sor num fnd sbi she snu) (wX a cI cJ cS par kin lea mos wrt tal siz tol hrs ags yea kpar kkin klea kmos kwrt ktal ksiz ktol khrs kags kyea isk tly res bes low hig spn byt hld sta beh sor num fnd sbi she snu) := by
  refine CtV_mk (cc := cX1_gainWith) (maxL := 8) (ret := none) (by decide) rfl (Nat.le_of_ble_eq_true rfl) ?_
  intro p e s m args below meth c ls hx hb hr hlk hml hown hts hP hK hE hl
  have hS : va_S (adA a 36 s.heap.size) s.heap s.heap [] := va_S.rf
  have hl : lv_has ls 8 [(0, .ref (a 17)), (1, .int x1), (2, .int x2), (3, .int x3)] := hl
  have hown : s.vm.findClass RX1 = some m.cls := hown
  have hw1 : ∀ w ∈ wsX10, w.before args s = true := fun w h => hts w (List.mem_cons_of_mem _ (List.mem_append_right _ h))
  have u1 : (Cond.fieldLink RX1 15 "YearWords$Sayings" "gains" "[I").before args s = true := hts _ (List.mem_of_getElem? (i := 1) (by decide +kernel))
  have u2 : (Cond.constant RX1 79 (-1000000000)).before args s = true := hts _ (List.mem_of_getElem? (i := 2) (by decide +kernel))
  obtain ⟨Q, hQ⟩ : ∃ Q, Q = mqV below D 36 a args s (wX a cI cJ cS par kin lea mos wrt tal siz tol hrs ags yea kpar kkin klea kmos kwrt ktal ksiz ktol khrs kags kyea isk tly res bes low hig spn byt hld sta beh sor num fnd sbi she snu) := ⟨_, rfl⟩
  rw [← hQ]
  have b19 : ∀ (x4 : Int32) (x5 : Int32) (n : Nat) (x6 : Int32) (gai : Nat → Int32), fix2 (fX1_gainWith_l19 x2 x3 x4 x5) n x6 gai = some res → ∀ (H : Heap) (locs : List Loc) (ls : Array Slot), va_P D vwCl (wX a cI cJ cS par kin lea mos wrt tal siz tol hrs ags yea kpar kkin klea kmos kwrt ktal ksiz ktol khrs kags kyea isk tly gai bes low hig spn byt hld sta beh sor num fnd sbi she snu) H → va_S (adA a 36 s.heap.size) s.heap H locs → lv_has ls 8 [(0, .ref (a 17)), (2, .int x2), (3, .int x3), (4, .int x4), (5, .int x5), (6, .int x6)] → W p l e rX1_gainWith s m args below meth c H locs 0 0 Q (F0 m 19 ls []) := by
    intro x4 x5
    refine fix2_r ?_
    intro K19 hK19 x6 gai hres H locs ls hP hS hl
    have b78 : ∀ (gai : Nat → Int32) (x6 : Int32), fX1_gainWith_b78 K19 gai x6 = some res → ∀ (H : Heap) (locs : List Loc) (ls : Array Slot), va_P D vwCl (wX a cI cJ cS par kin lea mos wrt tal siz tol hrs ags yea kpar kkin klea kmos kwrt ktal ksiz ktol khrs kags kyea isk tly gai bes low hig spn byt hld sta beh sor num fnd sbi she snu) H → va_S (adA a 36 s.heap.size) s.heap H locs → lv_has ls 8 [(0, .ref (a 17)), (2, .int x2), (3, .int x3), (4, .int x4), (5, .int x5), (6, .int x6)] → W p l e rX1_gainWith s m args below meth c H locs 0 0 Q (F0 m 78 ls []) := by
      intro gai x6 hres H locs ls hP hS hl
      unfold fX1_gainWith_b78 at hres
      refine lv_iinc (v := x6 + 1) (lv' := [(6, .int (x6 + 1)), (0, .ref (a 17)), (2, .int x2), (3, .int x3), (4, .int x4), (5, .int x5)]) hx hb dX1_gainWith_78 hl (k := 5) rfl (congrArg (fun z => x6 + z) (by decide)) (by decide) rfl (fun ls hl => ?_)
      refine lv_goto (tgt := 19) hx hb dX1_gainWith_81 (by decide) ?_
      exact hK19 (x6 + 1) gai hres _ _ _ hP hS (lv_sub hl [1, 2, 3, 4, 5, 0] rfl)
    unfold fX1_gainWith_l19 at hres
    refine lv_iload hx hb dX1_gainWith_19 (lv_at hl 5 rfl) ?_
    refine lv_iload_n hx hb dX1_gainWith_21 rfl (lv_at hl 1 rfl) ?_
    refine lv_iadd hx hb dX1_gainWith_22 ?_
    refine lv_bipush (v := 121) hx hb dX1_gainWith_23 (by decide) ?_
    refine lv_icmp_ge (tgt := 84) hx hb dX1_gainWith_25 (by decide) (fun c25 => ?_) (fun c25 => ?_)
    · have hres := (itl hres).1 c25
      exact hQ ▸ rtV hx hb hr hlk hP hS (by rw [← (Option.some.inj hres)]) dX1_gainWith_84
    · have hres := (itl hres).2 c25
      refine lv_aload_n hx hb dX1_gainWith_28 rfl (lv_at hl 0 rfl) ?_
      refine gX_sayo_gains hx hb hown hw1 hK hP u1 dX1_gainWith_29 ?_
      refine lv_iload hx hb dX1_gainWith_32 (lv_at hl 4 rfl) ?_
      refine lv_iload hx hb dX1_gainWith_34 (lv_at hl 5 rfl) ?_
      refine lv_iadd hx hb dX1_gainWith_36 ?_
      obtain ⟨i37, hres⟩ := gdi hres
      refine lX_gai hx hb hK hP i37 dX1_gainWith_37 ?_
      refine lv_istore (lv' := [(7, .int (gai (x5 + x6).toNatClampNeg)), (0, .ref (a 17)), (2, .int x2), (3, .int x3), (4, .int x4), (5, .int x5), (6, .int x6)]) hx hb dX1_gainWith_38 hl (by decide) rfl (fun ls hl => ?_)
      refine lv_iload hx hb dX1_gainWith_40 (lv_at hl 0 rfl) ?_
      refine lv_ldc hx hb hown u2 dX1_gainWith_42 ?_
      refine lv_icmp_eq (tgt := 78) hx hb dX1_gainWith_44 (by decide) (fun c44 => ?_) (fun c44 => ?_)
      · have hres := (itl hres).1 c44
        exact b78 gai x6 hres _ _ _ hP hS (lv_sub hl [1, 2, 3, 4, 5, 6] rfl)
      · have hres := (itl hres).2 c44
        refine lv_iload hx hb dX1_gainWith_47 (lv_at hl 0 rfl) ?_
        refine lv_iload_n hx hb dX1_gainWith_49 rfl (lv_at hl 3 rfl) ?_
        refine lv_iadd hx hb dX1_gainWith_50 ?_
        refine lv_aload_n hx hb dX1_gainWith_51 rfl (lv_at hl 1 rfl) ?_
        refine gX_sayo_gains hx hb hown hw1 hK hP u1 dX1_gainWith_52 ?_
        refine lv_iload hx hb dX1_gainWith_55 (lv_at hl 4 rfl) ?_
        refine lv_iload hx hb dX1_gainWith_57 (lv_at hl 6 rfl) ?_
        refine lv_iadd hx hb dX1_gainWith_59 ?_
        obtain ⟨i60, hres⟩ := gdi hres
        refine lX_gai hx hb hK hP i60 dX1_gainWith_60 ?_
        refine lv_icmp_le (tgt := 78) hx hb dX1_gainWith_61 (by decide) (fun c61 => ?_) (fun c61 => ?_)
        · have hres := (itl hres).1 c61
          exact b78 gai x6 hres _ _ _ hP hS (lv_sub hl [1, 2, 3, 4, 5, 6] rfl)
        · have hres := (itl hres).2 c61
          refine lv_aload_n hx hb dX1_gainWith_64 rfl (lv_at hl 1 rfl) ?_
          refine gX_sayo_gains hx hb hown hw1 hK hP u1 dX1_gainWith_65 ?_
          refine lv_iload hx hb dX1_gainWith_68 (lv_at hl 4 rfl) ?_
          refine lv_iload hx hb dX1_gainWith_70 (lv_at hl 6 rfl) ?_
          refine lv_iadd hx hb dX1_gainWith_72 ?_
          refine lv_iload hx hb dX1_gainWith_73 (lv_at hl 0 rfl) ?_
          refine lv_iload_n hx hb dX1_gainWith_75 rfl (lv_at hl 3 rfl) ?_
          refine lv_iadd hx hb dX1_gainWith_76 ?_
          obtain ⟨i77, hres⟩ := gdi hres
          refine sX_gai hx hb hK hP hd hS i77 dX1_gainWith_77 (fun H locs hP hS => ?_)
          exact b78 (upd gai (x4 + x6).toNatClampNeg ((gai (x5 + x6).toNatClampNeg) + x3)) x6 hres _ _ _ hP hS (lv_sub hl [1, 2, 3, 4, 5, 6] rfl)
  unfold fX1_gainWith at hres
  refine lv_iload_n hx hb dX1_gainWith_0 rfl (lv_at hl 1 rfl) ?_
  refine lv_bipush (v := 121) hx hb dX1_gainWith_1 (by decide) ?_
  refine lv_imul hx hb dX1_gainWith_3 ?_
  refine lv_iload_n hx hb dX1_gainWith_4 rfl (lv_at hl 2 rfl) ?_
  refine lv_iadd hx hb dX1_gainWith_5 ?_
  refine lv_istore (lv' := [(4, .int ((x1 * (121 : Int32)) + x2)), (0, .ref (a 17)), (1, .int x1), (2, .int x2), (3, .int x3)]) hx hb dX1_gainWith_6 hl (by decide) rfl (fun ls hl => ?_)
  refine lv_iload_n hx hb dX1_gainWith_8 rfl (lv_at hl 2 rfl) ?_
  refine lv_iconst (v := 1) hx hb dX1_gainWith_9 (by decide) ?_
  refine lv_iadd hx hb dX1_gainWith_10 ?_
  refine lv_bipush (v := 121) hx hb dX1_gainWith_11 (by decide) ?_
  refine lv_imul hx hb dX1_gainWith_13 ?_
  refine lv_istore (lv' := [(5, .int ((x1 + (1 : Int32)) * (121 : Int32))), (4, .int ((x1 * (121 : Int32)) + x2)), (0, .ref (a 17)), (1, .int x1), (2, .int x2), (3, .int x3)]) hx hb dX1_gainWith_14 hl (by decide) rfl (fun ls hl => ?_)
  refine lv_iconst (v := 0) hx hb dX1_gainWith_16 (by decide) ?_
  refine lv_istore (lv' := [(6, .int (0 : Int32)), (5, .int ((x1 + (1 : Int32)) * (121 : Int32))), (4, .int ((x1 * (121 : Int32)) + x2)), (0, .ref (a 17)), (1, .int x1), (2, .int x2), (3, .int x3)]) hx hb dX1_gainWith_17 hl (by decide) rfl (fun ls hl => ?_)
  exact b19 ((x1 * (121 : Int32)) + x2) ((x1 + (1 : Int32)) * (121 : Int32)) 2000 (0 : Int32) gai hres _ _ _ hP hS (lv_sub hl [3, 5, 6, 2, 1, 0] rfl)
def fX1_findGains_b115 (K79 : Int32 → (Nat → Int32) → Option ((Nat → Int32))) (gai : Nat → Int32) (x6 : Int32) : Option ((Nat → Int32)) :=
  K79 (x6 + 1) gai
def fX1_findGains_b121 (K50 : Int32 → (Nat → Int32) → Option ((Nat → Int32))) (gai : Nat → Int32) (x3 : Int32) : Option ((Nat → Int32)) :=
  K50 (x3 + (-1)) gai
def fX1_findGains_l79 (K50 : Int32 → (Nat → Int32) → Option ((Nat → Int32))) (kin : Nat → Int32) (mos : Nat → Int32) (wrt : Nat → Int32) (x3 : Int32) (x4 : Int32) (x5 : Int32) (K79 : Int32 → (Nat → Int32) → Option ((Nat → Int32))) (x6 : Int32) (gai : Nat → Int32) : Option ((Nat → Int32)) :=
  if (24 : Int32) < x6 then fX1_findGains_b121 K50 gai x3 else if ((x5 >>> (x6 &&& 31)) &&& (1 : Int32)) = (1 : Int32) then (fX3_valueOf kin mos wrt x4 x6).bind fun q109 => (fX1_gainWith gai x3 x6 q109).bind fun q112 => fX1_findGains_b115 K79 q112 x6 else fX1_findGains_b115 K79 gai x6
def fX1_findGains_l50 (kin : Nat → Int32) (lea : Nat → Int32) (mos : Nat → Int32) (wrt : Nat → Int32) (tol : Nat → Int32) (x1 : Int32) (K50 : Int32 → (Nat → Int32) → Option ((Nat → Int32))) (x3 : Int32) (gai : Nat → Int32) : Option ((Nat → Int32)) :=
  if x3 < 0 then some gai else (fX3_toldAt tol x1 x3).bind fun q60 => (fX3_lengthsOf kin lea mos q60).bind fun q71 => fix2 (fX1_findGains_l79 K50 kin mos wrt x3 q60 q71) 2000 (0 : Int32) gai
def fX1_findGains_b36 (kin : Nat → Int32) (lea : Nat → Int32) (mos : Nat → Int32) (wrt : Nat → Int32) (tol : Nat → Int32) (gai : Nat → Int32) (x1 : Int32) (x2 : Int32) : Option ((Nat → Int32)) :=
  gd (ib (x2 * (121 : Int32)) 1331) (fix2 (fX1_findGains_l50 kin lea mos wrt tol x1) 2000 (x2 - (1 : Int32)) (upd gai (x2 * (121 : Int32)).toNatClampNeg (0 : Int32)))
def fX1_findGains_l12 (kin : Nat → Int32) (lea : Nat → Int32) (mos : Nat → Int32) (wrt : Nat → Int32) (tol : Nat → Int32) (x1 : Int32) (x2 : Int32) (K12 : Int32 → (Nat → Int32) → Option ((Nat → Int32))) (x3 : Int32) (gai : Nat → Int32) : Option ((Nat → Int32)) :=
  if ((x2 + (1 : Int32)) * (121 : Int32)) ≤ x3 then fX1_findGains_b36 kin lea mos wrt tol gai x1 x2 else gd (ib x3 1331) (K12 (x3 + 1) (upd gai x3.toNatClampNeg (-1000000000 : Int32)))
def fX1_findGains (kin : Nat → Int32) (lea : Nat → Int32) (mos : Nat → Int32) (wrt : Nat → Int32) (siz : Nat → Int32) (tol : Nat → Int32) (gai : Nat → Int32) (x1 : Int32) : Option ((Nat → Int32)) :=
  gd (ib x1 8) (fix2 (fX1_findGains_l12 kin lea mos wrt tol x1 (siz x1.toNatClampNeg)) 2000 (0 : Int32) gai)
theorem hdX1_gainWith : yX1_gainWith.cls = RX1 ∧ yX1_gainWith.cls ≠ "java/lang/invoke/MethodHandle" ∧ yX1_gainWith.cls ≠ "java/lang/invoke/VarHandle" ∧ (parseMethodDescriptor yX1_gainWith.desc).map (fun d => d.parameters.length) = some 3 := by decide +kernel
theorem hdX3_valueOf : yX3_valueOf.cls = RX3 ∧ yX3_valueOf.cls ≠ "java/lang/invoke/MethodHandle" ∧ yX3_valueOf.cls ≠ "java/lang/invoke/VarHandle" ∧ (parseMethodDescriptor yX3_valueOf.desc).map (fun d => d.parameters.length) = some 2 := by decide +kernel
abbrev rX1_findGains : Room := { frames := 2, cells := 0, slots := 0, locals := 44 }
set_option maxHeartbeats 4000000 in
set_option maxRecDepth 100000 in
theorem kX1_findGains (l : Launch) (D : va_G) (a : Nat → Nat) (cI cJ cS : ClassId) (hd : aok a 36) {Env : (Nat → Prop) → State → Heap → Prop} (hEo : envOK Env) (par : Int32) (kin lea mos wrt : Nat → Int32) (tal : Int32) (siz tol : Nat → Int32) (hrs : Int32) (ags : Nat → Int32) (yea kpar : Int32) (kkin klea kmos kwrt : Nat → Int32) (ktal : Int32) (ksiz ktol : Nat → Int32) (khrs : Int32) (kags : Nat → Int32) (kyea isk : Int32) (tly : Nat → Int64) (gai bes : Nat → Int32) (low hig : Nat → Int64) (spn : Int32) (byt : Nat → Int32) (hld sta beh sor num : Int32) (fnd sbi she : Nat → Int32) (snu : Nat → Nat → Int64) (x1 : Int32) (res : (Nat → Int32)) (hres : fX1_findGains kin lea mos wrt siz tol gai x1 = some res) : CtV l D (tyL cI cJ cS) 36 a Env yX1_findGains wsX1_findGains rX1_findGains [.ref (a 17), .int x1] (wX a cI cJ cS par kin lea mos wrt tal siz tol hrs ags yea kpar kkin klea kmos kwrt ktal ksiz ktol khrs kags kyea isk tly gai bes low hig spn byt hld sta beh sor num fnd sbi she snu) (wX a cI cJ cS par kin lea mos wrt tal siz tol hrs ags yea kpar kkin klea kmos kwrt ktal ksiz ktol khrs kags kyea isk tly res bes low hig spn byt hld sta beh sor num fnd sbi she snu) := by
  refine CtV_mk (cc := cX1_findGains) (maxL := 7) (ret := none) (by decide) rfl (Nat.le_of_ble_eq_true rfl) ?_
  intro p e s m args below meth c ls hx hb hr hlk hml hown hts hP hK hE hl
  have hS : va_S (adA a 36 s.heap.size) s.heap s.heap [] := va_S.rf
  have hl : lv_has ls 7 [(0, .ref (a 17)), (1, .int x1)] := hl
  have hown : s.vm.findClass RX1 = some m.cls := hown
  have hw1 : ∀ w ∈ wsX10, w.before args s = true := fun w h => hts w (List.mem_cons_of_mem _ (List.mem_append_left _ (List.mem_append_right _ h)))
  have hw3 : ∀ w ∈ wsX30, w.before args s = true := fun w h => hts w (List.mem_cons_of_mem _ (List.mem_append_right _ h))
  have u1 : (Cond.fieldLink RX1 32 "YearWords$Sayings" "stock" "LYearWords$Stock;").before args s = true := hts _ (List.mem_of_getElem? (i := 1) (by decide +kernel))
  have u2 : (Cond.fieldLink RX1 36 "YearWords$Stock" "sizes" "[I").before args s = true := hts _ (List.mem_of_getElem? (i := 2) (by decide +kernel))
  have u3 : (Cond.fieldLink RX1 15 "YearWords$Sayings" "gains" "[I").before args s = true := hts _ (List.mem_of_getElem? (i := 3) (by decide +kernel))
  have u4 : (Cond.constant RX1 79 (-1000000000)).before args s = true := hts _ (List.mem_of_getElem? (i := 4) (by decide +kernel))
  obtain ⟨Q, hQ⟩ : ∃ Q, Q = mqV below D 36 a args s (wX a cI cJ cS par kin lea mos wrt tal siz tol hrs ags yea kpar kkin klea kmos kwrt ktal ksiz ktol khrs kags kyea isk tly res bes low hig spn byt hld sta beh sor num fnd sbi she snu) := ⟨_, rfl⟩
  rw [← hQ]
  have b50 : ∀  (n : Nat) (x3 : Int32) (gai : Nat → Int32), fix2 (fX1_findGains_l50 kin lea mos wrt tol x1) n x3 gai = some res → ∀ (H : Heap) (locs : List Loc) (ls : Array Slot), va_P D vwCl (wX a cI cJ cS par kin lea mos wrt tal siz tol hrs ags yea kpar kkin klea kmos kwrt ktal ksiz ktol khrs kags kyea isk tly gai bes low hig spn byt hld sta beh sor num fnd sbi she snu) H → va_S (adA a 36 s.heap.size) s.heap H locs → lv_has ls 7 [(0, .ref (a 17)), (1, .int x1), (3, .int x3)] → W p l e rX1_findGains s m args below meth c H locs 0 0 Q (F0 m 50 ls []) := by
    refine fix2_r ?_
    intro K50 hK50 x3 gai hres H locs ls hP hS hl
    have b121 : ∀ (gai : Nat → Int32) (x3 : Int32), fX1_findGains_b121 K50 gai x3 = some res → ∀ (H : Heap) (locs : List Loc) (ls : Array Slot), va_P D vwCl (wX a cI cJ cS par kin lea mos wrt tal siz tol hrs ags yea kpar kkin klea kmos kwrt ktal ksiz ktol khrs kags kyea isk tly gai bes low hig spn byt hld sta beh sor num fnd sbi she snu) H → va_S (adA a 36 s.heap.size) s.heap H locs → lv_has ls 7 [(0, .ref (a 17)), (1, .int x1), (3, .int x3)] → W p l e rX1_findGains s m args below meth c H locs 0 0 Q (F0 m 121 ls []) := by
      intro gai x3 hres H locs ls hP hS hl
      unfold fX1_findGains_b121 at hres
      refine lv_iinc (v := x3 + (-1)) (lv' := [(3, .int (x3 + (-1))), (0, .ref (a 17)), (1, .int x1)]) hx hb dX1_findGains_121 hl (k := 2) rfl (congrArg (fun z => x3 + z) (by decide)) (by decide) rfl (fun ls hl => ?_)
      refine lv_goto (tgt := 50) hx hb dX1_findGains_124 (by decide) ?_
      exact hK50 (x3 + (-1)) gai hres _ _ _ hP hS (lv_sub hl [1, 2, 0] rfl)
    have b79 : ∀ (x3 : Int32) (x4 : Int32) (x5 : Int32) (n : Nat) (x6 : Int32) (gai : Nat → Int32), fix2 (fX1_findGains_l79 K50 kin mos wrt x3 x4 x5) n x6 gai = some res → ∀ (H : Heap) (locs : List Loc) (ls : Array Slot), va_P D vwCl (wX a cI cJ cS par kin lea mos wrt tal siz tol hrs ags yea kpar kkin klea kmos kwrt ktal ksiz ktol khrs kags kyea isk tly gai bes low hig spn byt hld sta beh sor num fnd sbi she snu) H → va_S (adA a 36 s.heap.size) s.heap H locs → lv_has ls 7 [(0, .ref (a 17)), (1, .int x1), (3, .int x3), (4, .int x4), (5, .int x5), (6, .int x6)] → W p l e rX1_findGains s m args below meth c H locs 0 0 Q (F0 m 79 ls []) := by
      intro x3 x4 x5
      refine fix2_r ?_
      intro K79 hK79 x6 gai hres H locs ls hP hS hl
      have b115 : ∀ (gai : Nat → Int32) (x6 : Int32), fX1_findGains_b115 K79 gai x6 = some res → ∀ (H : Heap) (locs : List Loc) (ls : Array Slot), va_P D vwCl (wX a cI cJ cS par kin lea mos wrt tal siz tol hrs ags yea kpar kkin klea kmos kwrt ktal ksiz ktol khrs kags kyea isk tly gai bes low hig spn byt hld sta beh sor num fnd sbi she snu) H → va_S (adA a 36 s.heap.size) s.heap H locs → lv_has ls 7 [(0, .ref (a 17)), (1, .int x1), (3, .int x3), (4, .int x4), (5, .int x5), (6, .int x6)] → W p l e rX1_findGains s m args below meth c H locs 0 0 Q (F0 m 115 ls []) := by
        intro gai x6 hres H locs ls hP hS hl
        unfold fX1_findGains_b115 at hres
        refine lv_iinc (v := x6 + 1) (lv' := [(6, .int (x6 + 1)), (0, .ref (a 17)), (1, .int x1), (3, .int x3), (4, .int x4), (5, .int x5)]) hx hb dX1_findGains_115 hl (k := 5) rfl (congrArg (fun z => x6 + z) (by decide)) (by decide) rfl (fun ls hl => ?_)
        refine lv_goto (tgt := 79) hx hb dX1_findGains_118 (by decide) ?_
        exact hK79 (x6 + 1) gai hres _ _ _ hP hS (lv_sub hl [1, 2, 3, 4, 5, 0] rfl)
      unfold fX1_findGains_l79 at hres
      refine lv_iload hx hb dX1_findGains_79 (lv_at hl 5 rfl) ?_
      refine lv_bipush (v := 24) hx hb dX1_findGains_81 (by decide) ?_
      refine lv_icmp_gt (tgt := 121) hx hb dX1_findGains_83 (by decide) (fun c83 => ?_) (fun c83 => ?_)
      · have hres := (itl hres).1 c83
        exact b121 gai x3 hres _ _ _ hP hS (lv_sub hl [0, 1, 2] rfl)
      · have hres := (itl hres).2 c83
        refine lv_iload hx hb dX1_findGains_86 (lv_at hl 4 rfl) ?_
        refine lv_iload hx hb dX1_findGains_88 (lv_at hl 5 rfl) ?_
        refine lv_ishr hx hb dX1_findGains_90 ?_
        refine lv_iconst (v := 1) hx hb dX1_findGains_91 (by decide) ?_
        refine lv_iand hx hb dX1_findGains_92 ?_
        refine lv_iconst (v := 1) hx hb dX1_findGains_93 (by decide) ?_
        refine lv_icmp_ne (tgt := 115) hx hb dX1_findGains_94 (by decide) (fun c94 => ?_) (fun c94 => ?_)
        · have hres := (itl hres).2 c94
          exact b115 gai x6 hres _ _ _ hP hS (lv_sub hl [0, 1, 2, 3, 4, 5] rfl)
        · have hres := (itl hres).1 c94
          refine lv_aload_n hx hb dX1_findGains_97 rfl (lv_at hl 0 rfl) ?_
          refine lv_iload_n hx hb dX1_findGains_98 rfl (lv_at hl 2 rfl) ?_
          refine lv_iload hx hb dX1_findGains_99 (lv_at hl 5 rfl) ?_
          refine lv_aload_n hx hb dX1_findGains_101 rfl (lv_at hl 0 rfl) ?_
          refine gX_sayo_stock hx hb hown hw1 hK hP u1 dX1_findGains_102 ?_
          refine lv_iload hx hb dX1_findGains_105 (lv_at hl 3 rfl) ?_
          refine lv_iload hx hb dX1_findGains_107 (lv_at hl 5 rfl) ?_
          obtain ⟨q109, e109, hres⟩ := obd hres
          refine cvI (q0 := 1) (ci := 3) hx hb hml hown hts hEo hE hK hP hS (kX3_valueOf l D a cI cJ cS hd hEo par kin lea mos wrt tal siz tol hrs ags yea kpar kkin klea kmos kwrt ktal ksiz ktol khrs kags kyea isk tly gai bes low hig spn byt hld sta beh sor num fnd sbi she snu x4 x6 q109 e109) gX1_findGains_X3_valueOf rfl hdX3_valueOf rfl rfl rfl ⟨rfl, rfl⟩ ⟨Nat.le_of_ble_eq_true rfl, Nat.le_of_ble_eq_true rfl⟩ ⟨Nat.zero_le _, Nat.zero_le _⟩ rfl hl.1 rfl (Nat.le_of_ble_eq_true rfl) dX1_findGains_109 (fun H locs hP hS => ?_)
          obtain ⟨q112, e112, hres⟩ := obd hres
          refine cvV (q0 := 17) (ci := 1) hx hb hml hown hts hEo hE hK hP hS (kX1_gainWith l D a cI cJ cS hd hEo par kin lea mos wrt tal siz tol hrs ags yea kpar kkin klea kmos kwrt ktal ksiz ktol khrs kags kyea isk tly gai bes low hig spn byt hld sta beh sor num fnd sbi she snu x3 x6 q109 q112 e112) gX1_findGains_X1_gainWith rfl hdX1_gainWith rfl rfl rfl ⟨rfl, rfl⟩ ⟨Nat.le_of_ble_eq_true rfl, Nat.le_of_ble_eq_true rfl⟩ ⟨Nat.zero_le _, Nat.zero_le _⟩ rfl hl.1 rfl (Nat.le_of_ble_eq_true rfl) dX1_findGains_112 (fun H locs hP hS => ?_)
          exact b115 q112 x6 hres _ _ _ hP hS (lv_sub hl [0, 1, 2, 3, 4, 5] rfl)
    unfold fX1_findGains_l50 at hres
    refine lv_iload_n hx hb dX1_findGains_50 rfl (lv_at hl 2 rfl) ?_
    refine lv_if_lt (tgt := 127) hx hb dX1_findGains_51 (by decide) (fun c51 => ?_) (fun c51 => ?_)
    · have hres := (itl hres).1 c51
      exact hQ ▸ rtV hx hb hr hlk hP hS (by rw [← (Option.some.inj hres)]) dX1_findGains_127
    · have hres := (itl hres).2 c51
      refine lv_aload_n hx hb dX1_findGains_54 rfl (lv_at hl 0 rfl) ?_
      refine gX_sayo_stock hx hb hown hw1 hK hP u1 dX1_findGains_55 ?_
      refine lv_iload_n hx hb dX1_findGains_58 rfl (lv_at hl 1 rfl) ?_
      refine lv_iload_n hx hb dX1_findGains_59 rfl (lv_at hl 2 rfl) ?_
      obtain ⟨q60, e60, hres⟩ := obd hres
      refine cvI (q0 := 1) (ci := 3) hx hb hml hown hts hEo hE hK hP hS (kX3_toldAt l D a cI cJ cS hd hEo par kin lea mos wrt tal siz tol hrs ags yea kpar kkin klea kmos kwrt ktal ksiz ktol khrs kags kyea isk tly gai bes low hig spn byt hld sta beh sor num fnd sbi she snu x1 x3 q60 e60) gX1_findGains_X3_toldAt rfl hdX3_toldAt rfl rfl rfl ⟨rfl, rfl⟩ ⟨Nat.le_of_ble_eq_true rfl, Nat.le_of_ble_eq_true rfl⟩ ⟨Nat.zero_le _, Nat.zero_le _⟩ rfl hl.1 rfl (Nat.le_of_ble_eq_true rfl) dX1_findGains_60 (fun H locs hP hS => ?_)
      refine lv_istore (lv' := [(4, .int q60), (0, .ref (a 17)), (1, .int x1), (3, .int x3)]) hx hb dX1_findGains_63 hl (by decide) rfl (fun ls hl => ?_)
      refine lv_aload_n hx hb dX1_findGains_65 rfl (lv_at hl 1 rfl) ?_
      refine gX_sayo_stock hx hb hown hw1 hK hP u1 dX1_findGains_66 ?_
      refine lv_iload hx hb dX1_findGains_69 (lv_at hl 0 rfl) ?_
      obtain ⟨q71, e71, hres⟩ := obd hres
      refine cvI (q0 := 1) (ci := 3) hx hb hml hown hts hEo hE hK hP hS (kX3_lengthsOf l D a cI cJ cS hd hEo par kin lea mos wrt tal siz tol hrs ags yea kpar kkin klea kmos kwrt ktal ksiz ktol khrs kags kyea isk tly gai bes low hig spn byt hld sta beh sor num fnd sbi she snu q60 q71 e71) gX1_findGains_X3_lengthsOf rfl hdX3_lengthsOf rfl rfl rfl ⟨rfl, rfl⟩ ⟨Nat.le_of_ble_eq_true rfl, Nat.le_of_ble_eq_true rfl⟩ ⟨Nat.zero_le _, Nat.zero_le _⟩ rfl hl.1 rfl (Nat.le_of_ble_eq_true rfl) dX1_findGains_71 (fun H locs hP hS => ?_)
      refine lv_istore (lv' := [(5, .int q71), (4, .int q60), (0, .ref (a 17)), (1, .int x1), (3, .int x3)]) hx hb dX1_findGains_74 hl (by decide) rfl (fun ls hl => ?_)
      refine lv_iconst (v := 0) hx hb dX1_findGains_76 (by decide) ?_
      refine lv_istore (lv' := [(6, .int (0 : Int32)), (5, .int q71), (4, .int q60), (0, .ref (a 17)), (1, .int x1), (3, .int x3)]) hx hb dX1_findGains_77 hl (by decide) rfl (fun ls hl => ?_)
      exact b79 x3 q60 q71 2000 (0 : Int32) gai hres _ _ _ hP hS (lv_sub hl [3, 4, 5, 2, 1, 0] rfl)
  have b36 : ∀ (gai : Nat → Int32) (x2 : Int32), fX1_findGains_b36 kin lea mos wrt tol gai x1 x2 = some res → ∀ (H : Heap) (locs : List Loc) (ls : Array Slot), va_P D vwCl (wX a cI cJ cS par kin lea mos wrt tal siz tol hrs ags yea kpar kkin klea kmos kwrt ktal ksiz ktol khrs kags kyea isk tly gai bes low hig spn byt hld sta beh sor num fnd sbi she snu) H → va_S (adA a 36 s.heap.size) s.heap H locs → lv_has ls 7 [(0, .ref (a 17)), (1, .int x1), (2, .int x2)] → W p l e rX1_findGains s m args below meth c H locs 0 0 Q (F0 m 36 ls []) := by
    intro gai x2 hres H locs ls hP hS hl
    unfold fX1_findGains_b36 at hres
    refine lv_aload_n hx hb dX1_findGains_36 rfl (lv_at hl 0 rfl) ?_
    refine gX_sayo_gains hx hb hown hw1 hK hP u3 dX1_findGains_37 ?_
    refine lv_iload_n hx hb dX1_findGains_40 rfl (lv_at hl 2 rfl) ?_
    refine lv_bipush (v := 121) hx hb dX1_findGains_41 (by decide) ?_
    refine lv_imul hx hb dX1_findGains_43 ?_
    refine lv_iconst (v := 0) hx hb dX1_findGains_44 (by decide) ?_
    obtain ⟨i45, hres⟩ := gdi hres
    refine sX_gai hx hb hK hP hd hS i45 dX1_findGains_45 (fun H locs hP hS => ?_)
    refine lv_iload_n hx hb dX1_findGains_46 rfl (lv_at hl 2 rfl) ?_
    refine lv_iconst (v := 1) hx hb dX1_findGains_47 (by decide) ?_
    refine lv_isub hx hb dX1_findGains_48 ?_
    refine lv_istore_n (lv' := [(3, .int (x2 - (1 : Int32))), (0, .ref (a 17)), (1, .int x1), (2, .int x2)]) hx hb dX1_findGains_49 rfl hl (by decide) rfl (fun ls hl => ?_)
    exact b50  2000 (x2 - (1 : Int32)) (upd gai (x2 * (121 : Int32)).toNatClampNeg (0 : Int32)) hres _ _ _ hP hS (lv_sub hl [1, 2, 0] rfl)
  have b12 : ∀ (x2 : Int32) (n : Nat) (x3 : Int32) (gai : Nat → Int32), fix2 (fX1_findGains_l12 kin lea mos wrt tol x1 x2) n x3 gai = some res → ∀ (H : Heap) (locs : List Loc) (ls : Array Slot), va_P D vwCl (wX a cI cJ cS par kin lea mos wrt tal siz tol hrs ags yea kpar kkin klea kmos kwrt ktal ksiz ktol khrs kags kyea isk tly gai bes low hig spn byt hld sta beh sor num fnd sbi she snu) H → va_S (adA a 36 s.heap.size) s.heap H locs → lv_has ls 7 [(0, .ref (a 17)), (1, .int x1), (2, .int x2), (3, .int x3)] → W p l e rX1_findGains s m args below meth c H locs 0 0 Q (F0 m 12 ls []) := by
    intro x2
    refine fix2_r ?_
    intro K12 hK12 x3 gai hres H locs ls hP hS hl
    unfold fX1_findGains_l12 at hres
    refine lv_iload_n hx hb dX1_findGains_12 rfl (lv_at hl 3 rfl) ?_
    refine lv_iload_n hx hb dX1_findGains_13 rfl (lv_at hl 2 rfl) ?_
    refine lv_iconst (v := 1) hx hb dX1_findGains_14 (by decide) ?_
    refine lv_iadd hx hb dX1_findGains_15 ?_
    refine lv_bipush (v := 121) hx hb dX1_findGains_16 (by decide) ?_
    refine lv_imul hx hb dX1_findGains_18 ?_
    refine lv_icmp_ge (tgt := 36) hx hb dX1_findGains_19 (by decide) (fun c19 => ?_) (fun c19 => ?_)
    · have hres := (itl hres).1 c19
      exact b36 gai x2 hres _ _ _ hP hS (lv_sub hl [0, 1, 2] rfl)
    · have hres := (itl hres).2 c19
      refine lv_aload_n hx hb dX1_findGains_22 rfl (lv_at hl 0 rfl) ?_
      refine gX_sayo_gains hx hb hown hw1 hK hP u3 dX1_findGains_23 ?_
      refine lv_iload_n hx hb dX1_findGains_26 rfl (lv_at hl 3 rfl) ?_
      refine lv_ldc hx hb hown u4 dX1_findGains_27 ?_
      obtain ⟨i29, hres⟩ := gdi hres
      refine sX_gai hx hb hK hP hd hS i29 dX1_findGains_29 (fun H locs hP hS => ?_)
      refine lv_iinc (v := x3 + 1) (lv' := [(3, .int (x3 + 1)), (0, .ref (a 17)), (1, .int x1), (2, .int x2)]) hx hb dX1_findGains_30 hl (k := 3) rfl (congrArg (fun z => x3 + z) (by decide)) (by decide) rfl (fun ls hl => ?_)
      refine lv_goto (tgt := 12) hx hb dX1_findGains_33 (by decide) ?_
      exact hK12 (x3 + 1) (upd gai x3.toNatClampNeg (-1000000000 : Int32)) hres _ _ _ hP hS (lv_sub hl [1, 2, 3, 0] rfl)
  unfold fX1_findGains at hres
  refine lv_aload_n hx hb dX1_findGains_0 rfl (lv_at hl 0 rfl) ?_
  refine gX_sayo_stock hx hb hown hw1 hK hP u1 dX1_findGains_1 ?_
  refine gX_now_sizes hx hb hown hw3 hK hP u2 dX1_findGains_4 ?_
  refine lv_iload_n hx hb dX1_findGains_7 rfl (lv_at hl 1 rfl) ?_
  obtain ⟨i8, hres⟩ := gdi hres
  refine lX_siz hx hb hK hP i8 dX1_findGains_8 ?_
  refine lv_istore_n (lv' := [(2, .int (siz x1.toNatClampNeg)), (0, .ref (a 17)), (1, .int x1)]) hx hb dX1_findGains_9 rfl hl (by decide) rfl (fun ls hl => ?_)
  refine lv_iconst (v := 0) hx hb dX1_findGains_10 (by decide) ?_
  refine lv_istore_n (lv' := [(3, .int (0 : Int32)), (2, .int (siz x1.toNatClampNeg)), (0, .ref (a 17)), (1, .int x1)]) hx hb dX1_findGains_11 rfl hl (by decide) rfl (fun ls hl => ?_)
  exact b12 (siz x1.toNatClampNeg) 2000 (0 : Int32) gai hres _ _ _ hP hS (lv_sub hl [2, 3, 1, 0] rfl)
def fX1_firstBestLength_b115 (K33 : Int32 → Option (Int32)) (x7 : Int32) : Option (Int32) :=
  K33 (x7 + 1)
def fX1_firstBestLength_l33 (kin : Nat → Int32) (mos : Nat → Int32) (wrt : Nat → Int32) (gai : Nat → Int32) (x2 : Int32) (x3 : Int32) (x4 : Int32) (x5 : Int32) (x6 : Int32) (K33 : Int32 → Option (Int32)) (x7 : Int32) : Option (Int32) :=
  if (24 : Int32) < x7 then some (0 : Int32) else if x3 < x7 then some (0 : Int32) else if ((x5 >>> (x7 &&& 31)) &&& (1 : Int32)) = (1 : Int32) then gd (ib ((x6 + x3) - x7) 1331) (if (gai ((x6 + x3) - x7).toNatClampNeg) = (-1000000000 : Int32) then fX1_firstBestLength_b115 K33 x7 else gd (ib ((x6 + x3) - x7) 1331) ((fX3_valueOf kin mos wrt x4 x7).bind fun q94 => gd (ib ((x2 * (121 : Int32)) + x3) 1331) (if ((gai ((x6 + x3) - x7).toNatClampNeg) + q94) = (gai ((x2 * (121 : Int32)) + x3).toNatClampNeg) then some x7 else fX1_firstBestLength_b115 K33 x7))) else fX1_firstBestLength_b115 K33 x7
def fX1_firstBestLength (kin : Nat → Int32) (lea : Nat → Int32) (mos : Nat → Int32) (wrt : Nat → Int32) (tol : Nat → Int32) (gai : Nat → Int32) (x1 : Int32) (x2 : Int32) (x3 : Int32) : Option (Int32) :=
 (fX3_toldAt tol x1 x2).bind fun q6 => (fX3_lengthsOf kin lea mos q6).bind fun q17 => fix1 (fX1_firstBestLength_l33 kin mos wrt gai x2 x3 q6 q17 ((x2 + (1 : Int32)) * (121 : Int32))) 2000 (0 : Int32)
abbrev rX1_firstBestLength : Room := { frames := 2, cells := 0, slots := 0, locals := 44 }
set_option maxHeartbeats 4000000 in
set_option maxRecDepth 100000 in
theorem kX1_firstBestLength (l : Launch) (D : va_G) (a : Nat → Nat) (cI cJ cS : ClassId) (hd : aok a 36) {Env : (Nat → Prop) → State → Heap → Prop} (hEo : envOK Env) (par : Int32) (kin lea mos wrt : Nat → Int32) (tal : Int32) (siz tol : Nat → Int32) (hrs : Int32) (ags : Nat → Int32) (yea kpar : Int32) (kkin klea kmos kwrt : Nat → Int32) (ktal : Int32) (ksiz ktol : Nat → Int32) (khrs : Int32) (kags : Nat → Int32) (kyea isk : Int32) (tly : Nat → Int64) (gai bes : Nat → Int32) (low hig : Nat → Int64) (spn : Int32) (byt : Nat → Int32) (hld sta beh sor num : Int32) (fnd sbi she : Nat → Int32) (snu : Nat → Nat → Int64) (x1 : Int32) (x2 : Int32) (x3 : Int32) (res : Int32) (hres : fX1_firstBestLength kin lea mos wrt tol gai x1 x2 x3 = some res) : CtI l D (tyL cI cJ cS) 36 a Env yX1_firstBestLength wsX1_firstBestLength rX1_firstBestLength [.ref (a 17), .int x1, .int x2, .int x3] (wX a cI cJ cS par kin lea mos wrt tal siz tol hrs ags yea kpar kkin klea kmos kwrt ktal ksiz ktol khrs kags kyea isk tly gai bes low hig spn byt hld sta beh sor num fnd sbi she snu) (wX a cI cJ cS par kin lea mos wrt tal siz tol hrs ags yea kpar kkin klea kmos kwrt ktal ksiz ktol khrs kags kyea isk tly gai bes low hig spn byt hld sta beh sor num fnd sbi she snu) res := by
  refine CtI_mk (cc := cX1_firstBestLength) (maxL := 8) (ret := (some .int)) (by decide) rfl (Nat.le_of_ble_eq_true rfl) ?_
  intro p e s m args below meth c ls hx hb hr hlk hml hown hts hP hK hE hl
  have hS : va_S (adA a 36 s.heap.size) s.heap s.heap [] := va_S.rf
  have hl : lv_has ls 8 [(0, .ref (a 17)), (1, .int x1), (2, .int x2), (3, .int x3)] := hl
  have hown : s.vm.findClass RX1 = some m.cls := hown
  have hw1 : ∀ w ∈ wsX10, w.before args s = true := fun w h => hts w (List.mem_cons_of_mem _ (List.mem_append_left _ (List.mem_append_right _ h)))
  have u1 : (Cond.fieldLink RX1 32 "YearWords$Sayings" "stock" "LYearWords$Stock;").before args s = true := hts _ (List.mem_of_getElem? (i := 1) (by decide +kernel))
  have u2 : (Cond.fieldLink RX1 15 "YearWords$Sayings" "gains" "[I").before args s = true := hts _ (List.mem_of_getElem? (i := 2) (by decide +kernel))
  have u3 : (Cond.constant RX1 79 (-1000000000)).before args s = true := hts _ (List.mem_of_getElem? (i := 3) (by decide +kernel))
  obtain ⟨Q, hQ⟩ : ∃ Q, Q = mqI below D 36 a args s (wX a cI cJ cS par kin lea mos wrt tal siz tol hrs ags yea kpar kkin klea kmos kwrt ktal ksiz ktol khrs kags kyea isk tly gai bes low hig spn byt hld sta beh sor num fnd sbi she snu) res := ⟨_, rfl⟩
  rw [← hQ]
  have b33 : ∀ (x4 : Int32) (x5 : Int32) (x6 : Int32) (n : Nat) (x7 : Int32), fix1 (fX1_firstBestLength_l33 kin mos wrt gai x2 x3 x4 x5 x6) n x7 = some res → ∀ (H : Heap) (locs : List Loc) (ls : Array Slot), va_P D vwCl (wX a cI cJ cS par kin lea mos wrt tal siz tol hrs ags yea kpar kkin klea kmos kwrt ktal ksiz ktol khrs kags kyea isk tly gai bes low hig spn byt hld sta beh sor num fnd sbi she snu) H → va_S (adA a 36 s.heap.size) s.heap H locs → lv_has ls 8 [(0, .ref (a 17)), (2, .int x2), (3, .int x3), (4, .int x4), (5, .int x5), (6, .int x6), (7, .int x7)] → W p l e rX1_firstBestLength s m args below meth c H locs 0 0 Q (F0 m 33 ls []) := by
    intro x4 x5 x6
    refine fix1_r ?_
    intro K33 hK33 x7 hres H locs ls hP hS hl
    have b115 : ∀ (x7 : Int32), fX1_firstBestLength_b115 K33 x7 = some res → ∀ (H : Heap) (locs : List Loc) (ls : Array Slot), va_P D vwCl (wX a cI cJ cS par kin lea mos wrt tal siz tol hrs ags yea kpar kkin klea kmos kwrt ktal ksiz ktol khrs kags kyea isk tly gai bes low hig spn byt hld sta beh sor num fnd sbi she snu) H → va_S (adA a 36 s.heap.size) s.heap H locs → lv_has ls 8 [(0, .ref (a 17)), (2, .int x2), (3, .int x3), (4, .int x4), (5, .int x5), (6, .int x6), (7, .int x7)] → W p l e rX1_firstBestLength s m args below meth c H locs 0 0 Q (F0 m 115 ls []) := by
      intro x7 hres H locs ls hP hS hl
      unfold fX1_firstBestLength_b115 at hres
      refine lv_iinc (v := x7 + 1) (lv' := [(7, .int (x7 + 1)), (0, .ref (a 17)), (2, .int x2), (3, .int x3), (4, .int x4), (5, .int x5), (6, .int x6)]) hx hb dX1_firstBestLength_115 hl (k := 6) rfl (congrArg (fun z => x7 + z) (by decide)) (by decide) rfl (fun ls hl => ?_)
      refine lv_goto (tgt := 33) hx hb dX1_firstBestLength_118 (by decide) ?_
      exact hK33 (x7 + 1) hres _ _ _ hP hS (lv_sub hl [1, 2, 3, 4, 5, 6, 0] rfl)
    unfold fX1_firstBestLength_l33 at hres
    refine lv_iload hx hb dX1_firstBestLength_33 (lv_at hl 6 rfl) ?_
    refine lv_bipush (v := 24) hx hb dX1_firstBestLength_35 (by decide) ?_
    refine lv_icmp_gt (tgt := 121) hx hb dX1_firstBestLength_37 (by decide) (fun c37 => ?_) (fun c37 => ?_)
    · have hres := (itl hres).1 c37
      refine lv_iconst (v := 0) hx hb dX1_firstBestLength_121 (by decide) ?_
      exact hQ ▸ rtI (v := (0 : Int32))  hx hb hr hlk hP hS (by rw [← (Option.some.inj hres)]) rfl dX1_firstBestLength_122
    · have hres := (itl hres).2 c37
      refine lv_iload hx hb dX1_firstBestLength_40 (lv_at hl 6 rfl) ?_
      refine lv_iload_n hx hb dX1_firstBestLength_42 rfl (lv_at hl 2 rfl) ?_
      refine lv_icmp_gt (tgt := 121) hx hb dX1_firstBestLength_43 (by decide) (fun c43 => ?_) (fun c43 => ?_)
      · have hres := (itl hres).1 c43
        refine lv_iconst (v := 0) hx hb dX1_firstBestLength_121 (by decide) ?_
        exact hQ ▸ rtI (v := (0 : Int32))  hx hb hr hlk hP hS (by rw [← (Option.some.inj hres)]) rfl dX1_firstBestLength_122
      · have hres := (itl hres).2 c43
        refine lv_iload hx hb dX1_firstBestLength_46 (lv_at hl 4 rfl) ?_
        refine lv_iload hx hb dX1_firstBestLength_48 (lv_at hl 6 rfl) ?_
        refine lv_ishr hx hb dX1_firstBestLength_50 ?_
        refine lv_iconst (v := 1) hx hb dX1_firstBestLength_51 (by decide) ?_
        refine lv_iand hx hb dX1_firstBestLength_52 ?_
        refine lv_iconst (v := 1) hx hb dX1_firstBestLength_53 (by decide) ?_
        refine lv_icmp_ne (tgt := 115) hx hb dX1_firstBestLength_54 (by decide) (fun c54 => ?_) (fun c54 => ?_)
        · have hres := (itl hres).2 c54
          exact b115 x7 hres _ _ _ hP hS (lv_sub hl [0, 1, 2, 3, 4, 5, 6] rfl)
        · have hres := (itl hres).1 c54
          refine lv_aload_n hx hb dX1_firstBestLength_57 rfl (lv_at hl 0 rfl) ?_
          refine gX_sayo_gains hx hb hown hw1 hK hP u2 dX1_firstBestLength_58 ?_
          refine lv_iload hx hb dX1_firstBestLength_61 (lv_at hl 5 rfl) ?_
          refine lv_iload_n hx hb dX1_firstBestLength_63 rfl (lv_at hl 2 rfl) ?_
          refine lv_iadd hx hb dX1_firstBestLength_64 ?_
          refine lv_iload hx hb dX1_firstBestLength_65 (lv_at hl 6 rfl) ?_
          refine lv_isub hx hb dX1_firstBestLength_67 ?_
          obtain ⟨i68, hres⟩ := gdi hres
          refine lX_gai hx hb hK hP i68 dX1_firstBestLength_68 ?_
          refine lv_ldc hx hb hown u3 dX1_firstBestLength_69 ?_
          refine lv_icmp_eq (tgt := 115) hx hb dX1_firstBestLength_71 (by decide) (fun c71 => ?_) (fun c71 => ?_)
          · have hres := (itl hres).1 c71
            exact b115 x7 hres _ _ _ hP hS (lv_sub hl [0, 1, 2, 3, 4, 5, 6] rfl)
          · have hres := (itl hres).2 c71
            refine lv_aload_n hx hb dX1_firstBestLength_74 rfl (lv_at hl 0 rfl) ?_
            refine gX_sayo_gains hx hb hown hw1 hK hP u2 dX1_firstBestLength_75 ?_
            refine lv_iload hx hb dX1_firstBestLength_78 (lv_at hl 5 rfl) ?_
            refine lv_iload_n hx hb dX1_firstBestLength_80 rfl (lv_at hl 2 rfl) ?_
            refine lv_iadd hx hb dX1_firstBestLength_81 ?_
            refine lv_iload hx hb dX1_firstBestLength_82 (lv_at hl 6 rfl) ?_
            refine lv_isub hx hb dX1_firstBestLength_84 ?_
            obtain ⟨i85, hres⟩ := gdi hres
            refine lX_gai hx hb hK hP i85 dX1_firstBestLength_85 ?_
            refine lv_aload_n hx hb dX1_firstBestLength_86 rfl (lv_at hl 0 rfl) ?_
            refine gX_sayo_stock hx hb hown hw1 hK hP u1 dX1_firstBestLength_87 ?_
            refine lv_iload hx hb dX1_firstBestLength_90 (lv_at hl 3 rfl) ?_
            refine lv_iload hx hb dX1_firstBestLength_92 (lv_at hl 6 rfl) ?_
            obtain ⟨q94, e94, hres⟩ := obd hres
            refine cvI (q0 := 1) (ci := 3) hx hb hml hown hts hEo hE hK hP hS (kX3_valueOf l D a cI cJ cS hd hEo par kin lea mos wrt tal siz tol hrs ags yea kpar kkin klea kmos kwrt ktal ksiz ktol khrs kags kyea isk tly gai bes low hig spn byt hld sta beh sor num fnd sbi she snu x4 x7 q94 e94) gX1_firstBestLength_X3_valueOf rfl hdX3_valueOf rfl rfl rfl ⟨rfl, rfl⟩ ⟨Nat.le_of_ble_eq_true rfl, Nat.le_of_ble_eq_true rfl⟩ ⟨Nat.zero_le _, Nat.zero_le _⟩ rfl hl.1 rfl (Nat.le_of_ble_eq_true rfl) dX1_firstBestLength_94 (fun H locs hP hS => ?_)
            refine lv_iadd hx hb dX1_firstBestLength_97 ?_
            refine lv_aload_n hx hb dX1_firstBestLength_98 rfl (lv_at hl 0 rfl) ?_
            refine gX_sayo_gains hx hb hown hw1 hK hP u2 dX1_firstBestLength_99 ?_
            refine lv_iload_n hx hb dX1_firstBestLength_102 rfl (lv_at hl 1 rfl) ?_
            refine lv_bipush (v := 121) hx hb dX1_firstBestLength_103 (by decide) ?_
            refine lv_imul hx hb dX1_firstBestLength_105 ?_
            refine lv_iload_n hx hb dX1_firstBestLength_106 rfl (lv_at hl 2 rfl) ?_
            refine lv_iadd hx hb dX1_firstBestLength_107 ?_
            obtain ⟨i108, hres⟩ := gdi hres
            refine lX_gai hx hb hK hP i108 dX1_firstBestLength_108 ?_
            refine lv_icmp_ne (tgt := 115) hx hb dX1_firstBestLength_109 (by decide) (fun c109 => ?_) (fun c109 => ?_)
            · have hres := (itl hres).2 c109
              exact b115 x7 hres _ _ _ hP hS (lv_sub hl [0, 1, 2, 3, 4, 5, 6] rfl)
            · have hres := (itl hres).1 c109
              refine lv_iload hx hb dX1_firstBestLength_112 (lv_at hl 6 rfl) ?_
              exact hQ ▸ rtI (v := x7)  hx hb hr hlk hP hS (by rw [← (Option.some.inj hres)]) rfl dX1_firstBestLength_114
  unfold fX1_firstBestLength at hres
  refine lv_aload_n hx hb dX1_firstBestLength_0 rfl (lv_at hl 0 rfl) ?_
  refine gX_sayo_stock hx hb hown hw1 hK hP u1 dX1_firstBestLength_1 ?_
  refine lv_iload_n hx hb dX1_firstBestLength_4 rfl (lv_at hl 1 rfl) ?_
  refine lv_iload_n hx hb dX1_firstBestLength_5 rfl (lv_at hl 2 rfl) ?_
  obtain ⟨q6, e6, hres⟩ := obd hres
  refine cvI (q0 := 1) (ci := 3) hx hb hml hown hts hEo hE hK hP hS (kX3_toldAt l D a cI cJ cS hd hEo par kin lea mos wrt tal siz tol hrs ags yea kpar kkin klea kmos kwrt ktal ksiz ktol khrs kags kyea isk tly gai bes low hig spn byt hld sta beh sor num fnd sbi she snu x1 x2 q6 e6) gX1_firstBestLength_X3_toldAt rfl hdX3_toldAt rfl rfl rfl ⟨rfl, rfl⟩ ⟨Nat.le_of_ble_eq_true rfl, Nat.le_of_ble_eq_true rfl⟩ ⟨Nat.zero_le _, Nat.zero_le _⟩ rfl hl.1 rfl (Nat.le_of_ble_eq_true rfl) dX1_firstBestLength_6 (fun H locs hP hS => ?_)
  refine lv_istore (lv' := [(4, .int q6), (0, .ref (a 17)), (1, .int x1), (2, .int x2), (3, .int x3)]) hx hb dX1_firstBestLength_9 hl (by decide) rfl (fun ls hl => ?_)
  refine lv_aload_n hx hb dX1_firstBestLength_11 rfl (lv_at hl 1 rfl) ?_
  refine gX_sayo_stock hx hb hown hw1 hK hP u1 dX1_firstBestLength_12 ?_
  refine lv_iload hx hb dX1_firstBestLength_15 (lv_at hl 0 rfl) ?_
  obtain ⟨q17, e17, hres⟩ := obd hres
  refine cvI (q0 := 1) (ci := 3) hx hb hml hown hts hEo hE hK hP hS (kX3_lengthsOf l D a cI cJ cS hd hEo par kin lea mos wrt tal siz tol hrs ags yea kpar kkin klea kmos kwrt ktal ksiz ktol khrs kags kyea isk tly gai bes low hig spn byt hld sta beh sor num fnd sbi she snu q6 q17 e17) gX1_firstBestLength_X3_lengthsOf rfl hdX3_lengthsOf rfl rfl rfl ⟨rfl, rfl⟩ ⟨Nat.le_of_ble_eq_true rfl, Nat.le_of_ble_eq_true rfl⟩ ⟨Nat.zero_le _, Nat.zero_le _⟩ rfl hl.1 rfl (Nat.le_of_ble_eq_true rfl) dX1_firstBestLength_17 (fun H locs hP hS => ?_)
  refine lv_istore (lv' := [(5, .int q17), (4, .int q6), (0, .ref (a 17)), (1, .int x1), (2, .int x2), (3, .int x3)]) hx hb dX1_firstBestLength_20 hl (by decide) rfl (fun ls hl => ?_)
  refine lv_iload_n hx hb dX1_firstBestLength_22 rfl (lv_at hl 4 rfl) ?_
  refine lv_iconst (v := 1) hx hb dX1_firstBestLength_23 (by decide) ?_
  refine lv_iadd hx hb dX1_firstBestLength_24 ?_
  refine lv_bipush (v := 121) hx hb dX1_firstBestLength_25 (by decide) ?_
  refine lv_imul hx hb dX1_firstBestLength_27 ?_
  refine lv_istore (lv' := [(6, .int ((x2 + (1 : Int32)) * (121 : Int32))), (5, .int q17), (4, .int q6), (0, .ref (a 17)), (1, .int x1), (2, .int x2), (3, .int x3)]) hx hb dX1_firstBestLength_28 hl (by decide) rfl (fun ls hl => ?_)
  refine lv_iconst (v := 0) hx hb dX1_firstBestLength_30 (by decide) ?_
  refine lv_istore (lv' := [(7, .int (0 : Int32)), (6, .int ((x2 + (1 : Int32)) * (121 : Int32))), (5, .int q17), (4, .int q6), (0, .ref (a 17)), (1, .int x1), (2, .int x2), (3, .int x3)]) hx hb dX1_firstBestLength_31 hl (by decide) rfl (fun ls hl => ?_)
  exact b33 q6 q17 ((x2 + (1 : Int32)) * (121 : Int32)) 2000 (0 : Int32) hres _ _ _ hP hS (lv_sub hl [4, 6, 7, 3, 2, 1, 0] rfl)
def fX1_findBest_l18 (kin : Nat → Int32) (lea : Nat → Int32) (mos : Nat → Int32) (wrt : Nat → Int32) (siz : Nat → Int32) (tol : Nat → Int32) (gai : Nat → Int32) (x1 : Int32) (x3 : Int32) (K18 : Int32 → Int32 → (Nat → Int32) → Option (Int32 × (Nat → Int32) × (Nat → Int32))) (x4 : Int32) (x5 : Int32) (bes : Nat → Int32) : Option (Int32 × (Nat → Int32) × (Nat → Int32)) :=
  gd (ib x1 8) (if (siz x1.toNatClampNeg) ≤ x5 then some (x3, gai, bes) else if x3 = (-1000000000 : Int32) then some (x3, gai, bes) else (fX1_firstBestLength kin lea mos wrt tol gai x1 x5 x4).bind fun q50 => gd (ib x5 10) (gd (ib x5 10) (K18 (x4 - ((upd bes x5.toNatClampNeg q50) x5.toNatClampNeg)) (x5 + 1) (upd bes x5.toNatClampNeg q50))))
def fX1_findBest (kin : Nat → Int32) (lea : Nat → Int32) (mos : Nat → Int32) (wrt : Nat → Int32) (siz : Nat → Int32) (tol : Nat → Int32) (gai : Nat → Int32) (bes : Nat → Int32) (x1 : Int32) (x2 : Int32) : Option (Int32 × (Nat → Int32) × (Nat → Int32)) :=
 (fX1_findGains kin lea mos wrt siz tol gai x1).bind fun q2 => gd (ib x2 1331) (fix3 (fX1_findBest_l18 kin lea mos wrt siz tol q2 x1 (q2 x2.toNatClampNeg)) 2000 x2 (0 : Int32) bes)
theorem hdX1_findGains : yX1_findGains.cls = RX1 ∧ yX1_findGains.cls ≠ "java/lang/invoke/MethodHandle" ∧ yX1_findGains.cls ≠ "java/lang/invoke/VarHandle" ∧ (parseMethodDescriptor yX1_findGains.desc).map (fun d => d.parameters.length) = some 1 := by decide +kernel
theorem hdX1_firstBestLength : yX1_firstBestLength.cls = RX1 ∧ yX1_firstBestLength.cls ≠ "java/lang/invoke/MethodHandle" ∧ yX1_firstBestLength.cls ≠ "java/lang/invoke/VarHandle" ∧ (parseMethodDescriptor yX1_firstBestLength.desc).map (fun d => d.parameters.length) = some 3 := by decide +kernel
abbrev rX1_findBest : Room := { frames := 3, cells := 0, slots := 0, locals := 71 }
set_option maxHeartbeats 4000000 in
set_option maxRecDepth 100000 in
theorem kX1_findBest (l : Launch) (D : va_G) (a : Nat → Nat) (cI cJ cS : ClassId) (hd : aok a 36) {Env : (Nat → Prop) → State → Heap → Prop} (hEo : envOK Env) (par : Int32) (kin lea mos wrt : Nat → Int32) (tal : Int32) (siz tol : Nat → Int32) (hrs : Int32) (ags : Nat → Int32) (yea kpar : Int32) (kkin klea kmos kwrt : Nat → Int32) (ktal : Int32) (ksiz ktol : Nat → Int32) (khrs : Int32) (kags : Nat → Int32) (kyea isk : Int32) (tly : Nat → Int64) (gai bes : Nat → Int32) (low hig : Nat → Int64) (spn : Int32) (byt : Nat → Int32) (hld sta beh sor num : Int32) (fnd sbi she : Nat → Int32) (snu : Nat → Nat → Int64) (x1 : Int32) (x2 : Int32) (res : Int32 × (Nat → Int32) × (Nat → Int32)) (hres : fX1_findBest kin lea mos wrt siz tol gai bes x1 x2 = some res) : CtI l D (tyL cI cJ cS) 36 a Env yX1_findBest wsX1_findBest rX1_findBest [.ref (a 17), .int x1, .int x2] (wX a cI cJ cS par kin lea mos wrt tal siz tol hrs ags yea kpar kkin klea kmos kwrt ktal ksiz ktol khrs kags kyea isk tly gai bes low hig spn byt hld sta beh sor num fnd sbi she snu) (wX a cI cJ cS par kin lea mos wrt tal siz tol hrs ags yea kpar kkin klea kmos kwrt ktal ksiz ktol khrs kags kyea isk tly res.2.1 res.2.2 low hig spn byt hld sta beh sor num fnd sbi she snu) res.1 := by
  refine CtI_mk (cc := cX1_findBest) (maxL := 6) (ret := (some .int)) (by decide) rfl (Nat.le_of_ble_eq_true rfl) ?_
  intro p e s m args below meth c ls hx hb hr hlk hml hown hts hP hK hE hl
  have hS : va_S (adA a 36 s.heap.size) s.heap s.heap [] := va_S.rf
  have hl : lv_has ls 6 [(0, .ref (a 17)), (1, .int x1), (2, .int x2)] := hl
  have hown : s.vm.findClass RX1 = some m.cls := hown
  have hw1 : ∀ w ∈ wsX10, w.before args s = true := fun w h => hts w (List.mem_cons_of_mem _ (List.mem_append_left _ (List.mem_append_right _ h)))
  have hw3 : ∀ w ∈ wsX30, w.before args s = true := fun w h => hts w (List.mem_cons_of_mem _ (List.mem_append_right _ h))
  have u1 : (Cond.fieldLink RX1 15 "YearWords$Sayings" "gains" "[I").before args s = true := hts _ (List.mem_of_getElem? (i := 1) (by decide +kernel))
  have u2 : (Cond.fieldLink RX1 32 "YearWords$Sayings" "stock" "LYearWords$Stock;").before args s = true := hts _ (List.mem_of_getElem? (i := 2) (by decide +kernel))
  have u3 : (Cond.fieldLink RX1 36 "YearWords$Stock" "sizes" "[I").before args s = true := hts _ (List.mem_of_getElem? (i := 3) (by decide +kernel))
  have u4 : (Cond.constant RX1 79 (-1000000000)).before args s = true := hts _ (List.mem_of_getElem? (i := 4) (by decide +kernel))
  have u5 : (Cond.fieldLink RX1 19 "YearWords$Sayings" "bestLengths" "[I").before args s = true := hts _ (List.mem_of_getElem? (i := 5) (by decide +kernel))
  obtain ⟨Q, hQ⟩ : ∃ Q, Q = mqI below D 36 a args s (wX a cI cJ cS par kin lea mos wrt tal siz tol hrs ags yea kpar kkin klea kmos kwrt ktal ksiz ktol khrs kags kyea isk tly res.2.1 res.2.2 low hig spn byt hld sta beh sor num fnd sbi she snu) res.1 := ⟨_, rfl⟩
  rw [← hQ]
  have b18 : ∀ (gai : Nat → Int32) (x3 : Int32) (n : Nat) (x4 : Int32) (x5 : Int32) (bes : Nat → Int32), fix3 (fX1_findBest_l18 kin lea mos wrt siz tol gai x1 x3) n x4 x5 bes = some res → ∀ (H : Heap) (locs : List Loc) (ls : Array Slot), va_P D vwCl (wX a cI cJ cS par kin lea mos wrt tal siz tol hrs ags yea kpar kkin klea kmos kwrt ktal ksiz ktol khrs kags kyea isk tly gai bes low hig spn byt hld sta beh sor num fnd sbi she snu) H → va_S (adA a 36 s.heap.size) s.heap H locs → lv_has ls 6 [(0, .ref (a 17)), (1, .int x1), (3, .int x3), (4, .int x4), (5, .int x5)] → W p l e rX1_findBest s m args below meth c H locs 0 0 Q (F0 m 18 ls []) := by
    intro gai x3
    refine fix3_r ?_
    intro K18 hK18 x4 x5 bes hres H locs ls hP hS hl
    unfold fX1_findBest_l18 at hres
    refine lv_iload hx hb dX1_findBest_18 (lv_at hl 4 rfl) ?_
    refine lv_aload_n hx hb dX1_findBest_20 rfl (lv_at hl 0 rfl) ?_
    refine gX_sayo_stock hx hb hown hw1 hK hP u2 dX1_findBest_21 ?_
    refine gX_now_sizes hx hb hown hw3 hK hP u3 dX1_findBest_24 ?_
    refine lv_iload_n hx hb dX1_findBest_27 rfl (lv_at hl 1 rfl) ?_
    obtain ⟨i28, hres⟩ := gdi hres
    refine lX_siz hx hb hK hP i28 dX1_findBest_28 ?_
    refine lv_icmp_ge (tgt := 72) hx hb dX1_findBest_29 (by decide) (fun c29 => ?_) (fun c29 => ?_)
    · have hres := (itl hres).1 c29
      refine lv_iload_n hx hb dX1_findBest_72 rfl (lv_at hl 2 rfl) ?_
      exact hQ ▸ rtI (v := x3)  hx hb hr hlk hP hS (by rw [← (Option.some.inj hres)]) (by rw [← (Option.some.inj hres)]) dX1_findBest_73
    · have hres := (itl hres).2 c29
      refine lv_iload_n hx hb dX1_findBest_32 rfl (lv_at hl 2 rfl) ?_
      refine lv_ldc hx hb hown u4 dX1_findBest_33 ?_
      refine lv_icmp_eq (tgt := 72) hx hb dX1_findBest_35 (by decide) (fun c35 => ?_) (fun c35 => ?_)
      · have hres := (itl hres).1 c35
        refine lv_iload_n hx hb dX1_findBest_72 rfl (lv_at hl 2 rfl) ?_
        exact hQ ▸ rtI (v := x3)  hx hb hr hlk hP hS (by rw [← (Option.some.inj hres)]) (by rw [← (Option.some.inj hres)]) dX1_findBest_73
      · have hres := (itl hres).2 c35
        refine lv_aload_n hx hb dX1_findBest_38 rfl (lv_at hl 0 rfl) ?_
        refine gX_sayo_bestLengths hx hb hown hw1 hK hP u5 dX1_findBest_39 ?_
        refine lv_iload hx hb dX1_findBest_42 (lv_at hl 4 rfl) ?_
        refine lv_aload_n hx hb dX1_findBest_44 rfl (lv_at hl 0 rfl) ?_
        refine lv_iload_n hx hb dX1_findBest_45 rfl (lv_at hl 1 rfl) ?_
        refine lv_iload hx hb dX1_findBest_46 (lv_at hl 4 rfl) ?_
        refine lv_iload hx hb dX1_findBest_48 (lv_at hl 3 rfl) ?_
        obtain ⟨q50, e50, hres⟩ := obd hres
        refine cvI (q0 := 17) (ci := 1) hx hb hml hown hts hEo hE hK hP hS (kX1_firstBestLength l D a cI cJ cS hd hEo par kin lea mos wrt tal siz tol hrs ags yea kpar kkin klea kmos kwrt ktal ksiz ktol khrs kags kyea isk tly gai bes low hig spn byt hld sta beh sor num fnd sbi she snu x1 x5 x4 q50 e50) gX1_findBest_X1_firstBestLength rfl hdX1_firstBestLength rfl rfl rfl ⟨rfl, rfl⟩ ⟨Nat.le_of_ble_eq_true rfl, Nat.le_of_ble_eq_true rfl⟩ ⟨Nat.zero_le _, Nat.zero_le _⟩ rfl hl.1 rfl (Nat.le_of_ble_eq_true rfl) dX1_findBest_50 (fun H locs hP hS => ?_)
        obtain ⟨i53, hres⟩ := gdi hres
        refine sX_bes hx hb hK hP hd hS i53 dX1_findBest_53 (fun H locs hP hS => ?_)
        refine lv_iload hx hb dX1_findBest_54 (lv_at hl 3 rfl) ?_
        refine lv_aload_n hx hb dX1_findBest_56 rfl (lv_at hl 0 rfl) ?_
        refine gX_sayo_bestLengths hx hb hown hw1 hK hP u5 dX1_findBest_57 ?_
        refine lv_iload hx hb dX1_findBest_60 (lv_at hl 4 rfl) ?_
        obtain ⟨i62, hres⟩ := gdi hres
        refine lX_bes hx hb hK hP i62 dX1_findBest_62 ?_
        refine lv_isub hx hb dX1_findBest_63 ?_
        refine lv_istore (lv' := [(4, .int (x4 - ((upd bes x5.toNatClampNeg q50) x5.toNatClampNeg))), (0, .ref (a 17)), (1, .int x1), (3, .int x3), (5, .int x5)]) hx hb dX1_findBest_64 hl (by decide) rfl (fun ls hl => ?_)
        refine lv_iinc (v := x5 + 1) (lv' := [(5, .int (x5 + 1)), (4, .int (x4 - ((upd bes x5.toNatClampNeg q50) x5.toNatClampNeg))), (0, .ref (a 17)), (1, .int x1), (3, .int x3)]) hx hb dX1_findBest_66 hl (k := 4) rfl (congrArg (fun z => x5 + z) (by decide)) (by decide) rfl (fun ls hl => ?_)
        refine lv_goto (tgt := 18) hx hb dX1_findBest_69 (by decide) ?_
        exact hK18 (x4 - ((upd bes x5.toNatClampNeg q50) x5.toNatClampNeg)) (x5 + 1) (upd bes x5.toNatClampNeg q50) hres _ _ _ hP hS (lv_sub hl [2, 3, 4, 1, 0] rfl)
  unfold fX1_findBest at hres
  refine lv_aload_n hx hb dX1_findBest_0 rfl (lv_at hl 0 rfl) ?_
  refine lv_iload_n hx hb dX1_findBest_1 rfl (lv_at hl 1 rfl) ?_
  obtain ⟨q2, e2, hres⟩ := obd hres
  refine cvV (q0 := 17) (ci := 1) hx hb hml hown hts hEo hE hK hP hS (kX1_findGains l D a cI cJ cS hd hEo par kin lea mos wrt tal siz tol hrs ags yea kpar kkin klea kmos kwrt ktal ksiz ktol khrs kags kyea isk tly gai bes low hig spn byt hld sta beh sor num fnd sbi she snu x1 q2 e2) gX1_findBest_X1_findGains rfl hdX1_findGains rfl rfl rfl ⟨rfl, rfl⟩ ⟨Nat.le_of_ble_eq_true rfl, Nat.le_of_ble_eq_true rfl⟩ ⟨Nat.zero_le _, Nat.zero_le _⟩ rfl hl.1 rfl (Nat.le_of_ble_eq_true rfl) dX1_findBest_2 (fun H locs hP hS => ?_)
  refine lv_aload_n hx hb dX1_findBest_5 rfl (lv_at hl 0 rfl) ?_
  refine gX_sayo_gains hx hb hown hw1 hK hP u1 dX1_findBest_6 ?_
  refine lv_iload_n hx hb dX1_findBest_9 rfl (lv_at hl 2 rfl) ?_
  obtain ⟨i10, hres⟩ := gdi hres
  refine lX_gai hx hb hK hP i10 dX1_findBest_10 ?_
  refine lv_istore_n (lv' := [(3, .int (q2 x2.toNatClampNeg)), (0, .ref (a 17)), (1, .int x1), (2, .int x2)]) hx hb dX1_findBest_11 rfl hl (by decide) rfl (fun ls hl => ?_)
  refine lv_iload_n hx hb dX1_findBest_12 rfl (lv_at hl 3 rfl) ?_
  refine lv_istore (lv' := [(4, .int x2), (3, .int (q2 x2.toNatClampNeg)), (0, .ref (a 17)), (1, .int x1), (2, .int x2)]) hx hb dX1_findBest_13 hl (by decide) rfl (fun ls hl => ?_)
  refine lv_iconst (v := 0) hx hb dX1_findBest_15 (by decide) ?_
  refine lv_istore (lv' := [(5, .int (0 : Int32)), (4, .int x2), (3, .int (q2 x2.toNatClampNeg)), (0, .ref (a 17)), (1, .int x1), (2, .int x2)]) hx hb dX1_findBest_16 hl (by decide) rfl (fun ls hl => ?_)
  exact b18 q2 (q2 x2.toNatClampNeg) 2000 x2 (0 : Int32) bes hres _ _ _ hP hS (lv_sub hl [3, 4, 2, 1, 0] rfl)
def fX1_richestWords_b42 (K13 : Int32 → Int32 → Int32 → Option (Int32 × (Nat → Int32))) (x2 : Int32) (x3 : Int32) (x4 : Int32) : Option (Int32 × (Nat → Int32)) :=
  K13 x2 x3 (x4 + 1)
def fX1_richestWords_l13 (gai : Nat → Int32) (K13 : Int32 → Int32 → Int32 → Option (Int32 × (Nat → Int32))) (x2 : Int32) (x3 : Int32) (x4 : Int32) : Option (Int32 × (Nat → Int32)) :=
  if (121 : Int32) ≤ x4 then some (x2, gai) else gd (ib x4 1331) (if (gai x4.toNatClampNeg) ≤ x3 then fX1_richestWords_b42 K13 x2 x3 x4 else gd (ib x4 1331) (fX1_richestWords_b42 K13 x4 (gai x4.toNatClampNeg) x4))
def fX1_richestWords (kin : Nat → Int32) (lea : Nat → Int32) (mos : Nat → Int32) (wrt : Nat → Int32) (siz : Nat → Int32) (tol : Nat → Int32) (gai : Nat → Int32) (x1 : Int32) : Option (Int32 × (Nat → Int32)) :=
 (fX1_findGains kin lea mos wrt siz tol gai x1).bind fun q2 => fix3 (fX1_richestWords_l13 q2) 2000 (-1 : Int32) (-1000000000 : Int32) (0 : Int32)
abbrev rX1_richestWords : Room := { frames := 3, cells := 0, slots := 0, locals := 70 }
set_option maxHeartbeats 4000000 in
set_option maxRecDepth 100000 in
theorem kX1_richestWords (l : Launch) (D : va_G) (a : Nat → Nat) (cI cJ cS : ClassId) (hd : aok a 36) {Env : (Nat → Prop) → State → Heap → Prop} (hEo : envOK Env) (par : Int32) (kin lea mos wrt : Nat → Int32) (tal : Int32) (siz tol : Nat → Int32) (hrs : Int32) (ags : Nat → Int32) (yea kpar : Int32) (kkin klea kmos kwrt : Nat → Int32) (ktal : Int32) (ksiz ktol : Nat → Int32) (khrs : Int32) (kags : Nat → Int32) (kyea isk : Int32) (tly : Nat → Int64) (gai bes : Nat → Int32) (low hig : Nat → Int64) (spn : Int32) (byt : Nat → Int32) (hld sta beh sor num : Int32) (fnd sbi she : Nat → Int32) (snu : Nat → Nat → Int64) (x1 : Int32) (res : Int32 × (Nat → Int32)) (hres : fX1_richestWords kin lea mos wrt siz tol gai x1 = some res) : CtI l D (tyL cI cJ cS) 36 a Env yX1_richestWords wsX1_richestWords rX1_richestWords [.ref (a 17), .int x1] (wX a cI cJ cS par kin lea mos wrt tal siz tol hrs ags yea kpar kkin klea kmos kwrt ktal ksiz ktol khrs kags kyea isk tly gai bes low hig spn byt hld sta beh sor num fnd sbi she snu) (wX a cI cJ cS par kin lea mos wrt tal siz tol hrs ags yea kpar kkin klea kmos kwrt ktal ksiz ktol khrs kags kyea isk tly res.2 bes low hig spn byt hld sta beh sor num fnd sbi she snu) res.1 := by
  refine CtI_mk (cc := cX1_richestWords) (maxL := 5) (ret := (some .int)) (by decide) rfl (Nat.le_of_ble_eq_true rfl) ?_
  intro p e s m args below meth c ls hx hb hr hlk hml hown hts hP hK hE hl
  have hS : va_S (adA a 36 s.heap.size) s.heap s.heap [] := va_S.rf
  have hl : lv_has ls 5 [(0, .ref (a 17)), (1, .int x1)] := hl
  have hown : s.vm.findClass RX1 = some m.cls := hown
  have hw1 : ∀ w ∈ wsX10, w.before args s = true := fun w h => hts w (List.mem_cons_of_mem _ (List.mem_append_left _ (List.mem_append_right _ h)))
  have u1 : (Cond.constant RX1 79 (-1000000000)).before args s = true := hts _ (List.mem_of_getElem? (i := 1) (by decide +kernel))
  have u2 : (Cond.fieldLink RX1 15 "YearWords$Sayings" "gains" "[I").before args s = true := hts _ (List.mem_of_getElem? (i := 2) (by decide +kernel))
  obtain ⟨Q, hQ⟩ : ∃ Q, Q = mqI below D 36 a args s (wX a cI cJ cS par kin lea mos wrt tal siz tol hrs ags yea kpar kkin klea kmos kwrt ktal ksiz ktol khrs kags kyea isk tly res.2 bes low hig spn byt hld sta beh sor num fnd sbi she snu) res.1 := ⟨_, rfl⟩
  rw [← hQ]
  have b13 : ∀ (gai : Nat → Int32) (n : Nat) (x2 : Int32) (x3 : Int32) (x4 : Int32), fix3 (fX1_richestWords_l13 gai) n x2 x3 x4 = some res → ∀ (H : Heap) (locs : List Loc) (ls : Array Slot), va_P D vwCl (wX a cI cJ cS par kin lea mos wrt tal siz tol hrs ags yea kpar kkin klea kmos kwrt ktal ksiz ktol khrs kags kyea isk tly gai bes low hig spn byt hld sta beh sor num fnd sbi she snu) H → va_S (adA a 36 s.heap.size) s.heap H locs → lv_has ls 5 [(0, .ref (a 17)), (2, .int x2), (3, .int x3), (4, .int x4)] → W p l e rX1_richestWords s m args below meth c H locs 0 0 Q (F0 m 13 ls []) := by
    intro gai
    refine fix3_r ?_
    intro K13 hK13 x2 x3 x4 hres H locs ls hP hS hl
    have b42 : ∀ (x2 : Int32) (x3 : Int32) (x4 : Int32), fX1_richestWords_b42 K13 x2 x3 x4 = some res → ∀ (H : Heap) (locs : List Loc) (ls : Array Slot), va_P D vwCl (wX a cI cJ cS par kin lea mos wrt tal siz tol hrs ags yea kpar kkin klea kmos kwrt ktal ksiz ktol khrs kags kyea isk tly gai bes low hig spn byt hld sta beh sor num fnd sbi she snu) H → va_S (adA a 36 s.heap.size) s.heap H locs → lv_has ls 5 [(0, .ref (a 17)), (2, .int x2), (3, .int x3), (4, .int x4)] → W p l e rX1_richestWords s m args below meth c H locs 0 0 Q (F0 m 42 ls []) := by
      intro x2 x3 x4 hres H locs ls hP hS hl
      unfold fX1_richestWords_b42 at hres
      refine lv_iinc (v := x4 + 1) (lv' := [(4, .int (x4 + 1)), (0, .ref (a 17)), (2, .int x2), (3, .int x3)]) hx hb dX1_richestWords_42 hl (k := 3) rfl (congrArg (fun z => x4 + z) (by decide)) (by decide) rfl (fun ls hl => ?_)
      refine lv_goto (tgt := 13) hx hb dX1_richestWords_45 (by decide) ?_
      exact hK13 x2 x3 (x4 + 1) hres _ _ _ hP hS (lv_sub hl [1, 2, 3, 0] rfl)
    unfold fX1_richestWords_l13 at hres
    refine lv_iload hx hb dX1_richestWords_13 (lv_at hl 3 rfl) ?_
    refine lv_bipush (v := 121) hx hb dX1_richestWords_15 (by decide) ?_
    refine lv_icmp_ge (tgt := 48) hx hb dX1_richestWords_17 (by decide) (fun c17 => ?_) (fun c17 => ?_)
    · have hres := (itl hres).1 c17
      refine lv_iload_n hx hb dX1_richestWords_48 rfl (lv_at hl 1 rfl) ?_
      exact hQ ▸ rtI (v := x2)  hx hb hr hlk hP hS (by rw [← (Option.some.inj hres)]) (by rw [← (Option.some.inj hres)]) dX1_richestWords_49
    · have hres := (itl hres).2 c17
      refine lv_aload_n hx hb dX1_richestWords_20 rfl (lv_at hl 0 rfl) ?_
      refine gX_sayo_gains hx hb hown hw1 hK hP u2 dX1_richestWords_21 ?_
      refine lv_iload hx hb dX1_richestWords_24 (lv_at hl 3 rfl) ?_
      obtain ⟨i26, hres⟩ := gdi hres
      refine lX_gai hx hb hK hP i26 dX1_richestWords_26 ?_
      refine lv_iload_n hx hb dX1_richestWords_27 rfl (lv_at hl 2 rfl) ?_
      refine lv_icmp_le (tgt := 42) hx hb dX1_richestWords_28 (by decide) (fun c28 => ?_) (fun c28 => ?_)
      · have hres := (itl hres).1 c28
        exact b42 x2 x3 x4 hres _ _ _ hP hS (lv_sub hl [0, 1, 2, 3] rfl)
      · have hres := (itl hres).2 c28
        refine lv_iload hx hb dX1_richestWords_31 (lv_at hl 3 rfl) ?_
        refine lv_istore_n (lv' := [(2, .int x4), (0, .ref (a 17)), (3, .int x3), (4, .int x4)]) hx hb dX1_richestWords_33 rfl hl (by decide) rfl (fun ls hl => ?_)
        refine lv_aload_n hx hb dX1_richestWords_34 rfl (lv_at hl 1 rfl) ?_
        refine gX_sayo_gains hx hb hown hw1 hK hP u2 dX1_richestWords_35 ?_
        refine lv_iload hx hb dX1_richestWords_38 (lv_at hl 3 rfl) ?_
        obtain ⟨i40, hres⟩ := gdi hres
        refine lX_gai hx hb hK hP i40 dX1_richestWords_40 ?_
        refine lv_istore_n (lv' := [(3, .int (gai x4.toNatClampNeg)), (2, .int x4), (0, .ref (a 17)), (4, .int x4)]) hx hb dX1_richestWords_41 rfl hl (by decide) rfl (fun ls hl => ?_)
        exact b42 x4 (gai x4.toNatClampNeg) x4 hres _ _ _ hP hS (lv_sub hl [2, 1, 0, 3] rfl)
  unfold fX1_richestWords at hres
  refine lv_aload_n hx hb dX1_richestWords_0 rfl (lv_at hl 0 rfl) ?_
  refine lv_iload_n hx hb dX1_richestWords_1 rfl (lv_at hl 1 rfl) ?_
  obtain ⟨q2, e2, hres⟩ := obd hres
  refine cvV (q0 := 17) (ci := 1) hx hb hml hown hts hEo hE hK hP hS (kX1_findGains l D a cI cJ cS hd hEo par kin lea mos wrt tal siz tol hrs ags yea kpar kkin klea kmos kwrt ktal ksiz ktol khrs kags kyea isk tly gai bes low hig spn byt hld sta beh sor num fnd sbi she snu x1 q2 e2) gX1_richestWords_X1_findGains rfl hdX1_findGains rfl rfl rfl ⟨rfl, rfl⟩ ⟨Nat.le_of_ble_eq_true rfl, Nat.le_of_ble_eq_true rfl⟩ ⟨Nat.zero_le _, Nat.zero_le _⟩ rfl hl.1 rfl (Nat.le_of_ble_eq_true rfl) dX1_richestWords_2 (fun H locs hP hS => ?_)
  refine lv_iconst (v := (-1)) hx hb dX1_richestWords_5 (by decide) ?_
  refine lv_istore_n (lv' := [(2, .int (-1 : Int32)), (0, .ref (a 17)), (1, .int x1)]) hx hb dX1_richestWords_6 rfl hl (by decide) rfl (fun ls hl => ?_)
  refine lv_ldc hx hb hown u1 dX1_richestWords_7 ?_
  refine lv_istore_n (lv' := [(3, .int (-1000000000 : Int32)), (2, .int (-1 : Int32)), (0, .ref (a 17)), (1, .int x1)]) hx hb dX1_richestWords_9 rfl hl (by decide) rfl (fun ls hl => ?_)
  refine lv_iconst (v := 0) hx hb dX1_richestWords_10 (by decide) ?_
  refine lv_istore (lv' := [(4, .int (0 : Int32)), (3, .int (-1000000000 : Int32)), (2, .int (-1 : Int32)), (0, .ref (a 17)), (1, .int x1)]) hx hb dX1_richestWords_11 hl (by decide) rfl (fun ls hl => ?_)
  exact b13 q2 2000 (-1 : Int32) (-1000000000 : Int32) (0 : Int32) hres _ _ _ hP hS (lv_sub hl [3, 2, 1, 0] rfl)
def fX1_understoodOfBest_b43 (K8 : Int32 → Int32 → Int32 → Option (Int32)) (x3 : Int32) (x4 : Int32) (x5 : Int32) : Option (Int32) :=
  K8 x3 x4 (x5 + 1)
def fX1_understoodOfBest_l8 (siz : Nat → Int32) (bes : Nat → Int32) (x1 : Int32) (x2 : Int32) (K8 : Int32 → Int32 → Int32 → Option (Int32)) (x3 : Int32) (x4 : Int32) (x5 : Int32) : Option (Int32) :=
  gd (ib x1 8) (if (siz x1.toNatClampNeg) ≤ x5 then some x3 else gd (ib x5 10) (if x2 < (x4 + (bes x5.toNatClampNeg)) then fX1_understoodOfBest_b43 K8 x3 (x4 + (bes x5.toNatClampNeg)) x5 else fX1_understoodOfBest_b43 K8 (x3 + 1) (x4 + (bes x5.toNatClampNeg)) x5))
def fX1_understoodOfBest (siz : Nat → Int32) (bes : Nat → Int32) (x1 : Int32) (x2 : Int32) : Option (Int32) :=
  fix3 (fX1_understoodOfBest_l8 siz bes x1 x2) 2000 (0 : Int32) (0 : Int32) (0 : Int32)
abbrev rX1_understoodOfBest : Room := { frames := 0, cells := 0, slots := 0, locals := 0 }
set_option maxHeartbeats 4000000 in
set_option maxRecDepth 100000 in
theorem kX1_understoodOfBest (l : Launch) (D : va_G) (a : Nat → Nat) (cI cJ cS : ClassId) (hd : aok a 36) {Env : (Nat → Prop) → State → Heap → Prop} (hEo : envOK Env) (par : Int32) (kin lea mos wrt : Nat → Int32) (tal : Int32) (siz tol : Nat → Int32) (hrs : Int32) (ags : Nat → Int32) (yea kpar : Int32) (kkin klea kmos kwrt : Nat → Int32) (ktal : Int32) (ksiz ktol : Nat → Int32) (khrs : Int32) (kags : Nat → Int32) (kyea isk : Int32) (tly : Nat → Int64) (gai bes : Nat → Int32) (low hig : Nat → Int64) (spn : Int32) (byt : Nat → Int32) (hld sta beh sor num : Int32) (fnd sbi she : Nat → Int32) (snu : Nat → Nat → Int64) (x1 : Int32) (x2 : Int32) (res : Int32) (hres : fX1_understoodOfBest siz bes x1 x2 = some res) : CtI l D (tyL cI cJ cS) 36 a Env yX1_understoodOfBest wsX1_understoodOfBest rX1_understoodOfBest [.ref (a 17), .int x1, .int x2] (wX a cI cJ cS par kin lea mos wrt tal siz tol hrs ags yea kpar kkin klea kmos kwrt ktal ksiz ktol khrs kags kyea isk tly gai bes low hig spn byt hld sta beh sor num fnd sbi she snu) (wX a cI cJ cS par kin lea mos wrt tal siz tol hrs ags yea kpar kkin klea kmos kwrt ktal ksiz ktol khrs kags kyea isk tly gai bes low hig spn byt hld sta beh sor num fnd sbi she snu) res := by
  refine CtI_mk (cc := cX1_understoodOfBest) (maxL := 6) (ret := (some .int)) (by decide) rfl (Nat.le_of_ble_eq_true rfl) ?_
  intro p e s m args below meth c ls hx hb hr hlk hml hown hts hP hK hE hl
  have hS : va_S (adA a 36 s.heap.size) s.heap s.heap [] := va_S.rf
  have hl : lv_has ls 6 [(0, .ref (a 17)), (1, .int x1), (2, .int x2)] := hl
  have hown : s.vm.findClass RX1 = some m.cls := hown
  have hw1 : ∀ w ∈ wsX10, w.before args s = true := fun w h => hts w (List.mem_cons_of_mem _ (List.mem_append_left _ (List.mem_append_right _ h)))
  have hw3 : ∀ w ∈ wsX30, w.before args s = true := fun w h => hts w (List.mem_cons_of_mem _ (List.mem_append_right _ h))
  have u1 : (Cond.fieldLink RX1 32 "YearWords$Sayings" "stock" "LYearWords$Stock;").before args s = true := hts _ (List.mem_of_getElem? (i := 1) (by decide +kernel))
  have u2 : (Cond.fieldLink RX1 36 "YearWords$Stock" "sizes" "[I").before args s = true := hts _ (List.mem_of_getElem? (i := 2) (by decide +kernel))
  have u3 : (Cond.fieldLink RX1 19 "YearWords$Sayings" "bestLengths" "[I").before args s = true := hts _ (List.mem_of_getElem? (i := 3) (by decide +kernel))
  obtain ⟨Q, hQ⟩ : ∃ Q, Q = mqI below D 36 a args s (wX a cI cJ cS par kin lea mos wrt tal siz tol hrs ags yea kpar kkin klea kmos kwrt ktal ksiz ktol khrs kags kyea isk tly gai bes low hig spn byt hld sta beh sor num fnd sbi she snu) res := ⟨_, rfl⟩
  rw [← hQ]
  have b8 : ∀  (n : Nat) (x3 : Int32) (x4 : Int32) (x5 : Int32), fix3 (fX1_understoodOfBest_l8 siz bes x1 x2) n x3 x4 x5 = some res → ∀ (H : Heap) (locs : List Loc) (ls : Array Slot), va_P D vwCl (wX a cI cJ cS par kin lea mos wrt tal siz tol hrs ags yea kpar kkin klea kmos kwrt ktal ksiz ktol khrs kags kyea isk tly gai bes low hig spn byt hld sta beh sor num fnd sbi she snu) H → va_S (adA a 36 s.heap.size) s.heap H locs → lv_has ls 6 [(0, .ref (a 17)), (1, .int x1), (2, .int x2), (3, .int x3), (4, .int x4), (5, .int x5)] → W p l e rX1_understoodOfBest s m args below meth c H locs 0 0 Q (F0 m 8 ls []) := by
    refine fix3_r ?_
    intro K8 hK8 x3 x4 x5 hres H locs ls hP hS hl
    have b43 : ∀ (x3 : Int32) (x4 : Int32) (x5 : Int32), fX1_understoodOfBest_b43 K8 x3 x4 x5 = some res → ∀ (H : Heap) (locs : List Loc) (ls : Array Slot), va_P D vwCl (wX a cI cJ cS par kin lea mos wrt tal siz tol hrs ags yea kpar kkin klea kmos kwrt ktal ksiz ktol khrs kags kyea isk tly gai bes low hig spn byt hld sta beh sor num fnd sbi she snu) H → va_S (adA a 36 s.heap.size) s.heap H locs → lv_has ls 6 [(0, .ref (a 17)), (1, .int x1), (2, .int x2), (3, .int x3), (4, .int x4), (5, .int x5)] → W p l e rX1_understoodOfBest s m args below meth c H locs 0 0 Q (F0 m 43 ls []) := by
      intro x3 x4 x5 hres H locs ls hP hS hl
      unfold fX1_understoodOfBest_b43 at hres
      refine lv_iinc (v := x5 + 1) (lv' := [(5, .int (x5 + 1)), (0, .ref (a 17)), (1, .int x1), (2, .int x2), (3, .int x3), (4, .int x4)]) hx hb dX1_understoodOfBest_43 hl (k := 5) rfl (congrArg (fun z => x5 + z) (by decide)) (by decide) rfl (fun ls hl => ?_)
      refine lv_goto (tgt := 8) hx hb dX1_understoodOfBest_46 (by decide) ?_
      exact hK8 x3 x4 (x5 + 1) hres _ _ _ hP hS (lv_sub hl [1, 2, 3, 4, 5, 0] rfl)
    unfold fX1_understoodOfBest_l8 at hres
    refine lv_iload hx hb dX1_understoodOfBest_8 (lv_at hl 5 rfl) ?_
    refine lv_aload_n hx hb dX1_understoodOfBest_10 rfl (lv_at hl 0 rfl) ?_
    refine gX_sayo_stock hx hb hown hw1 hK hP u1 dX1_understoodOfBest_11 ?_
    refine gX_now_sizes hx hb hown hw3 hK hP u2 dX1_understoodOfBest_14 ?_
    refine lv_iload_n hx hb dX1_understoodOfBest_17 rfl (lv_at hl 1 rfl) ?_
    obtain ⟨i18, hres⟩ := gdi hres
    refine lX_siz hx hb hK hP i18 dX1_understoodOfBest_18 ?_
    refine lv_icmp_ge (tgt := 49) hx hb dX1_understoodOfBest_19 (by decide) (fun c19 => ?_) (fun c19 => ?_)
    · have hres := (itl hres).1 c19
      refine lv_iload_n hx hb dX1_understoodOfBest_49 rfl (lv_at hl 3 rfl) ?_
      exact hQ ▸ rtI (v := x3)  hx hb hr hlk hP hS (by rw [← (Option.some.inj hres)]) rfl dX1_understoodOfBest_50
    · have hres := (itl hres).2 c19
      refine lv_iload hx hb dX1_understoodOfBest_22 (lv_at hl 4 rfl) ?_
      refine lv_aload_n hx hb dX1_understoodOfBest_24 rfl (lv_at hl 0 rfl) ?_
      refine gX_sayo_bestLengths hx hb hown hw1 hK hP u3 dX1_understoodOfBest_25 ?_
      refine lv_iload hx hb dX1_understoodOfBest_28 (lv_at hl 5 rfl) ?_
      obtain ⟨i30, hres⟩ := gdi hres
      refine lX_bes hx hb hK hP i30 dX1_understoodOfBest_30 ?_
      refine lv_iadd hx hb dX1_understoodOfBest_31 ?_
      refine lv_istore (lv' := [(4, .int (x4 + (bes x5.toNatClampNeg))), (0, .ref (a 17)), (1, .int x1), (2, .int x2), (3, .int x3), (5, .int x5)]) hx hb dX1_understoodOfBest_32 hl (by decide) rfl (fun ls hl => ?_)
      refine lv_iload hx hb dX1_understoodOfBest_34 (lv_at hl 0 rfl) ?_
      refine lv_iload_n hx hb dX1_understoodOfBest_36 rfl (lv_at hl 3 rfl) ?_
      refine lv_icmp_gt (tgt := 43) hx hb dX1_understoodOfBest_37 (by decide) (fun c37 => ?_) (fun c37 => ?_)
      · have hres := (itl hres).1 c37
        exact b43 x3 (x4 + (bes x5.toNatClampNeg)) x5 hres _ _ _ hP hS (lv_sub hl [1, 2, 3, 4, 0, 5] rfl)
      · have hres := (itl hres).2 c37
        refine lv_iinc (v := x3 + 1) (lv' := [(3, .int (x3 + 1)), (4, .int (x4 + (bes x5.toNatClampNeg))), (0, .ref (a 17)), (1, .int x1), (2, .int x2), (5, .int x5)]) hx hb dX1_understoodOfBest_40 hl (k := 4) rfl (congrArg (fun z => x3 + z) (by decide)) (by decide) rfl (fun ls hl => ?_)
        exact b43 (x3 + 1) (x4 + (bes x5.toNatClampNeg)) x5 hres _ _ _ hP hS (lv_sub hl [2, 3, 4, 0, 1, 5] rfl)
  unfold fX1_understoodOfBest at hres
  refine lv_iconst (v := 0) hx hb dX1_understoodOfBest_0 (by decide) ?_
  refine lv_istore_n (lv' := [(3, .int (0 : Int32)), (0, .ref (a 17)), (1, .int x1), (2, .int x2)]) hx hb dX1_understoodOfBest_1 rfl hl (by decide) rfl (fun ls hl => ?_)
  refine lv_iconst (v := 0) hx hb dX1_understoodOfBest_2 (by decide) ?_
  refine lv_istore (lv' := [(4, .int (0 : Int32)), (3, .int (0 : Int32)), (0, .ref (a 17)), (1, .int x1), (2, .int x2)]) hx hb dX1_understoodOfBest_3 hl (by decide) rfl (fun ls hl => ?_)
  refine lv_iconst (v := 0) hx hb dX1_understoodOfBest_5 (by decide) ?_
  refine lv_istore (lv' := [(5, .int (0 : Int32)), (4, .int (0 : Int32)), (3, .int (0 : Int32)), (0, .ref (a 17)), (1, .int x1), (2, .int x2)]) hx hb dX1_understoodOfBest_6 hl (by decide) rfl (fun ls hl => ?_)
  exact b8  2000 (0 : Int32) (0 : Int32) (0 : Int32) hres _ _ _ hP hS (lv_sub hl [3, 4, 5, 2, 1, 0] rfl)
def fX1_mostAhead_b43 (K6 : Int32 → Int32 → Option (Int32)) (x3 : Int32) (x4 : Int32) : Option (Int32) :=
  K6 x3 (x4 + 1)
def fX1_mostAhead_l6 (gai : Nat → Int32) (x1 : Int32) (x2 : Int32) (K6 : Int32 → Int32 → Option (Int32)) (x3 : Int32) (x4 : Int32) : Option (Int32) :=
  if x2 < x4 then some x3 else if (24 : Int32) < x4 then some x3 else if ((x1 >>> (x4 &&& 31)) &&& (1 : Int32)) = (1 : Int32) then gd (ib (x2 - x4) 1331) (fX1_mostAhead_b43 K6 (if x3 < (gai (x2 - x4).toNatClampNeg) then (gai (x2 - x4).toNatClampNeg) else x3) x4) else fX1_mostAhead_b43 K6 x3 x4
def fX1_mostAhead (gai : Nat → Int32) (x1 : Int32) (x2 : Int32) : Option (Int32) :=
  fix2 (fX1_mostAhead_l6 gai x1 x2) 2000 (-1000000000 : Int32) (0 : Int32)
abbrev rX1_mostAhead : Room := { frames := 1, cells := 0, slots := 0, locals := 23 }
set_option maxHeartbeats 4000000 in
set_option maxRecDepth 100000 in
theorem kX1_mostAhead (l : Launch) (D : va_G) (a : Nat → Nat) (cI cJ cS : ClassId) (hd : aok a 36) {Env : (Nat → Prop) → State → Heap → Prop} (hEo : envOK Env) (par : Int32) (kin lea mos wrt : Nat → Int32) (tal : Int32) (siz tol : Nat → Int32) (hrs : Int32) (ags : Nat → Int32) (yea kpar : Int32) (kkin klea kmos kwrt : Nat → Int32) (ktal : Int32) (ksiz ktol : Nat → Int32) (khrs : Int32) (kags : Nat → Int32) (kyea isk : Int32) (tly : Nat → Int64) (gai bes : Nat → Int32) (low hig : Nat → Int64) (spn : Int32) (byt : Nat → Int32) (hld sta beh sor num : Int32) (fnd sbi she : Nat → Int32) (snu : Nat → Nat → Int64) (x1 : Int32) (x2 : Int32) (res : Int32) (hres : fX1_mostAhead gai x1 x2 = some res) : CtI l D (tyL cI cJ cS) 36 a Env yX1_mostAhead wsX1_mostAhead rX1_mostAhead [.ref (a 17), .int x1, .int x2] (wX a cI cJ cS par kin lea mos wrt tal siz tol hrs ags yea kpar kkin klea kmos kwrt ktal ksiz ktol khrs kags kyea isk tly gai bes low hig spn byt hld sta beh sor num fnd sbi she snu) (wX a cI cJ cS par kin lea mos wrt tal siz tol hrs ags yea kpar kkin klea kmos kwrt ktal ksiz ktol khrs kags kyea isk tly gai bes low hig spn byt hld sta beh sor num fnd sbi she snu) res := by
  refine CtI_mk (cc := cX1_mostAhead) (maxL := 5) (ret := (some .int)) (by decide) rfl (Nat.le_of_ble_eq_true rfl) ?_
  intro p e s m args below meth c ls hx hb hr hlk hml hown hts hP hK hE hl
  have hS : va_S (adA a 36 s.heap.size) s.heap s.heap [] := va_S.rf
  have hl : lv_has ls 5 [(0, .ref (a 17)), (1, .int x1), (2, .int x2)] := hl
  have hown : s.vm.findClass RX1 = some m.cls := hown
  have hw1 : ∀ w ∈ wsX10, w.before args s = true := fun w h => hts w (List.mem_cons_of_mem _ (List.mem_append_right _ h))
  have u1 : (Cond.constant RX1 79 (-1000000000)).before args s = true := hts _ (List.mem_of_getElem? (i := 1) (by decide +kernel))
  have u2 : (Cond.fieldLink RX1 15 "YearWords$Sayings" "gains" "[I").before args s = true := hts _ (List.mem_of_getElem? (i := 2) (by decide +kernel))
  have u3 : (Cond.methodLink RX1 97 Lib.Math.max.name).before args s = true := hts _ (List.mem_of_getElem? (i := 3) (by decide +kernel))
  have u4 : (Cond.static Lib.Math.max.name).before args s = true := hts _ (List.mem_of_getElem? (i := 4) (by decide +kernel))
  have u5 : (Cond.initialized "java/lang/Math").before args s = true := hts _ (List.mem_of_getElem? (i := 5) (by decide +kernel))
  have u6 : (Cond.code Lib.Math.max.name Lib.Math.max.code 2 (some .int)).before args s = true := hts _ (List.mem_of_getElem? (i := 6) (by decide +kernel))
  obtain ⟨Q, hQ⟩ : ∃ Q, Q = mqI below D 36 a args s (wX a cI cJ cS par kin lea mos wrt tal siz tol hrs ags yea kpar kkin klea kmos kwrt ktal ksiz ktol khrs kags kyea isk tly gai bes low hig spn byt hld sta beh sor num fnd sbi she snu) res := ⟨_, rfl⟩
  rw [← hQ]
  have b6 : ∀  (n : Nat) (x3 : Int32) (x4 : Int32), fix2 (fX1_mostAhead_l6 gai x1 x2) n x3 x4 = some res → ∀ (H : Heap) (locs : List Loc) (ls : Array Slot), va_P D vwCl (wX a cI cJ cS par kin lea mos wrt tal siz tol hrs ags yea kpar kkin klea kmos kwrt ktal ksiz ktol khrs kags kyea isk tly gai bes low hig spn byt hld sta beh sor num fnd sbi she snu) H → va_S (adA a 36 s.heap.size) s.heap H locs → lv_has ls 5 [(0, .ref (a 17)), (1, .int x1), (2, .int x2), (3, .int x3), (4, .int x4)] → W p l e rX1_mostAhead s m args below meth c H locs 0 0 Q (F0 m 6 ls []) := by
    refine fix2_r ?_
    intro K6 hK6 x3 x4 hres H locs ls hP hS hl
    have b43 : ∀ (x3 : Int32) (x4 : Int32), fX1_mostAhead_b43 K6 x3 x4 = some res → ∀ (H : Heap) (locs : List Loc) (ls : Array Slot), va_P D vwCl (wX a cI cJ cS par kin lea mos wrt tal siz tol hrs ags yea kpar kkin klea kmos kwrt ktal ksiz ktol khrs kags kyea isk tly gai bes low hig spn byt hld sta beh sor num fnd sbi she snu) H → va_S (adA a 36 s.heap.size) s.heap H locs → lv_has ls 5 [(0, .ref (a 17)), (1, .int x1), (2, .int x2), (3, .int x3), (4, .int x4)] → W p l e rX1_mostAhead s m args below meth c H locs 0 0 Q (F0 m 43 ls []) := by
      intro x3 x4 hres H locs ls hP hS hl
      unfold fX1_mostAhead_b43 at hres
      refine lv_iinc (v := x4 + 1) (lv' := [(4, .int (x4 + 1)), (0, .ref (a 17)), (1, .int x1), (2, .int x2), (3, .int x3)]) hx hb dX1_mostAhead_43 hl (k := 4) rfl (congrArg (fun z => x4 + z) (by decide)) (by decide) rfl (fun ls hl => ?_)
      refine lv_goto (tgt := 6) hx hb dX1_mostAhead_46 (by decide) ?_
      exact hK6 x3 (x4 + 1) hres _ _ _ hP hS (lv_sub hl [1, 2, 3, 4, 0] rfl)
    unfold fX1_mostAhead_l6 at hres
    refine lv_iload hx hb dX1_mostAhead_6 (lv_at hl 4 rfl) ?_
    refine lv_iload_n hx hb dX1_mostAhead_8 rfl (lv_at hl 2 rfl) ?_
    refine lv_icmp_gt (tgt := 49) hx hb dX1_mostAhead_9 (by decide) (fun c9 => ?_) (fun c9 => ?_)
    · have hres := (itl hres).1 c9
      refine lv_iload_n hx hb dX1_mostAhead_49 rfl (lv_at hl 3 rfl) ?_
      exact hQ ▸ rtI (v := x3)  hx hb hr hlk hP hS (by rw [← (Option.some.inj hres)]) rfl dX1_mostAhead_50
    · have hres := (itl hres).2 c9
      refine lv_iload hx hb dX1_mostAhead_12 (lv_at hl 4 rfl) ?_
      refine lv_bipush (v := 24) hx hb dX1_mostAhead_14 (by decide) ?_
      refine lv_icmp_gt (tgt := 49) hx hb dX1_mostAhead_16 (by decide) (fun c16 => ?_) (fun c16 => ?_)
      · have hres := (itl hres).1 c16
        refine lv_iload_n hx hb dX1_mostAhead_49 rfl (lv_at hl 3 rfl) ?_
        exact hQ ▸ rtI (v := x3)  hx hb hr hlk hP hS (by rw [← (Option.some.inj hres)]) rfl dX1_mostAhead_50
      · have hres := (itl hres).2 c16
        refine lv_iload_n hx hb dX1_mostAhead_19 rfl (lv_at hl 1 rfl) ?_
        refine lv_iload hx hb dX1_mostAhead_20 (lv_at hl 4 rfl) ?_
        refine lv_ishr hx hb dX1_mostAhead_22 ?_
        refine lv_iconst (v := 1) hx hb dX1_mostAhead_23 (by decide) ?_
        refine lv_iand hx hb dX1_mostAhead_24 ?_
        refine lv_iconst (v := 1) hx hb dX1_mostAhead_25 (by decide) ?_
        refine lv_icmp_ne (tgt := 43) hx hb dX1_mostAhead_26 (by decide) (fun c26 => ?_) (fun c26 => ?_)
        · have hres := (itl hres).2 c26
          exact b43 x3 x4 hres _ _ _ hP hS (lv_sub hl [0, 1, 2, 3, 4] rfl)
        · have hres := (itl hres).1 c26
          refine lv_iload_n hx hb dX1_mostAhead_29 rfl (lv_at hl 3 rfl) ?_
          refine lv_aload_n hx hb dX1_mostAhead_30 rfl (lv_at hl 0 rfl) ?_
          refine gX_sayo_gains hx hb hown hw1 hK hP u2 dX1_mostAhead_31 ?_
          refine lv_iload_n hx hb dX1_mostAhead_34 rfl (lv_at hl 2 rfl) ?_
          refine lv_iload hx hb dX1_mostAhead_35 (lv_at hl 4 rfl) ?_
          refine lv_isub hx hb dX1_mostAhead_37 ?_
          obtain ⟨i38, hres⟩ := gdi hres
          refine lX_gai hx hb hK hP i38 dX1_mostAhead_38 ?_
          refine va_mmax hx hb (hml.trans hl.1.symm) hown u3 u4 u5 u6 (Nat.le_of_ble_eq_true rfl) (Nat.le_of_ble_eq_true rfl) (Nat.zero_le _) (Nat.zero_le _) dX1_mostAhead_39 ?_
          refine lv_istore_n (lv' := [(3, .int (if x3 < (gai (x2 - x4).toNatClampNeg) then (gai (x2 - x4).toNatClampNeg) else x3)), (0, .ref (a 17)), (1, .int x1), (2, .int x2), (4, .int x4)]) hx hb dX1_mostAhead_42 rfl hl (by decide) rfl (fun ls hl => ?_)
          exact b43 (if x3 < (gai (x2 - x4).toNatClampNeg) then (gai (x2 - x4).toNatClampNeg) else x3) x4 hres _ _ _ hP hS (lv_sub hl [1, 2, 3, 0, 4] rfl)
  unfold fX1_mostAhead at hres
  refine lv_ldc hx hb hown u1 dX1_mostAhead_0 ?_
  refine lv_istore_n (lv' := [(3, .int (-1000000000 : Int32)), (0, .ref (a 17)), (1, .int x1), (2, .int x2)]) hx hb dX1_mostAhead_2 rfl hl (by decide) rfl (fun ls hl => ?_)
  refine lv_iconst (v := 0) hx hb dX1_mostAhead_3 (by decide) ?_
  refine lv_istore (lv' := [(4, .int (0 : Int32)), (3, .int (-1000000000 : Int32)), (0, .ref (a 17)), (1, .int x1), (2, .int x2)]) hx hb dX1_mostAhead_4 hl (by decide) rfl (fun ls hl => ?_)
  exact b6  2000 (-1000000000 : Int32) (0 : Int32) hres _ _ _ hP hS (lv_sub hl [2, 3, 4, 1, 0] rfl)
def fX1_hearing_b44 (K5 : Int32 → Int32 → Option (Int32)) (x3 : Int32) (x4 : Int32) : Option (Int32) :=
  K5 x3 (x4 + 1)
def fX1_hearing_l5 (hrs : Int32) (ags : Nat → Int32) (x1 : Int32) (x2 : Int32) (K5 : Int32 → Int32 → Option (Int32)) (x3 : Int32) (x4 : Int32) : Option (Int32) :=
  if hrs ≤ x4 then some x3 else if ((x1 >>> (x4 &&& 31)) &&& (1 : Int32)) = (1 : Int32) then gd (ib x4 10) (if (ags x4.toNatClampNeg) < x2 then fX1_hearing_b44 K5 x3 x4 else fX1_hearing_b44 K5 (x3 + 1) x4) else fX1_hearing_b44 K5 x3 x4
def fX1_hearing (hrs : Int32) (ags : Nat → Int32) (x1 : Int32) (x2 : Int32) : Option (Int32) :=
  fix2 (fX1_hearing_l5 hrs ags x1 x2) 2000 (0 : Int32) (0 : Int32)
abbrev rX1_hearing : Room := { frames := 0, cells := 0, slots := 0, locals := 0 }
set_option maxHeartbeats 4000000 in
set_option maxRecDepth 100000 in
theorem kX1_hearing (l : Launch) (D : va_G) (a : Nat → Nat) (cI cJ cS : ClassId) (hd : aok a 36) {Env : (Nat → Prop) → State → Heap → Prop} (hEo : envOK Env) (par : Int32) (kin lea mos wrt : Nat → Int32) (tal : Int32) (siz tol : Nat → Int32) (hrs : Int32) (ags : Nat → Int32) (yea kpar : Int32) (kkin klea kmos kwrt : Nat → Int32) (ktal : Int32) (ksiz ktol : Nat → Int32) (khrs : Int32) (kags : Nat → Int32) (kyea isk : Int32) (tly : Nat → Int64) (gai bes : Nat → Int32) (low hig : Nat → Int64) (spn : Int32) (byt : Nat → Int32) (hld sta beh sor num : Int32) (fnd sbi she : Nat → Int32) (snu : Nat → Nat → Int64) (x1 : Int32) (x2 : Int32) (res : Int32) (hres : fX1_hearing hrs ags x1 x2 = some res) : CtI l D (tyL cI cJ cS) 36 a Env yX1_hearing wsX1_hearing rX1_hearing [.ref (a 17), .int x1, .int x2] (wX a cI cJ cS par kin lea mos wrt tal siz tol hrs ags yea kpar kkin klea kmos kwrt ktal ksiz ktol khrs kags kyea isk tly gai bes low hig spn byt hld sta beh sor num fnd sbi she snu) (wX a cI cJ cS par kin lea mos wrt tal siz tol hrs ags yea kpar kkin klea kmos kwrt ktal ksiz ktol khrs kags kyea isk tly gai bes low hig spn byt hld sta beh sor num fnd sbi she snu) res := by
  refine CtI_mk (cc := cX1_hearing) (maxL := 5) (ret := (some .int)) (by decide) rfl (Nat.le_of_ble_eq_true rfl) ?_
  intro p e s m args below meth c ls hx hb hr hlk hml hown hts hP hK hE hl
  have hS : va_S (adA a 36 s.heap.size) s.heap s.heap [] := va_S.rf
  have hl : lv_has ls 5 [(0, .ref (a 17)), (1, .int x1), (2, .int x2)] := hl
  have hown : s.vm.findClass RX1 = some m.cls := hown
  have hw1 : ∀ w ∈ wsX10, w.before args s = true := fun w h => hts w (List.mem_cons_of_mem _ (List.mem_append_left _ (List.mem_append_right _ h)))
  have hw3 : ∀ w ∈ wsX30, w.before args s = true := fun w h => hts w (List.mem_cons_of_mem _ (List.mem_append_right _ h))
  have u1 : (Cond.fieldLink RX1 32 "YearWords$Sayings" "stock" "LYearWords$Stock;").before args s = true := hts _ (List.mem_of_getElem? (i := 1) (by decide +kernel))
  have u2 : (Cond.fieldLink RX1 69 "YearWords$Stock" "hearers" "I").before args s = true := hts _ (List.mem_of_getElem? (i := 2) (by decide +kernel))
  have u3 : (Cond.fieldLink RX1 72 "YearWords$Stock" "ages" "[I").before args s = true := hts _ (List.mem_of_getElem? (i := 3) (by decide +kernel))
  obtain ⟨Q, hQ⟩ : ∃ Q, Q = mqI below D 36 a args s (wX a cI cJ cS par kin lea mos wrt tal siz tol hrs ags yea kpar kkin klea kmos kwrt ktal ksiz ktol khrs kags kyea isk tly gai bes low hig spn byt hld sta beh sor num fnd sbi she snu) res := ⟨_, rfl⟩
  rw [← hQ]
  have b5 : ∀  (n : Nat) (x3 : Int32) (x4 : Int32), fix2 (fX1_hearing_l5 hrs ags x1 x2) n x3 x4 = some res → ∀ (H : Heap) (locs : List Loc) (ls : Array Slot), va_P D vwCl (wX a cI cJ cS par kin lea mos wrt tal siz tol hrs ags yea kpar kkin klea kmos kwrt ktal ksiz ktol khrs kags kyea isk tly gai bes low hig spn byt hld sta beh sor num fnd sbi she snu) H → va_S (adA a 36 s.heap.size) s.heap H locs → lv_has ls 5 [(0, .ref (a 17)), (1, .int x1), (2, .int x2), (3, .int x3), (4, .int x4)] → W p l e rX1_hearing s m args below meth c H locs 0 0 Q (F0 m 5 ls []) := by
    refine fix2_r ?_
    intro K5 hK5 x3 x4 hres H locs ls hP hS hl
    have b44 : ∀ (x3 : Int32) (x4 : Int32), fX1_hearing_b44 K5 x3 x4 = some res → ∀ (H : Heap) (locs : List Loc) (ls : Array Slot), va_P D vwCl (wX a cI cJ cS par kin lea mos wrt tal siz tol hrs ags yea kpar kkin klea kmos kwrt ktal ksiz ktol khrs kags kyea isk tly gai bes low hig spn byt hld sta beh sor num fnd sbi she snu) H → va_S (adA a 36 s.heap.size) s.heap H locs → lv_has ls 5 [(0, .ref (a 17)), (1, .int x1), (2, .int x2), (3, .int x3), (4, .int x4)] → W p l e rX1_hearing s m args below meth c H locs 0 0 Q (F0 m 44 ls []) := by
      intro x3 x4 hres H locs ls hP hS hl
      unfold fX1_hearing_b44 at hres
      refine lv_iinc (v := x4 + 1) (lv' := [(4, .int (x4 + 1)), (0, .ref (a 17)), (1, .int x1), (2, .int x2), (3, .int x3)]) hx hb dX1_hearing_44 hl (k := 4) rfl (congrArg (fun z => x4 + z) (by decide)) (by decide) rfl (fun ls hl => ?_)
      refine lv_goto (tgt := 5) hx hb dX1_hearing_47 (by decide) ?_
      exact hK5 x3 (x4 + 1) hres _ _ _ hP hS (lv_sub hl [1, 2, 3, 4, 0] rfl)
    unfold fX1_hearing_l5 at hres
    refine lv_iload hx hb dX1_hearing_5 (lv_at hl 4 rfl) ?_
    refine lv_aload_n hx hb dX1_hearing_7 rfl (lv_at hl 0 rfl) ?_
    refine gX_sayo_stock hx hb hown hw1 hK hP u1 dX1_hearing_8 ?_
    refine gX_now_hearers hx hb hown hw3 hK hP u2 dX1_hearing_11 ?_
    refine lv_icmp_ge (tgt := 50) hx hb dX1_hearing_14 (by decide) (fun c14 => ?_) (fun c14 => ?_)
    · have hres := (itl hres).1 c14
      refine lv_iload_n hx hb dX1_hearing_50 rfl (lv_at hl 3 rfl) ?_
      exact hQ ▸ rtI (v := x3)  hx hb hr hlk hP hS (by rw [← (Option.some.inj hres)]) rfl dX1_hearing_51
    · have hres := (itl hres).2 c14
      refine lv_iload_n hx hb dX1_hearing_17 rfl (lv_at hl 1 rfl) ?_
      refine lv_iload hx hb dX1_hearing_18 (lv_at hl 4 rfl) ?_
      refine lv_ishr hx hb dX1_hearing_20 ?_
      refine lv_iconst (v := 1) hx hb dX1_hearing_21 (by decide) ?_
      refine lv_iand hx hb dX1_hearing_22 ?_
      refine lv_iconst (v := 1) hx hb dX1_hearing_23 (by decide) ?_
      refine lv_icmp_ne (tgt := 44) hx hb dX1_hearing_24 (by decide) (fun c24 => ?_) (fun c24 => ?_)
      · have hres := (itl hres).2 c24
        exact b44 x3 x4 hres _ _ _ hP hS (lv_sub hl [0, 1, 2, 3, 4] rfl)
      · have hres := (itl hres).1 c24
        refine lv_aload_n hx hb dX1_hearing_27 rfl (lv_at hl 0 rfl) ?_
        refine gX_sayo_stock hx hb hown hw1 hK hP u1 dX1_hearing_28 ?_
        refine gX_now_ages hx hb hown hw3 hK hP u3 dX1_hearing_31 ?_
        refine lv_iload hx hb dX1_hearing_34 (lv_at hl 4 rfl) ?_
        obtain ⟨i36, hres⟩ := gdi hres
        refine lX_ags hx hb hK hP i36 dX1_hearing_36 ?_
        refine lv_iload_n hx hb dX1_hearing_37 rfl (lv_at hl 2 rfl) ?_
        refine lv_icmp_lt (tgt := 44) hx hb dX1_hearing_38 (by decide) (fun c38 => ?_) (fun c38 => ?_)
        · have hres := (itl hres).1 c38
          exact b44 x3 x4 hres _ _ _ hP hS (lv_sub hl [0, 1, 2, 3, 4] rfl)
        · have hres := (itl hres).2 c38
          refine lv_iinc (v := x3 + 1) (lv' := [(3, .int (x3 + 1)), (0, .ref (a 17)), (1, .int x1), (2, .int x2), (4, .int x4)]) hx hb dX1_hearing_41 hl (k := 3) rfl (congrArg (fun z => x3 + z) (by decide)) (by decide) rfl (fun ls hl => ?_)
          exact b44 (x3 + 1) x4 hres _ _ _ hP hS (lv_sub hl [1, 2, 3, 0, 4] rfl)
  unfold fX1_hearing at hres
  refine lv_iconst (v := 0) hx hb dX1_hearing_0 (by decide) ?_
  refine lv_istore_n (lv' := [(3, .int (0 : Int32)), (0, .ref (a 17)), (1, .int x1), (2, .int x2)]) hx hb dX1_hearing_1 rfl hl (by decide) rfl (fun ls hl => ?_)
  refine lv_iconst (v := 0) hx hb dX1_hearing_2 (by decide) ?_
  refine lv_istore (lv' := [(4, .int (0 : Int32)), (3, .int (0 : Int32)), (0, .ref (a 17)), (1, .int x1), (2, .int x2)]) hx hb dX1_hearing_3 hl (by decide) rfl (fun ls hl => ?_)
  exact b5  2000 (0 : Int32) (0 : Int32) hres _ _ _ hP hS (lv_sub hl [2, 3, 4, 1, 0] rfl)
