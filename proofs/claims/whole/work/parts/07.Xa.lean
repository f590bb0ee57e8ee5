def fX0_byteAt (byt : Nat → Int32) (hld : Int32) (x1 : Int32) : Option (Int32) :=
  if x1 < 0 then some (-1 : Int32) else if hld ≤ x1 then some (-1 : Int32) else gd (ib x1 120) (some (byt x1.toNatClampNeg))
abbrev rX0_byteAt : Room := { frames := 0, cells := 0, slots := 0, locals := 0 }
set_option maxHeartbeats 4000000 in
set_option maxRecDepth 100000 in
theorem kX0_byteAt (l : Launch) (D : va_G) (a : Nat → Nat) (cI cJ cS : ClassId) (hd : aok a 36) {Env : (Nat → Prop) → State → Heap → Prop} (hEo : envOK Env) (par : Int32) (kin lea mos wrt : Nat → Int32) (tal : Int32) (siz tol : Nat → Int32) (hrs : Int32) (ags : Nat → Int32) (yea kpar : Int32) (kkin klea kmos kwrt : Nat → Int32) (ktal : Int32) (ksiz ktol : Nat → Int32) (khrs : Int32) (kags : Nat → Int32) (kyea isk : Int32) (tly : Nat → Int64) (gai bes : Nat → Int32) (low hig : Nat → Int64) (spn : Int32) (byt : Nat → Int32) (hld sta beh sor num : Int32) (fnd sbi she : Nat → Int32) (snu : Nat → Nat → Int64) (x1 : Int32) (res : Int32) (hres : fX0_byteAt byt hld x1 = some res) : CtI l D (tyL cI cJ cS) 36 a Env yX0_byteAt wsX0_byteAt rX0_byteAt [.ref (a 25), .int x1] (wX a cI cJ cS par kin lea mos wrt tal siz tol hrs ags yea kpar kkin klea kmos kwrt ktal ksiz ktol khrs kags kyea isk tly gai bes low hig spn byt hld sta beh sor num fnd sbi she snu) (wX a cI cJ cS par kin lea mos wrt tal siz tol hrs ags yea kpar kkin klea kmos kwrt ktal ksiz ktol khrs kags kyea isk tly gai bes low hig spn byt hld sta beh sor num fnd sbi she snu) res := by
  refine CtI_mk (cc := cX0_byteAt) (maxL := 2) (ret := (some .int)) (by decide) rfl (Nat.le_of_ble_eq_true rfl) ?_
  intro p e s m args below meth c ls hx hb hr hlk hml hown hts hP hK hE hl
  have hS : va_S (adA a 36 s.heap.size) s.heap s.heap [] := va_S.rf
  have hl : lv_has ls 2 [(0, .ref (a 25)), (1, .int x1)] := hl
  have hown : s.vm.findClass RX0 = some m.cls := hown
  have hw0 : ∀ w ∈ wsX00, w.before args s = true := fun w h => hts w (List.mem_cons_of_mem _ (List.mem_append_left _ (List.mem_append_right _ h)))
  have hw4 : ∀ w ∈ wsX40, w.before args s = true := fun w h => hts w (List.mem_cons_of_mem _ (List.mem_append_right _ h))
  have u1 : (Cond.fieldLink RX0 24 "YearWords$Reading" "tape" "LYearWords$Tape;").before args s = true := hts _ (List.mem_of_getElem? (i := 1) (by decide +kernel))
  have u2 : (Cond.fieldLink RX0 134 "YearWords$Tape" "held" "I").before args s = true := hts _ (List.mem_of_getElem? (i := 2) (by decide +kernel))
  have u3 : (Cond.fieldLink RX0 142 "YearWords$Tape" "bytes" "[I").before args s = true := hts _ (List.mem_of_getElem? (i := 3) (by decide +kernel))
  obtain ⟨Q, hQ⟩ : ∃ Q, Q = mqI below D 36 a args s (wX a cI cJ cS par kin lea mos wrt tal siz tol hrs ags yea kpar kkin klea kmos kwrt ktal ksiz ktol khrs kags kyea isk tly gai bes low hig spn byt hld sta beh sor num fnd sbi she snu) res := ⟨_, rfl⟩
  rw [← hQ]
  unfold fX0_byteAt at hres
  refine lv_iload_n hx hb dX0_byteAt_0 rfl (lv_at hl 1 rfl) ?_
  refine lv_if_lt (tgt := 27) hx hb dX0_byteAt_1 (by decide) (fun c1 => ?_) (fun c1 => ?_)
  · have hres := (itl hres).1 c1
    refine lv_iconst (v := (-1)) hx hb dX0_byteAt_27 (by decide) ?_
    exact hQ ▸ rtI (v := (-1 : Int32))  hx hb hr hlk hP hS (by rw [← (Option.some.inj hres)]) rfl dX0_byteAt_28
  · have hres := (itl hres).2 c1
    refine lv_iload_n hx hb dX0_byteAt_4 rfl (lv_at hl 1 rfl) ?_
    refine lv_aload_n hx hb dX0_byteAt_5 rfl (lv_at hl 0 rfl) ?_
    refine gX_rdg_tape hx hb hown hw0 hK hP u1 dX0_byteAt_6 ?_
    refine gX_tapo_held hx hb hown hw4 hK hP u2 dX0_byteAt_9 ?_
    refine lv_icmp_ge (tgt := 27) hx hb dX0_byteAt_12 (by decide) (fun c12 => ?_) (fun c12 => ?_)
    · have hres := (itl hres).1 c12
      refine lv_iconst (v := (-1)) hx hb dX0_byteAt_27 (by decide) ?_
      exact hQ ▸ rtI (v := (-1 : Int32))  hx hb hr hlk hP hS (by rw [← (Option.some.inj hres)]) rfl dX0_byteAt_28
    · have hres := (itl hres).2 c12
      refine lv_aload_n hx hb dX0_byteAt_15 rfl (lv_at hl 0 rfl) ?_
      refine gX_rdg_tape hx hb hown hw0 hK hP u1 dX0_byteAt_16 ?_
      refine gX_tapo_bytes hx hb hown hw4 hK hP u3 dX0_byteAt_19 ?_
      refine lv_iload_n hx hb dX0_byteAt_22 rfl (lv_at hl 1 rfl) ?_
      obtain ⟨i23, hres⟩ := gdi hres
      refine lX_byt hx hb hK hP i23 dX0_byteAt_23 ?_
      refine lv_goto (tgt := 28) hx hb dX0_byteAt_24 (by decide) ?_
      exact hQ ▸ rtI (v := byt x1.toNatClampNeg)  hx hb hr hlk hP hS (by rw [← (Option.some.inj hres)]) rfl dX0_byteAt_28
def fX0_sortOf_b34 (x0 : Int32) : Int32 :=
  if x0 = (59 : Int32) then (3 : Int32) else (4 : Int32)
def fX0_sortOf_b20 (x0 : Int32) : Int32 :=
  if x0 < (48 : Int32) then fX0_sortOf_b34 x0 else if (57 : Int32) < x0 then fX0_sortOf_b34 x0 else (2 : Int32)
def fX0_sortOf (x0 : Int32) : Int32 :=
  if 0 ≤ x0 then if x0 < (97 : Int32) then fX0_sortOf_b20 x0 else if (122 : Int32) < x0 then fX0_sortOf_b20 x0 else (1 : Int32) else (0 : Int32)
abbrev rX0_sortOf : Room := { frames := 0, cells := 0, slots := 0, locals := 0 }
set_option maxHeartbeats 4000000 in
set_option maxRecDepth 100000 in
theorem kX0_sortOf (l : Launch) (D : va_G) (a : Nat → Nat) (cI cJ cS : ClassId) (hd : aok a 36) {Env : (Nat → Prop) → State → Heap → Prop} (hEo : envOK Env) (par : Int32) (kin lea mos wrt : Nat → Int32) (tal : Int32) (siz tol : Nat → Int32) (hrs : Int32) (ags : Nat → Int32) (yea kpar : Int32) (kkin klea kmos kwrt : Nat → Int32) (ktal : Int32) (ksiz ktol : Nat → Int32) (khrs : Int32) (kags : Nat → Int32) (kyea isk : Int32) (tly : Nat → Int64) (gai bes : Nat → Int32) (low hig : Nat → Int64) (spn : Int32) (byt : Nat → Int32) (hld sta beh sor num : Int32) (fnd sbi she : Nat → Int32) (snu : Nat → Nat → Int64) (x0 : Int32) : CtI l D (tyL cI cJ cS) 36 a Env yX0_sortOf wsX0_sortOf rX0_sortOf [.int x0] (wX a cI cJ cS par kin lea mos wrt tal siz tol hrs ags yea kpar kkin klea kmos kwrt ktal ksiz ktol khrs kags kyea isk tly gai bes low hig spn byt hld sta beh sor num fnd sbi she snu) (wX a cI cJ cS par kin lea mos wrt tal siz tol hrs ags yea kpar kkin klea kmos kwrt ktal ksiz ktol khrs kags kyea isk tly gai bes low hig spn byt hld sta beh sor num fnd sbi she snu) (fX0_sortOf x0) := by
  generalize hres : fX0_sortOf x0 = res
  refine CtI_mk (cc := cX0_sortOf) (maxL := 1) (ret := (some .int)) (by decide) rfl (Nat.le_of_ble_eq_true rfl) ?_
  intro p e s m args below meth c ls hx hb hr hlk hml hown hts hP hK hE hl
  have hS : va_S (adA a 36 s.heap.size) s.heap s.heap [] := va_S.rf
  have hl : lv_has ls 1 [(0, .int x0)] := hl
  have hown : s.vm.findClass RX0 = some m.cls := hown
  obtain ⟨Q, hQ⟩ : ∃ Q, Q = mqI below D 36 a args s (wX a cI cJ cS par kin lea mos wrt tal siz tol hrs ags yea kpar kkin klea kmos kwrt ktal ksiz ktol khrs kags kyea isk tly gai bes low hig spn byt hld sta beh sor num fnd sbi she snu) res := ⟨_, rfl⟩
  rw [← hQ]
  have b34 : fX0_sortOf_b34 x0 = res → ∀ (H : Heap) (locs : List Loc) (ls : Array Slot), va_P D vwCl (wX a cI cJ cS par kin lea mos wrt tal siz tol hrs ags yea kpar kkin klea kmos kwrt ktal ksiz ktol khrs kags kyea isk tly gai bes low hig spn byt hld sta beh sor num fnd sbi she snu) H → va_S (adA a 36 s.heap.size) s.heap H locs → lv_has ls 1 [(0, .int x0)] → W p l e rX0_sortOf s m args below meth c H locs 0 0 Q (F0 m 34 ls []) := by
    intro  hres H locs ls hP hS hl
    unfold fX0_sortOf_b34 at hres
    refine lv_iload_n hx hb dX0_sortOf_34 rfl (lv_at hl 0 rfl) ?_
    refine lv_bipush (v := 59) hx hb dX0_sortOf_35 (by decide) ?_
    refine lv_icmp_ne (tgt := 44) hx hb dX0_sortOf_37 (by decide) (fun c37 => ?_) (fun c37 => ?_)
    · have hres := (itl hres).2 c37
      refine lv_iconst (v := 4) hx hb dX0_sortOf_44 (by decide) ?_
      exact hQ ▸ rtI (v := (4 : Int32))  hx hb hr hlk hP hS (by rw [← hres]) rfl dX0_sortOf_45
    · have hres := (itl hres).1 c37
      refine lv_iconst (v := 3) hx hb dX0_sortOf_40 (by decide) ?_
      refine lv_goto (tgt := 45) hx hb dX0_sortOf_41 (by decide) ?_
      exact hQ ▸ rtI (v := (3 : Int32))  hx hb hr hlk hP hS (by rw [← hres]) rfl dX0_sortOf_45
  have b20 : fX0_sortOf_b20 x0 = res → ∀ (H : Heap) (locs : List Loc) (ls : Array Slot), va_P D vwCl (wX a cI cJ cS par kin lea mos wrt tal siz tol hrs ags yea kpar kkin klea kmos kwrt ktal ksiz ktol khrs kags kyea isk tly gai bes low hig spn byt hld sta beh sor num fnd sbi she snu) H → va_S (adA a 36 s.heap.size) s.heap H locs → lv_has ls 1 [(0, .int x0)] → W p l e rX0_sortOf s m args below meth c H locs 0 0 Q (F0 m 20 ls []) := by
    intro  hres H locs ls hP hS hl
    unfold fX0_sortOf_b20 at hres
    refine lv_iload_n hx hb dX0_sortOf_20 rfl (lv_at hl 0 rfl) ?_
    refine lv_bipush (v := 48) hx hb dX0_sortOf_21 (by decide) ?_
    refine lv_icmp_lt (tgt := 34) hx hb dX0_sortOf_23 (by decide) (fun c23 => ?_) (fun c23 => ?_)
    · have hres := (itl hres).1 c23
      exact b34  hres _ _ _ hP hS (lv_sub hl [0] rfl)
    · have hres := (itl hres).2 c23
      refine lv_iload_n hx hb dX0_sortOf_26 rfl (lv_at hl 0 rfl) ?_
      refine lv_bipush (v := 57) hx hb dX0_sortOf_27 (by decide) ?_
      refine lv_icmp_gt (tgt := 34) hx hb dX0_sortOf_29 (by decide) (fun c29 => ?_) (fun c29 => ?_)
      · have hres := (itl hres).1 c29
        exact b34  hres _ _ _ hP hS (lv_sub hl [0] rfl)
      · have hres := (itl hres).2 c29
        refine lv_iconst (v := 2) hx hb dX0_sortOf_32 (by decide) ?_
        exact hQ ▸ rtI (v := (2 : Int32))  hx hb hr hlk hP hS (by rw [← hres]) rfl dX0_sortOf_33
  unfold fX0_sortOf at hres
  refine lv_iload_n hx hb dX0_sortOf_0 rfl (lv_at hl 0 rfl) ?_
  refine lv_if_ge (tgt := 6) hx hb dX0_sortOf_1 (by decide) (fun c1 => ?_) (fun c1 => ?_)
  · have hres := (itl hres).1 c1
    refine lv_iload_n hx hb dX0_sortOf_6 rfl (lv_at hl 0 rfl) ?_
    refine lv_bipush (v := 97) hx hb dX0_sortOf_7 (by decide) ?_
    refine lv_icmp_lt (tgt := 20) hx hb dX0_sortOf_9 (by decide) (fun c9 => ?_) (fun c9 => ?_)
    · have hres := (itl hres).1 c9
      exact b20  hres _ _ _ hP hS (lv_sub hl [0] rfl)
    · have hres := (itl hres).2 c9
      refine lv_iload_n hx hb dX0_sortOf_12 rfl (lv_at hl 0 rfl) ?_
      refine lv_bipush (v := 122) hx hb dX0_sortOf_13 (by decide) ?_
      refine lv_icmp_gt (tgt := 20) hx hb dX0_sortOf_15 (by decide) (fun c15 => ?_) (fun c15 => ?_)
      · have hres := (itl hres).1 c15
        exact b20  hres _ _ _ hP hS (lv_sub hl [0] rfl)
      · have hres := (itl hres).2 c15
        refine lv_iconst (v := 1) hx hb dX0_sortOf_18 (by decide) ?_
        exact hQ ▸ rtI (v := (1 : Int32))  hx hb hr hlk hP hS (by rw [← hres]) rfl dX0_sortOf_19
  · have hres := (itl hres).2 c1
    refine lv_iconst (v := 0) hx hb dX0_sortOf_4 (by decide) ?_
    exact hQ ▸ rtI (v := (0 : Int32))  hx hb hr hlk hP hS (by rw [← hres]) rfl dX0_sortOf_5
def fX0_step_l103 (byt : Nat → Int32) (hld : Int32) (sta : Int32) (sor : Int32) (K103 : Int32 → Option (Int32 × Int32 × Int32)) (beh : Int32) : Option (Int32 × Int32 × Int32) :=
  if hld ≤ beh then some (sta, beh, sor) else (fX0_byteAt byt hld beh).bind fun q122 => if (fX0_sortOf q122) = sor then K103 (beh + (1 : Int32)) else some (sta, beh, sor)
def fX0_step_b84 (byt : Nat → Int32) (hld : Int32) (sta : Int32) (beh : Int32) (sor : Int32) (z1 : Int32) : Option (Int32 × Int32 × Int32) :=
  if sor = (1 : Int32) then fix1 (fX0_step_l103 byt hld sta sor) 2000 z1 else if sor = (2 : Int32) then fix1 (fX0_step_l103 byt hld sta sor) 2000 z1 else some (sta, z1, sor)
def fX0_step_b48 (byt : Nat → Int32) (hld : Int32) (sta : Int32) (beh : Int32) (sor : Int32) : Option (Int32 × Int32 × Int32) :=
 (fX0_byteAt byt hld sta).bind fun q54 => if (fX0_sortOf q54) = 0 then fX0_step_b84 byt hld sta beh (fX0_sortOf q54) sta else fX0_step_b84 byt hld sta beh (fX0_sortOf q54) (sta + (1 : Int32))
def fX0_step_l8 (byt : Nat → Int32) (hld : Int32) (beh : Int32) (sor : Int32) (K8 : Int32 → Option (Int32 × Int32 × Int32)) (sta : Int32) : Option (Int32 × Int32 × Int32) :=
  if hld ≤ sta then fX0_step_b48 byt hld sta beh sor else (fX0_byteAt byt hld sta).bind fun q27 => if q27 = (32 : Int32) then K8 (sta + (1 : Int32)) else fX0_step_b48 byt hld sta beh sor
def fX0_step (byt : Nat → Int32) (hld : Int32) (sta : Int32) (beh : Int32) (sor : Int32) : Option (Int32 × Int32 × Int32) :=
  fix1 (fX0_step_l8 byt hld beh sor) 2000 beh
theorem hdX0_byteAt : yX0_byteAt.cls = RX0 ∧ yX0_byteAt.cls ≠ "java/lang/invoke/MethodHandle" ∧ yX0_byteAt.cls ≠ "java/lang/invoke/VarHandle" ∧ (parseMethodDescriptor yX0_byteAt.desc).map (fun d => d.parameters.length) = some 1 := by decide +kernel
theorem hdX0_sortOf : yX0_sortOf.cls ≠ "java/lang/invoke/MethodHandle" ∧ yX0_sortOf.cls ≠ "java/lang/invoke/VarHandle" ∧ (parseMethodDescriptor yX0_sortOf.desc).map (fun d => d.parameters.length) = some 1 := by decide +kernel
abbrev rX0_step : Room := { frames := 1, cells := 0, slots := 0, locals := 21 }
set_option maxHeartbeats 4000000 in
set_option maxRecDepth 100000 in
theorem kX0_step (l : Launch) (D : va_G) (a : Nat → Nat) (cI cJ cS : ClassId) (hd : aok a 36) {Env : (Nat → Prop) → State → Heap → Prop} (hEo : envOK Env) (par : Int32) (kin lea mos wrt : Nat → Int32) (tal : Int32) (siz tol : Nat → Int32) (hrs : Int32) (ags : Nat → Int32) (yea kpar : Int32) (kkin klea kmos kwrt : Nat → Int32) (ktal : Int32) (ksiz ktol : Nat → Int32) (khrs : Int32) (kags : Nat → Int32) (kyea isk : Int32) (tly : Nat → Int64) (gai bes : Nat → Int32) (low hig : Nat → Int64) (spn : Int32) (byt : Nat → Int32) (hld sta beh sor num : Int32) (fnd sbi she : Nat → Int32) (snu : Nat → Nat → Int64)  (res : Int32 × Int32 × Int32) (hres : fX0_step byt hld sta beh sor = some res) : CtV l D (tyL cI cJ cS) 36 a Env yX0_step wsX0_step rX0_step [.ref (a 25)] (wX a cI cJ cS par kin lea mos wrt tal siz tol hrs ags yea kpar kkin klea kmos kwrt ktal ksiz ktol khrs kags kyea isk tly gai bes low hig spn byt hld sta beh sor num fnd sbi she snu) (wX a cI cJ cS par kin lea mos wrt tal siz tol hrs ags yea kpar kkin klea kmos kwrt ktal ksiz ktol khrs kags kyea isk tly gai bes low hig spn byt hld res.1 res.2.1 res.2.2 num fnd sbi she snu) := by
  refine CtV_mk (cc := cX0_step) (maxL := 1) (ret := none) (by decide) rfl (Nat.le_of_ble_eq_true rfl) ?_
  intro p e s m args below meth c ls hx hb hr hlk hml hown hts hP hK hE hl
  have hS : va_S (adA a 36 s.heap.size) s.heap s.heap [] := va_S.rf
  have hl : lv_has ls 1 [(0, .ref (a 25))] := hl
  have hown : s.vm.findClass RX0 = some m.cls := hown
  have hw0 : ∀ w ∈ wsX00, w.before args s = true := fun w h => hts w (List.mem_cons_of_mem _ (List.mem_append_left _ (List.mem_append_right _ h)))
  have hw4 : ∀ w ∈ wsX40, w.before args s = true := fun w h => hts w (List.mem_cons_of_mem _ (List.mem_append_right _ h))
  have u1 : (Cond.fieldLink RX0 15 "YearWords$Reading" "behind" "I").before args s = true := hts _ (List.mem_of_getElem? (i := 1) (by decide +kernel))
  have u2 : (Cond.fieldLink RX0 9 "YearWords$Reading" "start" "I").before args s = true := hts _ (List.mem_of_getElem? (i := 2) (by decide +kernel))
  have u3 : (Cond.fieldLink RX0 24 "YearWords$Reading" "tape" "LYearWords$Tape;").before args s = true := hts _ (List.mem_of_getElem? (i := 3) (by decide +kernel))
  have u4 : (Cond.fieldLink RX0 134 "YearWords$Tape" "held" "I").before args s = true := hts _ (List.mem_of_getElem? (i := 4) (by decide +kernel))
  have u5 : (Cond.fieldLink RX0 18 "YearWords$Reading" "sort" "I").before args s = true := hts _ (List.mem_of_getElem? (i := 5) (by decide +kernel))
  obtain ⟨Q, hQ⟩ : ∃ Q, Q = mqV below D 36 a args s (wX a cI cJ cS par kin lea mos wrt tal siz tol hrs ags yea kpar kkin klea kmos kwrt ktal ksiz ktol khrs kags kyea isk tly gai bes low hig spn byt hld res.1 res.2.1 res.2.2 num fnd sbi she snu) := ⟨_, rfl⟩
  rw [← hQ]
  have b103 : ∀ (sta : Int32) (sor : Int32) (n : Nat) (beh : Int32), fix1 (fX0_step_l103 byt hld sta sor) n beh = some res → ∀ (H : Heap) (locs : List Loc) (ls : Array Slot), va_P D vwCl (wX a cI cJ cS par kin lea mos wrt tal siz tol hrs ags yea kpar kkin klea kmos kwrt ktal ksiz ktol khrs kags kyea isk tly gai bes low hig spn byt hld sta beh sor num fnd sbi she snu) H → va_S (adA a 36 s.heap.size) s.heap H locs → lv_has ls 1 [(0, .ref (a 25))] → W p l e rX0_step s m args below meth c H locs 0 0 Q (F0 m 103 ls []) := by
    intro sta sor
    refine fix1_r ?_
    intro K103 hK103 beh hres H locs ls hP hS hl
    unfold fX0_step_l103 at hres
    refine lv_aload_n hx hb dX0_step_103 rfl (lv_at hl 0 rfl) ?_
    refine gX_rdg_behind hx hb hown hw0 hK hP u1 dX0_step_104 ?_
    refine lv_aload_n hx hb dX0_step_107 rfl (lv_at hl 0 rfl) ?_
    refine gX_rdg_tape hx hb hown hw0 hK hP u3 dX0_step_108 ?_
    refine gX_tapo_held hx hb hown hw4 hK hP u4 dX0_step_111 ?_
    refine lv_icmp_ge (tgt := 148) hx hb dX0_step_114 (by decide) (fun c114 => ?_) (fun c114 => ?_)
    · have hres := (itl hres).1 c114
      exact hQ ▸ rtV hx hb hr hlk hP hS (by rw [← (Option.some.inj hres)]) dX0_step_148
    · have hres := (itl hres).2 c114
      refine lv_aload_n hx hb dX0_step_117 rfl (lv_at hl 0 rfl) ?_
      refine lv_aload_n hx hb dX0_step_118 rfl (lv_at hl 0 rfl) ?_
      refine gX_rdg_behind hx hb hown hw0 hK hP u1 dX0_step_119 ?_
      obtain ⟨q122, e122, hres⟩ := obd hres
      refine cvI (q0 := 25) (ci := 0) hx hb hml hown hts hEo hE hK hP hS (kX0_byteAt l D a cI cJ cS hd hEo par kin lea mos wrt tal siz tol hrs ags yea kpar kkin klea kmos kwrt ktal ksiz ktol khrs kags kyea isk tly gai bes low hig spn byt hld sta beh sor num fnd sbi she snu beh q122 e122) gX0_step_X0_byteAt rfl hdX0_byteAt rfl rfl rfl ⟨rfl, rfl⟩ ⟨Nat.le_of_ble_eq_true rfl, Nat.le_of_ble_eq_true rfl⟩ ⟨Nat.zero_le _, Nat.zero_le _⟩ rfl hl.1 rfl (Nat.le_of_ble_eq_true rfl) dX0_step_122 (fun H locs hP hS => ?_)
      refine csI hx hb hml hown hts hEo hE hK hP hS (kX0_sortOf l D a cI cJ cS hd hEo par kin lea mos wrt tal siz tol hrs ags yea kpar kkin klea kmos kwrt ktal ksiz ktol khrs kags kyea isk tly gai bes low hig spn byt hld sta beh sor num fnd sbi she snu q122) gX0_step_X0_sortOf rfl hdX0_sortOf ⟨rfl, rfl⟩ ⟨Nat.le_of_ble_eq_true rfl, Nat.le_of_ble_eq_true rfl⟩ ⟨Nat.zero_le _, Nat.zero_le _⟩ rfl hl.1 rfl (Nat.le_of_ble_eq_true rfl) dX0_step_125 (fun H locs hP hS => ?_)
      refine lv_aload_n hx hb dX0_step_128 rfl (lv_at hl 0 rfl) ?_
      refine gX_rdg_sort hx hb hown hw0 hK hP u5 dX0_step_129 ?_
      refine lv_icmp_ne (tgt := 148) hx hb dX0_step_132 (by decide) (fun c132 => ?_) (fun c132 => ?_)
      · have hres := (itl hres).2 c132
        exact hQ ▸ rtV hx hb hr hlk hP hS (by rw [← (Option.some.inj hres)]) dX0_step_148
      · have hres := (itl hres).1 c132
        refine lv_aload_n hx hb dX0_step_135 rfl (lv_at hl 0 rfl) ?_
        refine lv_dup hx hb dX0_step_136 rfl ?_
        refine gX_rdg_behind hx hb hown hw0 hK hP u1 dX0_step_137 ?_
        refine lv_iconst (v := 1) hx hb dX0_step_140 (by decide) ?_
        refine lv_iadd hx hb dX0_step_141 ?_
        refine pX_rdg_behind hx hb hown hw0 hK hP hd hS u1 dX0_step_142 (fun H locs hP hS => ?_)
        refine lv_goto (tgt := 103) hx hb dX0_step_145 (by decide) ?_
        exact hK103 (beh + (1 : Int32)) hres _ _ _ hP hS (lv_sub hl [0] rfl)
  have b84 : ∀ (sta : Int32) (beh : Int32) (sor : Int32) (z1 : Int32), fX0_step_b84 byt hld sta beh sor z1 = some res → ∀ (H : Heap) (locs : List Loc) (ls : Array Slot), va_P D vwCl (wX a cI cJ cS par kin lea mos wrt tal siz tol hrs ags yea kpar kkin klea kmos kwrt ktal ksiz ktol khrs kags kyea isk tly gai bes low hig spn byt hld sta beh sor num fnd sbi she snu) H → va_S (adA a 36 s.heap.size) s.heap H locs → lv_has ls 1 [(0, .ref (a 25))] → W p l e rX0_step s m args below meth c H locs 0 0 Q (F0 m 84 ls [.int z1, .ref (a 25)]) := by
    intro sta beh sor z1 hres H locs ls hP hS hl
    unfold fX0_step_b84 at hres
    refine pX_rdg_behind hx hb hown hw0 hK hP hd hS u1 dX0_step_84 (fun H locs hP hS => ?_)
    refine lv_aload_n hx hb dX0_step_87 rfl (lv_at hl 0 rfl) ?_
    refine gX_rdg_sort hx hb hown hw0 hK hP u5 dX0_step_88 ?_
    refine lv_iconst (v := 1) hx hb dX0_step_91 (by decide) ?_
    refine lv_icmp_eq (tgt := 103) hx hb dX0_step_92 (by decide) (fun c92 => ?_) (fun c92 => ?_)
    · have hres := (itl hres).1 c92
      exact b103 sta sor 2000 z1 hres _ _ _ hP hS (lv_sub hl [0] rfl)
    · have hres := (itl hres).2 c92
      refine lv_aload_n hx hb dX0_step_95 rfl (lv_at hl 0 rfl) ?_
      refine gX_rdg_sort hx hb hown hw0 hK hP u5 dX0_step_96 ?_
      refine lv_iconst (v := 2) hx hb dX0_step_99 (by decide) ?_
      refine lv_icmp_ne (tgt := 148) hx hb dX0_step_100 (by decide) (fun c100 => ?_) (fun c100 => ?_)
      · have hres := (itl hres).2 c100
        exact hQ ▸ rtV hx hb hr hlk hP hS (by rw [← (Option.some.inj hres)]) dX0_step_148
      · have hres := (itl hres).1 c100
        exact b103 sta sor 2000 z1 hres _ _ _ hP hS (lv_sub hl [0] rfl)
  have b48 : ∀ (sta : Int32) (beh : Int32) (sor : Int32), fX0_step_b48 byt hld sta beh sor = some res → ∀ (H : Heap) (locs : List Loc) (ls : Array Slot), va_P D vwCl (wX a cI cJ cS par kin lea mos wrt tal siz tol hrs ags yea kpar kkin klea kmos kwrt ktal ksiz ktol khrs kags kyea isk tly gai bes low hig spn byt hld sta beh sor num fnd sbi she snu) H → va_S (adA a 36 s.heap.size) s.heap H locs → lv_has ls 1 [(0, .ref (a 25))] → W p l e rX0_step s m args below meth c H locs 0 0 Q (F0 m 48 ls []) := by
    intro sta beh sor hres H locs ls hP hS hl
    unfold fX0_step_b48 at hres
    refine lv_aload_n hx hb dX0_step_48 rfl (lv_at hl 0 rfl) ?_
    refine lv_aload_n hx hb dX0_step_49 rfl (lv_at hl 0 rfl) ?_
    refine lv_aload_n hx hb dX0_step_50 rfl (lv_at hl 0 rfl) ?_
    refine gX_rdg_start hx hb hown hw0 hK hP u2 dX0_step_51 ?_
    obtain ⟨q54, e54, hres⟩ := obd hres
    refine cvI (q0 := 25) (ci := 0) hx hb hml hown hts hEo hE hK hP hS (kX0_byteAt l D a cI cJ cS hd hEo par kin lea mos wrt tal siz tol hrs ags yea kpar kkin klea kmos kwrt ktal ksiz ktol khrs kags kyea isk tly gai bes low hig spn byt hld sta beh sor num fnd sbi she snu sta q54 e54) gX0_step_X0_byteAt rfl hdX0_byteAt rfl rfl rfl ⟨rfl, rfl⟩ ⟨Nat.le_of_ble_eq_true rfl, Nat.le_of_ble_eq_true rfl⟩ ⟨Nat.zero_le _, Nat.zero_le _⟩ rfl hl.1 rfl (Nat.le_of_ble_eq_true rfl) dX0_step_54 (fun H locs hP hS => ?_)
    refine csI hx hb hml hown hts hEo hE hK hP hS (kX0_sortOf l D a cI cJ cS hd hEo par kin lea mos wrt tal siz tol hrs ags yea kpar kkin klea kmos kwrt ktal ksiz ktol khrs kags kyea isk tly gai bes low hig spn byt hld sta beh sor num fnd sbi she snu q54) gX0_step_X0_sortOf rfl hdX0_sortOf ⟨rfl, rfl⟩ ⟨Nat.le_of_ble_eq_true rfl, Nat.le_of_ble_eq_true rfl⟩ ⟨Nat.zero_le _, Nat.zero_le _⟩ rfl hl.1 rfl (Nat.le_of_ble_eq_true rfl) dX0_step_57 (fun H locs hP hS => ?_)
    refine pX_rdg_sort hx hb hown hw0 hK hP hd hS u5 dX0_step_60 (fun H locs hP hS => ?_)
    refine lv_aload_n hx hb dX0_step_63 rfl (lv_at hl 0 rfl) ?_
    refine lv_aload_n hx hb dX0_step_64 rfl (lv_at hl 0 rfl) ?_
    refine gX_rdg_sort hx hb hown hw0 hK hP u5 dX0_step_65 ?_
    refine lv_if_ne (tgt := 78) hx hb dX0_step_68 (by decide) (fun c68 => ?_) (fun c68 => ?_)
    · have hres := (itl hres).2 c68
      refine lv_aload_n hx hb dX0_step_78 rfl (lv_at hl 0 rfl) ?_
      refine gX_rdg_start hx hb hown hw0 hK hP u2 dX0_step_79 ?_
      refine lv_iconst (v := 1) hx hb dX0_step_82 (by decide) ?_
      refine lv_iadd hx hb dX0_step_83 ?_
      exact b84 sta beh (fX0_sortOf q54) (sta + (1 : Int32)) hres _ _ _ hP hS (lv_sub hl [0] rfl)
    · have hres := (itl hres).1 c68
      refine lv_aload_n hx hb dX0_step_71 rfl (lv_at hl 0 rfl) ?_
      refine gX_rdg_start hx hb hown hw0 hK hP u2 dX0_step_72 ?_
      refine lv_goto (tgt := 84) hx hb dX0_step_75 (by decide) ?_
      exact b84 sta beh (fX0_sortOf q54) sta hres _ _ _ hP hS (lv_sub hl [0] rfl)
  have b8 : ∀ (beh : Int32) (sor : Int32) (n : Nat) (sta : Int32), fix1 (fX0_step_l8 byt hld beh sor) n sta = some res → ∀ (H : Heap) (locs : List Loc) (ls : Array Slot), va_P D vwCl (wX a cI cJ cS par kin lea mos wrt tal siz tol hrs ags yea kpar kkin klea kmos kwrt ktal ksiz ktol khrs kags kyea isk tly gai bes low hig spn byt hld sta beh sor num fnd sbi she snu) H → va_S (adA a 36 s.heap.size) s.heap H locs → lv_has ls 1 [(0, .ref (a 25))] → W p l e rX0_step s m args below meth c H locs 0 0 Q (F0 m 8 ls []) := by
    intro beh sor
    refine fix1_r ?_
    intro K8 hK8 sta hres H locs ls hP hS hl
    unfold fX0_step_l8 at hres
    refine lv_aload_n hx hb dX0_step_8 rfl (lv_at hl 0 rfl) ?_
    refine gX_rdg_start hx hb hown hw0 hK hP u2 dX0_step_9 ?_
    refine lv_aload_n hx hb dX0_step_12 rfl (lv_at hl 0 rfl) ?_
    refine gX_rdg_tape hx hb hown hw0 hK hP u3 dX0_step_13 ?_
    refine gX_tapo_held hx hb hown hw4 hK hP u4 dX0_step_16 ?_
    refine lv_icmp_ge (tgt := 48) hx hb dX0_step_19 (by decide) (fun c19 => ?_) (fun c19 => ?_)
    · have hres := (itl hres).1 c19
      exact b48 sta beh sor hres _ _ _ hP hS (lv_sub hl [0] rfl)
    · have hres := (itl hres).2 c19
      refine lv_aload_n hx hb dX0_step_22 rfl (lv_at hl 0 rfl) ?_
      refine lv_aload_n hx hb dX0_step_23 rfl (lv_at hl 0 rfl) ?_
      refine gX_rdg_start hx hb hown hw0 hK hP u2 dX0_step_24 ?_
      obtain ⟨q27, e27, hres⟩ := obd hres
      refine cvI (q0 := 25) (ci := 0) hx hb hml hown hts hEo hE hK hP hS (kX0_byteAt l D a cI cJ cS hd hEo par kin lea mos wrt tal siz tol hrs ags yea kpar kkin klea kmos kwrt ktal ksiz ktol khrs kags kyea isk tly gai bes low hig spn byt hld sta beh sor num fnd sbi she snu sta q27 e27) gX0_step_X0_byteAt rfl hdX0_byteAt rfl rfl rfl ⟨rfl, rfl⟩ ⟨Nat.le_of_ble_eq_true rfl, Nat.le_of_ble_eq_true rfl⟩ ⟨Nat.zero_le _, Nat.zero_le _⟩ rfl hl.1 rfl (Nat.le_of_ble_eq_true rfl) dX0_step_27 (fun H locs hP hS => ?_)
      refine lv_bipush (v := 32) hx hb dX0_step_30 (by decide) ?_
      refine lv_icmp_ne (tgt := 48) hx hb dX0_step_32 (by decide) (fun c32 => ?_) (fun c32 => ?_)
      · have hres := (itl hres).2 c32
        exact b48 sta beh sor hres _ _ _ hP hS (lv_sub hl [0] rfl)
      · have hres := (itl hres).1 c32
        refine lv_aload_n hx hb dX0_step_35 rfl (lv_at hl 0 rfl) ?_
        refine lv_dup hx hb dX0_step_36 rfl ?_
        refine gX_rdg_start hx hb hown hw0 hK hP u2 dX0_step_37 ?_
        refine lv_iconst (v := 1) hx hb dX0_step_40 (by decide) ?_
        refine lv_iadd hx hb dX0_step_41 ?_
        refine pX_rdg_start hx hb hown hw0 hK hP hd hS u2 dX0_step_42 (fun H locs hP hS => ?_)
        refine lv_goto (tgt := 8) hx hb dX0_step_45 (by decide) ?_
        exact hK8 (sta + (1 : Int32)) hres _ _ _ hP hS (lv_sub hl [0] rfl)
  unfold fX0_step at hres
  refine lv_aload_n hx hb dX0_step_0 rfl (lv_at hl 0 rfl) ?_
  refine lv_aload_n hx hb dX0_step_1 rfl (lv_at hl 0 rfl) ?_
  refine gX_rdg_behind hx hb hown hw0 hK hP u1 dX0_step_2 ?_
  refine pX_rdg_start hx hb hown hw0 hK hP hd hS u2 dX0_step_5 (fun H locs hP hS => ?_)
  exact b8 beh sor 2000 beh hres _ _ _ hP hS (lv_sub hl [0] rfl)
def fX0_kindText (x0 : Int32) : Nat :=
  if x0 = 0 then 0 else if x0 = 1 then 1 else if x0 = 2 then 2 else if x0 = 3 then 3 else if x0 = 4 then 4 else 5
theorem hkX0_kindText (x0 : Int32) : fX0_kindText x0 < 11 := by
  unfold fX0_kindText
  repeat' split
  all_goals decide
abbrev rX0_kindText : Room := { frames := 0, cells := 0, slots := 0, locals := 0 }
set_option maxHeartbeats 4000000 in
set_option maxRecDepth 100000 in
theorem kX0_kindText (l : Launch) (D : va_G) (a : Nat → Nat) (cI cJ cS : ClassId) (hd : aok a 36) {Env : (Nat → Prop) → State → Heap → Prop} (hEo : envOK Env) (ut : Nat) (sa sb : Nat → Nat) (hEX : envX Env ut sa sb) (par : Int32) (kin lea mos wrt : Nat → Int32) (tal : Int32) (siz tol : Nat → Int32) (hrs : Int32) (ags : Nat → Int32) (yea kpar : Int32) (kkin klea kmos kwrt : Nat → Int32) (ktal : Int32) (ksiz ktol : Nat → Int32) (khrs : Int32) (kags : Nat → Int32) (kyea isk : Int32) (tly : Nat → Int64) (gai bes : Nat → Int32) (low hig : Nat → Int64) (spn : Int32) (byt : Nat → Int32) (hld sta beh sor num : Int32) (fnd sbi she : Nat → Int32) (snu : Nat → Nat → Int64) (x0 : Int32) : CtR l D (tyL cI cJ cS) 36 a Env yX0_kindText wsX0_kindText rX0_kindText [.int x0] (wX a cI cJ cS par kin lea mos wrt tal siz tol hrs ags yea kpar kkin klea kmos kwrt ktal ksiz ktol khrs kags kyea isk tly gai bes low hig spn byt hld sta beh sor num fnd sbi she snu) (wX a cI cJ cS par kin lea mos wrt tal siz tol hrs ags yea kpar kkin klea kmos kwrt ktal ksiz ktol khrs kags kyea isk tly gai bes low hig spn byt hld sta beh sor num fnd sbi she snu) (sa (fX0_kindText x0)) := by
  generalize hres : fX0_kindText x0 = res
  refine CtR_mk (cc := cX0_kindText) (maxL := 1) (ret := (some (.object "java/lang/String"))) (by decide) rfl (Nat.le_of_ble_eq_true rfl) ?_
  intro p e s m args below meth c ls hx hb hr hlk hml hown hts hP hK hE hl
  have hS : va_S (adA a 36 s.heap.size) s.heap s.heap [] := va_S.rf
  have hl : lv_has ls 1 [(0, .int x0)] := hl
  have hown : s.vm.findClass RX0 = some m.cls := hown
  obtain ⟨Q, hQ⟩ : ∃ Q, Q = mqR below D 36 a args s (wX a cI cJ cS par kin lea mos wrt tal siz tol hrs ags yea kpar kkin klea kmos kwrt ktal ksiz ktol khrs kags kyea isk tly gai bes low hig spn byt hld sta beh sor num fnd sbi she snu) (sa res) := ⟨_, rfl⟩
  rw [← hQ]
  unfold fX0_kindText at hres
  refine lv_iload_n hx hb dX0_kindText_0 rfl (lv_at hl 0 rfl) ?_
  by_cases v1_0 : x0 = 0
  · have hres := (itl hres).1 v1_0
    refine lv_tableIn (off := 35) (tgt := 36) hx hb dX0_kindText_1 (by rw [v1_0]; decide) (by rw [v1_0]; decide) (by rw [v1_0]; rfl) (by decide) ?_
    refine va_ldcS hx hb hown ((hEX.2.2.1 _ _ _ hE).1) dX0_kindText_36 ?_
    exact hQ ▸ rtR (v := sa 0) hx hb hr hlk hP hS (by rw [← hres]) rfl dX0_kindText_38
  · have hres := (itl hres).2 v1_0
    by_cases v1_1 : x0 = 1
    · have hres := (itl hres).1 v1_1
      refine lv_tableIn (off := 38) (tgt := 39) hx hb dX0_kindText_1 (by rw [v1_1]; decide) (by rw [v1_1]; decide) (by rw [v1_1]; rfl) (by decide) ?_
      refine va_ldcS hx hb hown ((hEX.2.2.1 _ _ _ hE).2.1) dX0_kindText_39 ?_
      exact hQ ▸ rtR (v := sa 1) hx hb hr hlk hP hS (by rw [← hres]) rfl dX0_kindText_41
    · have hres := (itl hres).2 v1_1
      by_cases v1_2 : x0 = 2
      · have hres := (itl hres).1 v1_2
        refine lv_tableIn (off := 41) (tgt := 42) hx hb dX0_kindText_1 (by rw [v1_2]; decide) (by rw [v1_2]; decide) (by rw [v1_2]; rfl) (by decide) ?_
        refine va_ldcS hx hb hown ((hEX.2.2.1 _ _ _ hE).2.2.1) dX0_kindText_42 ?_
        exact hQ ▸ rtR (v := sa 2) hx hb hr hlk hP hS (by rw [← hres]) rfl dX0_kindText_44
      · have hres := (itl hres).2 v1_2
        by_cases v1_3 : x0 = 3
        · have hres := (itl hres).1 v1_3
          refine lv_tableIn (off := 44) (tgt := 45) hx hb dX0_kindText_1 (by rw [v1_3]; decide) (by rw [v1_3]; decide) (by rw [v1_3]; rfl) (by decide) ?_
          refine va_ldcS hx hb hown ((hEX.2.2.1 _ _ _ hE).2.2.2.1) dX0_kindText_45 ?_
          exact hQ ▸ rtR (v := sa 3) hx hb hr hlk hP hS (by rw [← hres]) rfl dX0_kindText_47
        · have hres := (itl hres).2 v1_3
          by_cases v1_4 : x0 = 4
          · have hres := (itl hres).1 v1_4
            refine lv_tableIn (off := 47) (tgt := 48) hx hb dX0_kindText_1 (by rw [v1_4]; decide) (by rw [v1_4]; decide) (by rw [v1_4]; rfl) (by decide) ?_
            refine va_ldcS hx hb hown ((hEX.2.2.1 _ _ _ hE).2.2.2.2.1) dX0_kindText_48 ?_
            exact hQ ▸ rtR (v := sa 4) hx hb hr hlk hP hS (by rw [← hres]) rfl dX0_kindText_50
          · have hres := (itl hres).2 v1_4
            refine lv_tableOut (tgt := 51) hx hb dX0_kindText_1 (sw04 v1_0 v1_1 v1_2 v1_3 v1_4) (by decide) ?_
            refine va_ldcS hx hb hown ((hEX.2.2.1 _ _ _ hE).2.2.2.2.2.1) dX0_kindText_51 ?_
            exact hQ ▸ rtR (v := sa 5) hx hb hr hlk hP hS (by rw [← hres]) rfl dX0_kindText_53
def fX0_isText_l28 (byt : Nat → Int32) (hld : Int32) (sta : Int32) (x1 : Nat) (K28 : Int32 → Option (Bool)) (x2 : Int32) : Option (Bool) :=
  if (nI (strLen.getD x1 0)) ≤ x2 then some true else (fX0_byteAt byt hld (sta + x2)).bind fun q43 => gd (ib x2 (strLen.getD x1 0)) (if q43 = (strC x1 x2.toNatClampNeg) then K28 (x2 + 1) else some false)
def fX0_isText (byt : Nat → Int32) (hld : Int32) (sta : Int32) (beh : Int32) (sor : Int32) (x1 : Nat) : Option (Bool) :=
  if sor = (1 : Int32) then if (beh - sta) = (nI (strLen.getD x1 0)) then fix1 (fX0_isText_l28 byt hld sta x1) 2000 (0 : Int32) else some false else some false
abbrev rX0_isText : Room := { frames := 4, cells := 0, slots := 0, locals := 85 }
set_option maxHeartbeats 4000000 in
set_option maxRecDepth 100000 in
theorem kX0_isText (l : Launch) (D : va_G) (a : Nat → Nat) (cI cJ cS : ClassId) (hd : aok a 36) {Env : (Nat → Prop) → State → Heap → Prop} (hEo : envOK Env) (ut : Nat) (sa sb : Nat → Nat) (hEX : envX Env ut sa sb) (par : Int32) (kin lea mos wrt : Nat → Int32) (tal : Int32) (siz tol : Nat → Int32) (hrs : Int32) (ags : Nat → Int32) (yea kpar : Int32) (kkin klea kmos kwrt : Nat → Int32) (ktal : Int32) (ksiz ktol : Nat → Int32) (khrs : Int32) (kags : Nat → Int32) (kyea isk : Int32) (tly : Nat → Int64) (gai bes : Nat → Int32) (low hig : Nat → Int64) (spn : Int32) (byt : Nat → Int32) (hld sta beh sor num : Int32) (fnd sbi she : Nat → Int32) (snu : Nat → Nat → Int64) (x1 : Nat) (hi1 : x1 < 11) (res : Bool) (hres : fX0_isText byt hld sta beh sor x1 = some res) : CtI l D (tyL cI cJ cS) 36 a Env yX0_isText wsX0_isText rX0_isText [.ref (a 25), .ref (sa x1)] (wX a cI cJ cS par kin lea mos wrt tal siz tol hrs ags yea kpar kkin klea kmos kwrt ktal ksiz ktol khrs kags kyea isk tly gai bes low hig spn byt hld sta beh sor num fnd sbi she snu) (wX a cI cJ cS par kin lea mos wrt tal siz tol hrs ags yea kpar kkin klea kmos kwrt ktal ksiz ktol khrs kags kyea isk tly gai bes low hig spn byt hld sta beh sor num fnd sbi she snu) (bI res) := by
  refine CtI_mk (cc := cX0_isText) (maxL := 3) (ret := (some .boolean)) (by decide) rfl (Nat.le_of_ble_eq_true rfl) ?_
  intro p e s m args below meth c ls hx hb hr hlk hml hown hts hP hK hE hl
  have hS : va_S (adA a 36 s.heap.size) s.heap s.heap [] := va_S.rf
  have hl : lv_has ls 3 [(0, .ref (a 25)), (1, .ref (sa x1))] := hl
  have hown : s.vm.findClass RX0 = some m.cls := hown
  have hw0 : ∀ w ∈ wsX00, w.before args s = true := fun w h => hts w (List.mem_cons_of_mem _ (List.mem_append_left _ (List.mem_append_right _ h)))
  have u1 : (Cond.fieldLink RX0 18 "YearWords$Reading" "sort" "I").before args s = true := hts _ (List.mem_of_getElem? (i := 1) (by decide +kernel))
  have u2 : (Cond.fieldLink RX0 15 "YearWords$Reading" "behind" "I").before args s = true := hts _ (List.mem_of_getElem? (i := 2) (by decide +kernel))
  have u3 : (Cond.fieldLink RX0 9 "YearWords$Reading" "start" "I").before args s = true := hts _ (List.mem_of_getElem? (i := 3) (by decide +kernel))
  obtain ⟨Q, hQ⟩ : ∃ Q, Q = mqI below D 36 a args s (wX a cI cJ cS par kin lea mos wrt tal siz tol hrs ags yea kpar kkin klea kmos kwrt ktal ksiz ktol khrs kags kyea isk tly gai bes low hig spn byt hld sta beh sor num fnd sbi she snu) (bI res) := ⟨_, rfl⟩
  rw [← hQ]
  have b28 : ∀  (n : Nat) (x2 : Int32), fix1 (fX0_isText_l28 byt hld sta x1) n x2 = some res → x1 < 11 → ∀ (H : Heap) (locs : List Loc) (ls : Array Slot), va_P D vwCl (wX a cI cJ cS par kin lea mos wrt tal siz tol hrs ags yea kpar kkin klea kmos kwrt ktal ksiz ktol khrs kags kyea isk tly gai bes low hig spn byt hld sta beh sor num fnd sbi she snu) H → va_S (adA a 36 s.heap.size) s.heap H locs → lv_has ls 3 [(0, .ref (a 25)), (1, .ref (sa x1)), (2, .int x2)] → W p l e rX0_isText s m args below meth c H locs 0 0 Q (F0 m 28 ls []) := by
    refine fix1_r ?_
    intro K28 hK28 x2 hres hi1 H locs ls hP hS hl
    unfold fX0_isText_l28 at hres
    refine lv_iload_n hx hb dX0_isText_28 rfl (lv_at hl 2 rfl) ?_
    refine lv_aload_n hx hb dX0_isText_29 rfl (lv_at hl 1 rfl) ?_
    refine cwI_ (vk_recv (hEX.2.1 _ _ _ hE).1 hi1 hS) hx hb hml hown hts hEo hE hK hP hS (kJ0_length l D (tyL cI cJ cS) 36 a hEo (wX a cI cJ cS par kin lea mos wrt tal siz tol hrs ags yea kpar kkin klea kmos kwrt ktal ksiz ktol khrs kags kyea isk tly gai bes low hig spn byt hld sta beh sor num fnd sbi she snu) sa sb hEX.2.1 x1 hi1) gX0_isText_J0_length_8abf5 rfl hdJ0_length_8abf5 ⟨rfl, rfl⟩ ⟨Nat.le_of_ble_eq_true rfl, Nat.le_of_ble_eq_true rfl⟩ ⟨Nat.zero_le _, Nat.zero_le _⟩ rfl hl.1 rfl (Nat.le_of_ble_eq_true rfl) dX0_isText_30 (fun H locs hP hS => ?_)
    refine lv_icmp_ge (tgt := 62) hx hb dX0_isText_33 (by decide) (fun c33 => ?_) (fun c33 => ?_)
    · have hres := (itl hres).1 c33
      refine lv_iconst (v := 1) hx hb dX0_isText_62 (by decide) ?_
      exact hQ ▸ rtZ (v := true)  hx hb hr hlk hP hS (by rw [← (Option.some.inj hres)]) rfl dX0_isText_63
    · have hres := (itl hres).2 c33
      refine lv_aload_n hx hb dX0_isText_36 rfl (lv_at hl 0 rfl) ?_
      refine lv_aload_n hx hb dX0_isText_37 rfl (lv_at hl 0 rfl) ?_
      refine gX_rdg_start hx hb hown hw0 hK hP u3 dX0_isText_38 ?_
      refine lv_iload_n hx hb dX0_isText_41 rfl (lv_at hl 2 rfl) ?_
      refine lv_iadd hx hb dX0_isText_42 ?_
      obtain ⟨q43, e43, hres⟩ := obd hres
      refine cvI (q0 := 25) (ci := 0) hx hb hml hown hts hEo hE hK hP hS (kX0_byteAt l D a cI cJ cS hd hEo par kin lea mos wrt tal siz tol hrs ags yea kpar kkin klea kmos kwrt ktal ksiz ktol khrs kags kyea isk tly gai bes low hig spn byt hld sta beh sor num fnd sbi she snu (sta + x2) q43 e43) gX0_isText_X0_byteAt rfl hdX0_byteAt rfl rfl rfl ⟨rfl, rfl⟩ ⟨Nat.le_of_ble_eq_true rfl, Nat.le_of_ble_eq_true rfl⟩ ⟨Nat.zero_le _, Nat.zero_le _⟩ rfl hl.1 rfl (Nat.le_of_ble_eq_true rfl) dX0_isText_43 (fun H locs hP hS => ?_)
      refine lv_aload_n hx hb dX0_isText_46 rfl (lv_at hl 1 rfl) ?_
      refine lv_iload_n hx hb dX0_isText_47 rfl (lv_at hl 2 rfl) ?_
      obtain ⟨i48, hres⟩ := gdi hres
      refine cwI_ (vk_recv (hEX.2.1 _ _ _ hE).1 hi1 hS) hx hb hml hown hts hEo hE hK hP hS (kJ0_charAt l D (tyL cI cJ cS) 36 a hEo (wX a cI cJ cS par kin lea mos wrt tal siz tol hrs ags yea kpar kkin klea kmos kwrt ktal ksiz ktol khrs kags kyea isk tly gai bes low hig spn byt hld sta beh sor num fnd sbi she snu) sa sb hEX.2.1 x1 hi1 x2 i48) gX0_isText_J0_charAt_5068e rfl hdJ0_charAt_5068e ⟨rfl, rfl⟩ ⟨Nat.le_of_ble_eq_true rfl, Nat.le_of_ble_eq_true rfl⟩ ⟨Nat.zero_le _, Nat.zero_le _⟩ rfl hl.1 rfl (Nat.le_of_ble_eq_true rfl) dX0_isText_48 (fun H locs hP hS => ?_)
      refine lv_icmp_eq (tgt := 56) hx hb dX0_isText_51 (by decide) (fun c51 => ?_) (fun c51 => ?_)
      · have hres := (itl hres).1 c51
        refine lv_iinc (v := x2 + 1) (lv' := [(2, .int (x2 + 1)), (0, .ref (a 25)), (1, .ref (sa x1))]) hx hb dX0_isText_56 hl (k := 2) rfl (congrArg (fun z => x2 + z) (by decide)) (by decide) rfl (fun ls hl => ?_)
        refine lv_goto (tgt := 28) hx hb dX0_isText_59 (by decide) ?_
        exact hK28 (x2 + 1) hres hi1 _ _ _ hP hS (lv_sub hl [1, 2, 0] rfl)
      · have hres := (itl hres).2 c51
        refine lv_iconst (v := 0) hx hb dX0_isText_54 (by decide) ?_
        exact hQ ▸ rtZ (v := false)  hx hb hr hlk hP hS (by rw [← (Option.some.inj hres)]) rfl dX0_isText_55
  unfold fX0_isText at hres
  refine lv_aload_n hx hb dX0_isText_0 rfl (lv_at hl 0 rfl) ?_
  refine gX_rdg_sort hx hb hown hw0 hK hP u1 dX0_isText_1 ?_
  refine lv_iconst (v := 1) hx hb dX0_isText_4 (by decide) ?_
  refine lv_icmp_ne (tgt := 24) hx hb dX0_isText_5 (by decide) (fun c5 => ?_) (fun c5 => ?_)
  · have hres := (itl hres).2 c5
    refine lv_iconst (v := 0) hx hb dX0_isText_24 (by decide) ?_
    exact hQ ▸ rtZ (v := false)  hx hb hr hlk hP hS (by rw [← (Option.some.inj hres)]) rfl dX0_isText_25
  · have hres := (itl hres).1 c5
    refine lv_aload_n hx hb dX0_isText_8 rfl (lv_at hl 0 rfl) ?_
    refine gX_rdg_behind hx hb hown hw0 hK hP u2 dX0_isText_9 ?_
    refine lv_aload_n hx hb dX0_isText_12 rfl (lv_at hl 0 rfl) ?_
    refine gX_rdg_start hx hb hown hw0 hK hP u3 dX0_isText_13 ?_
    refine lv_isub hx hb dX0_isText_16 ?_
    refine lv_aload_n hx hb dX0_isText_17 rfl (lv_at hl 1 rfl) ?_
    refine cwI_ (vk_recv (hEX.2.1 _ _ _ hE).1 hi1 hS) hx hb hml hown hts hEo hE hK hP hS (kJ0_length l D (tyL cI cJ cS) 36 a hEo (wX a cI cJ cS par kin lea mos wrt tal siz tol hrs ags yea kpar kkin klea kmos kwrt ktal ksiz ktol khrs kags kyea isk tly gai bes low hig spn byt hld sta beh sor num fnd sbi she snu) sa sb hEX.2.1 x1 hi1) gX0_isText_J0_length_8abf5 rfl hdJ0_length_8abf5 ⟨rfl, rfl⟩ ⟨Nat.le_of_ble_eq_true rfl, Nat.le_of_ble_eq_true rfl⟩ ⟨Nat.zero_le _, Nat.zero_le _⟩ rfl hl.1 rfl (Nat.le_of_ble_eq_true rfl) dX0_isText_18 (fun H locs hP hS => ?_)
    refine lv_icmp_eq (tgt := 26) hx hb dX0_isText_21 (by decide) (fun c21 => ?_) (fun c21 => ?_)
    · have hres := (itl hres).1 c21
      refine lv_iconst (v := 0) hx hb dX0_isText_26 (by decide) ?_
      refine lv_istore_n (lv' := [(2, .int (0 : Int32)), (0, .ref (a 25)), (1, .ref (sa x1))]) hx hb dX0_isText_27 rfl hl (by decide) rfl (fun ls hl => ?_)
      exact b28  2000 (0 : Int32) hres hi1 _ _ _ hP hS (lv_sub hl [1, 2, 0] rfl)
    · have hres := (itl hres).2 c21
      refine lv_iconst (v := 0) hx hb dX0_isText_24 (by decide) ?_
      exact hQ ▸ rtZ (v := false)  hx hb hr hlk hP hS (by rw [← (Option.some.inj hres)]) rfl dX0_isText_25
def fX5_isIn (x0 : Int32) (x1 : Int32) (x2 : Int32) : Bool :=
  if x0 < x1 then false else if x2 < x0 then false else true
abbrev rX5_isIn : Room := { frames := 0, cells := 0, slots := 0, locals := 0 }
set_option maxHeartbeats 4000000 in
set_option maxRecDepth 100000 in
theorem kX5_isIn (l : Launch) (D : va_G) (a : Nat → Nat) (cI cJ cS : ClassId) (hd : aok a 36) {Env : (Nat → Prop) → State → Heap → Prop} (hEo : envOK Env) (par : Int32) (kin lea mos wrt : Nat → Int32) (tal : Int32) (siz tol : Nat → Int32) (hrs : Int32) (ags : Nat → Int32) (yea kpar : Int32) (kkin klea kmos kwrt : Nat → Int32) (ktal : Int32) (ksiz ktol : Nat → Int32) (khrs : Int32) (kags : Nat → Int32) (kyea isk : Int32) (tly : Nat → Int64) (gai bes : Nat → Int32) (low hig : Nat → Int64) (spn : Int32) (byt : Nat → Int32) (hld sta beh sor num : Int32) (fnd sbi she : Nat → Int32) (snu : Nat → Nat → Int64) (x0 : Int32) (x1 : Int32) (x2 : Int32) : CtI l D (tyL cI cJ cS) 36 a Env yX5_isIn wsX5_isIn rX5_isIn [.int x0, .int x1, .int x2] (wX a cI cJ cS par kin lea mos wrt tal siz tol hrs ags yea kpar kkin klea kmos kwrt ktal ksiz ktol khrs kags kyea isk tly gai bes low hig spn byt hld sta beh sor num fnd sbi she snu) (wX a cI cJ cS par kin lea mos wrt tal siz tol hrs ags yea kpar kkin klea kmos kwrt ktal ksiz ktol khrs kags kyea isk tly gai bes low hig spn byt hld sta beh sor num fnd sbi she snu) (bI (fX5_isIn x0 x1 x2)) := by
  generalize hres : fX5_isIn x0 x1 x2 = res
  refine CtI_mk (cc := cX5_isIn) (maxL := 3) (ret := (some .boolean)) (by decide) rfl (Nat.le_of_ble_eq_true rfl) ?_
  intro p e s m args below meth c ls hx hb hr hlk hml hown hts hP hK hE hl
  have hS : va_S (adA a 36 s.heap.size) s.heap s.heap [] := va_S.rf
  have hl : lv_has ls 3 [(0, .int x0), (1, .int x1), (2, .int x2)] := hl
  have hown : s.vm.findClass RX5 = some m.cls := hown
  obtain ⟨Q, hQ⟩ : ∃ Q, Q = mqI below D 36 a args s (wX a cI cJ cS par kin lea mos wrt tal siz tol hrs ags yea kpar kkin klea kmos kwrt ktal ksiz ktol khrs kags kyea isk tly gai bes low hig spn byt hld sta beh sor num fnd sbi she snu) (bI res) := ⟨_, rfl⟩
  rw [← hQ]
  unfold fX5_isIn at hres
  refine lv_iload_n hx hb dX5_isIn_0 rfl (lv_at hl 0 rfl) ?_
  refine lv_iload_n hx hb dX5_isIn_1 rfl (lv_at hl 1 rfl) ?_
  refine lv_icmp_lt (tgt := 14) hx hb dX5_isIn_2 (by decide) (fun c2 => ?_) (fun c2 => ?_)
  · have hres := (itl hres).1 c2
    refine lv_iconst (v := 0) hx hb dX5_isIn_14 (by decide) ?_
    exact hQ ▸ rtZ (v := false)  hx hb hr hlk hP hS (by rw [← hres]) rfl dX5_isIn_15
  · have hres := (itl hres).2 c2
    refine lv_iload_n hx hb dX5_isIn_5 rfl (lv_at hl 0 rfl) ?_
    refine lv_iload_n hx hb dX5_isIn_6 rfl (lv_at hl 2 rfl) ?_
    refine lv_icmp_gt (tgt := 14) hx hb dX5_isIn_7 (by decide) (fun c7 => ?_) (fun c7 => ?_)
    · have hres := (itl hres).1 c7
      refine lv_iconst (v := 0) hx hb dX5_isIn_14 (by decide) ?_
      exact hQ ▸ rtZ (v := false)  hx hb hr hlk hP hS (by rw [← hres]) rfl dX5_isIn_15
    · have hres := (itl hres).2 c7
      refine lv_iconst (v := 1) hx hb dX5_isIn_10 (by decide) ?_
      refine lv_goto (tgt := 15) hx hb dX5_isIn_11 (by decide) ?_
      exact hQ ▸ rtZ (v := true)  hx hb hr hlk hP hS (by rw [← hres]) rfl dX5_isIn_15
def fX0_isNumber_b58 (sor : Int32) (num : Int32) (x1 : Int32) (x2 : Int32) : Option (Bool × Int32) :=
  if sor = (2 : Int32) then if (bI (fX5_isIn num x1 x2)) = 0 then some (false, num) else some (true, num) else some (false, num)
def fX0_isNumber_l10 (byt : Nat → Int32) (hld : Int32) (beh : Int32) (sor : Int32) (x1 : Int32) (x2 : Int32) (K10 : Int32 → Int32 → Option (Bool × Int32)) (x3 : Int32) (num : Int32) : Option (Bool × Int32) :=
  if beh ≤ x3 then fX0_isNumber_b58 sor num x1 x2 else if sor = (2 : Int32) then (fX0_byteAt byt hld x3).bind fun q39 => K10 (x3 + 1) (if (((num * (10 : Int32)) + q39) - (48 : Int32)) < (1000 : Int32) then (((num * (10 : Int32)) + q39) - (48 : Int32)) else (1000 : Int32)) else fX0_isNumber_b58 sor num x1 x2
def fX0_isNumber (byt : Nat → Int32) (hld : Int32) (sta : Int32) (beh : Int32) (sor : Int32) (num : Int32) (x1 : Int32) (x2 : Int32) : Option (Bool × Int32) :=
  fix2 (fX0_isNumber_l10 byt hld beh sor x1 x2) 2000 sta (0 : Int32)
theorem hdX5_isIn : yX5_isIn.cls ≠ "java/lang/invoke/MethodHandle" ∧ yX5_isIn.cls ≠ "java/lang/invoke/VarHandle" ∧ (parseMethodDescriptor yX5_isIn.desc).map (fun d => d.parameters.length) = some 3 := by decide +kernel
abbrev rX0_isNumber : Room := { frames := 1, cells := 0, slots := 0, locals := 23 }
set_option maxHeartbeats 4000000 in
set_option maxRecDepth 100000 in
theorem kX0_isNumber (l : Launch) (D : va_G) (a : Nat → Nat) (cI cJ cS : ClassId) (hd : aok a 36) {Env : (Nat → Prop) → State → Heap → Prop} (hEo : envOK Env) (ut : Nat) (sa sb : Nat → Nat) (hEX : envX Env ut sa sb) (par : Int32) (kin lea mos wrt : Nat → Int32) (tal : Int32) (siz tol : Nat → Int32) (hrs : Int32) (ags : Nat → Int32) (yea kpar : Int32) (kkin klea kmos kwrt : Nat → Int32) (ktal : Int32) (ksiz ktol : Nat → Int32) (khrs : Int32) (kags : Nat → Int32) (kyea isk : Int32) (tly : Nat → Int64) (gai bes : Nat → Int32) (low hig : Nat → Int64) (spn : Int32) (byt : Nat → Int32) (hld sta beh sor num : Int32) (fnd sbi she : Nat → Int32) (snu : Nat → Nat → Int64) (x1 : Int32) (x2 : Int32) (res : Bool × Int32) (hres : fX0_isNumber byt hld sta beh sor num x1 x2 = some res) : CtI l D (tyL cI cJ cS) 36 a Env yX0_isNumber wsX0_isNumber rX0_isNumber [.ref (a 25), .int x1, .int x2] (wX a cI cJ cS par kin lea mos wrt tal siz tol hrs ags yea kpar kkin klea kmos kwrt ktal ksiz ktol khrs kags kyea isk tly gai bes low hig spn byt hld sta beh sor num fnd sbi she snu) (wX a cI cJ cS par kin lea mos wrt tal siz tol hrs ags yea kpar kkin klea kmos kwrt ktal ksiz ktol khrs kags kyea isk tly gai bes low hig spn byt hld sta beh sor res.2 fnd sbi she snu) (bI res.1) := by
  refine CtI_mk (cc := cX0_isNumber) (maxL := 4) (ret := (some .boolean)) (by decide) rfl (Nat.le_of_ble_eq_true rfl) ?_
  intro p e s m args below meth c ls hx hb hr hlk hml hown hts hP hK hE hl
  have hS : va_S (adA a 36 s.heap.size) s.heap s.heap [] := va_S.rf
  have hl : lv_has ls 4 [(0, .ref (a 25)), (1, .int x1), (2, .int x2)] := hl
  have hown : s.vm.findClass RX0 = some m.cls := hown
  have hw0 : ∀ w ∈ wsX00, w.before args s = true := fun w h => hts w (List.mem_cons_of_mem _ (List.mem_append_left _ (List.mem_append_right _ h)))
  have u1 : (Cond.fieldLink RX0 21 "YearWords$Reading" "number" "I").before args s = true := hts _ (List.mem_of_getElem? (i := 1) (by decide +kernel))
  have u2 : (Cond.fieldLink RX0 9 "YearWords$Reading" "start" "I").before args s = true := hts _ (List.mem_of_getElem? (i := 2) (by decide +kernel))
  have u3 : (Cond.fieldLink RX0 15 "YearWords$Reading" "behind" "I").before args s = true := hts _ (List.mem_of_getElem? (i := 3) (by decide +kernel))
  have u4 : (Cond.fieldLink RX0 18 "YearWords$Reading" "sort" "I").before args s = true := hts _ (List.mem_of_getElem? (i := 4) (by decide +kernel))
  have u5 : (Cond.methodLink RX0 104 Lib.Math.min.name).before args s = true := hts _ (List.mem_of_getElem? (i := 5) (by decide +kernel))
  have u6 : (Cond.static Lib.Math.min.name).before args s = true := hts _ (List.mem_of_getElem? (i := 6) (by decide +kernel))
  have u7 : (Cond.initialized "java/lang/Math").before args s = true := hts _ (List.mem_of_getElem? (i := 7) (by decide +kernel))
  have u8 : (Cond.code Lib.Math.min.name Lib.Math.min.code 2 (some .int)).before args s = true := hts _ (List.mem_of_getElem? (i := 8) (by decide +kernel))
  have u17 : (Cond.static yX5_isIn).before args s = true := hts _ (List.mem_of_getElem? (i := 17) (by decide +kernel))
  have u18 : (Cond.initialized RX5).before args s = true := hts _ (List.mem_of_getElem? (i := 18) (by decide +kernel))
  obtain ⟨Q, hQ⟩ : ∃ Q, Q = mqI below D 36 a args s (wX a cI cJ cS par kin lea mos wrt tal siz tol hrs ags yea kpar kkin klea kmos kwrt ktal ksiz ktol khrs kags kyea isk tly gai bes low hig spn byt hld sta beh sor res.2 fnd sbi she snu) (bI res.1) := ⟨_, rfl⟩
  rw [← hQ]
  have b58 : ∀ (num : Int32), fX0_isNumber_b58 sor num x1 x2 = some res → ∀ (H : Heap) (locs : List Loc) (ls : Array Slot), va_P D vwCl (wX a cI cJ cS par kin lea mos wrt tal siz tol hrs ags yea kpar kkin klea kmos kwrt ktal ksiz ktol khrs kags kyea isk tly gai bes low hig spn byt hld sta beh sor num fnd sbi she snu) H → va_S (adA a 36 s.heap.size) s.heap H locs → lv_has ls 4 [(0, .ref (a 25)), (1, .int x1), (2, .int x2)] → W p l e rX0_isNumber s m args below meth c H locs 0 0 Q (F0 m 58 ls []) := by
    intro num hres H locs ls hP hS hl
    unfold fX0_isNumber_b58 at hres
    refine lv_aload_n hx hb dX0_isNumber_58 rfl (lv_at hl 0 rfl) ?_
    refine gX_rdg_sort hx hb hown hw0 hK hP u4 dX0_isNumber_59 ?_
    refine lv_iconst (v := 2) hx hb dX0_isNumber_62 (by decide) ?_
    refine lv_icmp_ne (tgt := 82) hx hb dX0_isNumber_63 (by decide) (fun c63 => ?_) (fun c63 => ?_)
    · have hres := (itl hres).2 c63
      refine lv_iconst (v := 0) hx hb dX0_isNumber_82 (by decide) ?_
      exact hQ ▸ rtZ (v := false)  hx hb hr hlk hP hS (by rw [← (Option.some.inj hres)]) (by rw [← (Option.some.inj hres)]) dX0_isNumber_83
    · have hres := (itl hres).1 c63
      refine lv_aload_n hx hb dX0_isNumber_66 rfl (lv_at hl 0 rfl) ?_
      refine gX_rdg_number hx hb hown hw0 hK hP u1 dX0_isNumber_67 ?_
      refine lv_iload_n hx hb dX0_isNumber_70 rfl (lv_at hl 1 rfl) ?_
      refine lv_iload_n hx hb dX0_isNumber_71 rfl (lv_at hl 2 rfl) ?_
      refine csnI hx hb hml hown hts hEo hE hK hP hS (kX5_isIn l D a cI cJ cS hd hEo par kin lea mos wrt tal siz tol hrs ags yea kpar kkin klea kmos kwrt ktal ksiz ktol khrs kags kyea isk tly gai bes low hig spn byt hld sta beh sor num fnd sbi she snu num x1 x2) gX0_isNumber_X5_isIn_n109 rfl hdX5_isIn (hEX.2.2.2 _ _ _ hE) u18 u17 ⟨rfl, rfl⟩ ⟨Nat.le_of_ble_eq_true rfl, Nat.le_of_ble_eq_true rfl⟩ ⟨Nat.zero_le _, Nat.zero_le _⟩ rfl hl.1 rfl (Nat.le_of_ble_eq_true rfl) dX0_isNumber_72 (fun H locs hP hS => ?_)
      refine lv_if_eq (tgt := 82) hx hb dX0_isNumber_75 (by decide) (fun c75 => ?_) (fun c75 => ?_)
      · have hres := (itl hres).1 c75
        refine lv_iconst (v := 0) hx hb dX0_isNumber_82 (by decide) ?_
        exact hQ ▸ rtZ (v := false)  hx hb hr hlk hP hS (by rw [← (Option.some.inj hres)]) (by rw [← (Option.some.inj hres)]) dX0_isNumber_83
      · have hres := (itl hres).2 c75
        refine lv_iconst (v := 1) hx hb dX0_isNumber_78 (by decide) ?_
        refine lv_goto (tgt := 83) hx hb dX0_isNumber_79 (by decide) ?_
        exact hQ ▸ rtZ (v := true)  hx hb hr hlk hP hS (by rw [← (Option.some.inj hres)]) (by rw [← (Option.some.inj hres)]) dX0_isNumber_83
  have b10 : ∀  (n : Nat) (x3 : Int32) (num : Int32), fix2 (fX0_isNumber_l10 byt hld beh sor x1 x2) n x3 num = some res → ∀ (H : Heap) (locs : List Loc) (ls : Array Slot), va_P D vwCl (wX a cI cJ cS par kin lea mos wrt tal siz tol hrs ags yea kpar kkin klea kmos kwrt ktal ksiz ktol khrs kags kyea isk tly gai bes low hig spn byt hld sta beh sor num fnd sbi she snu) H → va_S (adA a 36 s.heap.size) s.heap H locs → lv_has ls 4 [(0, .ref (a 25)), (1, .int x1), (2, .int x2), (3, .int x3)] → W p l e rX0_isNumber s m args below meth c H locs 0 0 Q (F0 m 10 ls []) := by
    refine fix2_r ?_
    intro K10 hK10 x3 num hres H locs ls hP hS hl
    unfold fX0_isNumber_l10 at hres
    refine lv_iload_n hx hb dX0_isNumber_10 rfl (lv_at hl 3 rfl) ?_
    refine lv_aload_n hx hb dX0_isNumber_11 rfl (lv_at hl 0 rfl) ?_
    refine gX_rdg_behind hx hb hown hw0 hK hP u3 dX0_isNumber_12 ?_
    refine lv_icmp_ge (tgt := 58) hx hb dX0_isNumber_15 (by decide) (fun c15 => ?_) (fun c15 => ?_)
    · have hres := (itl hres).1 c15
      exact b58 num hres _ _ _ hP hS (lv_sub hl [0, 1, 2] rfl)
    · have hres := (itl hres).2 c15
      refine lv_aload_n hx hb dX0_isNumber_18 rfl (lv_at hl 0 rfl) ?_
      refine gX_rdg_sort hx hb hown hw0 hK hP u4 dX0_isNumber_19 ?_
      refine lv_iconst (v := 2) hx hb dX0_isNumber_22 (by decide) ?_
      refine lv_icmp_ne (tgt := 58) hx hb dX0_isNumber_23 (by decide) (fun c23 => ?_) (fun c23 => ?_)
      · have hres := (itl hres).2 c23
        exact b58 num hres _ _ _ hP hS (lv_sub hl [0, 1, 2] rfl)
      · have hres := (itl hres).1 c23
        refine lv_aload_n hx hb dX0_isNumber_26 rfl (lv_at hl 0 rfl) ?_
        refine lv_sipush (v := 1000) hx hb dX0_isNumber_27 (by decide) ?_
        refine lv_aload_n hx hb dX0_isNumber_30 rfl (lv_at hl 0 rfl) ?_
        refine gX_rdg_number hx hb hown hw0 hK hP u1 dX0_isNumber_31 ?_
        refine lv_bipush (v := 10) hx hb dX0_isNumber_34 (by decide) ?_
        refine lv_imul hx hb dX0_isNumber_36 ?_
        refine lv_aload_n hx hb dX0_isNumber_37 rfl (lv_at hl 0 rfl) ?_
        refine lv_iload_n hx hb dX0_isNumber_38 rfl (lv_at hl 3 rfl) ?_
        obtain ⟨q39, e39, hres⟩ := obd hres
        refine cvI (q0 := 25) (ci := 0) hx hb hml hown hts hEo hE hK hP hS (kX0_byteAt l D a cI cJ cS hd hEo par kin lea mos wrt tal siz tol hrs ags yea kpar kkin klea kmos kwrt ktal ksiz ktol khrs kags kyea isk tly gai bes low hig spn byt hld sta beh sor num fnd sbi she snu x3 q39 e39) gX0_isNumber_X0_byteAt rfl hdX0_byteAt rfl rfl rfl ⟨rfl, rfl⟩ ⟨Nat.le_of_ble_eq_true rfl, Nat.le_of_ble_eq_true rfl⟩ ⟨Nat.zero_le _, Nat.zero_le _⟩ rfl hl.1 rfl (Nat.le_of_ble_eq_true rfl) dX0_isNumber_39 (fun H locs hP hS => ?_)
        refine lv_iadd hx hb dX0_isNumber_42 ?_
        refine lv_bipush (v := 48) hx hb dX0_isNumber_43 (by decide) ?_
        refine lv_isub hx hb dX0_isNumber_45 ?_
        refine va_mmin hx hb (hml.trans hl.1.symm) hown u5 u6 u7 u8 (Nat.le_of_ble_eq_true rfl) (Nat.le_of_ble_eq_true rfl) (Nat.zero_le _) (Nat.zero_le _) dX0_isNumber_46 ?_
        refine pX_rdg_number hx hb hown hw0 hK hP hd hS u1 dX0_isNumber_49 (fun H locs hP hS => ?_)
        refine lv_iinc (v := x3 + 1) (lv' := [(3, .int (x3 + 1)), (0, .ref (a 25)), (1, .int x1), (2, .int x2)]) hx hb dX0_isNumber_52 hl (k := 3) rfl (congrArg (fun z => x3 + z) (by decide)) (by decide) rfl (fun ls hl => ?_)
        refine lv_goto (tgt := 10) hx hb dX0_isNumber_55 (by decide) ?_
        exact hK10 (x3 + 1) (if (((num * (10 : Int32)) + q39) - (48 : Int32)) < (1000 : Int32) then (((num * (10 : Int32)) + q39) - (48 : Int32)) else (1000 : Int32)) hres _ _ _ hP hS (lv_sub hl [1, 2, 3, 0] rfl)
  unfold fX0_isNumber at hres
  refine lv_aload_n hx hb dX0_isNumber_0 rfl (lv_at hl 0 rfl) ?_
  refine lv_iconst (v := 0) hx hb dX0_isNumber_1 (by decide) ?_
  refine pX_rdg_number hx hb hown hw0 hK hP hd hS u1 dX0_isNumber_2 (fun H locs hP hS => ?_)
  refine lv_aload_n hx hb dX0_isNumber_5 rfl (lv_at hl 0 rfl) ?_
  refine gX_rdg_start hx hb hown hw0 hK hP u2 dX0_isNumber_6 ?_
  refine lv_istore_n (lv' := [(3, .int sta), (0, .ref (a 25)), (1, .int x1), (2, .int x2)]) hx hb dX0_isNumber_9 rfl hl (by decide) rfl (fun ls hl => ?_)
  exact b10  2000 sta (0 : Int32) hres _ _ _ hP hS (lv_sub hl [1, 2, 3, 0] rfl)
def fX0_stepToNumber (byt : Nat → Int32) (hld : Int32) (sta : Int32) (beh : Int32) (sor : Int32) (num : Int32) (x1 : Int32) (x2 : Int32) : Option (Bool × Int32 × Int32 × Int32 × Int32) :=
 (fX0_step byt hld sta beh sor).bind fun q1 => (fX0_isNumber byt hld q1.1 q1.2.1 q1.2.2 num x1 x2).bind fun q7 => some (q7.1, q1.1, q1.2.1, q1.2.2, q7.2)
theorem hdX0_isNumber : yX0_isNumber.cls = RX0 ∧ yX0_isNumber.cls ≠ "java/lang/invoke/MethodHandle" ∧ yX0_isNumber.cls ≠ "java/lang/invoke/VarHandle" ∧ (parseMethodDescriptor yX0_isNumber.desc).map (fun d => d.parameters.length) = some 2 := by decide +kernel
theorem hdX0_step : yX0_step.cls = RX0 ∧ yX0_step.cls ≠ "java/lang/invoke/MethodHandle" ∧ yX0_step.cls ≠ "java/lang/invoke/VarHandle" ∧ (parseMethodDescriptor yX0_step.desc).map (fun d => d.parameters.length) = some 0 := by decide +kernel
abbrev rX0_stepToNumber : Room := { frames := 2, cells := 0, slots := 0, locals := 46 }
set_option maxHeartbeats 4000000 in
set_option maxRecDepth 100000 in
theorem kX0_stepToNumber (l : Launch) (D : va_G) (a : Nat → Nat) (cI cJ cS : ClassId) (hd : aok a 36) {Env : (Nat → Prop) → State → Heap → Prop} (hEo : envOK Env) (ut : Nat) (sa sb : Nat → Nat) (hEX : envX Env ut sa sb) (par : Int32) (kin lea mos wrt : Nat → Int32) (tal : Int32) (siz tol : Nat → Int32) (hrs : Int32) (ags : Nat → Int32) (yea kpar : Int32) (kkin klea kmos kwrt : Nat → Int32) (ktal : Int32) (ksiz ktol : Nat → Int32) (khrs : Int32) (kags : Nat → Int32) (kyea isk : Int32) (tly : Nat → Int64) (gai bes : Nat → Int32) (low hig : Nat → Int64) (spn : Int32) (byt : Nat → Int32) (hld sta beh sor num : Int32) (fnd sbi she : Nat → Int32) (snu : Nat → Nat → Int64) (x1 : Int32) (x2 : Int32) (res : Bool × Int32 × Int32 × Int32 × Int32) (hres : fX0_stepToNumber byt hld sta beh sor num x1 x2 = some res) : CtI l D (tyL cI cJ cS) 36 a Env yX0_stepToNumber wsX0_stepToNumber rX0_stepToNumber [.ref (a 25), .int x1, .int x2] (wX a cI cJ cS par kin lea mos wrt tal siz tol hrs ags yea kpar kkin klea kmos kwrt ktal ksiz ktol khrs kags kyea isk tly gai bes low hig spn byt hld sta beh sor num fnd sbi she snu) (wX a cI cJ cS par kin lea mos wrt tal siz tol hrs ags yea kpar kkin klea kmos kwrt ktal ksiz ktol khrs kags kyea isk tly gai bes low hig spn byt hld res.2.1 res.2.2.1 res.2.2.2.1 res.2.2.2.2 fnd sbi she snu) (bI res.1) := by
  refine CtI_mk (cc := cX0_stepToNumber) (maxL := 3) (ret := (some .boolean)) (by decide) rfl (Nat.le_of_ble_eq_true rfl) ?_
  intro p e s m args below meth c ls hx hb hr hlk hml hown hts hP hK hE hl
  have hS : va_S (adA a 36 s.heap.size) s.heap s.heap [] := va_S.rf
  have hl : lv_has ls 3 [(0, .ref (a 25)), (1, .int x1), (2, .int x2)] := hl
  have hown : s.vm.findClass RX0 = some m.cls := hown
  obtain ⟨Q, hQ⟩ : ∃ Q, Q = mqI below D 36 a args s (wX a cI cJ cS par kin lea mos wrt tal siz tol hrs ags yea kpar kkin klea kmos kwrt ktal ksiz ktol khrs kags kyea isk tly gai bes low hig spn byt hld res.2.1 res.2.2.1 res.2.2.2.1 res.2.2.2.2 fnd sbi she snu) (bI res.1) := ⟨_, rfl⟩
  rw [← hQ]
  unfold fX0_stepToNumber at hres
  refine lv_aload_n hx hb dX0_stepToNumber_0 rfl (lv_at hl 0 rfl) ?_
  obtain ⟨q1, e1, hres⟩ := obd hres
  refine cvV (q0 := 25) (ci := 0) hx hb hml hown hts hEo hE hK hP hS (kX0_step l D a cI cJ cS hd hEo par kin lea mos wrt tal siz tol hrs ags yea kpar kkin klea kmos kwrt ktal ksiz ktol khrs kags kyea isk tly gai bes low hig spn byt hld sta beh sor num fnd sbi she snu  q1 e1) gX0_stepToNumber_X0_step rfl hdX0_step rfl rfl rfl ⟨rfl, rfl⟩ ⟨Nat.le_of_ble_eq_true rfl, Nat.le_of_ble_eq_true rfl⟩ ⟨Nat.zero_le _, Nat.zero_le _⟩ rfl hl.1 rfl (Nat.le_of_ble_eq_true rfl) dX0_stepToNumber_1 (fun H locs hP hS => ?_)
  refine lv_aload_n hx hb dX0_stepToNumber_4 rfl (lv_at hl 0 rfl) ?_
  refine lv_iload_n hx hb dX0_stepToNumber_5 rfl (lv_at hl 1 rfl) ?_
  refine lv_iload_n hx hb dX0_stepToNumber_6 rfl (lv_at hl 2 rfl) ?_
  obtain ⟨q7, e7, hres⟩ := obd hres
  refine cvI (q0 := 25) (ci := 0) hx hb hml hown hts hEo hE hK hP hS (kX0_isNumber l D a cI cJ cS hd hEo ut sa sb hEX par kin lea mos wrt tal siz tol hrs ags yea kpar kkin klea kmos kwrt ktal ksiz ktol khrs kags kyea isk tly gai bes low hig spn byt hld q1.1 q1.2.1 q1.2.2 num fnd sbi she snu x1 x2 q7 e7) gX0_stepToNumber_X0_isNumber rfl hdX0_isNumber rfl rfl rfl ⟨rfl, rfl⟩ ⟨Nat.le_of_ble_eq_true rfl, Nat.le_of_ble_eq_true rfl⟩ ⟨Nat.zero_le _, Nat.zero_le _⟩ rfl hl.1 rfl (Nat.le_of_ble_eq_true rfl) dX0_stepToNumber_7 (fun H locs hP hS => ?_)
  exact hQ ▸ rtZ (v := q7.1)  hx hb hr hlk hP hS (by rw [← (Option.some.inj hres)]) (by rw [← (Option.some.inj hres)]) dX0_stepToNumber_10
def fX3_addPart (par : Int32) (kin : Nat → Int32) (lea : Nat → Int32) (mos : Nat → Int32) (wrt : Nat → Int32) (x1 : Int32) (x2 : Int32) (x3 : Int32) (x4 : Int32) : Option (Int32 × Int32 × (Nat → Int32) × (Nat → Int32) × (Nat → Int32) × (Nat → Int32)) :=
  gd (ib par 16) (gd (ib par 16) (gd (ib par 16) (gd (ib par 16) (some (par, par + (1 : Int32), upd kin par.toNatClampNeg x1, upd lea par.toNatClampNeg x2, upd mos par.toNatClampNeg x3, upd wrt par.toNatClampNeg x4)))))
abbrev rX3_addPart : Room := { frames := 0, cells := 0, slots := 0, locals := 0 }
set_option maxHeartbeats 4000000 in
set_option maxRecDepth 100000 in
theorem kX3_addPart (l : Launch) (D : va_G) (a : Nat → Nat) (cI cJ cS : ClassId) (hd : aok a 36) {Env : (Nat → Prop) → State → Heap → Prop} (hEo : envOK Env) (par : Int32) (kin lea mos wrt : Nat → Int32) (tal : Int32) (siz tol : Nat → Int32) (hrs : Int32) (ags : Nat → Int32) (yea kpar : Int32) (kkin klea kmos kwrt : Nat → Int32) (ktal : Int32) (ksiz ktol : Nat → Int32) (khrs : Int32) (kags : Nat → Int32) (kyea isk : Int32) (tly : Nat → Int64) (gai bes : Nat → Int32) (low hig : Nat → Int64) (spn : Int32) (byt : Nat → Int32) (hld sta beh sor num : Int32) (fnd sbi she : Nat → Int32) (snu : Nat → Nat → Int64) (x1 : Int32) (x2 : Int32) (x3 : Int32) (x4 : Int32) (res : Int32 × Int32 × (Nat → Int32) × (Nat → Int32) × (Nat → Int32) × (Nat → Int32)) (hres : fX3_addPart par kin lea mos wrt x1 x2 x3 x4 = some res) : CtI l D (tyL cI cJ cS) 36 a Env yX3_addPart wsX3_addPart rX3_addPart [.ref (a 1), .int x1, .int x2, .int x3, .int x4] (wX a cI cJ cS par kin lea mos wrt tal siz tol hrs ags yea kpar kkin klea kmos kwrt ktal ksiz ktol khrs kags kyea isk tly gai bes low hig spn byt hld sta beh sor num fnd sbi she snu) (wX a cI cJ cS res.2.1 res.2.2.1 res.2.2.2.1 res.2.2.2.2.1 res.2.2.2.2.2 tal siz tol hrs ags yea kpar kkin klea kmos kwrt ktal ksiz ktol khrs kags kyea isk tly gai bes low hig spn byt hld sta beh sor num fnd sbi she snu) res.1 := by
  refine CtI_mk (cc := cX3_addPart) (maxL := 5) (ret := (some .int)) (by decide) rfl (Nat.le_of_ble_eq_true rfl) ?_
  intro p e s m args below meth c ls hx hb hr hlk hml hown hts hP hK hE hl
  have hS : va_S (adA a 36 s.heap.size) s.heap s.heap [] := va_S.rf
  have hl : lv_has ls 5 [(0, .ref (a 1)), (1, .int x1), (2, .int x2), (3, .int x3), (4, .int x4)] := hl
  have hown : s.vm.findClass RX3 = some m.cls := hown
  have hw3 : ∀ w ∈ wsX30, w.before args s = true := fun w h => hts w (List.mem_cons_of_mem _ (List.mem_append_right _ h))
  have u1 : (Cond.fieldLink RX3 15 "YearWords$Stock" "kinds" "[I").before args s = true := hts _ (List.mem_of_getElem? (i := 1) (by decide +kernel))
  have u2 : (Cond.fieldLink RX3 9 "YearWords$Stock" "parts" "I").before args s = true := hts _ (List.mem_of_getElem? (i := 2) (by decide +kernel))
  have u3 : (Cond.fieldLink RX3 19 "YearWords$Stock" "leasts" "[I").before args s = true := hts _ (List.mem_of_getElem? (i := 3) (by decide +kernel))
  have u4 : (Cond.fieldLink RX3 22 "YearWords$Stock" "mosts" "[I").before args s = true := hts _ (List.mem_of_getElem? (i := 4) (by decide +kernel))
  have u5 : (Cond.fieldLink RX3 25 "YearWords$Stock" "worths" "[I").before args s = true := hts _ (List.mem_of_getElem? (i := 5) (by decide +kernel))
  obtain ⟨Q, hQ⟩ : ∃ Q, Q = mqI below D 36 a args s (wX a cI cJ cS res.2.1 res.2.2.1 res.2.2.2.1 res.2.2.2.2.1 res.2.2.2.2.2 tal siz tol hrs ags yea kpar kkin klea kmos kwrt ktal ksiz ktol khrs kags kyea isk tly gai bes low hig spn byt hld sta beh sor num fnd sbi she snu) res.1 := ⟨_, rfl⟩
  rw [← hQ]
  unfold fX3_addPart at hres
  refine lv_aload_n hx hb dX3_addPart_0 rfl (lv_at hl 0 rfl) ?_
  refine gX_now_kinds hx hb hown hw3 hK hP u1 dX3_addPart_1 ?_
  refine lv_aload_n hx hb dX3_addPart_4 rfl (lv_at hl 0 rfl) ?_
  refine gX_now_parts hx hb hown hw3 hK hP u2 dX3_addPart_5 ?_
  refine lv_iload_n hx hb dX3_addPart_8 rfl (lv_at hl 1 rfl) ?_
  obtain ⟨i9, hres⟩ := gdi hres
  refine sX_kin hx hb hK hP hd hS i9 dX3_addPart_9 (fun H locs hP hS => ?_)
  refine lv_aload_n hx hb dX3_addPart_10 rfl (lv_at hl 0 rfl) ?_
  refine gX_now_leasts hx hb hown hw3 hK hP u3 dX3_addPart_11 ?_
  refine lv_aload_n hx hb dX3_addPart_14 rfl (lv_at hl 0 rfl) ?_
  refine gX_now_parts hx hb hown hw3 hK hP u2 dX3_addPart_15 ?_
  refine lv_iload_n hx hb dX3_addPart_18 rfl (lv_at hl 2 rfl) ?_
  obtain ⟨i19, hres⟩ := gdi hres
  refine sX_lea hx hb hK hP hd hS i19 dX3_addPart_19 (fun H locs hP hS => ?_)
  refine lv_aload_n hx hb dX3_addPart_20 rfl (lv_at hl 0 rfl) ?_
  refine gX_now_mosts hx hb hown hw3 hK hP u4 dX3_addPart_21 ?_
  refine lv_aload_n hx hb dX3_addPart_24 rfl (lv_at hl 0 rfl) ?_
  refine gX_now_parts hx hb hown hw3 hK hP u2 dX3_addPart_25 ?_
  refine lv_iload_n hx hb dX3_addPart_28 rfl (lv_at hl 3 rfl) ?_
  obtain ⟨i29, hres⟩ := gdi hres
  refine sX_mos hx hb hK hP hd hS i29 dX3_addPart_29 (fun H locs hP hS => ?_)
  refine lv_aload_n hx hb dX3_addPart_30 rfl (lv_at hl 0 rfl) ?_
  refine gX_now_worths hx hb hown hw3 hK hP u5 dX3_addPart_31 ?_
  refine lv_aload_n hx hb dX3_addPart_34 rfl (lv_at hl 0 rfl) ?_
  refine gX_now_parts hx hb hown hw3 hK hP u2 dX3_addPart_35 ?_
  refine lv_iload hx hb dX3_addPart_38 (lv_at hl 4 rfl) ?_
  obtain ⟨i40, hres⟩ := gdi hres
  refine sX_wrt hx hb hK hP hd hS i40 dX3_addPart_40 (fun H locs hP hS => ?_)
  refine lv_aload_n hx hb dX3_addPart_41 rfl (lv_at hl 0 rfl) ?_
  refine lv_dup hx hb dX3_addPart_42 rfl ?_
  refine gX_now_parts hx hb hown hw3 hK hP u2 dX3_addPart_43 ?_
  refine lv_dup_x1 hx hb dX3_addPart_46 rfl rfl ?_
  refine lv_iconst (v := 1) hx hb dX3_addPart_47 (by decide) ?_
  refine lv_iadd hx hb dX3_addPart_48 ?_
  refine pX_now_parts hx hb hown hw3 hK hP hd hS u2 dX3_addPart_49 (fun H locs hP hS => ?_)
  exact hQ ▸ rtI (v := par)  hx hb hr hlk hP hS (by rw [← (Option.some.inj hres)]) (by rw [← (Option.some.inj hres)]) dX3_addPart_52
def fX0_readPart_b99 (par : Int32) (kin : Nat → Int32) (lea : Nat → Int32) (mos : Nat → Int32) (wrt : Nat → Int32) (sta : Int32) (beh : Int32) (sor : Int32) (num : Int32) (x1 : Int32) (x2 : Int32) (x3 : Int32) (x4 : Int32) : Option (Bool × Int32 × (Nat → Int32) × (Nat → Int32) × (Nat → Int32) × (Nat → Int32) × Int32 × Int32 × Int32 × Int32) :=
 (fX3_addPart par kin lea mos wrt x1 x2 x3 x4).bind fun q108 => some (true, q108.2.1, q108.2.2.1, q108.2.2.2.1, q108.2.2.2.2.1, q108.2.2.2.2.2, sta, beh, sor, num)
def fX0_readPart_b68 (par : Int32) (kin : Nat → Int32) (lea : Nat → Int32) (mos : Nat → Int32) (wrt : Nat → Int32) (byt : Nat → Int32) (hld : Int32) (sta : Int32) (beh : Int32) (sor : Int32) (num : Int32) (x1 : Int32) (x2 : Int32) (x3 : Int32) (x4 : Bool) : Option (Bool × Int32 × (Nat → Int32) × (Nat → Int32) × (Nat → Int32) × (Nat → Int32) × Int32 × Int32 × Int32 × Int32) :=
 (fX0_isText byt hld sta beh sor 9).bind fun q71 => if (bI q71) = 0 then fX0_readPart_b99 par kin lea mos wrt sta beh sor num x1 x2 x3 (bI x4) else (fX0_stepToNumber byt hld sta beh sor num (0 : Int32) (9 : Int32)).bind fun q81 => if (bI q81.1) = 0 then some (false, par, kin, lea, mos, wrt, q81.2.1, q81.2.2.1, q81.2.2.2.1, q81.2.2.2.2) else (fX0_step byt hld q81.2.1 q81.2.2.1 q81.2.2.2.1).bind fun q96 => fX0_readPart_b99 par kin lea mos wrt q96.1 q96.2.1 q96.2.2 q81.2.2.2.2 x1 x2 x3 q81.2.2.2.2
def fX0_readPart (par : Int32) (kin : Nat → Int32) (lea : Nat → Int32) (mos : Nat → Int32) (wrt : Nat → Int32) (byt : Nat → Int32) (hld : Int32) (sta : Int32) (beh : Int32) (sor : Int32) (num : Int32) (x1 : Int32) : Option (Bool × Int32 × (Nat → Int32) × (Nat → Int32) × (Nat → Int32) × (Nat → Int32) × Int32 × Int32 × Int32 × Int32) :=
  if (16 : Int32) ≤ par then some (false, par, kin, lea, mos, wrt, sta, beh, sor, num) else (fX0_stepToNumber byt hld sta beh sor num (1 : Int32) (12 : Int32)).bind fun q16 => if (bI q16.1) = 0 then some (false, par, kin, lea, mos, wrt, q16.2.1, q16.2.2.1, q16.2.2.2.1, q16.2.2.2.2) else (fX0_step byt hld q16.2.1 q16.2.2.1 q16.2.2.2.1).bind fun q35 => (fX0_isText byt hld q35.1 q35.2.1 q35.2.2 8).bind fun q41 => if (bI q41) = 0 then fX0_readPart_b68 par kin lea mos wrt byt hld q35.1 q35.2.1 q35.2.2 q16.2.2.2.2 x1 q16.2.2.2.2 q16.2.2.2.2 true else (fX0_stepToNumber byt hld q35.1 q35.2.1 q35.2.2 q16.2.2.2.2 q16.2.2.2.2 (12 : Int32)).bind fun q51 => if (bI q51.1) = 0 then some (false, par, kin, lea, mos, wrt, q51.2.1, q51.2.2.1, q51.2.2.2.1, q51.2.2.2.2) else (fX0_step byt hld q51.2.1 q51.2.2.1 q51.2.2.2.1).bind fun q65 => fX0_readPart_b68 par kin lea mos wrt byt hld q65.1 q65.2.1 q65.2.2 q51.2.2.2.2 x1 q16.2.2.2.2 q51.2.2.2.2 true
theorem hdX0_isText : yX0_isText.cls = RX0 ∧ yX0_isText.cls ≠ "java/lang/invoke/MethodHandle" ∧ yX0_isText.cls ≠ "java/lang/invoke/VarHandle" ∧ (parseMethodDescriptor yX0_isText.desc).map (fun d => d.parameters.length) = some 1 := by decide +kernel
theorem hdX0_stepToNumber : yX0_stepToNumber.cls = RX0 ∧ yX0_stepToNumber.cls ≠ "java/lang/invoke/MethodHandle" ∧ yX0_stepToNumber.cls ≠ "java/lang/invoke/VarHandle" ∧ (parseMethodDescriptor yX0_stepToNumber.desc).map (fun d => d.parameters.length) = some 2 := by decide +kernel
theorem hdX3_addPart : yX3_addPart.cls = RX3 ∧ yX3_addPart.cls ≠ "java/lang/invoke/MethodHandle" ∧ yX3_addPart.cls ≠ "java/lang/invoke/VarHandle" ∧ (parseMethodDescriptor yX3_addPart.desc).map (fun d => d.parameters.length) = some 4 := by decide +kernel
abbrev rX0_readPart : Room := { frames := 5, cells := 0, slots := 0, locals := 107 }
set_option maxHeartbeats 4000000 in
set_option maxRecDepth 100000 in
theorem kX0_readPart (l : Launch) (D : va_G) (a : Nat → Nat) (cI cJ cS : ClassId) (hd : aok a 36) {Env : (Nat → Prop) → State → Heap → Prop} (hEo : envOK Env) (ut : Nat) (sa sb : Nat → Nat) (hEX : envX Env ut sa sb) (par : Int32) (kin lea mos wrt : Nat → Int32) (tal : Int32) (siz tol : Nat → Int32) (hrs : Int32) (ags : Nat → Int32) (yea kpar : Int32) (kkin klea kmos kwrt : Nat → Int32) (ktal : Int32) (ksiz ktol : Nat → Int32) (khrs : Int32) (kags : Nat → Int32) (kyea isk : Int32) (tly : Nat → Int64) (gai bes : Nat → Int32) (low hig : Nat → Int64) (spn : Int32) (byt : Nat → Int32) (hld sta beh sor num : Int32) (fnd sbi she : Nat → Int32) (snu : Nat → Nat → Int64) (x1 : Int32) (res : Bool × Int32 × (Nat → Int32) × (Nat → Int32) × (Nat → Int32) × (Nat → Int32) × Int32 × Int32 × Int32 × Int32) (hres : fX0_readPart par kin lea mos wrt byt hld sta beh sor num x1 = some res) : CtI l D (tyL cI cJ cS) 36 a Env yX0_readPart wsX0_readPart rX0_readPart [.ref (a 25), .int x1] (wX a cI cJ cS par kin lea mos wrt tal siz tol hrs ags yea kpar kkin klea kmos kwrt ktal ksiz ktol khrs kags kyea isk tly gai bes low hig spn byt hld sta beh sor num fnd sbi she snu) (wX a cI cJ cS res.2.1 res.2.2.1 res.2.2.2.1 res.2.2.2.2.1 res.2.2.2.2.2.1 tal siz tol hrs ags yea kpar kkin klea kmos kwrt ktal ksiz ktol khrs kags kyea isk tly gai bes low hig spn byt hld res.2.2.2.2.2.2.1 res.2.2.2.2.2.2.2.1 res.2.2.2.2.2.2.2.2.1 res.2.2.2.2.2.2.2.2.2 fnd sbi she snu) (bI res.1) := by
  refine CtI_mk (cc := cX0_readPart) (maxL := 5) (ret := (some .boolean)) (by decide) rfl (Nat.le_of_ble_eq_true rfl) ?_
  intro p e s m args below meth c ls hx hb hr hlk hml hown hts hP hK hE hl
  have hS : va_S (adA a 36 s.heap.size) s.heap s.heap [] := va_S.rf
  have hl : lv_has ls 5 [(0, .ref (a 25)), (1, .int x1)] := hl
  have hown : s.vm.findClass RX0 = some m.cls := hown
  have hw0 : ∀ w ∈ wsX00, w.before args s = true := fun w h => hts w (List.mem_cons_of_mem _ (List.mem_append_left _ (List.mem_append_left _ (List.mem_append_right _ h))))
  have hw3 : ∀ w ∈ wsX30, w.before args s = true := fun w h => hts w (List.mem_cons_of_mem _ (List.mem_append_left _ (List.mem_append_right _ h)))
  have u1 : (Cond.fieldLink RX0 28 "YearWords$Reading" "stock" "LYearWords$Stock;").before args s = true := hts _ (List.mem_of_getElem? (i := 1) (by decide +kernel))
  have u2 : (Cond.fieldLink RX0 61 "YearWords$Stock" "parts" "I").before args s = true := hts _ (List.mem_of_getElem? (i := 2) (by decide +kernel))
  have u3 : (Cond.fieldLink RX0 21 "YearWords$Reading" "number" "I").before args s = true := hts _ (List.mem_of_getElem? (i := 3) (by decide +kernel))
  obtain ⟨Q, hQ⟩ : ∃ Q, Q = mqI below D 36 a args s (wX a cI cJ cS res.2.1 res.2.2.1 res.2.2.2.1 res.2.2.2.2.1 res.2.2.2.2.2.1 tal siz tol hrs ags yea kpar kkin klea kmos kwrt ktal ksiz ktol khrs kags kyea isk tly gai bes low hig spn byt hld res.2.2.2.2.2.2.1 res.2.2.2.2.2.2.2.1 res.2.2.2.2.2.2.2.2.1 res.2.2.2.2.2.2.2.2.2 fnd sbi she snu) (bI res.1) := ⟨_, rfl⟩
  rw [← hQ]
  have b99 : ∀ (par : Int32) (kin : Nat → Int32) (lea : Nat → Int32) (mos : Nat → Int32) (wrt : Nat → Int32) (sta : Int32) (beh : Int32) (sor : Int32) (num : Int32) (x2 : Int32) (x3 : Int32) (x4 : Int32), fX0_readPart_b99 par kin lea mos wrt sta beh sor num x1 x2 x3 x4 = some res → ∀ (H : Heap) (locs : List Loc) (ls : Array Slot), va_P D vwCl (wX a cI cJ cS par kin lea mos wrt tal siz tol hrs ags yea kpar kkin klea kmos kwrt ktal ksiz ktol khrs kags kyea isk tly gai bes low hig spn byt hld sta beh sor num fnd sbi she snu) H → va_S (adA a 36 s.heap.size) s.heap H locs → lv_has ls 5 [(0, .ref (a 25)), (1, .int x1), (2, .int x2), (3, .int x3), (4, .int x4)] → W p l e rX0_readPart s m args below meth c H locs 0 0 Q (F0 m 99 ls []) := by
    intro par kin lea mos wrt sta beh sor num x2 x3 x4 hres H locs ls hP hS hl
    unfold fX0_readPart_b99 at hres
    refine lv_aload_n hx hb dX0_readPart_99 rfl (lv_at hl 0 rfl) ?_
    refine gX_rdg_stock hx hb hown hw0 hK hP u1 dX0_readPart_100 ?_
    refine lv_iload_n hx hb dX0_readPart_103 rfl (lv_at hl 1 rfl) ?_
    refine lv_iload_n hx hb dX0_readPart_104 rfl (lv_at hl 2 rfl) ?_
    refine lv_iload_n hx hb dX0_readPart_105 rfl (lv_at hl 3 rfl) ?_
    refine lv_iload hx hb dX0_readPart_106 (lv_at hl 4 rfl) ?_
    obtain ⟨q108, e108, hres⟩ := obd hres
    refine cvI (q0 := 1) (ci := 3) hx hb hml hown hts hEo hE hK hP hS (kX3_addPart l D a cI cJ cS hd hEo par kin lea mos wrt tal siz tol hrs ags yea kpar kkin klea kmos kwrt ktal ksiz ktol khrs kags kyea isk tly gai bes low hig spn byt hld sta beh sor num fnd sbi she snu x1 x2 x3 x4 q108 e108) gX0_readPart_X3_addPart rfl hdX3_addPart rfl rfl rfl ⟨rfl, rfl⟩ ⟨Nat.le_of_ble_eq_true rfl, Nat.le_of_ble_eq_true rfl⟩ ⟨Nat.zero_le _, Nat.zero_le _⟩ rfl hl.1 rfl (Nat.le_of_ble_eq_true rfl) dX0_readPart_108 (fun H locs hP hS => ?_)
    refine lv_pop hx hb dX0_readPart_111 rfl ?_
    refine lv_iconst (v := 1) hx hb dX0_readPart_112 (by decide) ?_
    exact hQ ▸ rtZ (v := true)  hx hb hr hlk hP hS (by rw [← (Option.some.inj hres)]) (by rw [← (Option.some.inj hres)]) dX0_readPart_113
  have b68 : ∀ (par : Int32) (kin : Nat → Int32) (lea : Nat → Int32) (mos : Nat → Int32) (wrt : Nat → Int32) (sta : Int32) (beh : Int32) (sor : Int32) (num : Int32) (x2 : Int32) (x3 : Int32) (x4 : Bool), fX0_readPart_b68 par kin lea mos wrt byt hld sta beh sor num x1 x2 x3 x4 = some res → ∀ (H : Heap) (locs : List Loc) (ls : Array Slot), va_P D vwCl (wX a cI cJ cS par kin lea mos wrt tal siz tol hrs ags yea kpar kkin klea kmos kwrt ktal ksiz ktol khrs kags kyea isk tly gai bes low hig spn byt hld sta beh sor num fnd sbi she snu) H → va_S (adA a 36 s.heap.size) s.heap H locs → lv_has ls 5 [(0, .ref (a 25)), (1, .int x1), (2, .int x2), (3, .int x3), (4, .int (bI x4))] → W p l e rX0_readPart s m args below meth c H locs 0 0 Q (F0 m 68 ls []) := by
    intro par kin lea mos wrt sta beh sor num x2 x3 x4 hres H locs ls hP hS hl
    unfold fX0_readPart_b68 at hres
    refine lv_aload_n hx hb dX0_readPart_68 rfl (lv_at hl 0 rfl) ?_
    refine va_ldcS hx hb hown ((hEX.2.2.1 _ _ _ hE).2.2.2.2.2.2.2.2.2.1) dX0_readPart_69 ?_
    obtain ⟨q71, e71, hres⟩ := obd hres
    refine cvI (q0 := 25) (ci := 0) hx hb hml hown hts hEo hE hK hP hS (kX0_isText l D a cI cJ cS hd hEo ut sa sb hEX par kin lea mos wrt tal siz tol hrs ags yea kpar kkin klea kmos kwrt ktal ksiz ktol khrs kags kyea isk tly gai bes low hig spn byt hld sta beh sor num fnd sbi she snu 9 (by decide) q71 e71) gX0_readPart_X0_isText rfl hdX0_isText rfl rfl rfl ⟨rfl, rfl⟩ ⟨Nat.le_of_ble_eq_true rfl, Nat.le_of_ble_eq_true rfl⟩ ⟨Nat.zero_le _, Nat.zero_le _⟩ rfl hl.1 rfl (Nat.le_of_ble_eq_true rfl) dX0_readPart_71 (fun H locs hP hS => ?_)
    refine lv_if_eq (tgt := 99) hx hb dX0_readPart_74 (by decide) (fun c74 => ?_) (fun c74 => ?_)
    · have hres := (itl hres).1 c74
      exact b99 par kin lea mos wrt sta beh sor num x2 x3 (bI x4) hres _ _ _ hP hS (lv_sub hl [0, 1, 2, 3, 4] rfl)
    · have hres := (itl hres).2 c74
      refine lv_aload_n hx hb dX0_readPart_77 rfl (lv_at hl 0 rfl) ?_
      refine lv_iconst (v := 0) hx hb dX0_readPart_78 (by decide) ?_
      refine lv_bipush (v := 9) hx hb dX0_readPart_79 (by decide) ?_
      obtain ⟨q81, e81, hres⟩ := obd hres
      refine cvI (q0 := 25) (ci := 0) hx hb hml hown hts hEo hE hK hP hS (kX0_stepToNumber l D a cI cJ cS hd hEo ut sa sb hEX par kin lea mos wrt tal siz tol hrs ags yea kpar kkin klea kmos kwrt ktal ksiz ktol khrs kags kyea isk tly gai bes low hig spn byt hld sta beh sor num fnd sbi she snu (0 : Int32) (9 : Int32) q81 e81) gX0_readPart_X0_stepToNumber rfl hdX0_stepToNumber rfl rfl rfl ⟨rfl, rfl⟩ ⟨Nat.le_of_ble_eq_true rfl, Nat.le_of_ble_eq_true rfl⟩ ⟨Nat.zero_le _, Nat.zero_le _⟩ rfl hl.1 rfl (Nat.le_of_ble_eq_true rfl) dX0_readPart_81 (fun H locs hP hS => ?_)
      refine lv_if_ne (tgt := 89) hx hb dX0_readPart_84 (by decide) (fun c84 => ?_) (fun c84 => ?_)
      · have hres := (itl hres).2 c84
        refine lv_aload_n hx hb dX0_readPart_89 rfl (lv_at hl 0 rfl) ?_
        refine gX_rdg_number hx hb hown hw0 hK hP u3 dX0_readPart_90 ?_
        refine lv_istore (lv' := [(4, .int q81.2.2.2.2), (0, .ref (a 25)), (1, .int x1), (2, .int x2), (3, .int x3)]) hx hb dX0_readPart_93 hl (by decide) rfl (fun ls hl => ?_)
        refine lv_aload_n hx hb dX0_readPart_95 rfl (lv_at hl 1 rfl) ?_
        obtain ⟨q96, e96, hres⟩ := obd hres
        refine cvV (q0 := 25) (ci := 0) hx hb hml hown hts hEo hE hK hP hS (kX0_step l D a cI cJ cS hd hEo par kin lea mos wrt tal siz tol hrs ags yea kpar kkin klea kmos kwrt ktal ksiz ktol khrs kags kyea isk tly gai bes low hig spn byt hld q81.2.1 q81.2.2.1 q81.2.2.2.1 q81.2.2.2.2 fnd sbi she snu  q96 e96) gX0_readPart_X0_step rfl hdX0_step rfl rfl rfl ⟨rfl, rfl⟩ ⟨Nat.le_of_ble_eq_true rfl, Nat.le_of_ble_eq_true rfl⟩ ⟨Nat.zero_le _, Nat.zero_le _⟩ rfl hl.1 rfl (Nat.le_of_ble_eq_true rfl) dX0_readPart_96 (fun H locs hP hS => ?_)
        exact b99 par kin lea mos wrt q96.1 q96.2.1 q96.2.2 q81.2.2.2.2 x2 x3 q81.2.2.2.2 hres _ _ _ hP hS (lv_sub hl [1, 2, 3, 4, 0] rfl)
      · have hres := (itl hres).1 c84
        refine lv_iconst (v := 0) hx hb dX0_readPart_87 (by decide) ?_
        exact hQ ▸ rtZ (v := false)  hx hb hr hlk hP hS (by rw [← (Option.some.inj hres)]) (by rw [← (Option.some.inj hres)]) dX0_readPart_88
  unfold fX0_readPart at hres
  refine lv_aload_n hx hb dX0_readPart_0 rfl (lv_at hl 0 rfl) ?_
  refine gX_rdg_stock hx hb hown hw0 hK hP u1 dX0_readPart_1 ?_
  refine gX_now_parts hx hb hown hw3 hK hP u2 dX0_readPart_4 ?_
  refine lv_bipush (v := 16) hx hb dX0_readPart_7 (by decide) ?_
  refine lv_icmp_ge (tgt := 22) hx hb dX0_readPart_9 (by decide) (fun c9 => ?_) (fun c9 => ?_)
  · have hres := (itl hres).1 c9
    refine lv_iconst (v := 0) hx hb dX0_readPart_22 (by decide) ?_
    exact hQ ▸ rtZ (v := false)  hx hb hr hlk hP hS (by rw [← (Option.some.inj hres)]) (by rw [← (Option.some.inj hres)]) dX0_readPart_23
  · have hres := (itl hres).2 c9
    refine lv_aload_n hx hb dX0_readPart_12 rfl (lv_at hl 0 rfl) ?_
    refine lv_iconst (v := 1) hx hb dX0_readPart_13 (by decide) ?_
    refine lv_bipush (v := 12) hx hb dX0_readPart_14 (by decide) ?_
    obtain ⟨q16, e16, hres⟩ := obd hres
    refine cvI (q0 := 25) (ci := 0) hx hb hml hown hts hEo hE hK hP hS (kX0_stepToNumber l D a cI cJ cS hd hEo ut sa sb hEX par kin lea mos wrt tal siz tol hrs ags yea kpar kkin klea kmos kwrt ktal ksiz ktol khrs kags kyea isk tly gai bes low hig spn byt hld sta beh sor num fnd sbi she snu (1 : Int32) (12 : Int32) q16 e16) gX0_readPart_X0_stepToNumber rfl hdX0_stepToNumber rfl rfl rfl ⟨rfl, rfl⟩ ⟨Nat.le_of_ble_eq_true rfl, Nat.le_of_ble_eq_true rfl⟩ ⟨Nat.zero_le _, Nat.zero_le _⟩ rfl hl.1 rfl (Nat.le_of_ble_eq_true rfl) dX0_readPart_16 (fun H locs hP hS => ?_)
    refine lv_if_ne (tgt := 24) hx hb dX0_readPart_19 (by decide) (fun c19 => ?_) (fun c19 => ?_)
    · have hres := (itl hres).2 c19
      refine lv_aload_n hx hb dX0_readPart_24 rfl (lv_at hl 0 rfl) ?_
      refine gX_rdg_number hx hb hown hw0 hK hP u3 dX0_readPart_25 ?_
      refine lv_istore_n (lv' := [(2, .int q16.2.2.2.2), (0, .ref (a 25)), (1, .int x1)]) hx hb dX0_readPart_28 rfl hl (by decide) rfl (fun ls hl => ?_)
      refine lv_iload_n hx hb dX0_readPart_29 rfl (lv_at hl 0 rfl) ?_
      refine lv_istore_n (lv' := [(3, .int q16.2.2.2.2), (2, .int q16.2.2.2.2), (0, .ref (a 25)), (1, .int x1)]) hx hb dX0_readPart_30 rfl hl (by decide) rfl (fun ls hl => ?_)
      refine lv_iconst (v := 1) hx hb dX0_readPart_31 (by decide) ?_
      refine lv_istore (lv' := [(4, .int (1 : Int32)), (3, .int q16.2.2.2.2), (2, .int q16.2.2.2.2), (0, .ref (a 25)), (1, .int x1)]) hx hb dX0_readPart_32 hl (by decide) rfl (fun ls hl => ?_)
      refine lv_aload_n hx hb dX0_readPart_34 rfl (lv_at hl 3 rfl) ?_
      obtain ⟨q35, e35, hres⟩ := obd hres
      refine cvV (q0 := 25) (ci := 0) hx hb hml hown hts hEo hE hK hP hS (kX0_step l D a cI cJ cS hd hEo par kin lea mos wrt tal siz tol hrs ags yea kpar kkin klea kmos kwrt ktal ksiz ktol khrs kags kyea isk tly gai bes low hig spn byt hld q16.2.1 q16.2.2.1 q16.2.2.2.1 q16.2.2.2.2 fnd sbi she snu  q35 e35) gX0_readPart_X0_step rfl hdX0_step rfl rfl rfl ⟨rfl, rfl⟩ ⟨Nat.le_of_ble_eq_true rfl, Nat.le_of_ble_eq_true rfl⟩ ⟨Nat.zero_le _, Nat.zero_le _⟩ rfl hl.1 rfl (Nat.le_of_ble_eq_true rfl) dX0_readPart_35 (fun H locs hP hS => ?_)
      refine lv_aload_n hx hb dX0_readPart_38 rfl (lv_at hl 3 rfl) ?_
      refine va_ldcS hx hb hown ((hEX.2.2.1 _ _ _ hE).2.2.2.2.2.2.2.2.1) dX0_readPart_39 ?_
      obtain ⟨q41, e41, hres⟩ := obd hres
      refine cvI (q0 := 25) (ci := 0) hx hb hml hown hts hEo hE hK hP hS (kX0_isText l D a cI cJ cS hd hEo ut sa sb hEX par kin lea mos wrt tal siz tol hrs ags yea kpar kkin klea kmos kwrt ktal ksiz ktol khrs kags kyea isk tly gai bes low hig spn byt hld q35.1 q35.2.1 q35.2.2 q16.2.2.2.2 fnd sbi she snu 8 (by decide) q41 e41) gX0_readPart_X0_isText rfl hdX0_isText rfl rfl rfl ⟨rfl, rfl⟩ ⟨Nat.le_of_ble_eq_true rfl, Nat.le_of_ble_eq_true rfl⟩ ⟨Nat.zero_le _, Nat.zero_le _⟩ rfl hl.1 rfl (Nat.le_of_ble_eq_true rfl) dX0_readPart_41 (fun H locs hP hS => ?_)
      refine lv_if_eq (tgt := 68) hx hb dX0_readPart_44 (by decide) (fun c44 => ?_) (fun c44 => ?_)
      · have hres := (itl hres).1 c44
        exact b68 par kin lea mos wrt q35.1 q35.2.1 q35.2.2 q16.2.2.2.2 q16.2.2.2.2 q16.2.2.2.2 true hres _ _ _ hP hS (lv_sub hl [3, 4, 2, 1, 0] rfl)
      · have hres := (itl hres).2 c44
        refine lv_aload_n hx hb dX0_readPart_47 rfl (lv_at hl 3 rfl) ?_
        refine lv_iload_n hx hb dX0_readPart_48 rfl (lv_at hl 2 rfl) ?_
        refine lv_bipush (v := 12) hx hb dX0_readPart_49 (by decide) ?_
        obtain ⟨q51, e51, hres⟩ := obd hres
        refine cvI (q0 := 25) (ci := 0) hx hb hml hown hts hEo hE hK hP hS (kX0_stepToNumber l D a cI cJ cS hd hEo ut sa sb hEX par kin lea mos wrt tal siz tol hrs ags yea kpar kkin klea kmos kwrt ktal ksiz ktol khrs kags kyea isk tly gai bes low hig spn byt hld q35.1 q35.2.1 q35.2.2 q16.2.2.2.2 fnd sbi she snu q16.2.2.2.2 (12 : Int32) q51 e51) gX0_readPart_X0_stepToNumber rfl hdX0_stepToNumber rfl rfl rfl ⟨rfl, rfl⟩ ⟨Nat.le_of_ble_eq_true rfl, Nat.le_of_ble_eq_true rfl⟩ ⟨Nat.zero_le _, Nat.zero_le _⟩ rfl hl.1 rfl (Nat.le_of_ble_eq_true rfl) dX0_readPart_51 (fun H locs hP hS => ?_)
        refine lv_if_ne (tgt := 59) hx hb dX0_readPart_54 (by decide) (fun c54 => ?_) (fun c54 => ?_)
        · have hres := (itl hres).2 c54
          refine lv_aload_n hx hb dX0_readPart_59 rfl (lv_at hl 3 rfl) ?_
          refine gX_rdg_number hx hb hown hw0 hK hP u3 dX0_readPart_60 ?_
          refine lv_istore_n (lv' := [(3, .int q51.2.2.2.2), (4, .int (1 : Int32)), (2, .int q16.2.2.2.2), (0, .ref (a 25)), (1, .int x1)]) hx hb dX0_readPart_63 rfl hl (by decide) rfl (fun ls hl => ?_)
          refine lv_aload_n hx hb dX0_readPart_64 rfl (lv_at hl 3 rfl) ?_
          obtain ⟨q65, e65, hres⟩ := obd hres
          refine cvV (q0 := 25) (ci := 0) hx hb hml hown hts hEo hE hK hP hS (kX0_step l D a cI cJ cS hd hEo par kin lea mos wrt tal siz tol hrs ags yea kpar kkin klea kmos kwrt ktal ksiz ktol khrs kags kyea isk tly gai bes low hig spn byt hld q51.2.1 q51.2.2.1 q51.2.2.2.1 q51.2.2.2.2 fnd sbi she snu  q65 e65) gX0_readPart_X0_step rfl hdX0_step rfl rfl rfl ⟨rfl, rfl⟩ ⟨Nat.le_of_ble_eq_true rfl, Nat.le_of_ble_eq_true rfl⟩ ⟨Nat.zero_le _, Nat.zero_le _⟩ rfl hl.1 rfl (Nat.le_of_ble_eq_true rfl) dX0_readPart_65 (fun H locs hP hS => ?_)
          exact b68 par kin lea mos wrt q65.1 q65.2.1 q65.2.2 q51.2.2.2.2 q16.2.2.2.2 q51.2.2.2.2 true hres _ _ _ hP hS (lv_sub hl [3, 4, 2, 0, 1] rfl)
        · have hres := (itl hres).1 c54
          refine lv_iconst (v := 0) hx hb dX0_readPart_57 (by decide) ?_
          exact hQ ▸ rtZ (v := false)  hx hb hr hlk hP hS (by rw [← (Option.some.inj hres)]) (by rw [← (Option.some.inj hres)]) dX0_readPart_58
    · have hres := (itl hres).1 c19
      refine lv_iconst (v := 0) hx hb dX0_readPart_22 (by decide) ?_
      exact hQ ▸ rtZ (v := false)  hx hb hr hlk hP hS (by rw [← (Option.some.inj hres)]) (by rw [← (Option.some.inj hres)]) dX0_readPart_23
def fX3_addTale (tal : Int32) (siz : Nat → Int32) : Option (Int32 × Int32 × (Nat → Int32)) :=
  gd (ib tal 8) (some (tal, tal + (1 : Int32), upd siz tal.toNatClampNeg (0 : Int32)))
abbrev rX3_addTale : Room := { frames := 0, cells := 0, slots := 0, locals := 0 }
set_option maxHeartbeats 4000000 in
set_option maxRecDepth 100000 in
theorem kX3_addTale (l : Launch) (D : va_G) (a : Nat → Nat) (cI cJ cS : ClassId) (hd : aok a 36) {Env : (Nat → Prop) → State → Heap → Prop} (hEo : envOK Env) (par : Int32) (kin lea mos wrt : Nat → Int32) (tal : Int32) (siz tol : Nat → Int32) (hrs : Int32) (ags : Nat → Int32) (yea kpar : Int32) (kkin klea kmos kwrt : Nat → Int32) (ktal : Int32) (ksiz ktol : Nat → Int32) (khrs : Int32) (kags : Nat → Int32) (kyea isk : Int32) (tly : Nat → Int64) (gai bes : Nat → Int32) (low hig : Nat → Int64) (spn : Int32) (byt : Nat → Int32) (hld sta beh sor num : Int32) (fnd sbi she : Nat → Int32) (snu : Nat → Nat → Int64)  (res : Int32 × Int32 × (Nat → Int32)) (hres : fX3_addTale tal siz = some res) : CtI l D (tyL cI cJ cS) 36 a Env yX3_addTale wsX3_addTale rX3_addTale [.ref (a 1)] (wX a cI cJ cS par kin lea mos wrt tal siz tol hrs ags yea kpar kkin klea kmos kwrt ktal ksiz ktol khrs kags kyea isk tly gai bes low hig spn byt hld sta beh sor num fnd sbi she snu) (wX a cI cJ cS par kin lea mos wrt res.2.1 res.2.2 tol hrs ags yea kpar kkin klea kmos kwrt ktal ksiz ktol khrs kags kyea isk tly gai bes low hig spn byt hld sta beh sor num fnd sbi she snu) res.1 := by
  refine CtI_mk (cc := cX3_addTale) (maxL := 1) (ret := (some .int)) (by decide) rfl (Nat.le_of_ble_eq_true rfl) ?_
  intro p e s m args below meth c ls hx hb hr hlk hml hown hts hP hK hE hl
  have hS : va_S (adA a 36 s.heap.size) s.heap s.heap [] := va_S.rf
  have hl : lv_has ls 1 [(0, .ref (a 1))] := hl
  have hown : s.vm.findClass RX3 = some m.cls := hown
  have hw3 : ∀ w ∈ wsX30, w.before args s = true := fun w h => hts w (List.mem_cons_of_mem _ (List.mem_append_right _ h))
  have u1 : (Cond.fieldLink RX3 31 "YearWords$Stock" "sizes" "[I").before args s = true := hts _ (List.mem_of_getElem? (i := 1) (by decide +kernel))
  have u2 : (Cond.fieldLink RX3 28 "YearWords$Stock" "tales" "I").before args s = true := hts _ (List.mem_of_getElem? (i := 2) (by decide +kernel))
  obtain ⟨Q, hQ⟩ : ∃ Q, Q = mqI below D 36 a args s (wX a cI cJ cS par kin lea mos wrt res.2.1 res.2.2 tol hrs ags yea kpar kkin klea kmos kwrt ktal ksiz ktol khrs kags kyea isk tly gai bes low hig spn byt hld sta beh sor num fnd sbi she snu) res.1 := ⟨_, rfl⟩
  rw [← hQ]
  unfold fX3_addTale at hres
  refine lv_aload_n hx hb dX3_addTale_0 rfl (lv_at hl 0 rfl) ?_
  refine gX_now_sizes hx hb hown hw3 hK hP u1 dX3_addTale_1 ?_
  refine lv_aload_n hx hb dX3_addTale_4 rfl (lv_at hl 0 rfl) ?_
  refine gX_now_tales hx hb hown hw3 hK hP u2 dX3_addTale_5 ?_
  refine lv_iconst (v := 0) hx hb dX3_addTale_8 (by decide) ?_
  obtain ⟨i9, hres⟩ := gdi hres
  refine sX_siz hx hb hK hP hd hS i9 dX3_addTale_9 (fun H locs hP hS => ?_)
  refine lv_aload_n hx hb dX3_addTale_10 rfl (lv_at hl 0 rfl) ?_
  refine lv_dup hx hb dX3_addTale_11 rfl ?_
  refine gX_now_tales hx hb hown hw3 hK hP u2 dX3_addTale_12 ?_
  refine lv_dup_x1 hx hb dX3_addTale_15 rfl rfl ?_
  refine lv_iconst (v := 1) hx hb dX3_addTale_16 (by decide) ?_
  refine lv_iadd hx hb dX3_addTale_17 ?_
  refine pX_now_tales hx hb hown hw3 hK hP hd hS u2 dX3_addTale_18 (fun H locs hP hS => ?_)
  exact hQ ▸ rtI (v := tal)  hx hb hr hlk hP hS (by rw [← (Option.some.inj hres)]) (by rw [← (Option.some.inj hres)]) dX3_addTale_21
def fX3_addTold (siz : Nat → Int32) (tol : Nat → Int32) (x1 : Int32) (x2 : Int32) : Option (Int32 × (Nat → Int32) × (Nat → Int32)) :=
  gd (ib x1 8) (gd (ib ((x1 * (10 : Int32)) + (siz x1.toNatClampNeg)) 80) (gd (ib x1 8) (gd (ib x1 8) (some ((siz x1.toNatClampNeg) + (1 : Int32), upd siz x1.toNatClampNeg ((siz x1.toNatClampNeg) + (1 : Int32)), upd tol ((x1 * (10 : Int32)) + (siz x1.toNatClampNeg)).toNatClampNeg x2)))))
abbrev rX3_addTold : Room := { frames := 0, cells := 0, slots := 0, locals := 0 }
set_option maxHeartbeats 4000000 in
set_option maxRecDepth 100000 in
theorem kX3_addTold (l : Launch) (D : va_G) (a : Nat → Nat) (cI cJ cS : ClassId) (hd : aok a 36) {Env : (Nat → Prop) → State → Heap → Prop} (hEo : envOK Env) (par : Int32) (kin lea mos wrt : Nat → Int32) (tal : Int32) (siz tol : Nat → Int32) (hrs : Int32) (ags : Nat → Int32) (yea kpar : Int32) (kkin klea kmos kwrt : Nat → Int32) (ktal : Int32) (ksiz ktol : Nat → Int32) (khrs : Int32) (kags : Nat → Int32) (kyea isk : Int32) (tly : Nat → Int64) (gai bes : Nat → Int32) (low hig : Nat → Int64) (spn : Int32) (byt : Nat → Int32) (hld sta beh sor num : Int32) (fnd sbi she : Nat → Int32) (snu : Nat → Nat → Int64) (x1 : Int32) (x2 : Int32) (res : Int32 × (Nat → Int32) × (Nat → Int32)) (hres : fX3_addTold siz tol x1 x2 = some res) : CtI l D (tyL cI cJ cS) 36 a Env yX3_addTold wsX3_addTold rX3_addTold [.ref (a 1), .int x1, .int x2] (wX a cI cJ cS par kin lea mos wrt tal siz tol hrs ags yea kpar kkin klea kmos kwrt ktal ksiz ktol khrs kags kyea isk tly gai bes low hig spn byt hld sta beh sor num fnd sbi she snu) (wX a cI cJ cS par kin lea mos wrt tal res.2.1 res.2.2 hrs ags yea kpar kkin klea kmos kwrt ktal ksiz ktol khrs kags kyea isk tly gai bes low hig spn byt hld sta beh sor num fnd sbi she snu) res.1 := by
  refine CtI_mk (cc := cX3_addTold) (maxL := 3) (ret := (some .int)) (by decide) rfl (Nat.le_of_ble_eq_true rfl) ?_
  intro p e s m args below meth c ls hx hb hr hlk hml hown hts hP hK hE hl
  have hS : va_S (adA a 36 s.heap.size) s.heap s.heap [] := va_S.rf
  have hl : lv_has ls 3 [(0, .ref (a 1)), (1, .int x1), (2, .int x2)] := hl
  have hown : s.vm.findClass RX3 = some m.cls := hown
  have hw3 : ∀ w ∈ wsX30, w.before args s = true := fun w h => hts w (List.mem_cons_of_mem _ (List.mem_append_right _ h))
  have u1 : (Cond.fieldLink RX3 34 "YearWords$Stock" "told" "[I").before args s = true := hts _ (List.mem_of_getElem? (i := 1) (by decide +kernel))
  have u2 : (Cond.fieldLink RX3 31 "YearWords$Stock" "sizes" "[I").before args s = true := hts _ (List.mem_of_getElem? (i := 2) (by decide +kernel))
  obtain ⟨Q, hQ⟩ : ∃ Q, Q = mqI below D 36 a args s (wX a cI cJ cS par kin lea mos wrt tal res.2.1 res.2.2 hrs ags yea kpar kkin klea kmos kwrt ktal ksiz ktol khrs kags kyea isk tly gai bes low hig spn byt hld sta beh sor num fnd sbi she snu) res.1 := ⟨_, rfl⟩
  rw [← hQ]
  unfold fX3_addTold at hres
  refine lv_aload_n hx hb dX3_addTold_0 rfl (lv_at hl 0 rfl) ?_
  refine gX_now_told hx hb hown hw3 hK hP u1 dX3_addTold_1 ?_
  refine lv_iload_n hx hb dX3_addTold_4 rfl (lv_at hl 1 rfl) ?_
  refine lv_bipush (v := 10) hx hb dX3_addTold_5 (by decide) ?_
  refine lv_imul hx hb dX3_addTold_7 ?_
  refine lv_aload_n hx hb dX3_addTold_8 rfl (lv_at hl 0 rfl) ?_
  refine gX_now_sizes hx hb hown hw3 hK hP u2 dX3_addTold_9 ?_
  refine lv_iload_n hx hb dX3_addTold_12 rfl (lv_at hl 1 rfl) ?_
  obtain ⟨i13, hres⟩ := gdi hres
  refine lX_siz hx hb hK hP i13 dX3_addTold_13 ?_
  refine lv_iadd hx hb dX3_addTold_14 ?_
  refine lv_iload_n hx hb dX3_addTold_15 rfl (lv_at hl 2 rfl) ?_
  obtain ⟨i16, hres⟩ := gdi hres
  refine sX_tol hx hb hK hP hd hS i16 dX3_addTold_16 (fun H locs hP hS => ?_)
  refine lv_aload_n hx hb dX3_addTold_17 rfl (lv_at hl 0 rfl) ?_
  refine gX_now_sizes hx hb hown hw3 hK hP u2 dX3_addTold_18 ?_
  refine lv_iload_n hx hb dX3_addTold_21 rfl (lv_at hl 1 rfl) ?_
  refine lv_dup2_11 hx hb dX3_addTold_22 rfl rfl ?_
  obtain ⟨i23, hres⟩ := gdi hres
  refine lX_siz hx hb hK hP i23 dX3_addTold_23 ?_
  refine lv_iconst (v := 1) hx hb dX3_addTold_24 (by decide) ?_
  refine lv_iadd hx hb dX3_addTold_25 ?_
  refine lv_dup_x2 hx hb dX3_addTold_26 rfl rfl rfl ?_
  obtain ⟨i27, hres⟩ := gdi hres
  refine sX_siz hx hb hK hP hd hS i27 dX3_addTold_27 (fun H locs hP hS => ?_)
  exact hQ ▸ rtI (v := (siz x1.toNatClampNeg) + (1 : Int32))  hx hb hr hlk hP hS (by rw [← (Option.some.inj hres)]) (by rw [← (Option.some.inj hres)]) dX3_addTold_28
def fX0_readTale_b61 (K43 : Int32 → (Nat → Int32) → (Nat → Int32) → Int32 → Int32 → Int32 → Int32 → Option (Bool × Int32 × (Nat → Int32) × (Nat → Int32) × Int32 × Int32 × Int32 × Int32)) (par : Int32) (tal : Int32) (siz : Nat → Int32) (tol : Nat → Int32) (byt : Nat → Int32) (hld : Int32) (sta : Int32) (beh : Int32) (sor : Int32) (num : Int32) (x1 : Int32) (x2 : Int32) : Option (Bool × Int32 × (Nat → Int32) × (Nat → Int32) × Int32 × Int32 × Int32 × Int32) :=
 (fX0_isNumber byt hld sta beh sor num (0 : Int32) (par - (1 : Int32))).bind fun q72 => if (bI q72.1) = 0 then some (false, tal, siz, tol, sta, beh, sor, q72.2) else (fX3_addTold siz tol x1 q72.2).bind fun q89 => (fX0_step byt hld sta beh sor).bind fun q94 => K43 (x2 + 1) q89.2.1 q89.2.2 q94.1 q94.2.1 q94.2.2 q72.2
def fX0_readTale_l43 (par : Int32) (tal : Int32) (byt : Nat → Int32) (hld : Int32) (x1 : Int32) (K43 : Int32 → (Nat → Int32) → (Nat → Int32) → Int32 → Int32 → Int32 → Int32 → Option (Bool × Int32 × (Nat → Int32) × (Nat → Int32) × Int32 × Int32 × Int32 × Int32)) (x2 : Int32) (siz : Nat → Int32) (tol : Nat → Int32) (sta : Int32) (beh : Int32) (sor : Int32) (num : Int32) : Option (Bool × Int32 × (Nat → Int32) × (Nat → Int32) × Int32 × Int32 × Int32 × Int32) :=
  if (10 : Int32) ≤ x2 then some (true, tal, siz, tol, sta, beh, sor, num) else if x2 = 0 then fX0_readTale_b61 K43 par tal siz tol byt hld sta beh sor num x1 x2 else if sor = (2 : Int32) then fX0_readTale_b61 K43 par tal siz tol byt hld sta beh sor num x1 x2 else some (true, tal, siz, tol, sta, beh, sor, num)
def fX0_readTale (par : Int32) (tal : Int32) (siz : Nat → Int32) (tol : Nat → Int32) (byt : Nat → Int32) (hld : Int32) (sta : Int32) (beh : Int32) (sor : Int32) (num : Int32) : Option (Bool × Int32 × (Nat → Int32) × (Nat → Int32) × Int32 × Int32 × Int32 × Int32) :=
  if tal < (8 : Int32) then (fX3_addTale tal siz).bind fun q18 => (fX0_step byt hld sta beh sor).bind fun q23 => (fX0_isText byt hld q23.1 q23.2.1 q23.2.2 10).bind fun q29 => if (bI q29) = 0 then some (true, q18.2.1, q18.2.2, tol, q23.1, q23.2.1, q23.2.2, num) else (fX0_step byt hld q23.1 q23.2.1 q23.2.2).bind fun q38 => fix7 (fX0_readTale_l43 par q18.2.1 byt hld q18.1) 2000 (0 : Int32) q18.2.2 tol q38.1 q38.2.1 q38.2.2 num else some (false, tal, siz, tol, sta, beh, sor, num)
theorem hdX3_addTale : yX3_addTale.cls = RX3 ∧ yX3_addTale.cls ≠ "java/lang/invoke/MethodHandle" ∧ yX3_addTale.cls ≠ "java/lang/invoke/VarHandle" ∧ (parseMethodDescriptor yX3_addTale.desc).map (fun d => d.parameters.length) = some 0 := by decide +kernel
theorem hdX3_addTold : yX3_addTold.cls = RX3 ∧ yX3_addTold.cls ≠ "java/lang/invoke/MethodHandle" ∧ yX3_addTold.cls ≠ "java/lang/invoke/VarHandle" ∧ (parseMethodDescriptor yX3_addTold.desc).map (fun d => d.parameters.length) = some 2 := by decide +kernel
abbrev rX0_readTale : Room := { frames := 5, cells := 0, slots := 0, locals := 107 }
set_option maxHeartbeats 4000000 in
set_option maxRecDepth 100000 in
theorem kX0_readTale (l : Launch) (D : va_G) (a : Nat → Nat) (cI cJ cS : ClassId) (hd : aok a 36) {Env : (Nat → Prop) → State → Heap → Prop} (hEo : envOK Env) (ut : Nat) (sa sb : Nat → Nat) (hEX : envX Env ut sa sb) (par : Int32) (kin lea mos wrt : Nat → Int32) (tal : Int32) (siz tol : Nat → Int32) (hrs : Int32) (ags : Nat → Int32) (yea kpar : Int32) (kkin klea kmos kwrt : Nat → Int32) (ktal : Int32) (ksiz ktol : Nat → Int32) (khrs : Int32) (kags : Nat → Int32) (kyea isk : Int32) (tly : Nat → Int64) (gai bes : Nat → Int32) (low hig : Nat → Int64) (spn : Int32) (byt : Nat → Int32) (hld sta beh sor num : Int32) (fnd sbi she : Nat → Int32) (snu : Nat → Nat → Int64)  (res : Bool × Int32 × (Nat → Int32) × (Nat → Int32) × Int32 × Int32 × Int32 × Int32) (hres : fX0_readTale par tal siz tol byt hld sta beh sor num = some res) : CtI l D (tyL cI cJ cS) 36 a Env yX0_readTale wsX0_readTale rX0_readTale [.ref (a 25)] (wX a cI cJ cS par kin lea mos wrt tal siz tol hrs ags yea kpar kkin klea kmos kwrt ktal ksiz ktol khrs kags kyea isk tly gai bes low hig spn byt hld sta beh sor num fnd sbi she snu) (wX a cI cJ cS par kin lea mos wrt res.2.1 res.2.2.1 res.2.2.2.1 hrs ags yea kpar kkin klea kmos kwrt ktal ksiz ktol khrs kags kyea isk tly gai bes low hig spn byt hld res.2.2.2.2.1 res.2.2.2.2.2.1 res.2.2.2.2.2.2.1 res.2.2.2.2.2.2.2 fnd sbi she snu) (bI res.1) := by
  refine CtI_mk (cc := cX0_readTale) (maxL := 3) (ret := (some .boolean)) (by decide) rfl (Nat.le_of_ble_eq_true rfl) ?_
  intro p e s m args below meth c ls hx hb hr hlk hml hown hts hP hK hE hl
  have hS : va_S (adA a 36 s.heap.size) s.heap s.heap [] := va_S.rf
  have hl : lv_has ls 3 [(0, .ref (a 25))] := hl
  have hown : s.vm.findClass RX0 = some m.cls := hown
  have hw0 : ∀ w ∈ wsX00, w.before args s = true := fun w h => hts w (List.mem_cons_of_mem _ (List.mem_append_left _ (List.mem_append_left _ (List.mem_append_right _ h))))
  have hw3 : ∀ w ∈ wsX30, w.before args s = true := fun w h => hts w (List.mem_cons_of_mem _ (List.mem_append_left _ (List.mem_append_right _ h)))
  have u1 : (Cond.fieldLink RX0 28 "YearWords$Reading" "stock" "LYearWords$Stock;").before args s = true := hts _ (List.mem_of_getElem? (i := 1) (by decide +kernel))
  have u2 : (Cond.fieldLink RX0 78 "YearWords$Stock" "tales" "I").before args s = true := hts _ (List.mem_of_getElem? (i := 2) (by decide +kernel))
  have u3 : (Cond.fieldLink RX0 18 "YearWords$Reading" "sort" "I").before args s = true := hts _ (List.mem_of_getElem? (i := 3) (by decide +kernel))
  have u4 : (Cond.fieldLink RX0 61 "YearWords$Stock" "parts" "I").before args s = true := hts _ (List.mem_of_getElem? (i := 4) (by decide +kernel))
  have u5 : (Cond.fieldLink RX0 21 "YearWords$Reading" "number" "I").before args s = true := hts _ (List.mem_of_getElem? (i := 5) (by decide +kernel))
  obtain ⟨Q, hQ⟩ : ∃ Q, Q = mqI below D 36 a args s (wX a cI cJ cS par kin lea mos wrt res.2.1 res.2.2.1 res.2.2.2.1 hrs ags yea kpar kkin klea kmos kwrt ktal ksiz ktol khrs kags kyea isk tly gai bes low hig spn byt hld res.2.2.2.2.1 res.2.2.2.2.2.1 res.2.2.2.2.2.2.1 res.2.2.2.2.2.2.2 fnd sbi she snu) (bI res.1) := ⟨_, rfl⟩
  rw [← hQ]
  have b43 : ∀ (tal : Int32) (x1 : Int32) (n : Nat) (x2 : Int32) (siz : Nat → Int32) (tol : Nat → Int32) (sta : Int32) (beh : Int32) (sor : Int32) (num : Int32), fix7 (fX0_readTale_l43 par tal byt hld x1) n x2 siz tol sta beh sor num = some res → ∀ (H : Heap) (locs : List Loc) (ls : Array Slot), va_P D vwCl (wX a cI cJ cS par kin lea mos wrt tal siz tol hrs ags yea kpar kkin klea kmos kwrt ktal ksiz ktol khrs kags kyea isk tly gai bes low hig spn byt hld sta beh sor num fnd sbi she snu) H → va_S (adA a 36 s.heap.size) s.heap H locs → lv_has ls 3 [(0, .ref (a 25)), (1, .int x1), (2, .int x2)] → W p l e rX0_readTale s m args below meth c H locs 0 0 Q (F0 m 43 ls []) := by
    intro tal x1
    refine fix7_r ?_
    intro K43 hK43 x2 siz tol sta beh sor num hres H locs ls hP hS hl
    have b61 : ∀ (siz : Nat → Int32) (tol : Nat → Int32) (sta : Int32) (beh : Int32) (sor : Int32) (num : Int32) (x2 : Int32), fX0_readTale_b61 K43 par tal siz tol byt hld sta beh sor num x1 x2 = some res → ∀ (H : Heap) (locs : List Loc) (ls : Array Slot), va_P D vwCl (wX a cI cJ cS par kin lea mos wrt tal siz tol hrs ags yea kpar kkin klea kmos kwrt ktal ksiz ktol khrs kags kyea isk tly gai bes low hig spn byt hld sta beh sor num fnd sbi she snu) H → va_S (adA a 36 s.heap.size) s.heap H locs → lv_has ls 3 [(0, .ref (a 25)), (1, .int x1), (2, .int x2)] → W p l e rX0_readTale s m args below meth c H locs 0 0 Q (F0 m 61 ls []) := by
      intro siz tol sta beh sor num x2 hres H locs ls hP hS hl
      unfold fX0_readTale_b61 at hres
      refine lv_aload_n hx hb dX0_readTale_61 rfl (lv_at hl 0 rfl) ?_
      refine lv_iconst (v := 0) hx hb dX0_readTale_62 (by decide) ?_
      refine lv_aload_n hx hb dX0_readTale_63 rfl (lv_at hl 0 rfl) ?_
      refine gX_rdg_stock hx hb hown hw0 hK hP u1 dX0_readTale_64 ?_
      refine gX_now_parts hx hb hown hw3 hK hP u4 dX0_readTale_67 ?_
      refine lv_iconst (v := 1) hx hb dX0_readTale_70 (by decide) ?_
      refine lv_isub hx hb dX0_readTale_71 ?_
      obtain ⟨q72, e72, hres⟩ := obd hres
      refine cvI (q0 := 25) (ci := 0) hx hb hml hown hts hEo hE hK hP hS (kX0_isNumber l D a cI cJ cS hd hEo ut sa sb hEX par kin lea mos wrt tal siz tol hrs ags yea kpar kkin klea kmos kwrt ktal ksiz ktol khrs kags kyea isk tly gai bes low hig spn byt hld sta beh sor num fnd sbi she snu (0 : Int32) (par - (1 : Int32)) q72 e72) gX0_readTale_X0_isNumber rfl hdX0_isNumber rfl rfl rfl ⟨rfl, rfl⟩ ⟨Nat.le_of_ble_eq_true rfl, Nat.le_of_ble_eq_true rfl⟩ ⟨Nat.zero_le _, Nat.zero_le _⟩ rfl hl.1 rfl (Nat.le_of_ble_eq_true rfl) dX0_readTale_72 (fun H locs hP hS => ?_)
      refine lv_if_ne (tgt := 80) hx hb dX0_readTale_75 (by decide) (fun c75 => ?_) (fun c75 => ?_)
      · have hres := (itl hres).2 c75
        refine lv_aload_n hx hb dX0_readTale_80 rfl (lv_at hl 0 rfl) ?_
        refine gX_rdg_stock hx hb hown hw0 hK hP u1 dX0_readTale_81 ?_
        refine lv_iload_n hx hb dX0_readTale_84 rfl (lv_at hl 1 rfl) ?_
        refine lv_aload_n hx hb dX0_readTale_85 rfl (lv_at hl 0 rfl) ?_
        refine gX_rdg_number hx hb hown hw0 hK hP u5 dX0_readTale_86 ?_
        obtain ⟨q89, e89, hres⟩ := obd hres
        refine cvI (q0 := 1) (ci := 3) hx hb hml hown hts hEo hE hK hP hS (kX3_addTold l D a cI cJ cS hd hEo par kin lea mos wrt tal siz tol hrs ags yea kpar kkin klea kmos kwrt ktal ksiz ktol khrs kags kyea isk tly gai bes low hig spn byt hld sta beh sor q72.2 fnd sbi she snu x1 q72.2 q89 e89) gX0_readTale_X3_addTold rfl hdX3_addTold rfl rfl rfl ⟨rfl, rfl⟩ ⟨Nat.le_of_ble_eq_true rfl, Nat.le_of_ble_eq_true rfl⟩ ⟨Nat.zero_le _, Nat.zero_le _⟩ rfl hl.1 rfl (Nat.le_of_ble_eq_true rfl) dX0_readTale_89 (fun H locs hP hS => ?_)
        refine lv_pop hx hb dX0_readTale_92 rfl ?_
        refine lv_aload_n hx hb dX0_readTale_93 rfl (lv_at hl 0 rfl) ?_
        obtain ⟨q94, e94, hres⟩ := obd hres
        refine cvV (q0 := 25) (ci := 0) hx hb hml hown hts hEo hE hK hP hS (kX0_step l D a cI cJ cS hd hEo par kin lea mos wrt tal q89.2.1 q89.2.2 hrs ags yea kpar kkin klea kmos kwrt ktal ksiz ktol khrs kags kyea isk tly gai bes low hig spn byt hld sta beh sor q72.2 fnd sbi she snu  q94 e94) gX0_readTale_X0_step rfl hdX0_step rfl rfl rfl ⟨rfl, rfl⟩ ⟨Nat.le_of_ble_eq_true rfl, Nat.le_of_ble_eq_true rfl⟩ ⟨Nat.zero_le _, Nat.zero_le _⟩ rfl hl.1 rfl (Nat.le_of_ble_eq_true rfl) dX0_readTale_94 (fun H locs hP hS => ?_)
        refine lv_iinc (v := x2 + 1) (lv' := [(2, .int (x2 + 1)), (0, .ref (a 25)), (1, .int x1)]) hx hb dX0_readTale_97 hl (k := 2) rfl (congrArg (fun z => x2 + z) (by decide)) (by decide) rfl (fun ls hl => ?_)
        refine lv_goto (tgt := 43) hx hb dX0_readTale_100 (by decide) ?_
        exact hK43 (x2 + 1) q89.2.1 q89.2.2 q94.1 q94.2.1 q94.2.2 q72.2 hres _ _ _ hP hS (lv_sub hl [1, 2, 0] rfl)
      · have hres := (itl hres).1 c75
        refine lv_iconst (v := 0) hx hb dX0_readTale_78 (by decide) ?_
        exact hQ ▸ rtZ (v := false)  hx hb hr hlk hP hS (by rw [← (Option.some.inj hres)]) (by rw [← (Option.some.inj hres)]) dX0_readTale_79
    unfold fX0_readTale_l43 at hres
    refine lv_iload_n hx hb dX0_readTale_43 rfl (lv_at hl 2 rfl) ?_
    refine lv_bipush (v := 10) hx hb dX0_readTale_44 (by decide) ?_
    refine lv_icmp_ge (tgt := 103) hx hb dX0_readTale_46 (by decide) (fun c46 => ?_) (fun c46 => ?_)
    · have hres := (itl hres).1 c46
      refine lv_iconst (v := 1) hx hb dX0_readTale_103 (by decide) ?_
      exact hQ ▸ rtZ (v := true)  hx hb hr hlk hP hS (by rw [← (Option.some.inj hres)]) (by rw [← (Option.some.inj hres)]) dX0_readTale_104
    · have hres := (itl hres).2 c46
      refine lv_iload_n hx hb dX0_readTale_49 rfl (lv_at hl 2 rfl) ?_
      refine lv_if_eq (tgt := 61) hx hb dX0_readTale_50 (by decide) (fun c50 => ?_) (fun c50 => ?_)
      · have hres := (itl hres).1 c50
        exact b61 siz tol sta beh sor num x2 hres _ _ _ hP hS (lv_sub hl [0, 1, 2] rfl)
      · have hres := (itl hres).2 c50
        refine lv_aload_n hx hb dX0_readTale_53 rfl (lv_at hl 0 rfl) ?_
        refine gX_rdg_sort hx hb hown hw0 hK hP u3 dX0_readTale_54 ?_
        refine lv_iconst (v := 2) hx hb dX0_readTale_57 (by decide) ?_
        refine lv_icmp_ne (tgt := 103) hx hb dX0_readTale_58 (by decide) (fun c58 => ?_) (fun c58 => ?_)
        · have hres := (itl hres).2 c58
          refine lv_iconst (v := 1) hx hb dX0_readTale_103 (by decide) ?_
          exact hQ ▸ rtZ (v := true)  hx hb hr hlk hP hS (by rw [← (Option.some.inj hres)]) (by rw [← (Option.some.inj hres)]) dX0_readTale_104
        · have hres := (itl hres).1 c58
          exact b61 siz tol sta beh sor num x2 hres _ _ _ hP hS (lv_sub hl [0, 1, 2] rfl)
  unfold fX0_readTale at hres
  refine lv_aload_n hx hb dX0_readTale_0 rfl (lv_at hl 0 rfl) ?_
  refine gX_rdg_stock hx hb hown hw0 hK hP u1 dX0_readTale_1 ?_
  refine gX_now_tales hx hb hown hw3 hK hP u2 dX0_readTale_4 ?_
  refine lv_bipush (v := 8) hx hb dX0_readTale_7 (by decide) ?_
  refine lv_icmp_lt (tgt := 14) hx hb dX0_readTale_9 (by decide) (fun c9 => ?_) (fun c9 => ?_)
  · have hres := (itl hres).1 c9
    refine lv_aload_n hx hb dX0_readTale_14 rfl (lv_at hl 0 rfl) ?_
    refine gX_rdg_stock hx hb hown hw0 hK hP u1 dX0_readTale_15 ?_
    obtain ⟨q18, e18, hres⟩ := obd hres
    refine cvI (q0 := 1) (ci := 3) hx hb hml hown hts hEo hE hK hP hS (kX3_addTale l D a cI cJ cS hd hEo par kin lea mos wrt tal siz tol hrs ags yea kpar kkin klea kmos kwrt ktal ksiz ktol khrs kags kyea isk tly gai bes low hig spn byt hld sta beh sor num fnd sbi she snu  q18 e18) gX0_readTale_X3_addTale rfl hdX3_addTale rfl rfl rfl ⟨rfl, rfl⟩ ⟨Nat.le_of_ble_eq_true rfl, Nat.le_of_ble_eq_true rfl⟩ ⟨Nat.zero_le _, Nat.zero_le _⟩ rfl hl.1 rfl (Nat.le_of_ble_eq_true rfl) dX0_readTale_18 (fun H locs hP hS => ?_)
    refine lv_istore_n (lv' := [(1, .int q18.1), (0, .ref (a 25))]) hx hb dX0_readTale_21 rfl hl (by decide) rfl (fun ls hl => ?_)
    refine lv_aload_n hx hb dX0_readTale_22 rfl (lv_at hl 1 rfl) ?_
    obtain ⟨q23, e23, hres⟩ := obd hres
    refine cvV (q0 := 25) (ci := 0) hx hb hml hown hts hEo hE hK hP hS (kX0_step l D a cI cJ cS hd hEo par kin lea mos wrt q18.2.1 q18.2.2 tol hrs ags yea kpar kkin klea kmos kwrt ktal ksiz ktol khrs kags kyea isk tly gai bes low hig spn byt hld sta beh sor num fnd sbi she snu  q23 e23) gX0_readTale_X0_step rfl hdX0_step rfl rfl rfl ⟨rfl, rfl⟩ ⟨Nat.le_of_ble_eq_true rfl, Nat.le_of_ble_eq_true rfl⟩ ⟨Nat.zero_le _, Nat.zero_le _⟩ rfl hl.1 rfl (Nat.le_of_ble_eq_true rfl) dX0_readTale_23 (fun H locs hP hS => ?_)
    refine lv_aload_n hx hb dX0_readTale_26 rfl (lv_at hl 1 rfl) ?_
    refine va_ldcS hx hb hown ((hEX.2.2.1 _ _ _ hE).2.2.2.2.2.2.2.2.2.2) dX0_readTale_27 ?_
    obtain ⟨q29, e29, hres⟩ := obd hres
    refine cvI (q0 := 25) (ci := 0) hx hb hml hown hts hEo hE hK hP hS (kX0_isText l D a cI cJ cS hd hEo ut sa sb hEX par kin lea mos wrt q18.2.1 q18.2.2 tol hrs ags yea kpar kkin klea kmos kwrt ktal ksiz ktol khrs kags kyea isk tly gai bes low hig spn byt hld q23.1 q23.2.1 q23.2.2 num fnd sbi she snu 10 (by decide) q29 e29) gX0_readTale_X0_isText rfl hdX0_isText rfl rfl rfl ⟨rfl, rfl⟩ ⟨Nat.le_of_ble_eq_true rfl, Nat.le_of_ble_eq_true rfl⟩ ⟨Nat.zero_le _, Nat.zero_le _⟩ rfl hl.1 rfl (Nat.le_of_ble_eq_true rfl) dX0_readTale_29 (fun H locs hP hS => ?_)
    refine lv_if_ne (tgt := 37) hx hb dX0_readTale_32 (by decide) (fun c32 => ?_) (fun c32 => ?_)
    · have hres := (itl hres).2 c32
      refine lv_aload_n hx hb dX0_readTale_37 rfl (lv_at hl 1 rfl) ?_
      obtain ⟨q38, e38, hres⟩ := obd hres
      refine cvV (q0 := 25) (ci := 0) hx hb hml hown hts hEo hE hK hP hS (kX0_step l D a cI cJ cS hd hEo par kin lea mos wrt q18.2.1 q18.2.2 tol hrs ags yea kpar kkin klea kmos kwrt ktal ksiz ktol khrs kags kyea isk tly gai bes low hig spn byt hld q23.1 q23.2.1 q23.2.2 num fnd sbi she snu  q38 e38) gX0_readTale_X0_step rfl hdX0_step rfl rfl rfl ⟨rfl, rfl⟩ ⟨Nat.le_of_ble_eq_true rfl, Nat.le_of_ble_eq_true rfl⟩ ⟨Nat.zero_le _, Nat.zero_le _⟩ rfl hl.1 rfl (Nat.le_of_ble_eq_true rfl) dX0_readTale_38 (fun H locs hP hS => ?_)
      refine lv_iconst (v := 0) hx hb dX0_readTale_41 (by decide) ?_
      refine lv_istore_n (lv' := [(2, .int (0 : Int32)), (1, .int q18.1), (0, .ref (a 25))]) hx hb dX0_readTale_42 rfl hl (by decide) rfl (fun ls hl => ?_)
      exact b43 q18.2.1 q18.1 2000 (0 : Int32) q18.2.2 tol q38.1 q38.2.1 q38.2.2 num hres _ _ _ hP hS (lv_sub hl [2, 1, 0] rfl)
    · have hres := (itl hres).1 c32
      refine lv_iconst (v := 1) hx hb dX0_readTale_35 (by decide) ?_
      exact hQ ▸ rtZ (v := true)  hx hb hr hlk hP hS (by rw [← (Option.some.inj hres)]) (by rw [← (Option.some.inj hres)]) dX0_readTale_36
  · have hres := (itl hres).2 c9
    refine lv_iconst (v := 0) hx hb dX0_readTale_12 (by decide) ?_
    exact hQ ▸ rtZ (v := false)  hx hb hr hlk hP hS (by rw [← (Option.some.inj hres)]) (by rw [← (Option.some.inj hres)]) dX0_readTale_13
def fX3_addHearer (hrs : Int32) (ags : Nat → Int32) (x1 : Int32) : Option (Int32 × Int32 × (Nat → Int32)) :=
  gd (ib hrs 10) (some (hrs, hrs + (1 : Int32), upd ags hrs.toNatClampNeg x1))
abbrev rX3_addHearer : Room := { frames := 0, cells := 0, slots := 0, locals := 0 }
set_option maxHeartbeats 4000000 in
set_option maxRecDepth 100000 in
theorem kX3_addHearer (l : Launch) (D : va_G) (a : Nat → Nat) (cI cJ cS : ClassId) (hd : aok a 36) {Env : (Nat → Prop) → State → Heap → Prop} (hEo : envOK Env) (par : Int32) (kin lea mos wrt : Nat → Int32) (tal : Int32) (siz tol : Nat → Int32) (hrs : Int32) (ags : Nat → Int32) (yea kpar : Int32) (kkin klea kmos kwrt : Nat → Int32) (ktal : Int32) (ksiz ktol : Nat → Int32) (khrs : Int32) (kags : Nat → Int32) (kyea isk : Int32) (tly : Nat → Int64) (gai bes : Nat → Int32) (low hig : Nat → Int64) (spn : Int32) (byt : Nat → Int32) (hld sta beh sor num : Int32) (fnd sbi she : Nat → Int32) (snu : Nat → Nat → Int64) (x1 : Int32) (res : Int32 × Int32 × (Nat → Int32)) (hres : fX3_addHearer hrs ags x1 = some res) : CtI l D (tyL cI cJ cS) 36 a Env yX3_addHearer wsX3_addHearer rX3_addHearer [.ref (a 1), .int x1] (wX a cI cJ cS par kin lea mos wrt tal siz tol hrs ags yea kpar kkin klea kmos kwrt ktal ksiz ktol khrs kags kyea isk tly gai bes low hig spn byt hld sta beh sor num fnd sbi she snu) (wX a cI cJ cS par kin lea mos wrt tal siz tol res.2.1 res.2.2 yea kpar kkin klea kmos kwrt ktal ksiz ktol khrs kags kyea isk tly gai bes low hig spn byt hld sta beh sor num fnd sbi she snu) res.1 := by
  refine CtI_mk (cc := cX3_addHearer) (maxL := 2) (ret := (some .int)) (by decide) rfl (Nat.le_of_ble_eq_true rfl) ?_
  intro p e s m args below meth c ls hx hb hr hlk hml hown hts hP hK hE hl
  have hS : va_S (adA a 36 s.heap.size) s.heap s.heap [] := va_S.rf
  have hl : lv_has ls 2 [(0, .ref (a 1)), (1, .int x1)] := hl
  have hown : s.vm.findClass RX3 = some m.cls := hown
  have hw3 : ∀ w ∈ wsX30, w.before args s = true := fun w h => hts w (List.mem_cons_of_mem _ (List.mem_append_right _ h))
  have u1 : (Cond.fieldLink RX3 40 "YearWords$Stock" "ages" "[I").before args s = true := hts _ (List.mem_of_getElem? (i := 1) (by decide +kernel))
  have u2 : (Cond.fieldLink RX3 37 "YearWords$Stock" "hearers" "I").before args s = true := hts _ (List.mem_of_getElem? (i := 2) (by decide +kernel))
  obtain ⟨Q, hQ⟩ : ∃ Q, Q = mqI below D 36 a args s (wX a cI cJ cS par kin lea mos wrt tal siz tol res.2.1 res.2.2 yea kpar kkin klea kmos kwrt ktal ksiz ktol khrs kags kyea isk tly gai bes low hig spn byt hld sta beh sor num fnd sbi she snu) res.1 := ⟨_, rfl⟩
  rw [← hQ]
  unfold fX3_addHearer at hres
  refine lv_aload_n hx hb dX3_addHearer_0 rfl (lv_at hl 0 rfl) ?_
  refine gX_now_ages hx hb hown hw3 hK hP u1 dX3_addHearer_1 ?_
  refine lv_aload_n hx hb dX3_addHearer_4 rfl (lv_at hl 0 rfl) ?_
  refine gX_now_hearers hx hb hown hw3 hK hP u2 dX3_addHearer_5 ?_
  refine lv_iload_n hx hb dX3_addHearer_8 rfl (lv_at hl 1 rfl) ?_
  obtain ⟨i9, hres⟩ := gdi hres
  refine sX_ags hx hb hK hP hd hS i9 dX3_addHearer_9 (fun H locs hP hS => ?_)
  refine lv_aload_n hx hb dX3_addHearer_10 rfl (lv_at hl 0 rfl) ?_
  refine lv_dup hx hb dX3_addHearer_11 rfl ?_
  refine gX_now_hearers hx hb hown hw3 hK hP u2 dX3_addHearer_12 ?_
  refine lv_dup_x1 hx hb dX3_addHearer_15 rfl rfl ?_
  refine lv_iconst (v := 1) hx hb dX3_addHearer_16 (by decide) ?_
  refine lv_iadd hx hb dX3_addHearer_17 ?_
  refine pX_now_hearers hx hb hown hw3 hK hP hd hS u2 dX3_addHearer_18 (fun H locs hP hS => ?_)
  exact hQ ▸ rtI (v := hrs)  hx hb hr hlk hP hS (by rw [← (Option.some.inj hres)]) (by rw [← (Option.some.inj hres)]) dX3_addHearer_21
def fX0_readHearer (hrs : Int32) (ags : Nat → Int32) (byt : Nat → Int32) (hld : Int32) (sta : Int32) (beh : Int32) (sor : Int32) (num : Int32) : Option (Bool × Int32 × (Nat → Int32) × Int32 × Int32 × Int32 × Int32) :=
  if (10 : Int32) ≤ hrs then some (false, hrs, ags, sta, beh, sor, num) else (fX0_stepToNumber byt hld sta beh sor num (0 : Int32) (99 : Int32)).bind fun q16 => if (bI q16.1) = 0 then some (false, hrs, ags, q16.2.1, q16.2.2.1, q16.2.2.2.1, q16.2.2.2.2) else (fX3_addHearer hrs ags q16.2.2.2.2).bind fun q32 => (fX0_step byt hld q16.2.1 q16.2.2.1 q16.2.2.2.1).bind fun q37 => some (true, q32.2.1, q32.2.2, q37.1, q37.2.1, q37.2.2, q16.2.2.2.2)
theorem hdX3_addHearer : yX3_addHearer.cls = RX3 ∧ yX3_addHearer.cls ≠ "java/lang/invoke/MethodHandle" ∧ yX3_addHearer.cls ≠ "java/lang/invoke/VarHandle" ∧ (parseMethodDescriptor yX3_addHearer.desc).map (fun d => d.parameters.length) = some 1 := by decide +kernel
abbrev rX0_readHearer : Room := { frames := 3, cells := 0, slots := 0, locals := 68 }
set_option maxHeartbeats 4000000 in
set_option maxRecDepth 100000 in
theorem kX0_readHearer (l : Launch) (D : va_G) (a : Nat → Nat) (cI cJ cS : ClassId) (hd : aok a 36) {Env : (Nat → Prop) → State → Heap → Prop} (hEo : envOK Env) (ut : Nat) (sa sb : Nat → Nat) (hEX : envX Env ut sa sb) (par : Int32) (kin lea mos wrt : Nat → Int32) (tal : Int32) (siz tol : Nat → Int32) (hrs : Int32) (ags : Nat → Int32) (yea kpar : Int32) (kkin klea kmos kwrt : Nat → Int32) (ktal : Int32) (ksiz ktol : Nat → Int32) (khrs : Int32) (kags : Nat → Int32) (kyea isk : Int32) (tly : Nat → Int64) (gai bes : Nat → Int32) (low hig : Nat → Int64) (spn : Int32) (byt : Nat → Int32) (hld sta beh sor num : Int32) (fnd sbi she : Nat → Int32) (snu : Nat → Nat → Int64)  (res : Bool × Int32 × (Nat → Int32) × Int32 × Int32 × Int32 × Int32) (hres : fX0_readHearer hrs ags byt hld sta beh sor num = some res) : CtI l D (tyL cI cJ cS) 36 a Env yX0_readHearer wsX0_readHearer rX0_readHearer [.ref (a 25)] (wX a cI cJ cS par kin lea mos wrt tal siz tol hrs ags yea kpar kkin klea kmos kwrt ktal ksiz ktol khrs kags kyea isk tly gai bes low hig spn byt hld sta beh sor num fnd sbi she snu) (wX a cI cJ cS par kin lea mos wrt tal siz tol res.2.1 res.2.2.1 yea kpar kkin klea kmos kwrt ktal ksiz ktol khrs kags kyea isk tly gai bes low hig spn byt hld res.2.2.2.1 res.2.2.2.2.1 res.2.2.2.2.2.1 res.2.2.2.2.2.2 fnd sbi she snu) (bI res.1) := by
  refine CtI_mk (cc := cX0_readHearer) (maxL := 1) (ret := (some .boolean)) (by decide) rfl (Nat.le_of_ble_eq_true rfl) ?_
  intro p e s m args below meth c ls hx hb hr hlk hml hown hts hP hK hE hl
  have hS : va_S (adA a 36 s.heap.size) s.heap s.heap [] := va_S.rf
  have hl : lv_has ls 1 [(0, .ref (a 25))] := hl
  have hown : s.vm.findClass RX0 = some m.cls := hown
  have hw0 : ∀ w ∈ wsX00, w.before args s = true := fun w h => hts w (List.mem_cons_of_mem _ (List.mem_append_left _ (List.mem_append_left _ (List.mem_append_right _ h))))
  have hw3 : ∀ w ∈ wsX30, w.before args s = true := fun w h => hts w (List.mem_cons_of_mem _ (List.mem_append_left _ (List.mem_append_right _ h)))
  have u1 : (Cond.fieldLink RX0 28 "YearWords$Reading" "stock" "LYearWords$Stock;").before args s = true := hts _ (List.mem_of_getElem? (i := 1) (by decide +kernel))
  have u2 : (Cond.fieldLink RX0 94 "YearWords$Stock" "hearers" "I").before args s = true := hts _ (List.mem_of_getElem? (i := 2) (by decide +kernel))
  have u3 : (Cond.fieldLink RX0 21 "YearWords$Reading" "number" "I").before args s = true := hts _ (List.mem_of_getElem? (i := 3) (by decide +kernel))
  obtain ⟨Q, hQ⟩ : ∃ Q, Q = mqI below D 36 a args s (wX a cI cJ cS par kin lea mos wrt tal siz tol res.2.1 res.2.2.1 yea kpar kkin klea kmos kwrt ktal ksiz ktol khrs kags kyea isk tly gai bes low hig spn byt hld res.2.2.2.1 res.2.2.2.2.1 res.2.2.2.2.2.1 res.2.2.2.2.2.2 fnd sbi she snu) (bI res.1) := ⟨_, rfl⟩
  rw [← hQ]
  unfold fX0_readHearer at hres
  refine lv_aload_n hx hb dX0_readHearer_0 rfl (lv_at hl 0 rfl) ?_
  refine gX_rdg_stock hx hb hown hw0 hK hP u1 dX0_readHearer_1 ?_
  refine gX_now_hearers hx hb hown hw3 hK hP u2 dX0_readHearer_4 ?_
  refine lv_bipush (v := 10) hx hb dX0_readHearer_7 (by decide) ?_
  refine lv_icmp_ge (tgt := 22) hx hb dX0_readHearer_9 (by decide) (fun c9 => ?_) (fun c9 => ?_)
  · have hres := (itl hres).1 c9
    refine lv_iconst (v := 0) hx hb dX0_readHearer_22 (by decide) ?_
    exact hQ ▸ rtZ (v := false)  hx hb hr hlk hP hS (by rw [← (Option.some.inj hres)]) (by rw [← (Option.some.inj hres)]) dX0_readHearer_23
  · have hres := (itl hres).2 c9
    refine lv_aload_n hx hb dX0_readHearer_12 rfl (lv_at hl 0 rfl) ?_
    refine lv_iconst (v := 0) hx hb dX0_readHearer_13 (by decide) ?_
    refine lv_bipush (v := 99) hx hb dX0_readHearer_14 (by decide) ?_
    obtain ⟨q16, e16, hres⟩ := obd hres
    refine cvI (q0 := 25) (ci := 0) hx hb hml hown hts hEo hE hK hP hS (kX0_stepToNumber l D a cI cJ cS hd hEo ut sa sb hEX par kin lea mos wrt tal siz tol hrs ags yea kpar kkin klea kmos kwrt ktal ksiz ktol khrs kags kyea isk tly gai bes low hig spn byt hld sta beh sor num fnd sbi she snu (0 : Int32) (99 : Int32) q16 e16) gX0_readHearer_X0_stepToNumber rfl hdX0_stepToNumber rfl rfl rfl ⟨rfl, rfl⟩ ⟨Nat.le_of_ble_eq_true rfl, Nat.le_of_ble_eq_true rfl⟩ ⟨Nat.zero_le _, Nat.zero_le _⟩ rfl hl.1 rfl (Nat.le_of_ble_eq_true rfl) dX0_readHearer_16 (fun H locs hP hS => ?_)
    refine lv_if_ne (tgt := 24) hx hb dX0_readHearer_19 (by decide) (fun c19 => ?_) (fun c19 => ?_)
    · have hres := (itl hres).2 c19
      refine lv_aload_n hx hb dX0_readHearer_24 rfl (lv_at hl 0 rfl) ?_
      refine gX_rdg_stock hx hb hown hw0 hK hP u1 dX0_readHearer_25 ?_
      refine lv_aload_n hx hb dX0_readHearer_28 rfl (lv_at hl 0 rfl) ?_
      refine gX_rdg_number hx hb hown hw0 hK hP u3 dX0_readHearer_29 ?_
      obtain ⟨q32, e32, hres⟩ := obd hres
      refine cvI (q0 := 1) (ci := 3) hx hb hml hown hts hEo hE hK hP hS (kX3_addHearer l D a cI cJ cS hd hEo par kin lea mos wrt tal siz tol hrs ags yea kpar kkin klea kmos kwrt ktal ksiz ktol khrs kags kyea isk tly gai bes low hig spn byt hld q16.2.1 q16.2.2.1 q16.2.2.2.1 q16.2.2.2.2 fnd sbi she snu q16.2.2.2.2 q32 e32) gX0_readHearer_X3_addHearer rfl hdX3_addHearer rfl rfl rfl ⟨rfl, rfl⟩ ⟨Nat.le_of_ble_eq_true rfl, Nat.le_of_ble_eq_true rfl⟩ ⟨Nat.zero_le _, Nat.zero_le _⟩ rfl hl.1 rfl (Nat.le_of_ble_eq_true rfl) dX0_readHearer_32 (fun H locs hP hS => ?_)
      refine lv_pop hx hb dX0_readHearer_35 rfl ?_
      refine lv_aload_n hx hb dX0_readHearer_36 rfl (lv_at hl 0 rfl) ?_
      obtain ⟨q37, e37, hres⟩ := obd hres
      refine cvV (q0 := 25) (ci := 0) hx hb hml hown hts hEo hE hK hP hS (kX0_step l D a cI cJ cS hd hEo par kin lea mos wrt tal siz tol q32.2.1 q32.2.2 yea kpar kkin klea kmos kwrt ktal ksiz ktol khrs kags kyea isk tly gai bes low hig spn byt hld q16.2.1 q16.2.2.1 q16.2.2.2.1 q16.2.2.2.2 fnd sbi she snu  q37 e37) gX0_readHearer_X0_step rfl hdX0_step rfl rfl rfl ⟨rfl, rfl⟩ ⟨Nat.le_of_ble_eq_true rfl, Nat.le_of_ble_eq_true rfl⟩ ⟨Nat.zero_le _, Nat.zero_le _⟩ rfl hl.1 rfl (Nat.le_of_ble_eq_true rfl) dX0_readHearer_37 (fun H locs hP hS => ?_)
      refine lv_iconst (v := 1) hx hb dX0_readHearer_40 (by decide) ?_
      exact hQ ▸ rtZ (v := true)  hx hb hr hlk hP hS (by rw [← (Option.some.inj hres)]) (by rw [← (Option.some.inj hres)]) dX0_readHearer_41
    · have hres := (itl hres).1 c19
      refine lv_iconst (v := 0) hx hb dX0_readHearer_22 (by decide) ?_
      exact hQ ▸ rtZ (v := false)  hx hb hr hlk hP hS (by rw [← (Option.some.inj hres)]) (by rw [← (Option.some.inj hres)]) dX0_readHearer_23
def fX0_readItem_b19 (par : Int32) (kin : Nat → Int32) (lea : Nat → Int32) (mos : Nat → Int32) (wrt : Nat → Int32) (tal : Int32) (siz : Nat → Int32) (tol : Nat → Int32) (hrs : Int32) (ags : Nat → Int32) (byt : Nat → Int32) (hld : Int32) (sta : Int32) (beh : Int32) (sor : Int32) (num : Int32) (x1 : Int32) : Option (Bool × Int32 × (Nat → Int32) × (Nat → Int32) × (Nat → Int32) × (Nat → Int32) × Int32 × (Nat → Int32) × (Nat → Int32) × Int32 × (Nat → Int32) × Int32 × Int32 × Int32 × Int32) :=
 (fX0_readPart par kin lea mos wrt byt hld sta beh sor num x1).bind fun q21 => some (q21.1, q21.2.1, q21.2.2.1, q21.2.2.2.1, q21.2.2.2.2.1, q21.2.2.2.2.2.1, tal, siz, tol, hrs, ags, q21.2.2.2.2.2.2.1, q21.2.2.2.2.2.2.2.1, q21.2.2.2.2.2.2.2.2.1, q21.2.2.2.2.2.2.2.2.2)
def fX0_readItem_b31 (par : Int32) (kin : Nat → Int32) (lea : Nat → Int32) (mos : Nat → Int32) (wrt : Nat → Int32) (tal : Int32) (siz : Nat → Int32) (tol : Nat → Int32) (hrs : Int32) (ags : Nat → Int32) (byt : Nat → Int32) (hld : Int32) (sta : Int32) (beh : Int32) (sor : Int32) (num : Int32) : Option (Bool × Int32 × (Nat → Int32) × (Nat → Int32) × (Nat → Int32) × (Nat → Int32) × Int32 × (Nat → Int32) × (Nat → Int32) × Int32 × (Nat → Int32) × Int32 × Int32 × Int32 × Int32) :=
 (fX0_isText byt hld sta beh sor 6).bind fun q34 => if (bI q34) = 0 then (fX0_isText byt hld sta beh sor 7).bind fun q48 => if (bI q48) = 0 then some (false, par, kin, lea, mos, wrt, tal, siz, tol, hrs, ags, sta, beh, sor, num) else (fX0_readHearer hrs ags byt hld sta beh sor num).bind fun q55 => if (bI q55.1) = 0 then some (false, par, kin, lea, mos, wrt, tal, siz, tol, q55.2.1, q55.2.2.1, q55.2.2.2.1, q55.2.2.2.2.1, q55.2.2.2.2.2.1, q55.2.2.2.2.2.2) else some (true, par, kin, lea, mos, wrt, tal, siz, tol, q55.2.1, q55.2.2.1, q55.2.2.2.1, q55.2.2.2.2.1, q55.2.2.2.2.2.1, q55.2.2.2.2.2.2) else (fX0_readTale par tal siz tol byt hld sta beh sor num).bind fun q41 => some (q41.1, par, kin, lea, mos, wrt, q41.2.1, q41.2.2.1, q41.2.2.2.1, hrs, ags, q41.2.2.2.2.1, q41.2.2.2.2.2.1, q41.2.2.2.2.2.2.1, q41.2.2.2.2.2.2.2)
def fX0_readItem_l2 (par : Int32) (kin : Nat → Int32) (lea : Nat → Int32) (mos : Nat → Int32) (wrt : Nat → Int32) (tal : Int32) (siz : Nat → Int32) (tol : Nat → Int32) (hrs : Int32) (ags : Nat → Int32) (byt : Nat → Int32) (hld : Int32) (sta : Int32) (beh : Int32) (sor : Int32) (num : Int32) (K2 : Int32 → Option (Bool × Int32 × (Nat → Int32) × (Nat → Int32) × (Nat → Int32) × (Nat → Int32) × Int32 × (Nat → Int32) × (Nat → Int32) × Int32 × (Nat → Int32) × Int32 × Int32 × Int32 × Int32)) (x1 : Int32) : Option (Bool × Int32 × (Nat → Int32) × (Nat → Int32) × (Nat → Int32) × (Nat → Int32) × Int32 × (Nat → Int32) × (Nat → Int32) × Int32 × (Nat → Int32) × Int32 × Int32 × Int32 × Int32) :=
  if (6 : Int32) ≤ x1 then fX0_readItem_b31 par kin lea mos wrt tal siz tol hrs ags byt hld sta beh sor num else (fX0_isText byt hld sta beh sor (fX0_kindText x1)).bind fun q13 => if (bI q13) = 0 then K2 (x1 + 1) else fX0_readItem_b19 par kin lea mos wrt tal siz tol hrs ags byt hld sta beh sor num x1
def fX0_readItem (par : Int32) (kin : Nat → Int32) (lea : Nat → Int32) (mos : Nat → Int32) (wrt : Nat → Int32) (tal : Int32) (siz : Nat → Int32) (tol : Nat → Int32) (hrs : Int32) (ags : Nat → Int32) (byt : Nat → Int32) (hld : Int32) (sta : Int32) (beh : Int32) (sor : Int32) (num : Int32) : Option (Bool × Int32 × (Nat → Int32) × (Nat → Int32) × (Nat → Int32) × (Nat → Int32) × Int32 × (Nat → Int32) × (Nat → Int32) × Int32 × (Nat → Int32) × Int32 × Int32 × Int32 × Int32) :=
  fix1 (fX0_readItem_l2 par kin lea mos wrt tal siz tol hrs ags byt hld sta beh sor num) 2000 (0 : Int32)
theorem hdX0_kindText : yX0_kindText.cls ≠ "java/lang/invoke/MethodHandle" ∧ yX0_kindText.cls ≠ "java/lang/invoke/VarHandle" ∧ (parseMethodDescriptor yX0_kindText.desc).map (fun d => d.parameters.length) = some 1 := by decide +kernel
theorem hdX0_readHearer : yX0_readHearer.cls = RX0 ∧ yX0_readHearer.cls ≠ "java/lang/invoke/MethodHandle" ∧ yX0_readHearer.cls ≠ "java/lang/invoke/VarHandle" ∧ (parseMethodDescriptor yX0_readHearer.desc).map (fun d => d.parameters.length) = some 0 := by decide +kernel
theorem hdX0_readPart : yX0_readPart.cls = RX0 ∧ yX0_readPart.cls ≠ "java/lang/invoke/MethodHandle" ∧ yX0_readPart.cls ≠ "java/lang/invoke/VarHandle" ∧ (parseMethodDescriptor yX0_readPart.desc).map (fun d => d.parameters.length) = some 1 := by decide +kernel
theorem hdX0_readTale : yX0_readTale.cls = RX0 ∧ yX0_readTale.cls ≠ "java/lang/invoke/MethodHandle" ∧ yX0_readTale.cls ≠ "java/lang/invoke/VarHandle" ∧ (parseMethodDescriptor yX0_readTale.desc).map (fun d => d.parameters.length) = some 0 := by decide +kernel
abbrev rX0_readItem : Room := { frames := 6, cells := 0, slots := 0, locals := 131 }
set_option maxHeartbeats 4000000 in
set_option maxRecDepth 100000 in
theorem kX0_readItem (l : Launch) (D : va_G) (a : Nat → Nat) (cI cJ cS : ClassId) (hd : aok a 36) {Env : (Nat → Prop) → State → Heap → Prop} (hEo : envOK Env) (ut : Nat) (sa sb : Nat → Nat) (hEX : envX Env ut sa sb) (par : Int32) (kin lea mos wrt : Nat → Int32) (tal : Int32) (siz tol : Nat → Int32) (hrs : Int32) (ags : Nat → Int32) (yea kpar : Int32) (kkin klea kmos kwrt : Nat → Int32) (ktal : Int32) (ksiz ktol : Nat → Int32) (khrs : Int32) (kags : Nat → Int32) (kyea isk : Int32) (tly : Nat → Int64) (gai bes : Nat → Int32) (low hig : Nat → Int64) (spn : Int32) (byt : Nat → Int32) (hld sta beh sor num : Int32) (fnd sbi she : Nat → Int32) (snu : Nat → Nat → Int64)  (res : Bool × Int32 × (Nat → Int32) × (Nat → Int32) × (Nat → Int32) × (Nat → Int32) × Int32 × (Nat → Int32) × (Nat → Int32) × Int32 × (Nat → Int32) × Int32 × Int32 × Int32 × Int32) (hres : fX0_readItem par kin lea mos wrt tal siz tol hrs ags byt hld sta beh sor num = some res) : CtI l D (tyL cI cJ cS) 36 a Env yX0_readItem wsX0_readItem rX0_readItem [.ref (a 25)] (wX a cI cJ cS par kin lea mos wrt tal siz tol hrs ags yea kpar kkin klea kmos kwrt ktal ksiz ktol khrs kags kyea isk tly gai bes low hig spn byt hld sta beh sor num fnd sbi she snu) (wX a cI cJ cS res.2.1 res.2.2.1 res.2.2.2.1 res.2.2.2.2.1 res.2.2.2.2.2.1 res.2.2.2.2.2.2.1 res.2.2.2.2.2.2.2.1 res.2.2.2.2.2.2.2.2.1 res.2.2.2.2.2.2.2.2.2.1 res.2.2.2.2.2.2.2.2.2.2.1 yea kpar kkin klea kmos kwrt ktal ksiz ktol khrs kags kyea isk tly gai bes low hig spn byt hld res.2.2.2.2.2.2.2.2.2.2.2.1 res.2.2.2.2.2.2.2.2.2.2.2.2.1 res.2.2.2.2.2.2.2.2.2.2.2.2.2.1 res.2.2.2.2.2.2.2.2.2.2.2.2.2.2 fnd sbi she snu) (bI res.1) := by
  refine CtI_mk (cc := cX0_readItem) (maxL := 2) (ret := (some .boolean)) (by decide) rfl (Nat.le_of_ble_eq_true rfl) ?_
  intro p e s m args below meth c ls hx hb hr hlk hml hown hts hP hK hE hl
  have hS : va_S (adA a 36 s.heap.size) s.heap s.heap [] := va_S.rf
  have hl : lv_has ls 2 [(0, .ref (a 25))] := hl
  have hown : s.vm.findClass RX0 = some m.cls := hown
  obtain ⟨Q, hQ⟩ : ∃ Q, Q = mqI below D 36 a args s (wX a cI cJ cS res.2.1 res.2.2.1 res.2.2.2.1 res.2.2.2.2.1 res.2.2.2.2.2.1 res.2.2.2.2.2.2.1 res.2.2.2.2.2.2.2.1 res.2.2.2.2.2.2.2.2.1 res.2.2.2.2.2.2.2.2.2.1 res.2.2.2.2.2.2.2.2.2.2.1 yea kpar kkin klea kmos kwrt ktal ksiz ktol khrs kags kyea isk tly gai bes low hig spn byt hld res.2.2.2.2.2.2.2.2.2.2.2.1 res.2.2.2.2.2.2.2.2.2.2.2.2.1 res.2.2.2.2.2.2.2.2.2.2.2.2.2.1 res.2.2.2.2.2.2.2.2.2.2.2.2.2.2 fnd sbi she snu) (bI res.1) := ⟨_, rfl⟩
  rw [← hQ]
  have b19 : ∀ (par : Int32) (kin : Nat → Int32) (lea : Nat → Int32) (mos : Nat → Int32) (wrt : Nat → Int32) (tal : Int32) (siz : Nat → Int32) (tol : Nat → Int32) (hrs : Int32) (ags : Nat → Int32) (sta : Int32) (beh : Int32) (sor : Int32) (num : Int32) (x1 : Int32), fX0_readItem_b19 par kin lea mos wrt tal siz tol hrs ags byt hld sta beh sor num x1 = some res → ∀ (H : Heap) (locs : List Loc) (ls : Array Slot), va_P D vwCl (wX a cI cJ cS par kin lea mos wrt tal siz tol hrs ags yea kpar kkin klea kmos kwrt ktal ksiz ktol khrs kags kyea isk tly gai bes low hig spn byt hld sta beh sor num fnd sbi she snu) H → va_S (adA a 36 s.heap.size) s.heap H locs → lv_has ls 2 [(0, .ref (a 25)), (1, .int x1)] → W p l e rX0_readItem s m args below meth c H locs 0 0 Q (F0 m 19 ls []) := by
    intro par kin lea mos wrt tal siz tol hrs ags sta beh sor num x1 hres H locs ls hP hS hl
    unfold fX0_readItem_b19 at hres
    refine lv_aload_n hx hb dX0_readItem_19 rfl (lv_at hl 0 rfl) ?_
    refine lv_iload_n hx hb dX0_readItem_20 rfl (lv_at hl 1 rfl) ?_
    obtain ⟨q21, e21, hres⟩ := obd hres
    refine cvI (q0 := 25) (ci := 0) hx hb hml hown hts hEo hE hK hP hS (kX0_readPart l D a cI cJ cS hd hEo ut sa sb hEX par kin lea mos wrt tal siz tol hrs ags yea kpar kkin klea kmos kwrt ktal ksiz ktol khrs kags kyea isk tly gai bes low hig spn byt hld sta beh sor num fnd sbi she snu x1 q21 e21) gX0_readItem_X0_readPart rfl hdX0_readPart rfl rfl rfl ⟨rfl, rfl⟩ ⟨Nat.le_of_ble_eq_true rfl, Nat.le_of_ble_eq_true rfl⟩ ⟨Nat.zero_le _, Nat.zero_le _⟩ rfl hl.1 rfl (Nat.le_of_ble_eq_true rfl) dX0_readItem_21 (fun H locs hP hS => ?_)
    exact hQ ▸ rtZ (v := q21.1)  hx hb hr hlk hP hS (by rw [← (Option.some.inj hres)]) (by rw [← (Option.some.inj hres)]) dX0_readItem_24
  have b31 : ∀ (par : Int32) (kin : Nat → Int32) (lea : Nat → Int32) (mos : Nat → Int32) (wrt : Nat → Int32) (tal : Int32) (siz : Nat → Int32) (tol : Nat → Int32) (hrs : Int32) (ags : Nat → Int32) (sta : Int32) (beh : Int32) (sor : Int32) (num : Int32), fX0_readItem_b31 par kin lea mos wrt tal siz tol hrs ags byt hld sta beh sor num = some res → ∀ (H : Heap) (locs : List Loc) (ls : Array Slot), va_P D vwCl (wX a cI cJ cS par kin lea mos wrt tal siz tol hrs ags yea kpar kkin klea kmos kwrt ktal ksiz ktol khrs kags kyea isk tly gai bes low hig spn byt hld sta beh sor num fnd sbi she snu) H → va_S (adA a 36 s.heap.size) s.heap H locs → lv_has ls 2 [(0, .ref (a 25))] → W p l e rX0_readItem s m args below meth c H locs 0 0 Q (F0 m 31 ls []) := by
    intro par kin lea mos wrt tal siz tol hrs ags sta beh sor num hres H locs ls hP hS hl
    unfold fX0_readItem_b31 at hres
    refine lv_aload_n hx hb dX0_readItem_31 rfl (lv_at hl 0 rfl) ?_
    refine va_ldcS hx hb hown ((hEX.2.2.1 _ _ _ hE).2.2.2.2.2.2.1) dX0_readItem_32 ?_
    obtain ⟨q34, e34, hres⟩ := obd hres
    refine cvI (q0 := 25) (ci := 0) hx hb hml hown hts hEo hE hK hP hS (kX0_isText l D a cI cJ cS hd hEo ut sa sb hEX par kin lea mos wrt tal siz tol hrs ags yea kpar kkin klea kmos kwrt ktal ksiz ktol khrs kags kyea isk tly gai bes low hig spn byt hld sta beh sor num fnd sbi she snu 6 (by decide) q34 e34) gX0_readItem_X0_isText rfl hdX0_isText rfl rfl rfl ⟨rfl, rfl⟩ ⟨Nat.le_of_ble_eq_true rfl, Nat.le_of_ble_eq_true rfl⟩ ⟨Nat.zero_le _, Nat.zero_le _⟩ rfl hl.1 rfl (Nat.le_of_ble_eq_true rfl) dX0_readItem_34 (fun H locs hP hS => ?_)
    refine lv_if_eq (tgt := 45) hx hb dX0_readItem_37 (by decide) (fun c37 => ?_) (fun c37 => ?_)
    · have hres := (itl hres).1 c37
      refine lv_aload_n hx hb dX0_readItem_45 rfl (lv_at hl 0 rfl) ?_
      refine va_ldcS hx hb hown ((hEX.2.2.1 _ _ _ hE).2.2.2.2.2.2.2.1) dX0_readItem_46 ?_
      obtain ⟨q48, e48, hres⟩ := obd hres
      refine cvI (q0 := 25) (ci := 0) hx hb hml hown hts hEo hE hK hP hS (kX0_isText l D a cI cJ cS hd hEo ut sa sb hEX par kin lea mos wrt tal siz tol hrs ags yea kpar kkin klea kmos kwrt ktal ksiz ktol khrs kags kyea isk tly gai bes low hig spn byt hld sta beh sor num fnd sbi she snu 7 (by decide) q48 e48) gX0_readItem_X0_isText rfl hdX0_isText rfl rfl rfl ⟨rfl, rfl⟩ ⟨Nat.le_of_ble_eq_true rfl, Nat.le_of_ble_eq_true rfl⟩ ⟨Nat.zero_le _, Nat.zero_le _⟩ rfl hl.1 rfl (Nat.le_of_ble_eq_true rfl) dX0_readItem_48 (fun H locs hP hS => ?_)
      refine lv_if_eq (tgt := 65) hx hb dX0_readItem_51 (by decide) (fun c51 => ?_) (fun c51 => ?_)
      · have hres := (itl hres).1 c51
        refine lv_iconst (v := 0) hx hb dX0_readItem_65 (by decide) ?_
        exact hQ ▸ rtZ (v := false)  hx hb hr hlk hP hS (by rw [← (Option.some.inj hres)]) (by rw [← (Option.some.inj hres)]) dX0_readItem_66
      · have hres := (itl hres).2 c51
        refine lv_aload_n hx hb dX0_readItem_54 rfl (lv_at hl 0 rfl) ?_
        obtain ⟨q55, e55, hres⟩ := obd hres
        refine cvI (q0 := 25) (ci := 0) hx hb hml hown hts hEo hE hK hP hS (kX0_readHearer l D a cI cJ cS hd hEo ut sa sb hEX par kin lea mos wrt tal siz tol hrs ags yea kpar kkin klea kmos kwrt ktal ksiz ktol khrs kags kyea isk tly gai bes low hig spn byt hld sta beh sor num fnd sbi she snu  q55 e55) gX0_readItem_X0_readHearer rfl hdX0_readHearer rfl rfl rfl ⟨rfl, rfl⟩ ⟨Nat.le_of_ble_eq_true rfl, Nat.le_of_ble_eq_true rfl⟩ ⟨Nat.zero_le _, Nat.zero_le _⟩ rfl hl.1 rfl (Nat.le_of_ble_eq_true rfl) dX0_readItem_55 (fun H locs hP hS => ?_)
        refine lv_if_eq (tgt := 65) hx hb dX0_readItem_58 (by decide) (fun c58 => ?_) (fun c58 => ?_)
        · have hres := (itl hres).1 c58
          refine lv_iconst (v := 0) hx hb dX0_readItem_65 (by decide) ?_
          exact hQ ▸ rtZ (v := false)  hx hb hr hlk hP hS (by rw [← (Option.some.inj hres)]) (by rw [← (Option.some.inj hres)]) dX0_readItem_66
        · have hres := (itl hres).2 c58
          refine lv_iconst (v := 1) hx hb dX0_readItem_61 (by decide) ?_
          refine lv_goto (tgt := 66) hx hb dX0_readItem_62 (by decide) ?_
          exact hQ ▸ rtZ (v := true)  hx hb hr hlk hP hS (by rw [← (Option.some.inj hres)]) (by rw [← (Option.some.inj hres)]) dX0_readItem_66
    · have hres := (itl hres).2 c37
      refine lv_aload_n hx hb dX0_readItem_40 rfl (lv_at hl 0 rfl) ?_
      obtain ⟨q41, e41, hres⟩ := obd hres
      refine cvI (q0 := 25) (ci := 0) hx hb hml hown hts hEo hE hK hP hS (kX0_readTale l D a cI cJ cS hd hEo ut sa sb hEX par kin lea mos wrt tal siz tol hrs ags yea kpar kkin klea kmos kwrt ktal ksiz ktol khrs kags kyea isk tly gai bes low hig spn byt hld sta beh sor num fnd sbi she snu  q41 e41) gX0_readItem_X0_readTale rfl hdX0_readTale rfl rfl rfl ⟨rfl, rfl⟩ ⟨Nat.le_of_ble_eq_true rfl, Nat.le_of_ble_eq_true rfl⟩ ⟨Nat.zero_le _, Nat.zero_le _⟩ rfl hl.1 rfl (Nat.le_of_ble_eq_true rfl) dX0_readItem_41 (fun H locs hP hS => ?_)
      exact hQ ▸ rtZ (v := q41.1)  hx hb hr hlk hP hS (by rw [← (Option.some.inj hres)]) (by rw [← (Option.some.inj hres)]) dX0_readItem_44
  have b2 : ∀ (par : Int32) (kin : Nat → Int32) (lea : Nat → Int32) (mos : Nat → Int32) (wrt : Nat → Int32) (tal : Int32) (siz : Nat → Int32) (tol : Nat → Int32) (hrs : Int32) (ags : Nat → Int32) (sta : Int32) (beh : Int32) (sor : Int32) (num : Int32) (n : Nat) (x1 : Int32), fix1 (fX0_readItem_l2 par kin lea mos wrt tal siz tol hrs ags byt hld sta beh sor num) n x1 = some res → ∀ (H : Heap) (locs : List Loc) (ls : Array Slot), va_P D vwCl (wX a cI cJ cS par kin lea mos wrt tal siz tol hrs ags yea kpar kkin klea kmos kwrt ktal ksiz ktol khrs kags kyea isk tly gai bes low hig spn byt hld sta beh sor num fnd sbi she snu) H → va_S (adA a 36 s.heap.size) s.heap H locs → lv_has ls 2 [(0, .ref (a 25)), (1, .int x1)] → W p l e rX0_readItem s m args below meth c H locs 0 0 Q (F0 m 2 ls []) := by
    intro par kin lea mos wrt tal siz tol hrs ags sta beh sor num
    refine fix1_r ?_
    intro K2 hK2 x1 hres H locs ls hP hS hl
    unfold fX0_readItem_l2 at hres
    refine lv_iload_n hx hb dX0_readItem_2 rfl (lv_at hl 1 rfl) ?_
    refine lv_bipush (v := 6) hx hb dX0_readItem_3 (by decide) ?_
    refine lv_icmp_ge (tgt := 31) hx hb dX0_readItem_5 (by decide) (fun c5 => ?_) (fun c5 => ?_)
    · have hres := (itl hres).1 c5
      exact b31 par kin lea mos wrt tal siz tol hrs ags sta beh sor num hres _ _ _ hP hS (lv_sub hl [0] rfl)
    · have hres := (itl hres).2 c5
      refine lv_aload_n hx hb dX0_readItem_8 rfl (lv_at hl 0 rfl) ?_
      refine lv_iload_n hx hb dX0_readItem_9 rfl (lv_at hl 1 rfl) ?_
      refine csR hx hb hml hown hts hEo hE hK hP hS (kX0_kindText l D a cI cJ cS hd hEo ut sa sb hEX par kin lea mos wrt tal siz tol hrs ags yea kpar kkin klea kmos kwrt ktal ksiz ktol khrs kags kyea isk tly gai bes low hig spn byt hld sta beh sor num fnd sbi she snu x1) gX0_readItem_X0_kindText rfl hdX0_kindText ⟨rfl, rfl⟩ ⟨Nat.le_of_ble_eq_true rfl, Nat.le_of_ble_eq_true rfl⟩ ⟨Nat.zero_le _, Nat.zero_le _⟩ rfl hl.1 rfl (Nat.le_of_ble_eq_true rfl) dX0_readItem_10 (fun H locs hP hS => ?_)
      obtain ⟨q13, e13, hres⟩ := obd hres
      refine cvI (q0 := 25) (ci := 0) hx hb hml hown hts hEo hE hK hP hS (kX0_isText l D a cI cJ cS hd hEo ut sa sb hEX par kin lea mos wrt tal siz tol hrs ags yea kpar kkin klea kmos kwrt ktal ksiz ktol khrs kags kyea isk tly gai bes low hig spn byt hld sta beh sor num fnd sbi she snu (fX0_kindText x1) (hkX0_kindText x1) q13 e13) gX0_readItem_X0_isText rfl hdX0_isText rfl rfl rfl ⟨rfl, rfl⟩ ⟨Nat.le_of_ble_eq_true rfl, Nat.le_of_ble_eq_true rfl⟩ ⟨Nat.zero_le _, Nat.zero_le _⟩ rfl hl.1 rfl (Nat.le_of_ble_eq_true rfl) dX0_readItem_13 (fun H locs hP hS => ?_)
      refine lv_if_eq (tgt := 25) hx hb dX0_readItem_16 (by decide) (fun c16 => ?_) (fun c16 => ?_)
      · have hres := (itl hres).1 c16
        refine lv_iinc (v := x1 + 1) (lv' := [(1, .int (x1 + 1)), (0, .ref (a 25))]) hx hb dX0_readItem_25 hl (k := 1) rfl (congrArg (fun z => x1 + z) (by decide)) (by decide) rfl (fun ls hl => ?_)
        refine lv_goto (tgt := 2) hx hb dX0_readItem_28 (by decide) ?_
        exact hK2 (x1 + 1) hres _ _ _ hP hS (lv_sub hl [1, 0] rfl)
      · have hres := (itl hres).2 c16
        exact b19 par kin lea mos wrt tal siz tol hrs ags sta beh sor num x1 hres _ _ _ hP hS (lv_sub hl [0, 1] rfl)
  unfold fX0_readItem at hres
  refine lv_iconst (v := 0) hx hb dX0_readItem_0 (by decide) ?_
  refine lv_istore_n (lv' := [(1, .int (0 : Int32)), (0, .ref (a 25))]) hx hb dX0_readItem_1 rfl hl (by decide) rfl (fun ls hl => ?_)
  exact b2 par kin lea mos wrt tal siz tol hrs ags sta beh sor num 2000 (0 : Int32) hres _ _ _ hP hS (lv_sub hl [1, 0] rfl)
def fX0_readText_b24 (par : Int32) (kin : Nat → Int32) (lea : Nat → Int32) (mos : Nat → Int32) (wrt : Nat → Int32) (tal : Int32) (siz : Nat → Int32) (tol : Nat → Int32) (hrs : Int32) (ags : Nat → Int32) (sta : Int32) (beh : Int32) (sor : Int32) (num : Int32) : Option (Int32 × Int32 × (Nat → Int32) × (Nat → Int32) × (Nat → Int32) × (Nat → Int32) × Int32 × (Nat → Int32) × (Nat → Int32) × Int32 × (Nat → Int32) × Int32 × Int32 × Int32 × Int32) :=
  some ((-1 : Int32) - sta, par, kin, lea, mos, wrt, tal, siz, tol, hrs, ags, sta, beh, sor, num)
def fX0_readText_b48 (par : Int32) (kin : Nat → Int32) (lea : Nat → Int32) (mos : Nat → Int32) (wrt : Nat → Int32) (tal : Int32) (siz : Nat → Int32) (tol : Nat → Int32) (hrs : Int32) (ags : Nat → Int32) (sta : Int32) (beh : Int32) (sor : Int32) (num : Int32) : Option (Int32 × Int32 × (Nat → Int32) × (Nat → Int32) × (Nat → Int32) × (Nat → Int32) × Int32 × (Nat → Int32) × (Nat → Int32) × Int32 × (Nat → Int32) × Int32 × Int32 × Int32 × Int32) :=
  some ((-1 : Int32) - sta, par, kin, lea, mos, wrt, tal, siz, tol, hrs, ags, sta, beh, sor, num)
def fX0_readText_b61 (par : Int32) (kin : Nat → Int32) (lea : Nat → Int32) (mos : Nat → Int32) (wrt : Nat → Int32) (tal : Int32) (siz : Nat → Int32) (tol : Nat → Int32) (hrs : Int32) (ags : Nat → Int32) (sta : Int32) (beh : Int32) (sor : Int32) (num : Int32) : Option (Int32 × Int32 × (Nat → Int32) × (Nat → Int32) × (Nat → Int32) × (Nat → Int32) × Int32 × (Nat → Int32) × (Nat → Int32) × Int32 × (Nat → Int32) × Int32 × Int32 × Int32 × Int32) :=
  some ((-1 : Int32) - sta, par, kin, lea, mos, wrt, tal, siz, tol, hrs, ags, sta, beh, sor, num)
def fX0_readText_l7 (byt : Nat → Int32) (hld : Int32) (K7 : Int32 → Int32 → (Nat → Int32) → (Nat → Int32) → (Nat → Int32) → (Nat → Int32) → Int32 → (Nat → Int32) → (Nat → Int32) → Int32 → (Nat → Int32) → Int32 → Int32 → Int32 → Int32 → Option (Int32 × Int32 × (Nat → Int32) × (Nat → Int32) × (Nat → Int32) × (Nat → Int32) × Int32 × (Nat → Int32) × (Nat → Int32) × Int32 × (Nat → Int32) × Int32 × Int32 × Int32 × Int32)) (x1 : Int32) (par : Int32) (kin : Nat → Int32) (lea : Nat → Int32) (mos : Nat → Int32) (wrt : Nat → Int32) (tal : Int32) (siz : Nat → Int32) (tol : Nat → Int32) (hrs : Int32) (ags : Nat → Int32) (sta : Int32) (beh : Int32) (sor : Int32) (num : Int32) : Option (Int32 × Int32 × (Nat → Int32) × (Nat → Int32) × (Nat → Int32) × (Nat → Int32) × Int32 × (Nat → Int32) × (Nat → Int32) × Int32 × (Nat → Int32) × Int32 × Int32 × Int32 × Int32) :=
  if (120 : Int32) < x1 then fX0_readText_b61 par kin lea mos wrt tal siz tol hrs ags sta beh sor num else (fX0_step byt hld sta beh sor).bind fun q14 => (fX0_readItem par kin lea mos wrt tal siz tol hrs ags byt hld q14.1 q14.2.1 q14.2.2 num).bind fun q18 => if (bI q18.1) = 0 then fX0_readText_b24 q18.2.1 q18.2.2.1 q18.2.2.2.1 q18.2.2.2.2.1 q18.2.2.2.2.2.1 q18.2.2.2.2.2.2.1 q18.2.2.2.2.2.2.2.1 q18.2.2.2.2.2.2.2.2.1 q18.2.2.2.2.2.2.2.2.2.1 q18.2.2.2.2.2.2.2.2.2.2.1 q18.2.2.2.2.2.2.2.2.2.2.2.1 q18.2.2.2.2.2.2.2.2.2.2.2.2.1 q18.2.2.2.2.2.2.2.2.2.2.2.2.2.1 q18.2.2.2.2.2.2.2.2.2.2.2.2.2.2 else if q18.2.2.2.2.2.2.2.2.2.2.2.2.2.1 = 0 then some (x1, q18.2.1, q18.2.2.1, q18.2.2.2.1, q18.2.2.2.2.1, q18.2.2.2.2.2.1, q18.2.2.2.2.2.2.1, q18.2.2.2.2.2.2.2.1, q18.2.2.2.2.2.2.2.2.1, q18.2.2.2.2.2.2.2.2.2.1, q18.2.2.2.2.2.2.2.2.2.2.1, q18.2.2.2.2.2.2.2.2.2.2.2.1, q18.2.2.2.2.2.2.2.2.2.2.2.2.1, q18.2.2.2.2.2.2.2.2.2.2.2.2.2.1, q18.2.2.2.2.2.2.2.2.2.2.2.2.2.2) else if q18.2.2.2.2.2.2.2.2.2.2.2.2.2.1 = (3 : Int32) then K7 (x1 + 1) q18.2.1 q18.2.2.1 q18.2.2.2.1 q18.2.2.2.2.1 q18.2.2.2.2.2.1 q18.2.2.2.2.2.2.1 q18.2.2.2.2.2.2.2.1 q18.2.2.2.2.2.2.2.2.1 q18.2.2.2.2.2.2.2.2.2.1 q18.2.2.2.2.2.2.2.2.2.2.1 q18.2.2.2.2.2.2.2.2.2.2.2.1 q18.2.2.2.2.2.2.2.2.2.2.2.2.1 q18.2.2.2.2.2.2.2.2.2.2.2.2.2.1 q18.2.2.2.2.2.2.2.2.2.2.2.2.2.2 else fX0_readText_b48 q18.2.1 q18.2.2.1 q18.2.2.2.1 q18.2.2.2.2.1 q18.2.2.2.2.2.1 q18.2.2.2.2.2.2.1 q18.2.2.2.2.2.2.2.1 q18.2.2.2.2.2.2.2.2.1 q18.2.2.2.2.2.2.2.2.2.1 q18.2.2.2.2.2.2.2.2.2.2.1 q18.2.2.2.2.2.2.2.2.2.2.2.1 q18.2.2.2.2.2.2.2.2.2.2.2.2.1 q18.2.2.2.2.2.2.2.2.2.2.2.2.2.1 q18.2.2.2.2.2.2.2.2.2.2.2.2.2.2
def fX0_readText (par : Int32) (kin : Nat → Int32) (lea : Nat → Int32) (mos : Nat → Int32) (wrt : Nat → Int32) (tal : Int32) (siz : Nat → Int32) (tol : Nat → Int32) (hrs : Int32) (ags : Nat → Int32) (byt : Nat → Int32) (hld : Int32) (sta : Int32) (beh : Int32) (sor : Int32) (num : Int32) : Option (Int32 × Int32 × (Nat → Int32) × (Nat → Int32) × (Nat → Int32) × (Nat → Int32) × Int32 × (Nat → Int32) × (Nat → Int32) × Int32 × (Nat → Int32) × Int32 × Int32 × Int32 × Int32) :=
  fix15 (fX0_readText_l7 byt hld) 2000 (1 : Int32) par kin lea mos wrt tal siz tol hrs ags sta (0 : Int32) sor num
theorem hdX0_readItem : yX0_readItem.cls = RX0 ∧ yX0_readItem.cls ≠ "java/lang/invoke/MethodHandle" ∧ yX0_readItem.cls ≠ "java/lang/invoke/VarHandle" ∧ (parseMethodDescriptor yX0_readItem.desc).map (fun d => d.parameters.length) = some 0 := by decide +kernel
abbrev rX0_readText : Room := { frames := 7, cells := 0, slots := 0, locals := 152 }
set_option maxHeartbeats 4000000 in
set_option maxRecDepth 100000 in
theorem kX0_readText (l : Launch) (D : va_G) (a : Nat → Nat) (cI cJ cS : ClassId) (hd : aok a 36) {Env : (Nat → Prop) → State → Heap → Prop} (hEo : envOK Env) (ut : Nat) (sa sb : Nat → Nat) (hEX : envX Env ut sa sb) (par : Int32) (kin lea mos wrt : Nat → Int32) (tal : Int32) (siz tol : Nat → Int32) (hrs : Int32) (ags : Nat → Int32) (yea kpar : Int32) (kkin klea kmos kwrt : Nat → Int32) (ktal : Int32) (ksiz ktol : Nat → Int32) (khrs : Int32) (kags : Nat → Int32) (kyea isk : Int32) (tly : Nat → Int64) (gai bes : Nat → Int32) (low hig : Nat → Int64) (spn : Int32) (byt : Nat → Int32) (hld sta beh sor num : Int32) (fnd sbi she : Nat → Int32) (snu : Nat → Nat → Int64)  (res : Int32 × Int32 × (Nat → Int32) × (Nat → Int32) × (Nat → Int32) × (Nat → Int32) × Int32 × (Nat → Int32) × (Nat → Int32) × Int32 × (Nat → Int32) × Int32 × Int32 × Int32 × Int32) (hres : fX0_readText par kin lea mos wrt tal siz tol hrs ags byt hld sta beh sor num = some res) : CtI l D (tyL cI cJ cS) 36 a Env yX0_readText wsX0_readText rX0_readText [.ref (a 25)] (wX a cI cJ cS par kin lea mos wrt tal siz tol hrs ags yea kpar kkin klea kmos kwrt ktal ksiz ktol khrs kags kyea isk tly gai bes low hig spn byt hld sta beh sor num fnd sbi she snu) (wX a cI cJ cS res.2.1 res.2.2.1 res.2.2.2.1 res.2.2.2.2.1 res.2.2.2.2.2.1 res.2.2.2.2.2.2.1 res.2.2.2.2.2.2.2.1 res.2.2.2.2.2.2.2.2.1 res.2.2.2.2.2.2.2.2.2.1 res.2.2.2.2.2.2.2.2.2.2.1 yea kpar kkin klea kmos kwrt ktal ksiz ktol khrs kags kyea isk tly gai bes low hig spn byt hld res.2.2.2.2.2.2.2.2.2.2.2.1 res.2.2.2.2.2.2.2.2.2.2.2.2.1 res.2.2.2.2.2.2.2.2.2.2.2.2.2.1 res.2.2.2.2.2.2.2.2.2.2.2.2.2.2 fnd sbi she snu) res.1 := by
  refine CtI_mk (cc := cX0_readText) (maxL := 2) (ret := (some .int)) (by decide) rfl (Nat.le_of_ble_eq_true rfl) ?_
  intro p e s m args below meth c ls hx hb hr hlk hml hown hts hP hK hE hl
  have hS : va_S (adA a 36 s.heap.size) s.heap s.heap [] := va_S.rf
  have hl : lv_has ls 2 [(0, .ref (a 25))] := hl
  have hown : s.vm.findClass RX0 = some m.cls := hown
  have hw0 : ∀ w ∈ wsX00, w.before args s = true := fun w h => hts w (List.mem_cons_of_mem _ (List.mem_append_left _ (List.mem_append_left _ (List.mem_append_right _ h))))
  have u1 : (Cond.fieldLink RX0 15 "YearWords$Reading" "behind" "I").before args s = true := hts _ (List.mem_of_getElem? (i := 1) (by decide +kernel))
  have u2 : (Cond.fieldLink RX0 9 "YearWords$Reading" "start" "I").before args s = true := hts _ (List.mem_of_getElem? (i := 2) (by decide +kernel))
  have u3 : (Cond.fieldLink RX0 18 "YearWords$Reading" "sort" "I").before args s = true := hts _ (List.mem_of_getElem? (i := 3) (by decide +kernel))
  obtain ⟨Q, hQ⟩ : ∃ Q, Q = mqI below D 36 a args s (wX a cI cJ cS res.2.1 res.2.2.1 res.2.2.2.1 res.2.2.2.2.1 res.2.2.2.2.2.1 res.2.2.2.2.2.2.1 res.2.2.2.2.2.2.2.1 res.2.2.2.2.2.2.2.2.1 res.2.2.2.2.2.2.2.2.2.1 res.2.2.2.2.2.2.2.2.2.2.1 yea kpar kkin klea kmos kwrt ktal ksiz ktol khrs kags kyea isk tly gai bes low hig spn byt hld res.2.2.2.2.2.2.2.2.2.2.2.1 res.2.2.2.2.2.2.2.2.2.2.2.2.1 res.2.2.2.2.2.2.2.2.2.2.2.2.2.1 res.2.2.2.2.2.2.2.2.2.2.2.2.2.2 fnd sbi she snu) res.1 := ⟨_, rfl⟩
  rw [← hQ]
  have b24 : ∀ (par : Int32) (kin : Nat → Int32) (lea : Nat → Int32) (mos : Nat → Int32) (wrt : Nat → Int32) (tal : Int32) (siz : Nat → Int32) (tol : Nat → Int32) (hrs : Int32) (ags : Nat → Int32) (sta : Int32) (beh : Int32) (sor : Int32) (num : Int32), fX0_readText_b24 par kin lea mos wrt tal siz tol hrs ags sta beh sor num = some res → ∀ (H : Heap) (locs : List Loc) (ls : Array Slot), va_P D vwCl (wX a cI cJ cS par kin lea mos wrt tal siz tol hrs ags yea kpar kkin klea kmos kwrt ktal ksiz ktol khrs kags kyea isk tly gai bes low hig spn byt hld sta beh sor num fnd sbi she snu) H → va_S (adA a 36 s.heap.size) s.heap H locs → lv_has ls 2 [(0, .ref (a 25))] → W p l e rX0_readText s m args below meth c H locs 0 0 Q (F0 m 24 ls []) := by
    intro par kin lea mos wrt tal siz tol hrs ags sta beh sor num hres H locs ls hP hS hl
    unfold fX0_readText_b24 at hres
    refine lv_iconst (v := (-1)) hx hb dX0_readText_24 (by decide) ?_
    refine lv_aload_n hx hb dX0_readText_25 rfl (lv_at hl 0 rfl) ?_
    refine gX_rdg_start hx hb hown hw0 hK hP u2 dX0_readText_26 ?_
    refine lv_isub hx hb dX0_readText_29 ?_
    exact hQ ▸ rtI (v := (-1 : Int32) - sta)  hx hb hr hlk hP hS (by rw [← (Option.some.inj hres)]) (by rw [← (Option.some.inj hres)]) dX0_readText_30
  have b48 : ∀ (par : Int32) (kin : Nat → Int32) (lea : Nat → Int32) (mos : Nat → Int32) (wrt : Nat → Int32) (tal : Int32) (siz : Nat → Int32) (tol : Nat → Int32) (hrs : Int32) (ags : Nat → Int32) (sta : Int32) (beh : Int32) (sor : Int32) (num : Int32), fX0_readText_b48 par kin lea mos wrt tal siz tol hrs ags sta beh sor num = some res → ∀ (H : Heap) (locs : List Loc) (ls : Array Slot), va_P D vwCl (wX a cI cJ cS par kin lea mos wrt tal siz tol hrs ags yea kpar kkin klea kmos kwrt ktal ksiz ktol khrs kags kyea isk tly gai bes low hig spn byt hld sta beh sor num fnd sbi she snu) H → va_S (adA a 36 s.heap.size) s.heap H locs → lv_has ls 2 [(0, .ref (a 25))] → W p l e rX0_readText s m args below meth c H locs 0 0 Q (F0 m 48 ls []) := by
    intro par kin lea mos wrt tal siz tol hrs ags sta beh sor num hres H locs ls hP hS hl
    unfold fX0_readText_b48 at hres
    refine lv_iconst (v := (-1)) hx hb dX0_readText_48 (by decide) ?_
    refine lv_aload_n hx hb dX0_readText_49 rfl (lv_at hl 0 rfl) ?_
    refine gX_rdg_start hx hb hown hw0 hK hP u2 dX0_readText_50 ?_
    refine lv_isub hx hb dX0_readText_53 ?_
    exact hQ ▸ rtI (v := (-1 : Int32) - sta)  hx hb hr hlk hP hS (by rw [← (Option.some.inj hres)]) (by rw [← (Option.some.inj hres)]) dX0_readText_54
  have b61 : ∀ (par : Int32) (kin : Nat → Int32) (lea : Nat → Int32) (mos : Nat → Int32) (wrt : Nat → Int32) (tal : Int32) (siz : Nat → Int32) (tol : Nat → Int32) (hrs : Int32) (ags : Nat → Int32) (sta : Int32) (beh : Int32) (sor : Int32) (num : Int32), fX0_readText_b61 par kin lea mos wrt tal siz tol hrs ags sta beh sor num = some res → ∀ (H : Heap) (locs : List Loc) (ls : Array Slot), va_P D vwCl (wX a cI cJ cS par kin lea mos wrt tal siz tol hrs ags yea kpar kkin klea kmos kwrt ktal ksiz ktol khrs kags kyea isk tly gai bes low hig spn byt hld sta beh sor num fnd sbi she snu) H → va_S (adA a 36 s.heap.size) s.heap H locs → lv_has ls 2 [(0, .ref (a 25))] → W p l e rX0_readText s m args below meth c H locs 0 0 Q (F0 m 61 ls []) := by
    intro par kin lea mos wrt tal siz tol hrs ags sta beh sor num hres H locs ls hP hS hl
    unfold fX0_readText_b61 at hres
    refine lv_iconst (v := (-1)) hx hb dX0_readText_61 (by decide) ?_
    refine lv_aload_n hx hb dX0_readText_62 rfl (lv_at hl 0 rfl) ?_
    refine gX_rdg_start hx hb hown hw0 hK hP u2 dX0_readText_63 ?_
    refine lv_isub hx hb dX0_readText_66 ?_
    exact hQ ▸ rtI (v := (-1 : Int32) - sta)  hx hb hr hlk hP hS (by rw [← (Option.some.inj hres)]) (by rw [← (Option.some.inj hres)]) dX0_readText_67
  have b7 : ∀  (n : Nat) (x1 : Int32) (par : Int32) (kin : Nat → Int32) (lea : Nat → Int32) (mos : Nat → Int32) (wrt : Nat → Int32) (tal : Int32) (siz : Nat → Int32) (tol : Nat → Int32) (hrs : Int32) (ags : Nat → Int32) (sta : Int32) (beh : Int32) (sor : Int32) (num : Int32), fix15 (fX0_readText_l7 byt hld) n x1 par kin lea mos wrt tal siz tol hrs ags sta beh sor num = some res → ∀ (H : Heap) (locs : List Loc) (ls : Array Slot), va_P D vwCl (wX a cI cJ cS par kin lea mos wrt tal siz tol hrs ags yea kpar kkin klea kmos kwrt ktal ksiz ktol khrs kags kyea isk tly gai bes low hig spn byt hld sta beh sor num fnd sbi she snu) H → va_S (adA a 36 s.heap.size) s.heap H locs → lv_has ls 2 [(0, .ref (a 25)), (1, .int x1)] → W p l e rX0_readText s m args below meth c H locs 0 0 Q (F0 m 7 ls []) := by
    refine fix15_r ?_
    intro K7 hK7 x1 par kin lea mos wrt tal siz tol hrs ags sta beh sor num hres H locs ls hP hS hl
    unfold fX0_readText_l7 at hres
    refine lv_iload_n hx hb dX0_readText_7 rfl (lv_at hl 1 rfl) ?_
    refine lv_bipush (v := 120) hx hb dX0_readText_8 (by decide) ?_
    refine lv_icmp_gt (tgt := 61) hx hb dX0_readText_10 (by decide) (fun c10 => ?_) (fun c10 => ?_)
    · have hres := (itl hres).1 c10
      exact b61 par kin lea mos wrt tal siz tol hrs ags sta beh sor num hres _ _ _ hP hS (lv_sub hl [0] rfl)
    · have hres := (itl hres).2 c10
      refine lv_aload_n hx hb dX0_readText_13 rfl (lv_at hl 0 rfl) ?_
      obtain ⟨q14, e14, hres⟩ := obd hres
      refine cvV (q0 := 25) (ci := 0) hx hb hml hown hts hEo hE hK hP hS (kX0_step l D a cI cJ cS hd hEo par kin lea mos wrt tal siz tol hrs ags yea kpar kkin klea kmos kwrt ktal ksiz ktol khrs kags kyea isk tly gai bes low hig spn byt hld sta beh sor num fnd sbi she snu  q14 e14) gX0_readText_X0_step rfl hdX0_step rfl rfl rfl ⟨rfl, rfl⟩ ⟨Nat.le_of_ble_eq_true rfl, Nat.le_of_ble_eq_true rfl⟩ ⟨Nat.zero_le _, Nat.zero_le _⟩ rfl hl.1 rfl (Nat.le_of_ble_eq_true rfl) dX0_readText_14 (fun H locs hP hS => ?_)
      refine lv_aload_n hx hb dX0_readText_17 rfl (lv_at hl 0 rfl) ?_
      obtain ⟨q18, e18, hres⟩ := obd hres
      refine cvI (q0 := 25) (ci := 0) hx hb hml hown hts hEo hE hK hP hS (kX0_readItem l D a cI cJ cS hd hEo ut sa sb hEX par kin lea mos wrt tal siz tol hrs ags yea kpar kkin klea kmos kwrt ktal ksiz ktol khrs kags kyea isk tly gai bes low hig spn byt hld q14.1 q14.2.1 q14.2.2 num fnd sbi she snu  q18 e18) gX0_readText_X0_readItem rfl hdX0_readItem rfl rfl rfl ⟨rfl, rfl⟩ ⟨Nat.le_of_ble_eq_true rfl, Nat.le_of_ble_eq_true rfl⟩ ⟨Nat.zero_le _, Nat.zero_le _⟩ rfl hl.1 rfl (Nat.le_of_ble_eq_true rfl) dX0_readText_18 (fun H locs hP hS => ?_)
      refine lv_if_ne (tgt := 31) hx hb dX0_readText_21 (by decide) (fun c21 => ?_) (fun c21 => ?_)
      · have hres := (itl hres).2 c21
        refine lv_aload_n hx hb dX0_readText_31 rfl (lv_at hl 0 rfl) ?_
        refine gX_rdg_sort hx hb hown hw0 hK hP u3 dX0_readText_32 ?_
        refine lv_if_ne (tgt := 40) hx hb dX0_readText_35 (by decide) (fun c35 => ?_) (fun c35 => ?_)
        · have hres := (itl hres).2 c35
          refine lv_aload_n hx hb dX0_readText_40 rfl (lv_at hl 0 rfl) ?_
          refine gX_rdg_sort hx hb hown hw0 hK hP u3 dX0_readText_41 ?_
          refine lv_iconst (v := 3) hx hb dX0_readText_44 (by decide) ?_
          refine lv_icmp_eq (tgt := 55) hx hb dX0_readText_45 (by decide) (fun c45 => ?_) (fun c45 => ?_)
          · have hres := (itl hres).1 c45
            refine lv_iinc (v := x1 + 1) (lv' := [(1, .int (x1 + 1)), (0, .ref (a 25))]) hx hb dX0_readText_55 hl (k := 1) rfl (congrArg (fun z => x1 + z) (by decide)) (by decide) rfl (fun ls hl => ?_)
            refine lv_goto (tgt := 7) hx hb dX0_readText_58 (by decide) ?_
            exact hK7 (x1 + 1) q18.2.1 q18.2.2.1 q18.2.2.2.1 q18.2.2.2.2.1 q18.2.2.2.2.2.1 q18.2.2.2.2.2.2.1 q18.2.2.2.2.2.2.2.1 q18.2.2.2.2.2.2.2.2.1 q18.2.2.2.2.2.2.2.2.2.1 q18.2.2.2.2.2.2.2.2.2.2.1 q18.2.2.2.2.2.2.2.2.2.2.2.1 q18.2.2.2.2.2.2.2.2.2.2.2.2.1 q18.2.2.2.2.2.2.2.2.2.2.2.2.2.1 q18.2.2.2.2.2.2.2.2.2.2.2.2.2.2 hres _ _ _ hP hS (lv_sub hl [1, 0] rfl)
          · have hres := (itl hres).2 c45
            exact b48 q18.2.1 q18.2.2.1 q18.2.2.2.1 q18.2.2.2.2.1 q18.2.2.2.2.2.1 q18.2.2.2.2.2.2.1 q18.2.2.2.2.2.2.2.1 q18.2.2.2.2.2.2.2.2.1 q18.2.2.2.2.2.2.2.2.2.1 q18.2.2.2.2.2.2.2.2.2.2.1 q18.2.2.2.2.2.2.2.2.2.2.2.1 q18.2.2.2.2.2.2.2.2.2.2.2.2.1 q18.2.2.2.2.2.2.2.2.2.2.2.2.2.1 q18.2.2.2.2.2.2.2.2.2.2.2.2.2.2 hres _ _ _ hP hS (lv_sub hl [0] rfl)
        · have hres := (itl hres).1 c35
          refine lv_iload_n hx hb dX0_readText_38 rfl (lv_at hl 1 rfl) ?_
          exact hQ ▸ rtI (v := x1)  hx hb hr hlk hP hS (by rw [← (Option.some.inj hres)]) (by rw [← (Option.some.inj hres)]) dX0_readText_39
      · have hres := (itl hres).1 c21
        exact b24 q18.2.1 q18.2.2.1 q18.2.2.2.1 q18.2.2.2.2.1 q18.2.2.2.2.2.1 q18.2.2.2.2.2.2.1 q18.2.2.2.2.2.2.2.1 q18.2.2.2.2.2.2.2.2.1 q18.2.2.2.2.2.2.2.2.2.1 q18.2.2.2.2.2.2.2.2.2.2.1 q18.2.2.2.2.2.2.2.2.2.2.2.1 q18.2.2.2.2.2.2.2.2.2.2.2.2.1 q18.2.2.2.2.2.2.2.2.2.2.2.2.2.1 q18.2.2.2.2.2.2.2.2.2.2.2.2.2.2 hres _ _ _ hP hS (lv_sub hl [0] rfl)
  unfold fX0_readText at hres
  refine lv_aload_n hx hb dX0_readText_0 rfl (lv_at hl 0 rfl) ?_
  refine lv_iconst (v := 0) hx hb dX0_readText_1 (by decide) ?_
  refine pX_rdg_behind hx hb hown hw0 hK hP hd hS u1 dX0_readText_2 (fun H locs hP hS => ?_)
  refine lv_iconst (v := 1) hx hb dX0_readText_5 (by decide) ?_
  refine lv_istore_n (lv' := [(1, .int (1 : Int32)), (0, .ref (a 25))]) hx hb dX0_readText_6 rfl hl (by decide) rfl (fun ls hl => ?_)
  exact b7  2000 (1 : Int32) par kin lea mos wrt tal siz tol hrs ags sta (0 : Int32) sor num hres _ _ _ hP hS (lv_sub hl [1, 0] rfl)
def fX3_toldAt (tol : Nat → Int32) (x1 : Int32) (x2 : Int32) : Option (Int32) :=
  gd (ib ((x1 * (10 : Int32)) + x2) 80) (some (tol ((x1 * (10 : Int32)) + x2).toNatClampNeg))
abbrev rX3_toldAt : Room := { frames := 0, cells := 0, slots := 0, locals := 0 }
set_option maxHeartbeats 4000000 in
set_option maxRecDepth 100000 in
theorem kX3_toldAt (l : Launch) (D : va_G) (a : Nat → Nat) (cI cJ cS : ClassId) (hd : aok a 36) {Env : (Nat → Prop) → State → Heap → Prop} (hEo : envOK Env) (par : Int32) (kin lea mos wrt : Nat → Int32) (tal : Int32) (siz tol : Nat → Int32) (hrs : Int32) (ags : Nat → Int32) (yea kpar : Int32) (kkin klea kmos kwrt : Nat → Int32) (ktal : Int32) (ksiz ktol : Nat → Int32) (khrs : Int32) (kags : Nat → Int32) (kyea isk : Int32) (tly : Nat → Int64) (gai bes : Nat → Int32) (low hig : Nat → Int64) (spn : Int32) (byt : Nat → Int32) (hld sta beh sor num : Int32) (fnd sbi she : Nat → Int32) (snu : Nat → Nat → Int64) (x1 : Int32) (x2 : Int32) (res : Int32) (hres : fX3_toldAt tol x1 x2 = some res) : CtI l D (tyL cI cJ cS) 36 a Env yX3_toldAt wsX3_toldAt rX3_toldAt [.ref (a 1), .int x1, .int x2] (wX a cI cJ cS par kin lea mos wrt tal siz tol hrs ags yea kpar kkin klea kmos kwrt ktal ksiz ktol khrs kags kyea isk tly gai bes low hig spn byt hld sta beh sor num fnd sbi she snu) (wX a cI cJ cS par kin lea mos wrt tal siz tol hrs ags yea kpar kkin klea kmos kwrt ktal ksiz ktol khrs kags kyea isk tly gai bes low hig spn byt hld sta beh sor num fnd sbi she snu) res := by
  refine CtI_mk (cc := cX3_toldAt) (maxL := 3) (ret := (some .int)) (by decide) rfl (Nat.le_of_ble_eq_true rfl) ?_
  intro p e s m args below meth c ls hx hb hr hlk hml hown hts hP hK hE hl
  have hS : va_S (adA a 36 s.heap.size) s.heap s.heap [] := va_S.rf
  have hl : lv_has ls 3 [(0, .ref (a 1)), (1, .int x1), (2, .int x2)] := hl
  have hown : s.vm.findClass RX3 = some m.cls := hown
  have hw3 : ∀ w ∈ wsX30, w.before args s = true := fun w h => hts w (List.mem_cons_of_mem _ (List.mem_append_right _ h))
  have u1 : (Cond.fieldLink RX3 34 "YearWords$Stock" "told" "[I").before args s = true := hts _ (List.mem_of_getElem? (i := 1) (by decide +kernel))
  obtain ⟨Q, hQ⟩ : ∃ Q, Q = mqI below D 36 a args s (wX a cI cJ cS par kin lea mos wrt tal siz tol hrs ags yea kpar kkin klea kmos kwrt ktal ksiz ktol khrs kags kyea isk tly gai bes low hig spn byt hld sta beh sor num fnd sbi she snu) res := ⟨_, rfl⟩
  rw [← hQ]
  unfold fX3_toldAt at hres
  refine lv_aload_n hx hb dX3_toldAt_0 rfl (lv_at hl 0 rfl) ?_
  refine gX_now_told hx hb hown hw3 hK hP u1 dX3_toldAt_1 ?_
  refine lv_iload_n hx hb dX3_toldAt_4 rfl (lv_at hl 1 rfl) ?_
  refine lv_bipush (v := 10) hx hb dX3_toldAt_5 (by decide) ?_
  refine lv_imul hx hb dX3_toldAt_7 ?_
  refine lv_iload_n hx hb dX3_toldAt_8 rfl (lv_at hl 2 rfl) ?_
  refine lv_iadd hx hb dX3_toldAt_9 ?_
  obtain ⟨i10, hres⟩ := gdi hres
  refine lX_tol hx hb hK hP i10 dX3_toldAt_10 ?_
  exact hQ ▸ rtI (v := tol ((x1 * (10 : Int32)) + x2).toNatClampNeg)  hx hb hr hlk hP hS (by rw [← (Option.some.inj hres)]) rfl dX3_toldAt_11
def fX3_fromTo (x0 : Int32) (x1 : Int32) : Int32 :=
 (((2 : Int32) <<< (x1 &&& 31)) - ((1 : Int32) <<< (x0 &&& 31)))
abbrev rX3_fromTo : Room := { frames := 0, cells := 0, slots := 0, locals := 0 }
set_option maxHeartbeats 4000000 in
set_option maxRecDepth 100000 in
theorem kX3_fromTo (l : Launch) (D : va_G) (a : Nat → Nat) (cI cJ cS : ClassId) (hd : aok a 36) {Env : (Nat → Prop) → State → Heap → Prop} (hEo : envOK Env) (par : Int32) (kin lea mos wrt : Nat → Int32) (tal : Int32) (siz tol : Nat → Int32) (hrs : Int32) (ags : Nat → Int32) (yea kpar : Int32) (kkin klea kmos kwrt : Nat → Int32) (ktal : Int32) (ksiz ktol : Nat → Int32) (khrs : Int32) (kags : Nat → Int32) (kyea isk : Int32) (tly : Nat → Int64) (gai bes : Nat → Int32) (low hig : Nat → Int64) (spn : Int32) (byt : Nat → Int32) (hld sta beh sor num : Int32) (fnd sbi she : Nat → Int32) (snu : Nat → Nat → Int64) (x0 : Int32) (x1 : Int32) : CtI l D (tyL cI cJ cS) 36 a Env yX3_fromTo wsX3_fromTo rX3_fromTo [.int x0, .int x1] (wX a cI cJ cS par kin lea mos wrt tal siz tol hrs ags yea kpar kkin klea kmos kwrt ktal ksiz ktol khrs kags kyea isk tly gai bes low hig spn byt hld sta beh sor num fnd sbi she snu) (wX a cI cJ cS par kin lea mos wrt tal siz tol hrs ags yea kpar kkin klea kmos kwrt ktal ksiz ktol khrs kags kyea isk tly gai bes low hig spn byt hld sta beh sor num fnd sbi she snu) (fX3_fromTo x0 x1) := by
  generalize hres : fX3_fromTo x0 x1 = res
  refine CtI_mk (cc := cX3_fromTo) (maxL := 2) (ret := (some .int)) (by decide) rfl (Nat.le_of_ble_eq_true rfl) ?_
  intro p e s m args below meth c ls hx hb hr hlk hml hown hts hP hK hE hl
  have hS : va_S (adA a 36 s.heap.size) s.heap s.heap [] := va_S.rf
  have hl : lv_has ls 2 [(0, .int x0), (1, .int x1)] := hl
  have hown : s.vm.findClass RX3 = some m.cls := hown
  obtain ⟨Q, hQ⟩ : ∃ Q, Q = mqI below D 36 a args s (wX a cI cJ cS par kin lea mos wrt tal siz tol hrs ags yea kpar kkin klea kmos kwrt ktal ksiz ktol khrs kags kyea isk tly gai bes low hig spn byt hld sta beh sor num fnd sbi she snu) res := ⟨_, rfl⟩
  rw [← hQ]
  unfold fX3_fromTo at hres
  refine lv_iconst (v := 2) hx hb dX3_fromTo_0 (by decide) ?_
  refine lv_iload_n hx hb dX3_fromTo_1 rfl (lv_at hl 1 rfl) ?_
  refine lv_ishl hx hb dX3_fromTo_2 ?_
  refine lv_iconst (v := 1) hx hb dX3_fromTo_3 (by decide) ?_
  refine lv_iload_n hx hb dX3_fromTo_4 rfl (lv_at hl 0 rfl) ?_
  refine lv_ishl hx hb dX3_fromTo_5 ?_
  refine lv_isub hx hb dX3_fromTo_6 ?_
  exact hQ ▸ rtI (v := ((2 : Int32) <<< (x1 &&& 31)) - ((1 : Int32) <<< (x0 &&& 31)))  hx hb hr hlk hP hS (by rw [← hres]) rfl dX3_fromTo_7
def fX3_lengthsOf (kin : Nat → Int32) (lea : Nat → Int32) (mos : Nat → Int32) (x1 : Int32) : Option (Int32) :=
  gd (ib x1 16) (gd (ib x1 16) (gd (ib x1 16) (if (kin x1.toNatClampNeg) = 0 then some ((1 : Int32) <<< ((lea x1.toNatClampNeg) &&& 31)) else if (kin x1.toNatClampNeg) = 1 then some (fX3_fromTo (lea x1.toNatClampNeg) (mos x1.toNatClampNeg)) else if (kin x1.toNatClampNeg) = 2 then some ((1 : Int32) ||| ((1 : Int32) <<< ((lea x1.toNatClampNeg) &&& 31))) else if (kin x1.toNatClampNeg) = 3 then some ((fX3_fromTo (lea x1.toNatClampNeg) (mos x1.toNatClampNeg)) &&& ((22369621 : Int32) <<< ((lea x1.toNatClampNeg) &&& 31))) else if (kin x1.toNatClampNeg) = 4 then some ((fX3_fromTo (lea x1.toNatClampNeg) (mos x1.toNatClampNeg)) ||| ((fX3_fromTo ((2 : Int32) * (lea x1.toNatClampNeg)) ((2 : Int32) * (mos x1.toNatClampNeg))) &&& (22369621 : Int32))) else some (fX3_fromTo (0 : Int32) (mos x1.toNatClampNeg)))))
theorem hdX3_fromTo : yX3_fromTo.cls ≠ "java/lang/invoke/MethodHandle" ∧ yX3_fromTo.cls ≠ "java/lang/invoke/VarHandle" ∧ (parseMethodDescriptor yX3_fromTo.desc).map (fun d => d.parameters.length) = some 2 := by decide +kernel
abbrev rX3_lengthsOf : Room := { frames := 1, cells := 0, slots := 0, locals := 21 }
set_option maxHeartbeats 4000000 in
set_option maxRecDepth 100000 in
theorem kX3_lengthsOf (l : Launch) (D : va_G) (a : Nat → Nat) (cI cJ cS : ClassId) (hd : aok a 36) {Env : (Nat → Prop) → State → Heap → Prop} (hEo : envOK Env) (par : Int32) (kin lea mos wrt : Nat → Int32) (tal : Int32) (siz tol : Nat → Int32) (hrs : Int32) (ags : Nat → Int32) (yea kpar : Int32) (kkin klea kmos kwrt : Nat → Int32) (ktal : Int32) (ksiz ktol : Nat → Int32) (khrs : Int32) (kags : Nat → Int32) (kyea isk : Int32) (tly : Nat → Int64) (gai bes : Nat → Int32) (low hig : Nat → Int64) (spn : Int32) (byt : Nat → Int32) (hld sta beh sor num : Int32) (fnd sbi she : Nat → Int32) (snu : Nat → Nat → Int64) (x1 : Int32) (res : Int32) (hres : fX3_lengthsOf kin lea mos x1 = some res) : CtI l D (tyL cI cJ cS) 36 a Env yX3_lengthsOf wsX3_lengthsOf rX3_lengthsOf [.ref (a 1), .int x1] (wX a cI cJ cS par kin lea mos wrt tal siz tol hrs ags yea kpar kkin klea kmos kwrt ktal ksiz ktol khrs kags kyea isk tly gai bes low hig spn byt hld sta beh sor num fnd sbi she snu) (wX a cI cJ cS par kin lea mos wrt tal siz tol hrs ags yea kpar kkin klea kmos kwrt ktal ksiz ktol khrs kags kyea isk tly gai bes low hig spn byt hld sta beh sor num fnd sbi she snu) res := by
  refine CtI_mk (cc := cX3_lengthsOf) (maxL := 4) (ret := (some .int)) (by decide) rfl (Nat.le_of_ble_eq_true rfl) ?_
  intro p e s m args below meth c ls hx hb hr hlk hml hown hts hP hK hE hl
  have hS : va_S (adA a 36 s.heap.size) s.heap s.heap [] := va_S.rf
  have hl : lv_has ls 4 [(0, .ref (a 1)), (1, .int x1)] := hl
  have hown : s.vm.findClass RX3 = some m.cls := hown
  have hw3 : ∀ w ∈ wsX30, w.before args s = true := fun w h => hts w (List.mem_cons_of_mem _ (List.mem_append_right _ h))
  have u1 : (Cond.fieldLink RX3 19 "YearWords$Stock" "leasts" "[I").before args s = true := hts _ (List.mem_of_getElem? (i := 1) (by decide +kernel))
  have u2 : (Cond.fieldLink RX3 22 "YearWords$Stock" "mosts" "[I").before args s = true := hts _ (List.mem_of_getElem? (i := 2) (by decide +kernel))
  have u3 : (Cond.fieldLink RX3 15 "YearWords$Stock" "kinds" "[I").before args s = true := hts _ (List.mem_of_getElem? (i := 3) (by decide +kernel))
  have u4 : (Cond.constant RX3 65 (22369621)).before args s = true := hts _ (List.mem_of_getElem? (i := 4) (by decide +kernel))
  obtain ⟨Q, hQ⟩ : ∃ Q, Q = mqI below D 36 a args s (wX a cI cJ cS par kin lea mos wrt tal siz tol hrs ags yea kpar kkin klea kmos kwrt ktal ksiz ktol khrs kags kyea isk tly gai bes low hig spn byt hld sta beh sor num fnd sbi she snu) res := ⟨_, rfl⟩
  rw [← hQ]
  unfold fX3_lengthsOf at hres
  refine lv_aload_n hx hb dX3_lengthsOf_0 rfl (lv_at hl 0 rfl) ?_
  refine gX_now_leasts hx hb hown hw3 hK hP u1 dX3_lengthsOf_1 ?_
  refine lv_iload_n hx hb dX3_lengthsOf_4 rfl (lv_at hl 1 rfl) ?_
  obtain ⟨i5, hres⟩ := gdi hres
  refine lX_lea hx hb hK hP i5 dX3_lengthsOf_5 ?_
  refine lv_istore_n (lv' := [(2, .int (lea x1.toNatClampNeg)), (0, .ref (a 1)), (1, .int x1)]) hx hb dX3_lengthsOf_6 rfl hl (by decide) rfl (fun ls hl => ?_)
  refine lv_aload_n hx hb dX3_lengthsOf_7 rfl (lv_at hl 1 rfl) ?_
  refine gX_now_mosts hx hb hown hw3 hK hP u2 dX3_lengthsOf_8 ?_
  refine lv_iload_n hx hb dX3_lengthsOf_11 rfl (lv_at hl 2 rfl) ?_
  obtain ⟨i12, hres⟩ := gdi hres
  refine lX_mos hx hb hK hP i12 dX3_lengthsOf_12 ?_
  refine lv_istore_n (lv' := [(3, .int (mos x1.toNatClampNeg)), (2, .int (lea x1.toNatClampNeg)), (0, .ref (a 1)), (1, .int x1)]) hx hb dX3_lengthsOf_13 rfl hl (by decide) rfl (fun ls hl => ?_)
  refine lv_aload_n hx hb dX3_lengthsOf_14 rfl (lv_at hl 2 rfl) ?_
  refine gX_now_kinds hx hb hown hw3 hK hP u3 dX3_lengthsOf_15 ?_
  refine lv_iload_n hx hb dX3_lengthsOf_18 rfl (lv_at hl 3 rfl) ?_
  obtain ⟨i19, hres⟩ := gdi hres
  refine lX_kin hx hb hK hP i19 dX3_lengthsOf_19 ?_
  by_cases v20_0 : (kin x1.toNatClampNeg) = 0
  · have hres := (itl hres).1 v20_0
    refine lv_tableIn (off := 36) (tgt := 56) hx hb dX3_lengthsOf_20 (by rw [v20_0]; decide) (by rw [v20_0]; decide) (by rw [v20_0]; rfl) (by decide) ?_
    refine lv_iconst (v := 1) hx hb dX3_lengthsOf_56 (by decide) ?_
    refine lv_iload_n hx hb dX3_lengthsOf_57 rfl (lv_at hl 1 rfl) ?_
    refine lv_ishl hx hb dX3_lengthsOf_58 ?_
    exact hQ ▸ rtI (v := (1 : Int32) <<< ((lea x1.toNatClampNeg) &&& 31))  hx hb hr hlk hP hS (by rw [← (Option.some.inj hres)]) rfl dX3_lengthsOf_59
  · have hres := (itl hres).2 v20_0
    by_cases v20_1 : (kin x1.toNatClampNeg) = 1
    · have hres := (itl hres).1 v20_1
      refine lv_tableIn (off := 40) (tgt := 60) hx hb dX3_lengthsOf_20 (by rw [v20_1]; decide) (by rw [v20_1]; decide) (by rw [v20_1]; rfl) (by decide) ?_
      refine lv_iload_n hx hb dX3_lengthsOf_60 rfl (lv_at hl 1 rfl) ?_
      refine lv_iload_n hx hb dX3_lengthsOf_61 rfl (lv_at hl 0 rfl) ?_
      refine csI hx hb hml hown hts hEo hE hK hP hS (kX3_fromTo l D a cI cJ cS hd hEo par kin lea mos wrt tal siz tol hrs ags yea kpar kkin klea kmos kwrt ktal ksiz ktol khrs kags kyea isk tly gai bes low hig spn byt hld sta beh sor num fnd sbi she snu (lea x1.toNatClampNeg) (mos x1.toNatClampNeg)) gX3_lengthsOf_X3_fromTo rfl hdX3_fromTo ⟨rfl, rfl⟩ ⟨Nat.le_of_ble_eq_true rfl, Nat.le_of_ble_eq_true rfl⟩ ⟨Nat.zero_le _, Nat.zero_le _⟩ rfl hl.1 rfl (Nat.le_of_ble_eq_true rfl) dX3_lengthsOf_62 (fun H locs hP hS => ?_)
      exact hQ ▸ rtI (v := (fX3_fromTo (lea x1.toNatClampNeg) (mos x1.toNatClampNeg)))  hx hb hr hlk hP hS (by rw [← (Option.some.inj hres)]) rfl dX3_lengthsOf_65
    · have hres := (itl hres).2 v20_1
      by_cases v20_2 : (kin x1.toNatClampNeg) = 2
      · have hres := (itl hres).1 v20_2
        refine lv_tableIn (off := 46) (tgt := 66) hx hb dX3_lengthsOf_20 (by rw [v20_2]; decide) (by rw [v20_2]; decide) (by rw [v20_2]; rfl) (by decide) ?_
        refine lv_iconst (v := 1) hx hb dX3_lengthsOf_66 (by decide) ?_
        refine lv_iconst (v := 1) hx hb dX3_lengthsOf_67 (by decide) ?_
        refine lv_iload_n hx hb dX3_lengthsOf_68 rfl (lv_at hl 1 rfl) ?_
        refine lv_ishl hx hb dX3_lengthsOf_69 ?_
        refine lv_ior hx hb dX3_lengthsOf_70 ?_
        exact hQ ▸ rtI (v := (1 : Int32) ||| ((1 : Int32) <<< ((lea x1.toNatClampNeg) &&& 31)))  hx hb hr hlk hP hS (by rw [← (Option.some.inj hres)]) rfl dX3_lengthsOf_71
      · have hres := (itl hres).2 v20_2
        by_cases v20_3 : (kin x1.toNatClampNeg) = 3
        · have hres := (itl hres).1 v20_3
          refine lv_tableIn (off := 52) (tgt := 72) hx hb dX3_lengthsOf_20 (by rw [v20_3]; decide) (by rw [v20_3]; decide) (by rw [v20_3]; rfl) (by decide) ?_
          refine lv_iload_n hx hb dX3_lengthsOf_72 rfl (lv_at hl 1 rfl) ?_
          refine lv_iload_n hx hb dX3_lengthsOf_73 rfl (lv_at hl 0 rfl) ?_
          refine csI hx hb hml hown hts hEo hE hK hP hS (kX3_fromTo l D a cI cJ cS hd hEo par kin lea mos wrt tal siz tol hrs ags yea kpar kkin klea kmos kwrt ktal ksiz ktol khrs kags kyea isk tly gai bes low hig spn byt hld sta beh sor num fnd sbi she snu (lea x1.toNatClampNeg) (mos x1.toNatClampNeg)) gX3_lengthsOf_X3_fromTo rfl hdX3_fromTo ⟨rfl, rfl⟩ ⟨Nat.le_of_ble_eq_true rfl, Nat.le_of_ble_eq_true rfl⟩ ⟨Nat.zero_le _, Nat.zero_le _⟩ rfl hl.1 rfl (Nat.le_of_ble_eq_true rfl) dX3_lengthsOf_74 (fun H locs hP hS => ?_)
          refine lv_ldc hx hb hown u4 dX3_lengthsOf_77 ?_
          refine lv_iload_n hx hb dX3_lengthsOf_79 rfl (lv_at hl 1 rfl) ?_
          refine lv_ishl hx hb dX3_lengthsOf_80 ?_
          refine lv_iand hx hb dX3_lengthsOf_81 ?_
          exact hQ ▸ rtI (v := (fX3_fromTo (lea x1.toNatClampNeg) (mos x1.toNatClampNeg)) &&& ((22369621 : Int32) <<< ((lea x1.toNatClampNeg) &&& 31)))  hx hb hr hlk hP hS (by rw [← (Option.some.inj hres)]) rfl dX3_lengthsOf_82
        · have hres := (itl hres).2 v20_3
          by_cases v20_4 : (kin x1.toNatClampNeg) = 4
          · have hres := (itl hres).1 v20_4
            refine lv_tableIn (off := 63) (tgt := 83) hx hb dX3_lengthsOf_20 (by rw [v20_4]; decide) (by rw [v20_4]; decide) (by rw [v20_4]; rfl) (by decide) ?_
            refine lv_iload_n hx hb dX3_lengthsOf_83 rfl (lv_at hl 1 rfl) ?_
            refine lv_iload_n hx hb dX3_lengthsOf_84 rfl (lv_at hl 0 rfl) ?_
            refine csI hx hb hml hown hts hEo hE hK hP hS (kX3_fromTo l D a cI cJ cS hd hEo par kin lea mos wrt tal siz tol hrs ags yea kpar kkin klea kmos kwrt ktal ksiz ktol khrs kags kyea isk tly gai bes low hig spn byt hld sta beh sor num fnd sbi she snu (lea x1.toNatClampNeg) (mos x1.toNatClampNeg)) gX3_lengthsOf_X3_fromTo rfl hdX3_fromTo ⟨rfl, rfl⟩ ⟨Nat.le_of_ble_eq_true rfl, Nat.le_of_ble_eq_true rfl⟩ ⟨Nat.zero_le _, Nat.zero_le _⟩ rfl hl.1 rfl (Nat.le_of_ble_eq_true rfl) dX3_lengthsOf_85 (fun H locs hP hS => ?_)
            refine lv_iconst (v := 2) hx hb dX3_lengthsOf_88 (by decide) ?_
            refine lv_iload_n hx hb dX3_lengthsOf_89 rfl (lv_at hl 1 rfl) ?_
            refine lv_imul hx hb dX3_lengthsOf_90 ?_
            refine lv_iconst (v := 2) hx hb dX3_lengthsOf_91 (by decide) ?_
            refine lv_iload_n hx hb dX3_lengthsOf_92 rfl (lv_at hl 0 rfl) ?_
            refine lv_imul hx hb dX3_lengthsOf_93 ?_
            refine csI hx hb hml hown hts hEo hE hK hP hS (kX3_fromTo l D a cI cJ cS hd hEo par kin lea mos wrt tal siz tol hrs ags yea kpar kkin klea kmos kwrt ktal ksiz ktol khrs kags kyea isk tly gai bes low hig spn byt hld sta beh sor num fnd sbi she snu ((2 : Int32) * (lea x1.toNatClampNeg)) ((2 : Int32) * (mos x1.toNatClampNeg))) gX3_lengthsOf_X3_fromTo rfl hdX3_fromTo ⟨rfl, rfl⟩ ⟨Nat.le_of_ble_eq_true rfl, Nat.le_of_ble_eq_true rfl⟩ ⟨Nat.zero_le _, Nat.zero_le _⟩ rfl hl.1 rfl (Nat.le_of_ble_eq_true rfl) dX3_lengthsOf_94 (fun H locs hP hS => ?_)
            refine lv_ldc hx hb hown u4 dX3_lengthsOf_97 ?_
            refine lv_iand hx hb dX3_lengthsOf_99 ?_
            refine lv_ior hx hb dX3_lengthsOf_100 ?_
            exact hQ ▸ rtI (v := (fX3_fromTo (lea x1.toNatClampNeg) (mos x1.toNatClampNeg)) ||| ((fX3_fromTo ((2 : Int32) * (lea x1.toNatClampNeg)) ((2 : Int32) * (mos x1.toNatClampNeg))) &&& (22369621 : Int32)))  hx hb hr hlk hP hS (by rw [← (Option.some.inj hres)]) rfl dX3_lengthsOf_101
          · have hres := (itl hres).2 v20_4
            refine lv_tableOut (tgt := 102) hx hb dX3_lengthsOf_20 (sw04 v20_0 v20_1 v20_2 v20_3 v20_4) (by decide) ?_
            refine lv_iconst (v := 0) hx hb dX3_lengthsOf_102 (by decide) ?_
            refine lv_iload_n hx hb dX3_lengthsOf_103 rfl (lv_at hl 0 rfl) ?_
            refine csI hx hb hml hown hts hEo hE hK hP hS (kX3_fromTo l D a cI cJ cS hd hEo par kin lea mos wrt tal siz tol hrs ags yea kpar kkin klea kmos kwrt ktal ksiz ktol khrs kags kyea isk tly gai bes low hig spn byt hld sta beh sor num fnd sbi she snu (0 : Int32) (mos x1.toNatClampNeg)) gX3_lengthsOf_X3_fromTo rfl hdX3_fromTo ⟨rfl, rfl⟩ ⟨Nat.le_of_ble_eq_true rfl, Nat.le_of_ble_eq_true rfl⟩ ⟨Nat.zero_le _, Nat.zero_le _⟩ rfl hl.1 rfl (Nat.le_of_ble_eq_true rfl) dX3_lengthsOf_104 (fun H locs hP hS => ?_)
            exact hQ ▸ rtI (v := (fX3_fromTo (0 : Int32) (mos x1.toNatClampNeg)))  hx hb hr hlk hP hS (by rw [← (Option.some.inj hres)]) rfl dX3_lengthsOf_107
def fX1_tallyPart_b49 (K12 : Int64 → Int32 → Option ((Nat → Int64))) (x4 : Int64) (x6 : Int32) : Option ((Nat → Int64)) :=
  K12 x4 (x6 + 1)
def fX1_tallyPart_b55 (K2 : Int32 → (Nat → Int64) → Option ((Nat → Int64))) (tly : Nat → Int64) (x3 : Int32) (x4 : Int64) : Option ((Nat → Int64)) :=
  gd (ib x3 121) (K2 (x3 + (-1)) (vp_updL tly x3.toNatClampNeg x4))
def fX1_tallyPart_l12 (K2 : Int32 → (Nat → Int64) → Option ((Nat → Int64))) (tly : Nat → Int64) (x1 : Int32) (x3 : Int32) (K12 : Int64 → Int32 → Option ((Nat → Int64))) (x4 : Int64) (x6 : Int32) : Option ((Nat → Int64)) :=
  if x3 < x6 then fX1_tallyPart_b55 K2 tly x3 x4 else if (24 : Int32) < x6 then fX1_tallyPart_b55 K2 tly x3 x4 else if ((x1 >>> (x6 &&& 31)) &&& (1 : Int32)) = (1 : Int32) then gd (ib (x3 - x6) 121) (fX1_tallyPart_b49 K12 (x4 + (tly (x3 - x6).toNatClampNeg)) x6) else fX1_tallyPart_b49 K12 x4 x6
def fX1_tallyPart_l2 (x1 : Int32) (K2 : Int32 → (Nat → Int64) → Option ((Nat → Int64))) (x3 : Int32) (tly : Nat → Int64) : Option ((Nat → Int64)) :=
  if x3 < 0 then some tly else fix2 (fX1_tallyPart_l12 K2 tly x1 x3) 2000 (0 : Int64) (0 : Int32)
def fX1_tallyPart (tly : Nat → Int64) (x1 : Int32) (x2 : Int32) : Option ((Nat → Int64)) :=
  fix2 (fX1_tallyPart_l2 x1) 2000 x2 tly
abbrev rX1_tallyPart : Room := { frames := 0, cells := 0, slots := 0, locals := 0 }
set_option maxHeartbeats 4000000 in
set_option maxRecDepth 100000 in
theorem kX1_tallyPart (l : Launch) (D : va_G) (a : Nat → Nat) (cI cJ cS : ClassId) (hd : aok a 36) {Env : (Nat → Prop) → State → Heap → Prop} (hEo : envOK Env) (par : Int32) (kin lea mos wrt : Nat → Int32) (tal : Int32) (siz tol : Nat → Int32) (hrs : Int32) (ags : Nat → Int32) (yea kpar : Int32) (kkin klea kmos kwrt : Nat → Int32) (ktal : Int32) (ksiz ktol : Nat → Int32) (khrs : Int32) (kags : Nat → Int32) (kyea isk : Int32) (tly : Nat → Int64) (gai bes : Nat → Int32) (low hig : Nat → Int64) (spn : Int32) (byt : Nat → Int32) (hld sta beh sor num : Int32) (fnd sbi she : Nat → Int32) (snu : Nat → Nat → Int64) (x1 : Int32) (x2 : Int32) (res : (Nat → Int64)) (hres : fX1_tallyPart tly x1 x2 = some res) : CtV l D (tyL cI cJ cS) 36 a Env yX1_tallyPart wsX1_tallyPart rX1_tallyPart [.ref (a 17), .int x1, .int x2] (wX a cI cJ cS par kin lea mos wrt tal siz tol hrs ags yea kpar kkin klea kmos kwrt ktal ksiz ktol khrs kags kyea isk tly gai bes low hig spn byt hld sta beh sor num fnd sbi she snu) (wX a cI cJ cS par kin lea mos wrt tal siz tol hrs ags yea kpar kkin klea kmos kwrt ktal ksiz ktol khrs kags kyea isk res gai bes low hig spn byt hld sta beh sor num fnd sbi she snu) := by
  refine CtV_mk (cc := cX1_tallyPart) (maxL := 7) (ret := none) (by decide) rfl (Nat.le_of_ble_eq_true rfl) ?_
  intro p e s m args below meth c ls hx hb hr hlk hml hown hts hP hK hE hl
  have hS : va_S (adA a 36 s.heap.size) s.heap s.heap [] := va_S.rf
  have hl : lv_has ls 7 [(0, .ref (a 17)), (1, .int x1), (2, .int x2)] := hl
  have hown : s.vm.findClass RX1 = some m.cls := hown
  have hw1 : ∀ w ∈ wsX10, w.before args s = true := fun w h => hts w (List.mem_cons_of_mem _ (List.mem_append_right _ h))
  have u1 : (Cond.fieldLink RX1 9 "YearWords$Sayings" "tally" "[J").before args s = true := hts _ (List.mem_of_getElem? (i := 1) (by decide +kernel))
  obtain ⟨Q, hQ⟩ : ∃ Q, Q = mqV below D 36 a args s (wX a cI cJ cS par kin lea mos wrt tal siz tol hrs ags yea kpar kkin klea kmos kwrt ktal ksiz ktol khrs kags kyea isk res gai bes low hig spn byt hld sta beh sor num fnd sbi she snu) := ⟨_, rfl⟩
  rw [← hQ]
  have b2 : ∀  (n : Nat) (x3 : Int32) (tly : Nat → Int64), fix2 (fX1_tallyPart_l2 x1) n x3 tly = some res → ∀ (H : Heap) (locs : List Loc) (ls : Array Slot), va_P D vwCl (wX a cI cJ cS par kin lea mos wrt tal siz tol hrs ags yea kpar kkin klea kmos kwrt ktal ksiz ktol khrs kags kyea isk tly gai bes low hig spn byt hld sta beh sor num fnd sbi she snu) H → va_S (adA a 36 s.heap.size) s.heap H locs → lv_has ls 7 [(0, .ref (a 17)), (1, .int x1), (3, .int x3)] → W p l e rX1_tallyPart s m args below meth c H locs 0 0 Q (F0 m 2 ls []) := by
    refine fix2_r ?_
    intro K2 hK2 x3 tly hres H locs ls hP hS hl
    have b55 : ∀ (tly : Nat → Int64) (x3 : Int32) (x4 : Int64), fX1_tallyPart_b55 K2 tly x3 x4 = some res → ∀ (H : Heap) (locs : List Loc) (ls : Array Slot), va_P D vwCl (wX a cI cJ cS par kin lea mos wrt tal siz tol hrs ags yea kpar kkin klea kmos kwrt ktal ksiz ktol khrs kags kyea isk tly gai bes low hig spn byt hld sta beh sor num fnd sbi she snu) H → va_S (adA a 36 s.heap.size) s.heap H locs → lv_has ls 7 [(0, .ref (a 17)), (1, .int x1), (3, .int x3), (4, .long x4)] → W p l e rX1_tallyPart s m args below meth c H locs 0 0 Q (F0 m 55 ls []) := by
      intro tly x3 x4 hres H locs ls hP hS hl
      unfold fX1_tallyPart_b55 at hres
      refine lv_aload_n hx hb dX1_tallyPart_55 rfl (lv_at hl 0 rfl) ?_
      refine gX_sayo_tally hx hb hown hw1 hK hP u1 dX1_tallyPart_56 ?_
      refine lv_iload_n hx hb dX1_tallyPart_59 rfl (lv_at hl 2 rfl) ?_
      refine lv_lload hx hb dX1_tallyPart_60 (lv_at hl 3 rfl) ?_
      obtain ⟨i62, hres⟩ := gdi hres
      refine sX_tly hx hb hK hP hd hS i62 dX1_tallyPart_62 (fun H locs hP hS => ?_)
      refine lv_iinc (v := x3 + (-1)) (lv' := [(3, .int (x3 + (-1))), (0, .ref (a 17)), (1, .int x1), (4, .long x4)]) hx hb dX1_tallyPart_63 hl (k := 2) rfl (congrArg (fun z => x3 + z) (by decide)) (by decide) rfl (fun ls hl => ?_)
      refine lv_goto (tgt := 2) hx hb dX1_tallyPart_66 (by decide) ?_
      exact hK2 (x3 + (-1)) (vp_updL tly x3.toNatClampNeg x4) hres _ _ _ hP hS (lv_sub hl [1, 2, 0] rfl)
    have b12 : ∀ (tly : Nat → Int64) (x3 : Int32) (n : Nat) (x4 : Int64) (x6 : Int32), fix2 (fX1_tallyPart_l12 K2 tly x1 x3) n x4 x6 = some res → ∀ (H : Heap) (locs : List Loc) (ls : Array Slot), va_P D vwCl (wX a cI cJ cS par kin lea mos wrt tal siz tol hrs ags yea kpar kkin klea kmos kwrt ktal ksiz ktol khrs kags kyea isk tly gai bes low hig spn byt hld sta beh sor num fnd sbi she snu) H → va_S (adA a 36 s.heap.size) s.heap H locs → lv_has ls 7 [(0, .ref (a 17)), (1, .int x1), (3, .int x3), (4, .long x4), (6, .int x6)] → W p l e rX1_tallyPart s m args below meth c H locs 0 0 Q (F0 m 12 ls []) := by
      intro tly x3
      refine fix2_r ?_
      intro K12 hK12 x4 x6 hres H locs ls hP hS hl
      have b49 : ∀ (x4 : Int64) (x6 : Int32), fX1_tallyPart_b49 K12 x4 x6 = some res → ∀ (H : Heap) (locs : List Loc) (ls : Array Slot), va_P D vwCl (wX a cI cJ cS par kin lea mos wrt tal siz tol hrs ags yea kpar kkin klea kmos kwrt ktal ksiz ktol khrs kags kyea isk tly gai bes low hig spn byt hld sta beh sor num fnd sbi she snu) H → va_S (adA a 36 s.heap.size) s.heap H locs → lv_has ls 7 [(0, .ref (a 17)), (1, .int x1), (3, .int x3), (4, .long x4), (6, .int x6)] → W p l e rX1_tallyPart s m args below meth c H locs 0 0 Q (F0 m 49 ls []) := by
        intro x4 x6 hres H locs ls hP hS hl
        unfold fX1_tallyPart_b49 at hres
        refine lv_iinc (v := x6 + 1) (lv' := [(6, .int (x6 + 1)), (0, .ref (a 17)), (1, .int x1), (3, .int x3), (4, .long x4)]) hx hb dX1_tallyPart_49 hl (k := 4) rfl (congrArg (fun z => x6 + z) (by decide)) (by decide) rfl (fun ls hl => ?_)
        refine lv_goto (tgt := 12) hx hb dX1_tallyPart_52 (by decide) ?_
        exact hK12 x4 (x6 + 1) hres _ _ _ hP hS (lv_sub hl [1, 2, 3, 4, 0] rfl)
      unfold fX1_tallyPart_l12 at hres
      refine lv_iload hx hb dX1_tallyPart_12 (lv_at hl 4 rfl) ?_
      refine lv_iload_n hx hb dX1_tallyPart_14 rfl (lv_at hl 2 rfl) ?_
      refine lv_icmp_gt (tgt := 55) hx hb dX1_tallyPart_15 (by decide) (fun c15 => ?_) (fun c15 => ?_)
      · have hres := (itl hres).1 c15
        exact b55 tly x3 x4 hres _ _ _ hP hS (lv_sub hl [0, 1, 2, 3] rfl)
      · have hres := (itl hres).2 c15
        refine lv_iload hx hb dX1_tallyPart_18 (lv_at hl 4 rfl) ?_
        refine lv_bipush (v := 24) hx hb dX1_tallyPart_20 (by decide) ?_
        refine lv_icmp_gt (tgt := 55) hx hb dX1_tallyPart_22 (by decide) (fun c22 => ?_) (fun c22 => ?_)
        · have hres := (itl hres).1 c22
          exact b55 tly x3 x4 hres _ _ _ hP hS (lv_sub hl [0, 1, 2, 3] rfl)
        · have hres := (itl hres).2 c22
          refine lv_iload_n hx hb dX1_tallyPart_25 rfl (lv_at hl 1 rfl) ?_
          refine lv_iload hx hb dX1_tallyPart_26 (lv_at hl 4 rfl) ?_
          refine lv_ishr hx hb dX1_tallyPart_28 ?_
          refine lv_iconst (v := 1) hx hb dX1_tallyPart_29 (by decide) ?_
          refine lv_iand hx hb dX1_tallyPart_30 ?_
          refine lv_iconst (v := 1) hx hb dX1_tallyPart_31 (by decide) ?_
          refine lv_icmp_ne (tgt := 49) hx hb dX1_tallyPart_32 (by decide) (fun c32 => ?_) (fun c32 => ?_)
          · have hres := (itl hres).2 c32
            exact b49 x4 x6 hres _ _ _ hP hS (lv_sub hl [0, 1, 2, 3, 4] rfl)
          · have hres := (itl hres).1 c32
            refine lv_lload hx hb dX1_tallyPart_35 (lv_at hl 3 rfl) ?_
            refine lv_aload_n hx hb dX1_tallyPart_37 rfl (lv_at hl 0 rfl) ?_
            refine gX_sayo_tally hx hb hown hw1 hK hP u1 dX1_tallyPart_38 ?_
            refine lv_iload_n hx hb dX1_tallyPart_41 rfl (lv_at hl 2 rfl) ?_
            refine lv_iload hx hb dX1_tallyPart_42 (lv_at hl 4 rfl) ?_
            refine lv_isub hx hb dX1_tallyPart_44 ?_
            obtain ⟨i45, hres⟩ := gdi hres
            refine lX_tly hx hb hK hP i45 dX1_tallyPart_45 ?_
            refine lv_ladd hx hb dX1_tallyPart_46 ?_
            refine lv_lstore (lv' := [(4, .long (x4 + (tly (x3 - x6).toNatClampNeg))), (0, .ref (a 17)), (1, .int x1), (3, .int x3), (6, .int x6)]) hx hb dX1_tallyPart_47 hl (by decide) rfl (fun ls hl => ?_)
            exact b49 (x4 + (tly (x3 - x6).toNatClampNeg)) x6 hres _ _ _ hP hS (lv_sub hl [1, 2, 3, 0, 4] rfl)
    unfold fX1_tallyPart_l2 at hres
    refine lv_iload_n hx hb dX1_tallyPart_2 rfl (lv_at hl 2 rfl) ?_
    refine lv_if_lt (tgt := 69) hx hb dX1_tallyPart_3 (by decide) (fun c3 => ?_) (fun c3 => ?_)
    · have hres := (itl hres).1 c3
      exact hQ ▸ rtV hx hb hr hlk hP hS (by rw [← (Option.some.inj hres)]) dX1_tallyPart_69
    · have hres := (itl hres).2 c3
      refine lv_lconst (v := 0) hx hb dX1_tallyPart_6 (by decide) ?_
      refine lv_lstore (lv' := [(4, .long (0 : Int64)), (0, .ref (a 17)), (1, .int x1), (3, .int x3)]) hx hb dX1_tallyPart_7 hl (by decide) rfl (fun ls hl => ?_)
      refine lv_iconst (v := 0) hx hb dX1_tallyPart_9 (by decide) ?_
      refine lv_istore (lv' := [(6, .int (0 : Int32)), (4, .long (0 : Int64)), (0, .ref (a 17)), (1, .int x1), (3, .int x3)]) hx hb dX1_tallyPart_10 hl (by decide) rfl (fun ls hl => ?_)
      exact b12 tly x3 2000 (0 : Int64) (0 : Int32) hres _ _ _ hP hS (lv_sub hl [2, 3, 4, 1, 0] rfl)
  unfold fX1_tallyPart at hres
  refine lv_iload_n hx hb dX1_tallyPart_0 rfl (lv_at hl 2 rfl) ?_
  refine lv_istore_n (lv' := [(3, .int x2), (0, .ref (a 17)), (1, .int x1), (2, .int x2)]) hx hb dX1_tallyPart_1 rfl hl (by decide) rfl (fun ls hl => ?_)
  exact b2  2000 x2 tly hres _ _ _ hP hS (lv_sub hl [1, 2, 0] rfl)
def fX1_waysIn_b21 (K2 : Int32 → (Nat → Int64) → Option (Int64 × (Nat → Int64))) (tly : Nat → Int64) (x3 : Int32) (z1 : Int32) (z2 : Int64) : Option (Int64 × (Nat → Int64)) :=
  gd (ib z1 121) (K2 (x3 + 1) (vp_updL tly z1.toNatClampNeg z2))
def fX1_waysIn_b70 (tly : Nat → Int64) (x2 : Int32) : Option (Int64 × (Nat → Int64)) :=
  gd (ib x2 121) (some (tly x2.toNatClampNeg, tly))
def fX1_waysIn_l30 (kin : Nat → Int32) (lea : Nat → Int32) (mos : Nat → Int32) (siz : Nat → Int32) (tol : Nat → Int32) (x1 : Int32) (x2 : Int32) (K30 : Int32 → (Nat → Int64) → Option (Int64 × (Nat → Int64))) (x3 : Int32) (tly : Nat → Int64) : Option (Int64 × (Nat → Int64)) :=
  gd (ib x1 8) (if (siz x1.toNatClampNeg) ≤ x3 then fX1_waysIn_b70 tly x2 else (fX3_toldAt tol x1 x3).bind fun q54 => (fX3_lengthsOf kin lea mos q54).bind fun q57 => (fX1_tallyPart tly q57 x2).bind fun q61 => K30 (x3 + 1) q61)
def fX1_waysIn_b28 (kin : Nat → Int32) (lea : Nat → Int32) (mos : Nat → Int32) (siz : Nat → Int32) (tol : Nat → Int32) (tly : Nat → Int64) (x1 : Int32) (x2 : Int32) : Option (Int64 × (Nat → Int64)) :=
  fix2 (fX1_waysIn_l30 kin lea mos siz tol x1 x2) 2000 (0 : Int32) tly
def fX1_waysIn_l2 (kin : Nat → Int32) (lea : Nat → Int32) (mos : Nat → Int32) (siz : Nat → Int32) (tol : Nat → Int32) (x1 : Int32) (x2 : Int32) (K2 : Int32 → (Nat → Int64) → Option (Int64 × (Nat → Int64))) (x3 : Int32) (tly : Nat → Int64) : Option (Int64 × (Nat → Int64)) :=
  if x2 < x3 then fX1_waysIn_b28 kin lea mos siz tol tly x1 x2 else if x3 = 0 then fX1_waysIn_b21 K2 tly x3 x3 (1 : Int64) else fX1_waysIn_b21 K2 tly x3 x3 (0 : Int64)
def fX1_waysIn (kin : Nat → Int32) (lea : Nat → Int32) (mos : Nat → Int32) (siz : Nat → Int32) (tol : Nat → Int32) (tly : Nat → Int64) (x1 : Int32) (x2 : Int32) : Option (Int64 × (Nat → Int64)) :=
  fix2 (fX1_waysIn_l2 kin lea mos siz tol x1 x2) 2000 (0 : Int32) tly
theorem hdX1_tallyPart : yX1_tallyPart.cls = RX1 ∧ yX1_tallyPart.cls ≠ "java/lang/invoke/MethodHandle" ∧ yX1_tallyPart.cls ≠ "java/lang/invoke/VarHandle" ∧ (parseMethodDescriptor yX1_tallyPart.desc).map (fun d => d.parameters.length) = some 2 := by decide +kernel
theorem hdX3_lengthsOf : yX3_lengthsOf.cls = RX3 ∧ yX3_lengthsOf.cls ≠ "java/lang/invoke/MethodHandle" ∧ yX3_lengthsOf.cls ≠ "java/lang/invoke/VarHandle" ∧ (parseMethodDescriptor yX3_lengthsOf.desc).map (fun d => d.parameters.length) = some 1 := by decide +kernel
theorem hdX3_toldAt : yX3_toldAt.cls = RX3 ∧ yX3_toldAt.cls ≠ "java/lang/invoke/MethodHandle" ∧ yX3_toldAt.cls ≠ "java/lang/invoke/VarHandle" ∧ (parseMethodDescriptor yX3_toldAt.desc).map (fun d => d.parameters.length) = some 2 := by decide +kernel
abbrev rX1_waysIn : Room := { frames := 2, cells := 0, slots := 0, locals := 44 }
set_option maxHeartbeats 4000000 in
set_option maxRecDepth 100000 in
theorem kX1_waysIn (l : Launch) (D : va_G) (a : Nat → Nat) (cI cJ cS : ClassId) (hd : aok a 36) {Env : (Nat → Prop) → State → Heap → Prop} (hEo : envOK Env) (par : Int32) (kin lea mos wrt : Nat → Int32) (tal : Int32) (siz tol : Nat → Int32) (hrs : Int32) (ags : Nat → Int32) (yea kpar : Int32) (kkin klea kmos kwrt : Nat → Int32) (ktal : Int32) (ksiz ktol : Nat → Int32) (khrs : Int32) (kags : Nat → Int32) (kyea isk : Int32) (tly : Nat → Int64) (gai bes : Nat → Int32) (low hig : Nat → Int64) (spn : Int32) (byt : Nat → Int32) (hld sta beh sor num : Int32) (fnd sbi she : Nat → Int32) (snu : Nat → Nat → Int64) (x1 : Int32) (x2 : Int32) (res : Int64 × (Nat → Int64)) (hres : fX1_waysIn kin lea mos siz tol tly x1 x2 = some res) : CtL l D (tyL cI cJ cS) 36 a Env yX1_waysIn wsX1_waysIn rX1_waysIn [.ref (a 17), .int x1, .int x2] (wX a cI cJ cS par kin lea mos wrt tal siz tol hrs ags yea kpar kkin klea kmos kwrt ktal ksiz ktol khrs kags kyea isk tly gai bes low hig spn byt hld sta beh sor num fnd sbi she snu) (wX a cI cJ cS par kin lea mos wrt tal siz tol hrs ags yea kpar kkin klea kmos kwrt ktal ksiz ktol khrs kags kyea isk res.2 gai bes low hig spn byt hld sta beh sor num fnd sbi she snu) res.1 := by
  refine CtL_mk (cc := cX1_waysIn) (maxL := 4) (ret := (some .long)) (by decide) rfl (Nat.le_of_ble_eq_true rfl) ?_
  intro p e s m args below meth c ls hx hb hr hlk hml hown hts hP hK hE hl
  have hS : va_S (adA a 36 s.heap.size) s.heap s.heap [] := va_S.rf
  have hl : lv_has ls 4 [(0, .ref (a 17)), (1, .int x1), (2, .int x2)] := hl
  have hown : s.vm.findClass RX1 = some m.cls := hown
  have hw1 : ∀ w ∈ wsX10, w.before args s = true := fun w h => hts w (List.mem_cons_of_mem _ (List.mem_append_left _ (List.mem_append_right _ h)))
  have hw3 : ∀ w ∈ wsX30, w.before args s = true := fun w h => hts w (List.mem_cons_of_mem _ (List.mem_append_right _ h))
  have u1 : (Cond.fieldLink RX1 9 "YearWords$Sayings" "tally" "[J").before args s = true := hts _ (List.mem_of_getElem? (i := 1) (by decide +kernel))
  have u2 : (Cond.fieldLink RX1 32 "YearWords$Sayings" "stock" "LYearWords$Stock;").before args s = true := hts _ (List.mem_of_getElem? (i := 2) (by decide +kernel))
  have u3 : (Cond.fieldLink RX1 36 "YearWords$Stock" "sizes" "[I").before args s = true := hts _ (List.mem_of_getElem? (i := 3) (by decide +kernel))
  obtain ⟨Q, hQ⟩ : ∃ Q, Q = mqL below D 36 a args s (wX a cI cJ cS par kin lea mos wrt tal siz tol hrs ags yea kpar kkin klea kmos kwrt ktal ksiz ktol khrs kags kyea isk res.2 gai bes low hig spn byt hld sta beh sor num fnd sbi she snu) res.1 := ⟨_, rfl⟩
  rw [← hQ]
  have b70 : ∀ (tly : Nat → Int64), fX1_waysIn_b70 tly x2 = some res → ∀ (H : Heap) (locs : List Loc) (ls : Array Slot), va_P D vwCl (wX a cI cJ cS par kin lea mos wrt tal siz tol hrs ags yea kpar kkin klea kmos kwrt ktal ksiz ktol khrs kags kyea isk tly gai bes low hig spn byt hld sta beh sor num fnd sbi she snu) H → va_S (adA a 36 s.heap.size) s.heap H locs → lv_has ls 4 [(0, .ref (a 17)), (2, .int x2)] → W p l e rX1_waysIn s m args below meth c H locs 0 0 Q (F0 m 70 ls []) := by
    intro tly hres H locs ls hP hS hl
    unfold fX1_waysIn_b70 at hres
    refine lv_aload_n hx hb dX1_waysIn_70 rfl (lv_at hl 0 rfl) ?_
    refine gX_sayo_tally hx hb hown hw1 hK hP u1 dX1_waysIn_71 ?_
    refine lv_iload_n hx hb dX1_waysIn_74 rfl (lv_at hl 1 rfl) ?_
    obtain ⟨i75, hres⟩ := gdi hres
    refine lX_tly hx hb hK hP i75 dX1_waysIn_75 ?_
    exact hQ ▸ rtL (v := tly x2.toNatClampNeg)  hx hb hr hlk hP hS (by rw [← (Option.some.inj hres)]) (by rw [← (Option.some.inj hres)]) dX1_waysIn_76
  have b30 : ∀  (n : Nat) (x3 : Int32) (tly : Nat → Int64), fix2 (fX1_waysIn_l30 kin lea mos siz tol x1 x2) n x3 tly = some res → ∀ (H : Heap) (locs : List Loc) (ls : Array Slot), va_P D vwCl (wX a cI cJ cS par kin lea mos wrt tal siz tol hrs ags yea kpar kkin klea kmos kwrt ktal ksiz ktol khrs kags kyea isk tly gai bes low hig spn byt hld sta beh sor num fnd sbi she snu) H → va_S (adA a 36 s.heap.size) s.heap H locs → lv_has ls 4 [(0, .ref (a 17)), (1, .int x1), (2, .int x2), (3, .int x3)] → W p l e rX1_waysIn s m args below meth c H locs 0 0 Q (F0 m 30 ls []) := by
    refine fix2_r ?_
    intro K30 hK30 x3 tly hres H locs ls hP hS hl
    unfold fX1_waysIn_l30 at hres
    refine lv_iload_n hx hb dX1_waysIn_30 rfl (lv_at hl 3 rfl) ?_
    refine lv_aload_n hx hb dX1_waysIn_31 rfl (lv_at hl 0 rfl) ?_
    refine gX_sayo_stock hx hb hown hw1 hK hP u2 dX1_waysIn_32 ?_
    refine gX_now_sizes hx hb hown hw3 hK hP u3 dX1_waysIn_35 ?_
    refine lv_iload_n hx hb dX1_waysIn_38 rfl (lv_at hl 1 rfl) ?_
    obtain ⟨i39, hres⟩ := gdi hres
    refine lX_siz hx hb hK hP i39 dX1_waysIn_39 ?_
    refine lv_icmp_ge (tgt := 70) hx hb dX1_waysIn_40 (by decide) (fun c40 => ?_) (fun c40 => ?_)
    · have hres := (itl hres).1 c40
      exact b70 tly hres _ _ _ hP hS (lv_sub hl [0, 2] rfl)
    · have hres := (itl hres).2 c40
      refine lv_aload_n hx hb dX1_waysIn_43 rfl (lv_at hl 0 rfl) ?_
      refine lv_aload_n hx hb dX1_waysIn_44 rfl (lv_at hl 0 rfl) ?_
      refine gX_sayo_stock hx hb hown hw1 hK hP u2 dX1_waysIn_45 ?_
      refine lv_aload_n hx hb dX1_waysIn_48 rfl (lv_at hl 0 rfl) ?_
      refine gX_sayo_stock hx hb hown hw1 hK hP u2 dX1_waysIn_49 ?_
      refine lv_iload_n hx hb dX1_waysIn_52 rfl (lv_at hl 1 rfl) ?_
      refine lv_iload_n hx hb dX1_waysIn_53 rfl (lv_at hl 3 rfl) ?_
      obtain ⟨q54, e54, hres⟩ := obd hres
      refine cvI (q0 := 1) (ci := 3) hx hb hml hown hts hEo hE hK hP hS (kX3_toldAt l D a cI cJ cS hd hEo par kin lea mos wrt tal siz tol hrs ags yea kpar kkin klea kmos kwrt ktal ksiz ktol khrs kags kyea isk tly gai bes low hig spn byt hld sta beh sor num fnd sbi she snu x1 x3 q54 e54) gX1_waysIn_X3_toldAt rfl hdX3_toldAt rfl rfl rfl ⟨rfl, rfl⟩ ⟨Nat.le_of_ble_eq_true rfl, Nat.le_of_ble_eq_true rfl⟩ ⟨Nat.zero_le _, Nat.zero_le _⟩ rfl hl.1 rfl (Nat.le_of_ble_eq_true rfl) dX1_waysIn_54 (fun H locs hP hS => ?_)
      obtain ⟨q57, e57, hres⟩ := obd hres
      refine cvI (q0 := 1) (ci := 3) hx hb hml hown hts hEo hE hK hP hS (kX3_lengthsOf l D a cI cJ cS hd hEo par kin lea mos wrt tal siz tol hrs ags yea kpar kkin klea kmos kwrt ktal ksiz ktol khrs kags kyea isk tly gai bes low hig spn byt hld sta beh sor num fnd sbi she snu q54 q57 e57) gX1_waysIn_X3_lengthsOf rfl hdX3_lengthsOf rfl rfl rfl ⟨rfl, rfl⟩ ⟨Nat.le_of_ble_eq_true rfl, Nat.le_of_ble_eq_true rfl⟩ ⟨Nat.zero_le _, Nat.zero_le _⟩ rfl hl.1 rfl (Nat.le_of_ble_eq_true rfl) dX1_waysIn_57 (fun H locs hP hS => ?_)
      refine lv_iload_n hx hb dX1_waysIn_60 rfl (lv_at hl 2 rfl) ?_
      obtain ⟨q61, e61, hres⟩ := obd hres
      refine cvV (q0 := 17) (ci := 1) hx hb hml hown hts hEo hE hK hP hS (kX1_tallyPart l D a cI cJ cS hd hEo par kin lea mos wrt tal siz tol hrs ags yea kpar kkin klea kmos kwrt ktal ksiz ktol khrs kags kyea isk tly gai bes low hig spn byt hld sta beh sor num fnd sbi she snu q57 x2 q61 e61) gX1_waysIn_X1_tallyPart rfl hdX1_tallyPart rfl rfl rfl ⟨rfl, rfl⟩ ⟨Nat.le_of_ble_eq_true rfl, Nat.le_of_ble_eq_true rfl⟩ ⟨Nat.zero_le _, Nat.zero_le _⟩ rfl hl.1 rfl (Nat.le_of_ble_eq_true rfl) dX1_waysIn_61 (fun H locs hP hS => ?_)
      refine lv_iinc (v := x3 + 1) (lv' := [(3, .int (x3 + 1)), (0, .ref (a 17)), (1, .int x1), (2, .int x2)]) hx hb dX1_waysIn_64 hl (k := 3) rfl (congrArg (fun z => x3 + z) (by decide)) (by decide) rfl (fun ls hl => ?_)
      refine lv_goto (tgt := 30) hx hb dX1_waysIn_67 (by decide) ?_
      exact hK30 (x3 + 1) q61 hres _ _ _ hP hS (lv_sub hl [1, 2, 3, 0] rfl)
  have b28 : ∀ (tly : Nat → Int64), fX1_waysIn_b28 kin lea mos siz tol tly x1 x2 = some res → ∀ (H : Heap) (locs : List Loc) (ls : Array Slot), va_P D vwCl (wX a cI cJ cS par kin lea mos wrt tal siz tol hrs ags yea kpar kkin klea kmos kwrt ktal ksiz ktol khrs kags kyea isk tly gai bes low hig spn byt hld sta beh sor num fnd sbi she snu) H → va_S (adA a 36 s.heap.size) s.heap H locs → lv_has ls 4 [(0, .ref (a 17)), (1, .int x1), (2, .int x2)] → W p l e rX1_waysIn s m args below meth c H locs 0 0 Q (F0 m 28 ls []) := by
    intro tly hres H locs ls hP hS hl
    unfold fX1_waysIn_b28 at hres
    refine lv_iconst (v := 0) hx hb dX1_waysIn_28 (by decide) ?_
    refine lv_istore_n (lv' := [(3, .int (0 : Int32)), (0, .ref (a 17)), (1, .int x1), (2, .int x2)]) hx hb dX1_waysIn_29 rfl hl (by decide) rfl (fun ls hl => ?_)
    exact b30  2000 (0 : Int32) tly hres _ _ _ hP hS (lv_sub hl [1, 2, 3, 0] rfl)
  have b2 : ∀  (n : Nat) (x3 : Int32) (tly : Nat → Int64), fix2 (fX1_waysIn_l2 kin lea mos siz tol x1 x2) n x3 tly = some res → ∀ (H : Heap) (locs : List Loc) (ls : Array Slot), va_P D vwCl (wX a cI cJ cS par kin lea mos wrt tal siz tol hrs ags yea kpar kkin klea kmos kwrt ktal ksiz ktol khrs kags kyea isk tly gai bes low hig spn byt hld sta beh sor num fnd sbi she snu) H → va_S (adA a 36 s.heap.size) s.heap H locs → lv_has ls 4 [(0, .ref (a 17)), (1, .int x1), (2, .int x2), (3, .int x3)] → W p l e rX1_waysIn s m args below meth c H locs 0 0 Q (F0 m 2 ls []) := by
    refine fix2_r ?_
    intro K2 hK2 x3 tly hres H locs ls hP hS hl
    have b21 : ∀ (tly : Nat → Int64) (x3 : Int32) (z1 : Int32) (z2 : Int64), fX1_waysIn_b21 K2 tly x3 z1 z2 = some res → ∀ (H : Heap) (locs : List Loc) (ls : Array Slot), va_P D vwCl (wX a cI cJ cS par kin lea mos wrt tal siz tol hrs ags yea kpar kkin klea kmos kwrt ktal ksiz ktol khrs kags kyea isk tly gai bes low hig spn byt hld sta beh sor num fnd sbi she snu) H → va_S (adA a 36 s.heap.size) s.heap H locs → lv_has ls 4 [(0, .ref (a 17)), (1, .int x1), (2, .int x2), (3, .int x3)] → W p l e rX1_waysIn s m args below meth c H locs 0 0 Q (F0 m 21 ls [.long z2, .int z1, .ref (a 18)]) := by
      intro tly x3 z1 z2 hres H locs ls hP hS hl
      unfold fX1_waysIn_b21 at hres
      obtain ⟨i21, hres⟩ := gdi hres
      refine sX_tly hx hb hK hP hd hS i21 dX1_waysIn_21 (fun H locs hP hS => ?_)
      refine lv_iinc (v := x3 + 1) (lv' := [(3, .int (x3 + 1)), (0, .ref (a 17)), (1, .int x1), (2, .int x2)]) hx hb dX1_waysIn_22 hl (k := 3) rfl (congrArg (fun z => x3 + z) (by decide)) (by decide) rfl (fun ls hl => ?_)
      refine lv_goto (tgt := 2) hx hb dX1_waysIn_25 (by decide) ?_
      exact hK2 (x3 + 1) (vp_updL tly z1.toNatClampNeg z2) hres _ _ _ hP hS (lv_sub hl [1, 2, 3, 0] rfl)
    unfold fX1_waysIn_l2 at hres
    refine lv_iload_n hx hb dX1_waysIn_2 rfl (lv_at hl 3 rfl) ?_
    refine lv_iload_n hx hb dX1_waysIn_3 rfl (lv_at hl 2 rfl) ?_
    refine lv_icmp_gt (tgt := 28) hx hb dX1_waysIn_4 (by decide) (fun c4 => ?_) (fun c4 => ?_)
    · have hres := (itl hres).1 c4
      exact b28 tly hres _ _ _ hP hS (lv_sub hl [0, 1, 2] rfl)
    · have hres := (itl hres).2 c4
      refine lv_aload_n hx hb dX1_waysIn_7 rfl (lv_at hl 0 rfl) ?_
      refine gX_sayo_tally hx hb hown hw1 hK hP u1 dX1_waysIn_8 ?_
      refine lv_iload_n hx hb dX1_waysIn_11 rfl (lv_at hl 3 rfl) ?_
      refine lv_iload_n hx hb dX1_waysIn_12 rfl (lv_at hl 3 rfl) ?_
      refine lv_if_ne (tgt := 20) hx hb dX1_waysIn_13 (by decide) (fun c13 => ?_) (fun c13 => ?_)
      · have hres := (itl hres).2 c13
        refine lv_lconst (v := 0) hx hb dX1_waysIn_20 (by decide) ?_
        exact b21 tly x3 x3 (0 : Int64) hres _ _ _ hP hS (lv_sub hl [0, 1, 2, 3] rfl)
      · have hres := (itl hres).1 c13
        refine lv_lconst (v := 1) hx hb dX1_waysIn_16 (by decide) ?_
        refine lv_goto (tgt := 21) hx hb dX1_waysIn_17 (by decide) ?_
        exact b21 tly x3 x3 (1 : Int64) hres _ _ _ hP hS (lv_sub hl [0, 1, 2, 3] rfl)
  unfold fX1_waysIn at hres
  refine lv_iconst (v := 0) hx hb dX1_waysIn_0 (by decide) ?_
  refine lv_istore_n (lv' := [(3, .int (0 : Int32)), (0, .ref (a 17)), (1, .int x1), (2, .int x2)]) hx hb dX1_waysIn_1 rfl hl (by decide) rfl (fun ls hl => ?_)
  exact b2  2000 (0 : Int32) tly hres _ _ _ hP hS (lv_sub hl [1, 2, 3, 0] rfl)
