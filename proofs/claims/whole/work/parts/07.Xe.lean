def fX5_till_b22 (low : Nat → Int64) (hig : Nat → Int64) (spn : Int32) (fnd : Nat → Int32) : Option (Int32 × (Nat → Int64) × (Nat → Int64) × Int32 × (Nat → Int32)) :=
 (fX5_found fnd (-1000000001 : Int32)).bind fun q25 => some (q25.1, low, hig, spn, q25.2)
def fX5_till (kin : Nat → Int32) (lea : Nat → Int32) (mos : Nat → Int32) (tal : Int32) (siz : Nat → Int32) (tol : Nat → Int32) (hrs : Int32) (ags : Nat → Int32) (low : Nat → Int64) (hig : Nat → Int64) (spn : Int32) (fnd : Nat → Int32) (x1 : Int32) (x2 : Int32) : Option (Int32 × (Nat → Int64) × (Nat → Int64) × Int32 × (Nat → Int32)) :=
  if (bI (fX3_hasTale tal x1)) = 0 then fX5_till_b22 low hig spn fnd else if (bI (fX3_hasHearer hrs x2)) = 0 then fX5_till_b22 low hig spn fnd else (fX5_firstYear kin lea mos siz tol ags low hig spn x1 x2 false).bind fun q33 => some (q33.1, q33.2.1, q33.2.2.1, q33.2.2.2, fnd)
abbrev rX5_till : Room := { frames := 4, cells := 0, slots := 0, locals := 90 }
set_option maxHeartbeats 4000000 in
set_option maxRecDepth 100000 in
theorem kX5_till (l : Launch) (D : va_G) (a : Nat → Nat) (cI cJ cS : ClassId) (hd : aok a 36) {Env : (Nat → Prop) → State → Heap → Prop} (hEo : envOK Env) (par : Int32) (kin lea mos wrt : Nat → Int32) (tal : Int32) (siz tol : Nat → Int32) (hrs : Int32) (ags : Nat → Int32) (yea kpar : Int32) (kkin klea kmos kwrt : Nat → Int32) (ktal : Int32) (ksiz ktol : Nat → Int32) (khrs : Int32) (kags : Nat → Int32) (kyea isk : Int32) (tly : Nat → Int64) (gai bes : Nat → Int32) (low hig : Nat → Int64) (spn : Int32) (byt : Nat → Int32) (hld sta beh sor num : Int32) (fnd sbi she : Nat → Int32) (snu : Nat → Nat → Int64) (x1 : Int32) (x2 : Int32) (res : Int32 × (Nat → Int64) × (Nat → Int64) × Int32 × (Nat → Int32)) (hres : fX5_till kin lea mos tal siz tol hrs ags low hig spn fnd x1 x2 = some res) : CtI l D (tyL cI cJ cS) 36 a Env yX5_till wsX5_till rX5_till [.ref (a 0), .int x1, .int x2] (wX a cI cJ cS par kin lea mos wrt tal siz tol hrs ags yea kpar kkin klea kmos kwrt ktal ksiz ktol khrs kags kyea isk tly gai bes low hig spn byt hld sta beh sor num fnd sbi she snu) (wX a cI cJ cS par kin lea mos wrt tal siz tol hrs ags yea kpar kkin klea kmos kwrt ktal ksiz ktol khrs kags kyea isk tly gai bes res.2.1 res.2.2.1 res.2.2.2.1 byt hld sta beh sor num res.2.2.2.2 sbi she snu) res.1 := by
  refine CtI_mk (cc := cX5_till) (maxL := 3) (ret := (some .int)) (by decide) rfl (Nat.le_of_ble_eq_true rfl) ?_
  intro p e s m args below meth c ls hx hb hr hlk hml hown hts hP hK hE hl
  have hS : va_S (adA a 36 s.heap.size) s.heap s.heap [] := va_S.rf
  have hl : lv_has ls 3 [(0, .ref (a 0)), (1, .int x1), (2, .int x2)] := hl
  have hown : s.vm.findClass RX5 = some m.cls := hown
  have hw5 : ∀ w ∈ wsX50, w.before args s = true := fun w h => hts w (List.mem_cons_of_mem _ (List.mem_append_left _ (List.mem_append_left _ (List.mem_append_right _ h))))
  have u1 : (Cond.fieldLink RX5 12 "YearWords" "now" "LYearWords$Stock;").before args s = true := hts _ (List.mem_of_getElem? (i := 1) (by decide +kernel))
  have u2 : (Cond.constant RX5 63 (-1000000001)).before args s = true := hts _ (List.mem_of_getElem? (i := 2) (by decide +kernel))
  obtain ⟨Q, hQ⟩ : ∃ Q, Q = mqI below D 36 a args s (wX a cI cJ cS par kin lea mos wrt tal siz tol hrs ags yea kpar kkin klea kmos kwrt ktal ksiz ktol khrs kags kyea isk tly gai bes res.2.1 res.2.2.1 res.2.2.2.1 byt hld sta beh sor num res.2.2.2.2 sbi she snu) res.1 := ⟨_, rfl⟩
  rw [← hQ]
  have b22 : ∀ (low : Nat → Int64) (hig : Nat → Int64) (spn : Int32) (fnd : Nat → Int32), fX5_till_b22 low hig spn fnd = some res → ∀ (H : Heap) (locs : List Loc) (ls : Array Slot), va_P D vwCl (wX a cI cJ cS par kin lea mos wrt tal siz tol hrs ags yea kpar kkin klea kmos kwrt ktal ksiz ktol khrs kags kyea isk tly gai bes low hig spn byt hld sta beh sor num fnd sbi she snu) H → va_S (adA a 36 s.heap.size) s.heap H locs → lv_has ls 3 [(0, .ref (a 0))] → W p l e rX5_till s m args below meth c H locs 0 0 Q (F0 m 22 ls []) := by
    intro low hig spn fnd hres H locs ls hP hS hl
    unfold fX5_till_b22 at hres
    refine lv_aload_n hx hb dX5_till_22 rfl (lv_at hl 0 rfl) ?_
    refine lv_ldc hx hb hown u2 dX5_till_23 ?_
    obtain ⟨q25, e25, hres⟩ := obd hres
    refine cvI (q0 := 0) (ci := 5) hx hb hml hown hts hEo hE hK hP hS (kX5_found l D a cI cJ cS hd hEo par kin lea mos wrt tal siz tol hrs ags yea kpar kkin klea kmos kwrt ktal ksiz ktol khrs kags kyea isk tly gai bes low hig spn byt hld sta beh sor num fnd sbi she snu (-1000000001 : Int32) q25 e25) gX5_till_X5_found rfl hdX5_found rfl rfl rfl ⟨rfl, rfl⟩ ⟨Nat.le_of_ble_eq_true rfl, Nat.le_of_ble_eq_true rfl⟩ ⟨Nat.zero_le _, Nat.zero_le _⟩ rfl hl.1 rfl (Nat.le_of_ble_eq_true rfl) dX5_till_25 (fun H locs hP hS => ?_)
    exact hQ ▸ rtI (v := q25.1)  hx hb hr hlk hP hS (by rw [← (Option.some.inj hres)]) (by rw [← (Option.some.inj hres)]) dX5_till_28
  unfold fX5_till at hres
  refine lv_aload_n hx hb dX5_till_0 rfl (lv_at hl 0 rfl) ?_
  refine gX_this5_now hx hb hown hw5 hK hP u1 dX5_till_1 ?_
  refine lv_iload_n hx hb dX5_till_4 rfl (lv_at hl 1 rfl) ?_
  refine cvI (q0 := 1) (ci := 3) hx hb hml hown hts hEo hE hK hP hS (kX3_hasTale l D a cI cJ cS hd hEo par kin lea mos wrt tal siz tol hrs ags yea kpar kkin klea kmos kwrt ktal ksiz ktol khrs kags kyea isk tly gai bes low hig spn byt hld sta beh sor num fnd sbi she snu x1) gX5_till_X3_hasTale rfl hdX3_hasTale rfl rfl rfl ⟨rfl, rfl⟩ ⟨Nat.le_of_ble_eq_true rfl, Nat.le_of_ble_eq_true rfl⟩ ⟨Nat.zero_le _, Nat.zero_le _⟩ rfl hl.1 rfl (Nat.le_of_ble_eq_true rfl) dX5_till_5 (fun H locs hP hS => ?_)
  refine lv_if_eq (tgt := 22) hx hb dX5_till_8 (by decide) (fun c8 => ?_) (fun c8 => ?_)
  · have hres := (itl hres).1 c8
    exact b22 low hig spn fnd hres _ _ _ hP hS (lv_sub hl [0] rfl)
  · have hres := (itl hres).2 c8
    refine lv_aload_n hx hb dX5_till_11 rfl (lv_at hl 0 rfl) ?_
    refine gX_this5_now hx hb hown hw5 hK hP u1 dX5_till_12 ?_
    refine lv_iload_n hx hb dX5_till_15 rfl (lv_at hl 2 rfl) ?_
    refine cvI (q0 := 1) (ci := 3) hx hb hml hown hts hEo hE hK hP hS (kX3_hasHearer l D a cI cJ cS hd hEo par kin lea mos wrt tal siz tol hrs ags yea kpar kkin klea kmos kwrt ktal ksiz ktol khrs kags kyea isk tly gai bes low hig spn byt hld sta beh sor num fnd sbi she snu x2) gX5_till_X3_hasHearer rfl hdX3_hasHearer rfl rfl rfl ⟨rfl, rfl⟩ ⟨Nat.le_of_ble_eq_true rfl, Nat.le_of_ble_eq_true rfl⟩ ⟨Nat.zero_le _, Nat.zero_le _⟩ rfl hl.1 rfl (Nat.le_of_ble_eq_true rfl) dX5_till_16 (fun H locs hP hS => ?_)
    refine lv_if_ne (tgt := 29) hx hb dX5_till_19 (by decide) (fun c19 => ?_) (fun c19 => ?_)
    · have hres := (itl hres).2 c19
      refine lv_aload_n hx hb dX5_till_29 rfl (lv_at hl 0 rfl) ?_
      refine lv_iload_n hx hb dX5_till_30 rfl (lv_at hl 1 rfl) ?_
      refine lv_iload_n hx hb dX5_till_31 rfl (lv_at hl 2 rfl) ?_
      refine lv_iconst (v := 0) hx hb dX5_till_32 (by decide) ?_
      obtain ⟨q33, e33, hres⟩ := obd hres
      refine cvI (q0 := 0) (ci := 5) hx hb hml hown hts hEo hE hK hP hS (kX5_firstYear l D a cI cJ cS hd hEo par kin lea mos wrt tal siz tol hrs ags yea kpar kkin klea kmos kwrt ktal ksiz ktol khrs kags kyea isk tly gai bes low hig spn byt hld sta beh sor num fnd sbi she snu x1 x2 false q33 e33) gX5_till_X5_firstYear rfl hdX5_firstYear rfl rfl rfl ⟨rfl, rfl⟩ ⟨Nat.le_of_ble_eq_true rfl, Nat.le_of_ble_eq_true rfl⟩ ⟨Nat.zero_le _, Nat.zero_le _⟩ rfl hl.1 rfl (Nat.le_of_ble_eq_true rfl) dX5_till_33 (fun H locs hP hS => ?_)
      exact hQ ▸ rtI (v := q33.1)  hx hb hr hlk hP hS (by rw [← (Option.some.inj hres)]) (by rw [← (Option.some.inj hres)]) dX5_till_36
    · have hres := (itl hres).1 c19
      exact b22 low hig spn fnd hres _ _ _ hP hS (lv_sub hl [0] rfl)
def fX5_heard_b32 (gai : Nat → Int32) (bes : Nat → Int32) (fnd : Nat → Int32) : Option (Int32 × (Nat → Int32) × (Nat → Int32) × (Nat → Int32)) :=
 (fX5_found fnd (-1000000001 : Int32)).bind fun q35 => some (q35.1, gai, bes, q35.2)
def fX5_heard (kin : Nat → Int32) (lea : Nat → Int32) (mos : Nat → Int32) (wrt : Nat → Int32) (tal : Int32) (siz : Nat → Int32) (tol : Nat → Int32) (hrs : Int32) (ags : Nat → Int32) (gai : Nat → Int32) (bes : Nat → Int32) (fnd : Nat → Int32) (x1 : Int32) (x2 : Int32) (x3 : Int32) : Option (Int32 × (Nat → Int32) × (Nat → Int32) × (Nat → Int32)) :=
  if (bI (fX3_hasTale tal x1)) = 0 then fX5_heard_b32 gai bes fnd else if (bI (fX5_isIn x2 (0 : Int32) (120 : Int32))) = 0 then fX5_heard_b32 gai bes fnd else if (bI (fX3_hasHearer hrs x3)) = 0 then fX5_heard_b32 gai bes fnd else (fX1_findBest kin lea mos wrt siz tol gai bes x1 x2).bind fun q45 => if q45.1 = (-1000000000 : Int32) then (fX5_found fnd (-1000000004 : Int32)).bind fun q56 => some (q56.1, q45.2.1, q45.2.2, q56.2) else gd (ib x3 10) ((fX1_understoodOfBest siz q45.2.2 x1 (ags x3.toNatClampNeg)).bind fun q74 => some (q74, q45.2.1, q45.2.2, fnd))
theorem hdX1_understoodOfBest : yX1_understoodOfBest.cls = RX1 ∧ yX1_understoodOfBest.cls ≠ "java/lang/invoke/MethodHandle" ∧ yX1_understoodOfBest.cls ≠ "java/lang/invoke/VarHandle" ∧ (parseMethodDescriptor yX1_understoodOfBest.desc).map (fun d => d.parameters.length) = some 2 := by decide +kernel
abbrev rX5_heard : Room := { frames := 4, cells := 0, slots := 0, locals := 96 }
set_option maxHeartbeats 4000000 in
set_option maxRecDepth 100000 in
theorem kX5_heard (l : Launch) (D : va_G) (a : Nat → Nat) (cI cJ cS : ClassId) (hd : aok a 36) {Env : (Nat → Prop) → State → Heap → Prop} (hEo : envOK Env) (par : Int32) (kin lea mos wrt : Nat → Int32) (tal : Int32) (siz tol : Nat → Int32) (hrs : Int32) (ags : Nat → Int32) (yea kpar : Int32) (kkin klea kmos kwrt : Nat → Int32) (ktal : Int32) (ksiz ktol : Nat → Int32) (khrs : Int32) (kags : Nat → Int32) (kyea isk : Int32) (tly : Nat → Int64) (gai bes : Nat → Int32) (low hig : Nat → Int64) (spn : Int32) (byt : Nat → Int32) (hld sta beh sor num : Int32) (fnd sbi she : Nat → Int32) (snu : Nat → Nat → Int64) (x1 : Int32) (x2 : Int32) (x3 : Int32) (res : Int32 × (Nat → Int32) × (Nat → Int32) × (Nat → Int32)) (hres : fX5_heard kin lea mos wrt tal siz tol hrs ags gai bes fnd x1 x2 x3 = some res) : CtI l D (tyL cI cJ cS) 36 a Env yX5_heard wsX5_heard rX5_heard [.ref (a 0), .int x1, .int x2, .int x3] (wX a cI cJ cS par kin lea mos wrt tal siz tol hrs ags yea kpar kkin klea kmos kwrt ktal ksiz ktol khrs kags kyea isk tly gai bes low hig spn byt hld sta beh sor num fnd sbi she snu) (wX a cI cJ cS par kin lea mos wrt tal siz tol hrs ags yea kpar kkin klea kmos kwrt ktal ksiz ktol khrs kags kyea isk tly res.2.1 res.2.2.1 low hig spn byt hld sta beh sor num res.2.2.2 sbi she snu) res.1 := by
  refine CtI_mk (cc := cX5_heard) (maxL := 4) (ret := (some .int)) (by decide) rfl (Nat.le_of_ble_eq_true rfl) ?_
  intro p e s m args below meth c ls hx hb hr hlk hml hown hts hP hK hE hl
  have hS : va_S (adA a 36 s.heap.size) s.heap s.heap [] := va_S.rf
  have hl : lv_has ls 4 [(0, .ref (a 0)), (1, .int x1), (2, .int x2), (3, .int x3)] := hl
  have hown : s.vm.findClass RX5 = some m.cls := hown
  have hw3 : ∀ w ∈ wsX30, w.before args s = true := fun w h => hts w (List.mem_cons_of_mem _ (List.mem_append_left _ (List.mem_append_right _ h)))
  have hw5 : ∀ w ∈ wsX50, w.before args s = true := fun w h => hts w (List.mem_cons_of_mem _ (List.mem_append_left _ (List.mem_append_left _ (List.mem_append_right _ h))))
  have u1 : (Cond.fieldLink RX5 12 "YearWords" "now" "LYearWords$Stock;").before args s = true := hts _ (List.mem_of_getElem? (i := 1) (by decide +kernel))
  have u2 : (Cond.constant RX5 63 (-1000000001)).before args s = true := hts _ (List.mem_of_getElem? (i := 2) (by decide +kernel))
  have u3 : (Cond.fieldLink RX5 28 "YearWords" "sayings" "LYearWords$Sayings;").before args s = true := hts _ (List.mem_of_getElem? (i := 3) (by decide +kernel))
  have u4 : (Cond.constant RX5 160 (-1000000000)).before args s = true := hts _ (List.mem_of_getElem? (i := 4) (by decide +kernel))
  have u5 : (Cond.constant RX5 129 (-1000000004)).before args s = true := hts _ (List.mem_of_getElem? (i := 5) (by decide +kernel))
  have u6 : (Cond.fieldLink RX5 183 "YearWords$Stock" "ages" "[I").before args s = true := hts _ (List.mem_of_getElem? (i := 6) (by decide +kernel))
  obtain ⟨Q, hQ⟩ : ∃ Q, Q = mqI below D 36 a args s (wX a cI cJ cS par kin lea mos wrt tal siz tol hrs ags yea kpar kkin klea kmos kwrt ktal ksiz ktol khrs kags kyea isk tly res.2.1 res.2.2.1 low hig spn byt hld sta beh sor num res.2.2.2 sbi she snu) res.1 := ⟨_, rfl⟩
  rw [← hQ]
  have b32 : ∀ (gai : Nat → Int32) (bes : Nat → Int32) (fnd : Nat → Int32), fX5_heard_b32 gai bes fnd = some res → ∀ (H : Heap) (locs : List Loc) (ls : Array Slot), va_P D vwCl (wX a cI cJ cS par kin lea mos wrt tal siz tol hrs ags yea kpar kkin klea kmos kwrt ktal ksiz ktol khrs kags kyea isk tly gai bes low hig spn byt hld sta beh sor num fnd sbi she snu) H → va_S (adA a 36 s.heap.size) s.heap H locs → lv_has ls 4 [(0, .ref (a 0))] → W p l e rX5_heard s m args below meth c H locs 0 0 Q (F0 m 32 ls []) := by
    intro gai bes fnd hres H locs ls hP hS hl
    unfold fX5_heard_b32 at hres
    refine lv_aload_n hx hb dX5_heard_32 rfl (lv_at hl 0 rfl) ?_
    refine lv_ldc hx hb hown u2 dX5_heard_33 ?_
    obtain ⟨q35, e35, hres⟩ := obd hres
    refine cvI (q0 := 0) (ci := 5) hx hb hml hown hts hEo hE hK hP hS (kX5_found l D a cI cJ cS hd hEo par kin lea mos wrt tal siz tol hrs ags yea kpar kkin klea kmos kwrt ktal ksiz ktol khrs kags kyea isk tly gai bes low hig spn byt hld sta beh sor num fnd sbi she snu (-1000000001 : Int32) q35 e35) gX5_heard_X5_found rfl hdX5_found rfl rfl rfl ⟨rfl, rfl⟩ ⟨Nat.le_of_ble_eq_true rfl, Nat.le_of_ble_eq_true rfl⟩ ⟨Nat.zero_le _, Nat.zero_le _⟩ rfl hl.1 rfl (Nat.le_of_ble_eq_true rfl) dX5_heard_35 (fun H locs hP hS => ?_)
    exact hQ ▸ rtI (v := q35.1)  hx hb hr hlk hP hS (by rw [← (Option.some.inj hres)]) (by rw [← (Option.some.inj hres)]) dX5_heard_38
  unfold fX5_heard at hres
  refine lv_aload_n hx hb dX5_heard_0 rfl (lv_at hl 0 rfl) ?_
  refine gX_this5_now hx hb hown hw5 hK hP u1 dX5_heard_1 ?_
  refine lv_iload_n hx hb dX5_heard_4 rfl (lv_at hl 1 rfl) ?_
  refine cvI (q0 := 1) (ci := 3) hx hb hml hown hts hEo hE hK hP hS (kX3_hasTale l D a cI cJ cS hd hEo par kin lea mos wrt tal siz tol hrs ags yea kpar kkin klea kmos kwrt ktal ksiz ktol khrs kags kyea isk tly gai bes low hig spn byt hld sta beh sor num fnd sbi she snu x1) gX5_heard_X3_hasTale rfl hdX3_hasTale rfl rfl rfl ⟨rfl, rfl⟩ ⟨Nat.le_of_ble_eq_true rfl, Nat.le_of_ble_eq_true rfl⟩ ⟨Nat.zero_le _, Nat.zero_le _⟩ rfl hl.1 rfl (Nat.le_of_ble_eq_true rfl) dX5_heard_5 (fun H locs hP hS => ?_)
  refine lv_if_eq (tgt := 32) hx hb dX5_heard_8 (by decide) (fun c8 => ?_) (fun c8 => ?_)
  · have hres := (itl hres).1 c8
    exact b32 gai bes fnd hres _ _ _ hP hS (lv_sub hl [0] rfl)
  · have hres := (itl hres).2 c8
    refine lv_iload_n hx hb dX5_heard_11 rfl (lv_at hl 2 rfl) ?_
    refine lv_iconst (v := 0) hx hb dX5_heard_12 (by decide) ?_
    refine lv_bipush (v := 120) hx hb dX5_heard_13 (by decide) ?_
    refine csI hx hb hml hown hts hEo hE hK hP hS (kX5_isIn l D a cI cJ cS hd hEo par kin lea mos wrt tal siz tol hrs ags yea kpar kkin klea kmos kwrt ktal ksiz ktol khrs kags kyea isk tly gai bes low hig spn byt hld sta beh sor num fnd sbi she snu x2 (0 : Int32) (120 : Int32)) gX5_heard_X5_isIn rfl hdX5_isIn ⟨rfl, rfl⟩ ⟨Nat.le_of_ble_eq_true rfl, Nat.le_of_ble_eq_true rfl⟩ ⟨Nat.zero_le _, Nat.zero_le _⟩ rfl hl.1 rfl (Nat.le_of_ble_eq_true rfl) dX5_heard_15 (fun H locs hP hS => ?_)
    refine lv_if_eq (tgt := 32) hx hb dX5_heard_18 (by decide) (fun c18 => ?_) (fun c18 => ?_)
    · have hres := (itl hres).1 c18
      exact b32 gai bes fnd hres _ _ _ hP hS (lv_sub hl [0] rfl)
    · have hres := (itl hres).2 c18
      refine lv_aload_n hx hb dX5_heard_21 rfl (lv_at hl 0 rfl) ?_
      refine gX_this5_now hx hb hown hw5 hK hP u1 dX5_heard_22 ?_
      refine lv_iload_n hx hb dX5_heard_25 rfl (lv_at hl 3 rfl) ?_
      refine cvI (q0 := 1) (ci := 3) hx hb hml hown hts hEo hE hK hP hS (kX3_hasHearer l D a cI cJ cS hd hEo par kin lea mos wrt tal siz tol hrs ags yea kpar kkin klea kmos kwrt ktal ksiz ktol khrs kags kyea isk tly gai bes low hig spn byt hld sta beh sor num fnd sbi she snu x3) gX5_heard_X3_hasHearer rfl hdX3_hasHearer rfl rfl rfl ⟨rfl, rfl⟩ ⟨Nat.le_of_ble_eq_true rfl, Nat.le_of_ble_eq_true rfl⟩ ⟨Nat.zero_le _, Nat.zero_le _⟩ rfl hl.1 rfl (Nat.le_of_ble_eq_true rfl) dX5_heard_26 (fun H locs hP hS => ?_)
      refine lv_if_ne (tgt := 39) hx hb dX5_heard_29 (by decide) (fun c29 => ?_) (fun c29 => ?_)
      · have hres := (itl hres).2 c29
        refine lv_aload_n hx hb dX5_heard_39 rfl (lv_at hl 0 rfl) ?_
        refine gX_this5_sayings hx hb hown hw5 hK hP u3 dX5_heard_40 ?_
        refine lv_iload_n hx hb dX5_heard_43 rfl (lv_at hl 1 rfl) ?_
        refine lv_iload_n hx hb dX5_heard_44 rfl (lv_at hl 2 rfl) ?_
        obtain ⟨q45, e45, hres⟩ := obd hres
        refine cvI (q0 := 17) (ci := 1) hx hb hml hown hts hEo hE hK hP hS (kX1_findBest l D a cI cJ cS hd hEo par kin lea mos wrt tal siz tol hrs ags yea kpar kkin klea kmos kwrt ktal ksiz ktol khrs kags kyea isk tly gai bes low hig spn byt hld sta beh sor num fnd sbi she snu x1 x2 q45 e45) gX5_heard_X1_findBest rfl hdX1_findBest rfl rfl rfl ⟨rfl, rfl⟩ ⟨Nat.le_of_ble_eq_true rfl, Nat.le_of_ble_eq_true rfl⟩ ⟨Nat.zero_le _, Nat.zero_le _⟩ rfl hl.1 rfl (Nat.le_of_ble_eq_true rfl) dX5_heard_45 (fun H locs hP hS => ?_)
        refine lv_ldc hx hb hown u4 dX5_heard_48 ?_
        refine lv_icmp_ne (tgt := 60) hx hb dX5_heard_50 (by decide) (fun c50 => ?_) (fun c50 => ?_)
        · have hres := (itl hres).2 c50
          refine lv_aload_n hx hb dX5_heard_60 rfl (lv_at hl 0 rfl) ?_
          refine gX_this5_sayings hx hb hown hw5 hK hP u3 dX5_heard_61 ?_
          refine lv_iload_n hx hb dX5_heard_64 rfl (lv_at hl 1 rfl) ?_
          refine lv_aload_n hx hb dX5_heard_65 rfl (lv_at hl 0 rfl) ?_
          refine gX_this5_now hx hb hown hw5 hK hP u1 dX5_heard_66 ?_
          refine gX_now_ages hx hb hown hw3 hK hP u6 dX5_heard_69 ?_
          refine lv_iload_n hx hb dX5_heard_72 rfl (lv_at hl 3 rfl) ?_
          obtain ⟨i73, hres⟩ := gdi hres
          refine lX_ags hx hb hK hP i73 dX5_heard_73 ?_
          obtain ⟨q74, e74, hres⟩ := obd hres
          refine cvI (q0 := 17) (ci := 1) hx hb hml hown hts hEo hE hK hP hS (kX1_understoodOfBest l D a cI cJ cS hd hEo par kin lea mos wrt tal siz tol hrs ags yea kpar kkin klea kmos kwrt ktal ksiz ktol khrs kags kyea isk tly q45.2.1 q45.2.2 low hig spn byt hld sta beh sor num fnd sbi she snu x1 (ags x3.toNatClampNeg) q74 e74) gX5_heard_X1_understoodOfBest rfl hdX1_understoodOfBest rfl rfl rfl ⟨rfl, rfl⟩ ⟨Nat.le_of_ble_eq_true rfl, Nat.le_of_ble_eq_true rfl⟩ ⟨Nat.zero_le _, Nat.zero_le _⟩ rfl hl.1 rfl (Nat.le_of_ble_eq_true rfl) dX5_heard_74 (fun H locs hP hS => ?_)
          exact hQ ▸ rtI (v := q74)  hx hb hr hlk hP hS (by rw [← (Option.some.inj hres)]) (by rw [← (Option.some.inj hres)]) dX5_heard_77
        · have hres := (itl hres).1 c50
          refine lv_aload_n hx hb dX5_heard_53 rfl (lv_at hl 0 rfl) ?_
          refine lv_ldc hx hb hown u5 dX5_heard_54 ?_
          obtain ⟨q56, e56, hres⟩ := obd hres
          refine cvI (q0 := 0) (ci := 5) hx hb hml hown hts hEo hE hK hP hS (kX5_found l D a cI cJ cS hd hEo par kin lea mos wrt tal siz tol hrs ags yea kpar kkin klea kmos kwrt ktal ksiz ktol khrs kags kyea isk tly q45.2.1 q45.2.2 low hig spn byt hld sta beh sor num fnd sbi she snu (-1000000004 : Int32) q56 e56) gX5_heard_X5_found rfl hdX5_found rfl rfl rfl ⟨rfl, rfl⟩ ⟨Nat.le_of_ble_eq_true rfl, Nat.le_of_ble_eq_true rfl⟩ ⟨Nat.zero_le _, Nat.zero_le _⟩ rfl hl.1 rfl (Nat.le_of_ble_eq_true rfl) dX5_heard_56 (fun H locs hP hS => ?_)
          exact hQ ▸ rtI (v := q56.1)  hx hb hr hlk hP hS (by rw [← (Option.some.inj hres)]) (by rw [← (Option.some.inj hres)]) dX5_heard_59
      · have hres := (itl hres).1 c29
        exact b32 gai bes fnd hres _ _ _ hP hS (lv_sub hl [0] rfl)
def fX5_together_b44 (gai : Nat → Int32) (fnd : Nat → Int32) : Option (Int32 × (Nat → Int32) × (Nat → Int32)) :=
 (fX5_found fnd (-1000000001 : Int32)).bind fun q47 => some (q47.1, gai, q47.2)
def fX5_together (kin : Nat → Int32) (lea : Nat → Int32) (mos : Nat → Int32) (tal : Int32) (siz : Nat → Int32) (tol : Nat → Int32) (hrs : Int32) (ags : Nat → Int32) (gai : Nat → Int32) (fnd : Nat → Int32) (x1 : Int32) (x2 : Int32) (x3 : Int32) : Option (Int32 × (Nat → Int32) × (Nat → Int32)) :=
  if (bI (fX3_hasTale tal x1)) = 0 then fX5_together_b44 gai fnd else if (bI (fX5_isIn x2 (0 : Int32) (120 : Int32))) = 0 then fX5_together_b44 gai fnd else if (bI (fX5_isIn x3 (0 : Int32) (((1 : Int32) <<< (hrs &&& 31)) - (1 : Int32)))) = 0 then fX5_together_b44 gai fnd else (fX1_mostUnderstood kin lea mos siz tol hrs ags gai x1 x2 x3).bind fun q58 => if q58.1 = (-1000000000 : Int32) then (fX5_found fnd (-1000000004 : Int32)).bind fun q73 => some (q73.1, q58.2, q73.2) else some (q58.1, q58.2, fnd)
theorem hdX1_mostUnderstood : yX1_mostUnderstood.cls = RX1 ∧ yX1_mostUnderstood.cls ≠ "java/lang/invoke/MethodHandle" ∧ yX1_mostUnderstood.cls ≠ "java/lang/invoke/VarHandle" ∧ (parseMethodDescriptor yX1_mostUnderstood.desc).map (fun d => d.parameters.length) = some 3 := by decide +kernel
abbrev rX5_together : Room := { frames := 3, cells := 0, slots := 0, locals := 74 }
set_option maxHeartbeats 4000000 in
set_option maxRecDepth 100000 in
theorem kX5_together (l : Launch) (D : va_G) (a : Nat → Nat) (cI cJ cS : ClassId) (hd : aok a 36) {Env : (Nat → Prop) → State → Heap → Prop} (hEo : envOK Env) (par : Int32) (kin lea mos wrt : Nat → Int32) (tal : Int32) (siz tol : Nat → Int32) (hrs : Int32) (ags : Nat → Int32) (yea kpar : Int32) (kkin klea kmos kwrt : Nat → Int32) (ktal : Int32) (ksiz ktol : Nat → Int32) (khrs : Int32) (kags : Nat → Int32) (kyea isk : Int32) (tly : Nat → Int64) (gai bes : Nat → Int32) (low hig : Nat → Int64) (spn : Int32) (byt : Nat → Int32) (hld sta beh sor num : Int32) (fnd sbi she : Nat → Int32) (snu : Nat → Nat → Int64) (x1 : Int32) (x2 : Int32) (x3 : Int32) (res : Int32 × (Nat → Int32) × (Nat → Int32)) (hres : fX5_together kin lea mos tal siz tol hrs ags gai fnd x1 x2 x3 = some res) : CtI l D (tyL cI cJ cS) 36 a Env yX5_together wsX5_together rX5_together [.ref (a 0), .int x1, .int x2, .int x3] (wX a cI cJ cS par kin lea mos wrt tal siz tol hrs ags yea kpar kkin klea kmos kwrt ktal ksiz ktol khrs kags kyea isk tly gai bes low hig spn byt hld sta beh sor num fnd sbi she snu) (wX a cI cJ cS par kin lea mos wrt tal siz tol hrs ags yea kpar kkin klea kmos kwrt ktal ksiz ktol khrs kags kyea isk tly res.2.1 bes low hig spn byt hld sta beh sor num res.2.2 sbi she snu) res.1 := by
  refine CtI_mk (cc := cX5_together) (maxL := 6) (ret := (some .int)) (by decide) rfl (Nat.le_of_ble_eq_true rfl) ?_
  intro p e s m args below meth c ls hx hb hr hlk hml hown hts hP hK hE hl
  have hS : va_S (adA a 36 s.heap.size) s.heap s.heap [] := va_S.rf
  have hl : lv_has ls 6 [(0, .ref (a 0)), (1, .int x1), (2, .int x2), (3, .int x3)] := hl
  have hown : s.vm.findClass RX5 = some m.cls := hown
  have hw3 : ∀ w ∈ wsX30, w.before args s = true := fun w h => hts w (List.mem_cons_of_mem _ (List.mem_append_left _ (List.mem_append_right _ h)))
  have hw5 : ∀ w ∈ wsX50, w.before args s = true := fun w h => hts w (List.mem_cons_of_mem _ (List.mem_append_left _ (List.mem_append_left _ (List.mem_append_right _ h))))
  have u1 : (Cond.fieldLink RX5 12 "YearWords" "now" "LYearWords$Stock;").before args s = true := hts _ (List.mem_of_getElem? (i := 1) (by decide +kernel))
  have u2 : (Cond.fieldLink RX5 174 "YearWords$Stock" "hearers" "I").before args s = true := hts _ (List.mem_of_getElem? (i := 2) (by decide +kernel))
  have u3 : (Cond.constant RX5 63 (-1000000001)).before args s = true := hts _ (List.mem_of_getElem? (i := 3) (by decide +kernel))
  have u4 : (Cond.fieldLink RX5 28 "YearWords" "sayings" "LYearWords$Sayings;").before args s = true := hts _ (List.mem_of_getElem? (i := 4) (by decide +kernel))
  have u5 : (Cond.constant RX5 160 (-1000000000)).before args s = true := hts _ (List.mem_of_getElem? (i := 5) (by decide +kernel))
  have u6 : (Cond.constant RX5 129 (-1000000004)).before args s = true := hts _ (List.mem_of_getElem? (i := 6) (by decide +kernel))
  obtain ⟨Q, hQ⟩ : ∃ Q, Q = mqI below D 36 a args s (wX a cI cJ cS par kin lea mos wrt tal siz tol hrs ags yea kpar kkin klea kmos kwrt ktal ksiz ktol khrs kags kyea isk tly res.2.1 bes low hig spn byt hld sta beh sor num res.2.2 sbi she snu) res.1 := ⟨_, rfl⟩
  rw [← hQ]
  have b44 : ∀ (gai : Nat → Int32) (fnd : Nat → Int32), fX5_together_b44 gai fnd = some res → ∀ (H : Heap) (locs : List Loc) (ls : Array Slot), va_P D vwCl (wX a cI cJ cS par kin lea mos wrt tal siz tol hrs ags yea kpar kkin klea kmos kwrt ktal ksiz ktol khrs kags kyea isk tly gai bes low hig spn byt hld sta beh sor num fnd sbi she snu) H → va_S (adA a 36 s.heap.size) s.heap H locs → lv_has ls 6 [(0, .ref (a 0))] → W p l e rX5_together s m args below meth c H locs 0 0 Q (F0 m 44 ls []) := by
    intro gai fnd hres H locs ls hP hS hl
    unfold fX5_together_b44 at hres
    refine lv_aload_n hx hb dX5_together_44 rfl (lv_at hl 0 rfl) ?_
    refine lv_ldc hx hb hown u3 dX5_together_45 ?_
    obtain ⟨q47, e47, hres⟩ := obd hres
    refine cvI (q0 := 0) (ci := 5) hx hb hml hown hts hEo hE hK hP hS (kX5_found l D a cI cJ cS hd hEo par kin lea mos wrt tal siz tol hrs ags yea kpar kkin klea kmos kwrt ktal ksiz ktol khrs kags kyea isk tly gai bes low hig spn byt hld sta beh sor num fnd sbi she snu (-1000000001 : Int32) q47 e47) gX5_together_X5_found rfl hdX5_found rfl rfl rfl ⟨rfl, rfl⟩ ⟨Nat.le_of_ble_eq_true rfl, Nat.le_of_ble_eq_true rfl⟩ ⟨Nat.zero_le _, Nat.zero_le _⟩ rfl hl.1 rfl (Nat.le_of_ble_eq_true rfl) dX5_together_47 (fun H locs hP hS => ?_)
    exact hQ ▸ rtI (v := q47.1)  hx hb hr hlk hP hS (by rw [← (Option.some.inj hres)]) (by rw [← (Option.some.inj hres)]) dX5_together_50
  unfold fX5_together at hres
  refine lv_iload_n hx hb dX5_together_0 rfl (lv_at hl 3 rfl) ?_
  refine lv_iconst (v := 0) hx hb dX5_together_1 (by decide) ?_
  refine lv_iconst (v := 1) hx hb dX5_together_2 (by decide) ?_
  refine lv_aload_n hx hb dX5_together_3 rfl (lv_at hl 0 rfl) ?_
  refine gX_this5_now hx hb hown hw5 hK hP u1 dX5_together_4 ?_
  refine gX_now_hearers hx hb hown hw3 hK hP u2 dX5_together_7 ?_
  refine lv_ishl hx hb dX5_together_10 ?_
  refine lv_iconst (v := 1) hx hb dX5_together_11 (by decide) ?_
  refine lv_isub hx hb dX5_together_12 ?_
  refine csI hx hb hml hown hts hEo hE hK hP hS (kX5_isIn l D a cI cJ cS hd hEo par kin lea mos wrt tal siz tol hrs ags yea kpar kkin klea kmos kwrt ktal ksiz ktol khrs kags kyea isk tly gai bes low hig spn byt hld sta beh sor num fnd sbi she snu x3 (0 : Int32) (((1 : Int32) <<< (hrs &&& 31)) - (1 : Int32))) gX5_together_X5_isIn rfl hdX5_isIn ⟨rfl, rfl⟩ ⟨Nat.le_of_ble_eq_true rfl, Nat.le_of_ble_eq_true rfl⟩ ⟨Nat.zero_le _, Nat.zero_le _⟩ rfl hl.1 rfl (Nat.le_of_ble_eq_true rfl) dX5_together_13 (fun H locs hP hS => ?_)
  refine lv_istore (lv' := [(4, .int (bI (fX5_isIn x3 (0 : Int32) (((1 : Int32) <<< (hrs &&& 31)) - (1 : Int32))))), (0, .ref (a 0)), (1, .int x1), (2, .int x2), (3, .int x3)]) hx hb dX5_together_16 hl (by decide) rfl (fun ls hl => ?_)
  refine lv_aload_n hx hb dX5_together_18 rfl (lv_at hl 1 rfl) ?_
  refine gX_this5_now hx hb hown hw5 hK hP u1 dX5_together_19 ?_
  refine lv_iload_n hx hb dX5_together_22 rfl (lv_at hl 2 rfl) ?_
  refine cvI (q0 := 1) (ci := 3) hx hb hml hown hts hEo hE hK hP hS (kX3_hasTale l D a cI cJ cS hd hEo par kin lea mos wrt tal siz tol hrs ags yea kpar kkin klea kmos kwrt ktal ksiz ktol khrs kags kyea isk tly gai bes low hig spn byt hld sta beh sor num fnd sbi she snu x1) gX5_together_X3_hasTale rfl hdX3_hasTale rfl rfl rfl ⟨rfl, rfl⟩ ⟨Nat.le_of_ble_eq_true rfl, Nat.le_of_ble_eq_true rfl⟩ ⟨Nat.zero_le _, Nat.zero_le _⟩ rfl hl.1 rfl (Nat.le_of_ble_eq_true rfl) dX5_together_23 (fun H locs hP hS => ?_)
  refine lv_if_eq (tgt := 44) hx hb dX5_together_26 (by decide) (fun c26 => ?_) (fun c26 => ?_)
  · have hres := (itl hres).1 c26
    exact b44 gai fnd hres _ _ _ hP hS (lv_sub hl [1] rfl)
  · have hres := (itl hres).2 c26
    refine lv_iload_n hx hb dX5_together_29 rfl (lv_at hl 3 rfl) ?_
    refine lv_iconst (v := 0) hx hb dX5_together_30 (by decide) ?_
    refine lv_bipush (v := 120) hx hb dX5_together_31 (by decide) ?_
    refine csI hx hb hml hown hts hEo hE hK hP hS (kX5_isIn l D a cI cJ cS hd hEo par kin lea mos wrt tal siz tol hrs ags yea kpar kkin klea kmos kwrt ktal ksiz ktol khrs kags kyea isk tly gai bes low hig spn byt hld sta beh sor num fnd sbi she snu x2 (0 : Int32) (120 : Int32)) gX5_together_X5_isIn rfl hdX5_isIn ⟨rfl, rfl⟩ ⟨Nat.le_of_ble_eq_true rfl, Nat.le_of_ble_eq_true rfl⟩ ⟨Nat.zero_le _, Nat.zero_le _⟩ rfl hl.1 rfl (Nat.le_of_ble_eq_true rfl) dX5_together_33 (fun H locs hP hS => ?_)
    refine lv_if_eq (tgt := 44) hx hb dX5_together_36 (by decide) (fun c36 => ?_) (fun c36 => ?_)
    · have hres := (itl hres).1 c36
      exact b44 gai fnd hres _ _ _ hP hS (lv_sub hl [1] rfl)
    · have hres := (itl hres).2 c36
      refine lv_iload hx hb dX5_together_39 (lv_at hl 0 rfl) ?_
      refine lv_if_ne (tgt := 51) hx hb dX5_together_41 (by decide) (fun c41 => ?_) (fun c41 => ?_)
      · have hres := (itl hres).2 c41
        refine lv_aload_n hx hb dX5_together_51 rfl (lv_at hl 1 rfl) ?_
        refine gX_this5_sayings hx hb hown hw5 hK hP u4 dX5_together_52 ?_
        refine lv_iload_n hx hb dX5_together_55 rfl (lv_at hl 2 rfl) ?_
        refine lv_iload_n hx hb dX5_together_56 rfl (lv_at hl 3 rfl) ?_
        refine lv_iload_n hx hb dX5_together_57 rfl (lv_at hl 4 rfl) ?_
        obtain ⟨q58, e58, hres⟩ := obd hres
        refine cvI (q0 := 17) (ci := 1) hx hb hml hown hts hEo hE hK hP hS (kX1_mostUnderstood l D a cI cJ cS hd hEo par kin lea mos wrt tal siz tol hrs ags yea kpar kkin klea kmos kwrt ktal ksiz ktol khrs kags kyea isk tly gai bes low hig spn byt hld sta beh sor num fnd sbi she snu x1 x2 x3 q58 e58) gX5_together_X1_mostUnderstood rfl hdX1_mostUnderstood rfl rfl rfl ⟨rfl, rfl⟩ ⟨Nat.le_of_ble_eq_true rfl, Nat.le_of_ble_eq_true rfl⟩ ⟨Nat.zero_le _, Nat.zero_le _⟩ rfl hl.1 rfl (Nat.le_of_ble_eq_true rfl) dX5_together_58 (fun H locs hP hS => ?_)
        refine lv_istore (lv' := [(5, .int q58.1), (4, .int (bI (fX5_isIn x3 (0 : Int32) (((1 : Int32) <<< (hrs &&& 31)) - (1 : Int32))))), (0, .ref (a 0)), (1, .int x1), (2, .int x2), (3, .int x3)]) hx hb dX5_together_61 hl (by decide) rfl (fun ls hl => ?_)
        refine lv_iload hx hb dX5_together_63 (lv_at hl 0 rfl) ?_
        refine lv_ldc hx hb hown u5 dX5_together_65 ?_
        refine lv_icmp_ne (tgt := 79) hx hb dX5_together_67 (by decide) (fun c67 => ?_) (fun c67 => ?_)
        · have hres := (itl hres).2 c67
          refine lv_iload hx hb dX5_together_79 (lv_at hl 0 rfl) ?_
          exact hQ ▸ rtI (v := q58.1)  hx hb hr hlk hP hS (by rw [← (Option.some.inj hres)]) (by rw [← (Option.some.inj hres)]) dX5_together_81
        · have hres := (itl hres).1 c67
          refine lv_aload_n hx hb dX5_together_70 rfl (lv_at hl 2 rfl) ?_
          refine lv_ldc hx hb hown u6 dX5_together_71 ?_
          obtain ⟨q73, e73, hres⟩ := obd hres
          refine cvI (q0 := 0) (ci := 5) hx hb hml hown hts hEo hE hK hP hS (kX5_found l D a cI cJ cS hd hEo par kin lea mos wrt tal siz tol hrs ags yea kpar kkin klea kmos kwrt ktal ksiz ktol khrs kags kyea isk tly q58.2 bes low hig spn byt hld sta beh sor num fnd sbi she snu (-1000000004 : Int32) q73 e73) gX5_together_X5_found rfl hdX5_found rfl rfl rfl ⟨rfl, rfl⟩ ⟨Nat.le_of_ble_eq_true rfl, Nat.le_of_ble_eq_true rfl⟩ ⟨Nat.zero_le _, Nat.zero_le _⟩ rfl hl.1 rfl (Nat.le_of_ble_eq_true rfl) dX5_together_73 (fun H locs hP hS => ?_)
          refine lv_goto (tgt := 81) hx hb dX5_together_76 (by decide) ?_
          exact hQ ▸ rtI (v := q73.1)  hx hb hr hlk hP hS (by rw [← (Option.some.inj hres)]) (by rw [← (Option.some.inj hres)]) dX5_together_81
      · have hres := (itl hres).1 c41
        exact b44 gai fnd hres _ _ _ hP hS (lv_sub hl [1] rfl)
def fX5_pass_b22 (low : Nat → Int64) (hig : Nat → Int64) (spn : Int32) (fnd : Nat → Int32) : Option (Int32 × (Nat → Int64) × (Nat → Int64) × Int32 × (Nat → Int32)) :=
 (fX5_found fnd (-1000000001 : Int32)).bind fun q25 => some (q25.1, low, hig, spn, q25.2)
def fX5_pass (kin : Nat → Int32) (lea : Nat → Int32) (mos : Nat → Int32) (tal : Int32) (siz : Nat → Int32) (tol : Nat → Int32) (hrs : Int32) (ags : Nat → Int32) (low : Nat → Int64) (hig : Nat → Int64) (spn : Int32) (fnd : Nat → Int32) (x1 : Int32) (x2 : Int32) : Option (Int32 × (Nat → Int64) × (Nat → Int64) × Int32 × (Nat → Int32)) :=
  if (bI (fX3_hasTale tal x1)) = 0 then fX5_pass_b22 low hig spn fnd else if (bI (fX3_hasHearer hrs x2)) = 0 then fX5_pass_b22 low hig spn fnd else (fX1_spanWords kin lea mos siz tol low hig spn x1).bind fun q34 => gd (ib x1 8) (gd (ib x2 10) ((fX1_comesOf q34.1 q34.2.1 (siz x1.toNatClampNeg) (ags x2.toNatClampNeg)).bind fun q59 => some (q59, q34.1, q34.2.1, q34.2.2, fnd)))
theorem hdX1_comesOf : yX1_comesOf.cls = RX1 ∧ yX1_comesOf.cls ≠ "java/lang/invoke/MethodHandle" ∧ yX1_comesOf.cls ≠ "java/lang/invoke/VarHandle" ∧ (parseMethodDescriptor yX1_comesOf.desc).map (fun d => d.parameters.length) = some 2 := by decide +kernel
abbrev rX5_pass : Room := { frames := 3, cells := 0, slots := 0, locals := 66 }
set_option maxHeartbeats 4000000 in
set_option maxRecDepth 100000 in
theorem kX5_pass (l : Launch) (D : va_G) (a : Nat → Nat) (cI cJ cS : ClassId) (hd : aok a 36) {Env : (Nat → Prop) → State → Heap → Prop} (hEo : envOK Env) (par : Int32) (kin lea mos wrt : Nat → Int32) (tal : Int32) (siz tol : Nat → Int32) (hrs : Int32) (ags : Nat → Int32) (yea kpar : Int32) (kkin klea kmos kwrt : Nat → Int32) (ktal : Int32) (ksiz ktol : Nat → Int32) (khrs : Int32) (kags : Nat → Int32) (kyea isk : Int32) (tly : Nat → Int64) (gai bes : Nat → Int32) (low hig : Nat → Int64) (spn : Int32) (byt : Nat → Int32) (hld sta beh sor num : Int32) (fnd sbi she : Nat → Int32) (snu : Nat → Nat → Int64) (x1 : Int32) (x2 : Int32) (res : Int32 × (Nat → Int64) × (Nat → Int64) × Int32 × (Nat → Int32)) (hres : fX5_pass kin lea mos tal siz tol hrs ags low hig spn fnd x1 x2 = some res) : CtI l D (tyL cI cJ cS) 36 a Env yX5_pass wsX5_pass rX5_pass [.ref (a 0), .int x1, .int x2] (wX a cI cJ cS par kin lea mos wrt tal siz tol hrs ags yea kpar kkin klea kmos kwrt ktal ksiz ktol khrs kags kyea isk tly gai bes low hig spn byt hld sta beh sor num fnd sbi she snu) (wX a cI cJ cS par kin lea mos wrt tal siz tol hrs ags yea kpar kkin klea kmos kwrt ktal ksiz ktol khrs kags kyea isk tly gai bes res.2.1 res.2.2.1 res.2.2.2.1 byt hld sta beh sor num res.2.2.2.2 sbi she snu) res.1 := by
  refine CtI_mk (cc := cX5_pass) (maxL := 3) (ret := (some .int)) (by decide) rfl (Nat.le_of_ble_eq_true rfl) ?_
  intro p e s m args below meth c ls hx hb hr hlk hml hown hts hP hK hE hl
  have hS : va_S (adA a 36 s.heap.size) s.heap s.heap [] := va_S.rf
  have hl : lv_has ls 3 [(0, .ref (a 0)), (1, .int x1), (2, .int x2)] := hl
  have hown : s.vm.findClass RX5 = some m.cls := hown
  have hw3 : ∀ w ∈ wsX30, w.before args s = true := fun w h => hts w (List.mem_cons_of_mem _ (List.mem_append_left _ (List.mem_append_right _ h)))
  have hw5 : ∀ w ∈ wsX50, w.before args s = true := fun w h => hts w (List.mem_cons_of_mem _ (List.mem_append_left _ (List.mem_append_left _ (List.mem_append_right _ h))))
  have u1 : (Cond.fieldLink RX5 12 "YearWords" "now" "LYearWords$Stock;").before args s = true := hts _ (List.mem_of_getElem? (i := 1) (by decide +kernel))
  have u2 : (Cond.constant RX5 63 (-1000000001)).before args s = true := hts _ (List.mem_of_getElem? (i := 2) (by decide +kernel))
  have u3 : (Cond.fieldLink RX5 28 "YearWords" "sayings" "LYearWords$Sayings;").before args s = true := hts _ (List.mem_of_getElem? (i := 3) (by decide +kernel))
  have u4 : (Cond.fieldLink RX5 123 "YearWords$Stock" "sizes" "[I").before args s = true := hts _ (List.mem_of_getElem? (i := 4) (by decide +kernel))
  have u5 : (Cond.fieldLink RX5 183 "YearWords$Stock" "ages" "[I").before args s = true := hts _ (List.mem_of_getElem? (i := 5) (by decide +kernel))
  obtain ⟨Q, hQ⟩ : ∃ Q, Q = mqI below D 36 a args s (wX a cI cJ cS par kin lea mos wrt tal siz tol hrs ags yea kpar kkin klea kmos kwrt ktal ksiz ktol khrs kags kyea isk tly gai bes res.2.1 res.2.2.1 res.2.2.2.1 byt hld sta beh sor num res.2.2.2.2 sbi she snu) res.1 := ⟨_, rfl⟩
  rw [← hQ]
  have b22 : ∀ (low : Nat → Int64) (hig : Nat → Int64) (spn : Int32) (fnd : Nat → Int32), fX5_pass_b22 low hig spn fnd = some res → ∀ (H : Heap) (locs : List Loc) (ls : Array Slot), va_P D vwCl (wX a cI cJ cS par kin lea mos wrt tal siz tol hrs ags yea kpar kkin klea kmos kwrt ktal ksiz ktol khrs kags kyea isk tly gai bes low hig spn byt hld sta beh sor num fnd sbi she snu) H → va_S (adA a 36 s.heap.size) s.heap H locs → lv_has ls 3 [(0, .ref (a 0))] → W p l e rX5_pass s m args below meth c H locs 0 0 Q (F0 m 22 ls []) := by
    intro low hig spn fnd hres H locs ls hP hS hl
    unfold fX5_pass_b22 at hres
    refine lv_aload_n hx hb dX5_pass_22 rfl (lv_at hl 0 rfl) ?_
    refine lv_ldc hx hb hown u2 dX5_pass_23 ?_
    obtain ⟨q25, e25, hres⟩ := obd hres
    refine cvI (q0 := 0) (ci := 5) hx hb hml hown hts hEo hE hK hP hS (kX5_found l D a cI cJ cS hd hEo par kin lea mos wrt tal siz tol hrs ags yea kpar kkin klea kmos kwrt ktal ksiz ktol khrs kags kyea isk tly gai bes low hig spn byt hld sta beh sor num fnd sbi she snu (-1000000001 : Int32) q25 e25) gX5_pass_X5_found rfl hdX5_found rfl rfl rfl ⟨rfl, rfl⟩ ⟨Nat.le_of_ble_eq_true rfl, Nat.le_of_ble_eq_true rfl⟩ ⟨Nat.zero_le _, Nat.zero_le _⟩ rfl hl.1 rfl (Nat.le_of_ble_eq_true rfl) dX5_pass_25 (fun H locs hP hS => ?_)
    exact hQ ▸ rtI (v := q25.1)  hx hb hr hlk hP hS (by rw [← (Option.some.inj hres)]) (by rw [← (Option.some.inj hres)]) dX5_pass_28
  unfold fX5_pass at hres
  refine lv_aload_n hx hb dX5_pass_0 rfl (lv_at hl 0 rfl) ?_
  refine gX_this5_now hx hb hown hw5 hK hP u1 dX5_pass_1 ?_
  refine lv_iload_n hx hb dX5_pass_4 rfl (lv_at hl 1 rfl) ?_
  refine cvI (q0 := 1) (ci := 3) hx hb hml hown hts hEo hE hK hP hS (kX3_hasTale l D a cI cJ cS hd hEo par kin lea mos wrt tal siz tol hrs ags yea kpar kkin klea kmos kwrt ktal ksiz ktol khrs kags kyea isk tly gai bes low hig spn byt hld sta beh sor num fnd sbi she snu x1) gX5_pass_X3_hasTale rfl hdX3_hasTale rfl rfl rfl ⟨rfl, rfl⟩ ⟨Nat.le_of_ble_eq_true rfl, Nat.le_of_ble_eq_true rfl⟩ ⟨Nat.zero_le _, Nat.zero_le _⟩ rfl hl.1 rfl (Nat.le_of_ble_eq_true rfl) dX5_pass_5 (fun H locs hP hS => ?_)
  refine lv_if_eq (tgt := 22) hx hb dX5_pass_8 (by decide) (fun c8 => ?_) (fun c8 => ?_)
  · have hres := (itl hres).1 c8
    exact b22 low hig spn fnd hres _ _ _ hP hS (lv_sub hl [0] rfl)
  · have hres := (itl hres).2 c8
    refine lv_aload_n hx hb dX5_pass_11 rfl (lv_at hl 0 rfl) ?_
    refine gX_this5_now hx hb hown hw5 hK hP u1 dX5_pass_12 ?_
    refine lv_iload_n hx hb dX5_pass_15 rfl (lv_at hl 2 rfl) ?_
    refine cvI (q0 := 1) (ci := 3) hx hb hml hown hts hEo hE hK hP hS (kX3_hasHearer l D a cI cJ cS hd hEo par kin lea mos wrt tal siz tol hrs ags yea kpar kkin klea kmos kwrt ktal ksiz ktol khrs kags kyea isk tly gai bes low hig spn byt hld sta beh sor num fnd sbi she snu x2) gX5_pass_X3_hasHearer rfl hdX3_hasHearer rfl rfl rfl ⟨rfl, rfl⟩ ⟨Nat.le_of_ble_eq_true rfl, Nat.le_of_ble_eq_true rfl⟩ ⟨Nat.zero_le _, Nat.zero_le _⟩ rfl hl.1 rfl (Nat.le_of_ble_eq_true rfl) dX5_pass_16 (fun H locs hP hS => ?_)
    refine lv_if_ne (tgt := 29) hx hb dX5_pass_19 (by decide) (fun c19 => ?_) (fun c19 => ?_)
    · have hres := (itl hres).2 c19
      refine lv_aload_n hx hb dX5_pass_29 rfl (lv_at hl 0 rfl) ?_
      refine gX_this5_sayings hx hb hown hw5 hK hP u3 dX5_pass_30 ?_
      refine lv_iload_n hx hb dX5_pass_33 rfl (lv_at hl 1 rfl) ?_
      obtain ⟨q34, e34, hres⟩ := obd hres
      refine cvV (q0 := 17) (ci := 1) hx hb hml hown hts hEo hE hK hP hS (kX1_spanWords l D a cI cJ cS hd hEo par kin lea mos wrt tal siz tol hrs ags yea kpar kkin klea kmos kwrt ktal ksiz ktol khrs kags kyea isk tly gai bes low hig spn byt hld sta beh sor num fnd sbi she snu x1 q34 e34) gX5_pass_X1_spanWords rfl hdX1_spanWords rfl rfl rfl ⟨rfl, rfl⟩ ⟨Nat.le_of_ble_eq_true rfl, Nat.le_of_ble_eq_true rfl⟩ ⟨Nat.zero_le _, Nat.zero_le _⟩ rfl hl.1 rfl (Nat.le_of_ble_eq_true rfl) dX5_pass_34 (fun H locs hP hS => ?_)
      refine lv_aload_n hx hb dX5_pass_37 rfl (lv_at hl 0 rfl) ?_
      refine gX_this5_sayings hx hb hown hw5 hK hP u3 dX5_pass_38 ?_
      refine lv_aload_n hx hb dX5_pass_41 rfl (lv_at hl 0 rfl) ?_
      refine gX_this5_now hx hb hown hw5 hK hP u1 dX5_pass_42 ?_
      refine gX_now_sizes hx hb hown hw3 hK hP u4 dX5_pass_45 ?_
      refine lv_iload_n hx hb dX5_pass_48 rfl (lv_at hl 1 rfl) ?_
      obtain ⟨i49, hres⟩ := gdi hres
      refine lX_siz hx hb hK hP i49 dX5_pass_49 ?_
      refine lv_aload_n hx hb dX5_pass_50 rfl (lv_at hl 0 rfl) ?_
      refine gX_this5_now hx hb hown hw5 hK hP u1 dX5_pass_51 ?_
      refine gX_now_ages hx hb hown hw3 hK hP u5 dX5_pass_54 ?_
      refine lv_iload_n hx hb dX5_pass_57 rfl (lv_at hl 2 rfl) ?_
      obtain ⟨i58, hres⟩ := gdi hres
      refine lX_ags hx hb hK hP i58 dX5_pass_58 ?_
      obtain ⟨q59, e59, hres⟩ := obd hres
      refine cvI (q0 := 17) (ci := 1) hx hb hml hown hts hEo hE hK hP hS (kX1_comesOf l D a cI cJ cS hd hEo par kin lea mos wrt tal siz tol hrs ags yea kpar kkin klea kmos kwrt ktal ksiz ktol khrs kags kyea isk tly gai bes q34.1 q34.2.1 q34.2.2 byt hld sta beh sor num fnd sbi she snu (siz x1.toNatClampNeg) (ags x2.toNatClampNeg) q59 e59) gX5_pass_X1_comesOf rfl hdX1_comesOf rfl rfl rfl ⟨rfl, rfl⟩ ⟨Nat.le_of_ble_eq_true rfl, Nat.le_of_ble_eq_true rfl⟩ ⟨Nat.zero_le _, Nat.zero_le _⟩ rfl hl.1 rfl (Nat.le_of_ble_eq_true rfl) dX5_pass_59 (fun H locs hP hS => ?_)
      exact hQ ▸ rtI (v := q59)  hx hb hr hlk hP hS (by rw [← (Option.some.inj hres)]) (by rw [← (Option.some.inj hres)]) dX5_pass_62
    · have hres := (itl hres).1 c19
      exact b22 low hig spn fnd hres _ _ _ hP hS (lv_sub hl [0] rfl)
def fX5_through_b33 (low : Nat → Int64) (hig : Nat → Int64) (spn : Int32) (fnd : Nat → Int32) : Option (Int32 × (Nat → Int64) × (Nat → Int64) × Int32 × (Nat → Int32)) :=
 (fX5_found fnd (-1000000001 : Int32)).bind fun q36 => some (q36.1, low, hig, spn, q36.2)
def fX5_through (kin : Nat → Int32) (lea : Nat → Int32) (mos : Nat → Int32) (tal : Int32) (siz : Nat → Int32) (tol : Nat → Int32) (hrs : Int32) (ags : Nat → Int32) (low : Nat → Int64) (hig : Nat → Int64) (spn : Int32) (fnd : Nat → Int32) (x1 : Int32) (x2 : Int32) (x3 : Int32) : Option (Int32 × (Nat → Int64) × (Nat → Int64) × Int32 × (Nat → Int32)) :=
  if (bI (fX3_hasTale tal x1)) = 0 then fX5_through_b33 low hig spn fnd else if (bI (fX3_hasHearer hrs x2)) = 0 then fX5_through_b33 low hig spn fnd else if (bI (fX3_hasHearer hrs x3)) = 0 then fX5_through_b33 low hig spn fnd else (fX1_spanWords kin lea mos siz tol low hig spn x1).bind fun q45 => gd (ib x1 8) (gd (ib x2 10) ((fX1_comesOf q45.1 q45.2.1 (siz x1.toNatClampNeg) (ags x2.toNatClampNeg)).bind fun q70 => gd (ib x3 10) ((fX1_comesOf q45.1 q45.2.1 q70 (ags x3.toNatClampNeg)).bind fun q90 => some (q90, q45.1, q45.2.1, q45.2.2, fnd))))
abbrev rX5_through : Room := { frames := 3, cells := 0, slots := 0, locals := 66 }
set_option maxHeartbeats 4000000 in
set_option maxRecDepth 100000 in
theorem kX5_through (l : Launch) (D : va_G) (a : Nat → Nat) (cI cJ cS : ClassId) (hd : aok a 36) {Env : (Nat → Prop) → State → Heap → Prop} (hEo : envOK Env) (par : Int32) (kin lea mos wrt : Nat → Int32) (tal : Int32) (siz tol : Nat → Int32) (hrs : Int32) (ags : Nat → Int32) (yea kpar : Int32) (kkin klea kmos kwrt : Nat → Int32) (ktal : Int32) (ksiz ktol : Nat → Int32) (khrs : Int32) (kags : Nat → Int32) (kyea isk : Int32) (tly : Nat → Int64) (gai bes : Nat → Int32) (low hig : Nat → Int64) (spn : Int32) (byt : Nat → Int32) (hld sta beh sor num : Int32) (fnd sbi she : Nat → Int32) (snu : Nat → Nat → Int64) (x1 : Int32) (x2 : Int32) (x3 : Int32) (res : Int32 × (Nat → Int64) × (Nat → Int64) × Int32 × (Nat → Int32)) (hres : fX5_through kin lea mos tal siz tol hrs ags low hig spn fnd x1 x2 x3 = some res) : CtI l D (tyL cI cJ cS) 36 a Env yX5_through wsX5_through rX5_through [.ref (a 0), .int x1, .int x2, .int x3] (wX a cI cJ cS par kin lea mos wrt tal siz tol hrs ags yea kpar kkin klea kmos kwrt ktal ksiz ktol khrs kags kyea isk tly gai bes low hig spn byt hld sta beh sor num fnd sbi she snu) (wX a cI cJ cS par kin lea mos wrt tal siz tol hrs ags yea kpar kkin klea kmos kwrt ktal ksiz ktol khrs kags kyea isk tly gai bes res.2.1 res.2.2.1 res.2.2.2.1 byt hld sta beh sor num res.2.2.2.2 sbi she snu) res.1 := by
  refine CtI_mk (cc := cX5_through) (maxL := 5) (ret := (some .int)) (by decide) rfl (Nat.le_of_ble_eq_true rfl) ?_
  intro p e s m args below meth c ls hx hb hr hlk hml hown hts hP hK hE hl
  have hS : va_S (adA a 36 s.heap.size) s.heap s.heap [] := va_S.rf
  have hl : lv_has ls 5 [(0, .ref (a 0)), (1, .int x1), (2, .int x2), (3, .int x3)] := hl
  have hown : s.vm.findClass RX5 = some m.cls := hown
  have hw3 : ∀ w ∈ wsX30, w.before args s = true := fun w h => hts w (List.mem_cons_of_mem _ (List.mem_append_left _ (List.mem_append_right _ h)))
  have hw5 : ∀ w ∈ wsX50, w.before args s = true := fun w h => hts w (List.mem_cons_of_mem _ (List.mem_append_left _ (List.mem_append_left _ (List.mem_append_right _ h))))
  have u1 : (Cond.fieldLink RX5 12 "YearWords" "now" "LYearWords$Stock;").before args s = true := hts _ (List.mem_of_getElem? (i := 1) (by decide +kernel))
  have u2 : (Cond.constant RX5 63 (-1000000001)).before args s = true := hts _ (List.mem_of_getElem? (i := 2) (by decide +kernel))
  have u3 : (Cond.fieldLink RX5 28 "YearWords" "sayings" "LYearWords$Sayings;").before args s = true := hts _ (List.mem_of_getElem? (i := 3) (by decide +kernel))
  have u4 : (Cond.fieldLink RX5 123 "YearWords$Stock" "sizes" "[I").before args s = true := hts _ (List.mem_of_getElem? (i := 4) (by decide +kernel))
  have u5 : (Cond.fieldLink RX5 183 "YearWords$Stock" "ages" "[I").before args s = true := hts _ (List.mem_of_getElem? (i := 5) (by decide +kernel))
  obtain ⟨Q, hQ⟩ : ∃ Q, Q = mqI below D 36 a args s (wX a cI cJ cS par kin lea mos wrt tal siz tol hrs ags yea kpar kkin klea kmos kwrt ktal ksiz ktol khrs kags kyea isk tly gai bes res.2.1 res.2.2.1 res.2.2.2.1 byt hld sta beh sor num res.2.2.2.2 sbi she snu) res.1 := ⟨_, rfl⟩
  rw [← hQ]
  have b33 : ∀ (low : Nat → Int64) (hig : Nat → Int64) (spn : Int32) (fnd : Nat → Int32), fX5_through_b33 low hig spn fnd = some res → ∀ (H : Heap) (locs : List Loc) (ls : Array Slot), va_P D vwCl (wX a cI cJ cS par kin lea mos wrt tal siz tol hrs ags yea kpar kkin klea kmos kwrt ktal ksiz ktol khrs kags kyea isk tly gai bes low hig spn byt hld sta beh sor num fnd sbi she snu) H → va_S (adA a 36 s.heap.size) s.heap H locs → lv_has ls 5 [(0, .ref (a 0))] → W p l e rX5_through s m args below meth c H locs 0 0 Q (F0 m 33 ls []) := by
    intro low hig spn fnd hres H locs ls hP hS hl
    unfold fX5_through_b33 at hres
    refine lv_aload_n hx hb dX5_through_33 rfl (lv_at hl 0 rfl) ?_
    refine lv_ldc hx hb hown u2 dX5_through_34 ?_
    obtain ⟨q36, e36, hres⟩ := obd hres
    refine cvI (q0 := 0) (ci := 5) hx hb hml hown hts hEo hE hK hP hS (kX5_found l D a cI cJ cS hd hEo par kin lea mos wrt tal siz tol hrs ags yea kpar kkin klea kmos kwrt ktal ksiz ktol khrs kags kyea isk tly gai bes low hig spn byt hld sta beh sor num fnd sbi she snu (-1000000001 : Int32) q36 e36) gX5_through_X5_found rfl hdX5_found rfl rfl rfl ⟨rfl, rfl⟩ ⟨Nat.le_of_ble_eq_true rfl, Nat.le_of_ble_eq_true rfl⟩ ⟨Nat.zero_le _, Nat.zero_le _⟩ rfl hl.1 rfl (Nat.le_of_ble_eq_true rfl) dX5_through_36 (fun H locs hP hS => ?_)
    exact hQ ▸ rtI (v := q36.1)  hx hb hr hlk hP hS (by rw [← (Option.some.inj hres)]) (by rw [← (Option.some.inj hres)]) dX5_through_39
  unfold fX5_through at hres
  refine lv_aload_n hx hb dX5_through_0 rfl (lv_at hl 0 rfl) ?_
  refine gX_this5_now hx hb hown hw5 hK hP u1 dX5_through_1 ?_
  refine lv_iload_n hx hb dX5_through_4 rfl (lv_at hl 1 rfl) ?_
  refine cvI (q0 := 1) (ci := 3) hx hb hml hown hts hEo hE hK hP hS (kX3_hasTale l D a cI cJ cS hd hEo par kin lea mos wrt tal siz tol hrs ags yea kpar kkin klea kmos kwrt ktal ksiz ktol khrs kags kyea isk tly gai bes low hig spn byt hld sta beh sor num fnd sbi she snu x1) gX5_through_X3_hasTale rfl hdX3_hasTale rfl rfl rfl ⟨rfl, rfl⟩ ⟨Nat.le_of_ble_eq_true rfl, Nat.le_of_ble_eq_true rfl⟩ ⟨Nat.zero_le _, Nat.zero_le _⟩ rfl hl.1 rfl (Nat.le_of_ble_eq_true rfl) dX5_through_5 (fun H locs hP hS => ?_)
  refine lv_if_eq (tgt := 33) hx hb dX5_through_8 (by decide) (fun c8 => ?_) (fun c8 => ?_)
  · have hres := (itl hres).1 c8
    exact b33 low hig spn fnd hres _ _ _ hP hS (lv_sub hl [0] rfl)
  · have hres := (itl hres).2 c8
    refine lv_aload_n hx hb dX5_through_11 rfl (lv_at hl 0 rfl) ?_
    refine gX_this5_now hx hb hown hw5 hK hP u1 dX5_through_12 ?_
    refine lv_iload_n hx hb dX5_through_15 rfl (lv_at hl 2 rfl) ?_
    refine cvI (q0 := 1) (ci := 3) hx hb hml hown hts hEo hE hK hP hS (kX3_hasHearer l D a cI cJ cS hd hEo par kin lea mos wrt tal siz tol hrs ags yea kpar kkin klea kmos kwrt ktal ksiz ktol khrs kags kyea isk tly gai bes low hig spn byt hld sta beh sor num fnd sbi she snu x2) gX5_through_X3_hasHearer rfl hdX3_hasHearer rfl rfl rfl ⟨rfl, rfl⟩ ⟨Nat.le_of_ble_eq_true rfl, Nat.le_of_ble_eq_true rfl⟩ ⟨Nat.zero_le _, Nat.zero_le _⟩ rfl hl.1 rfl (Nat.le_of_ble_eq_true rfl) dX5_through_16 (fun H locs hP hS => ?_)
    refine lv_if_eq (tgt := 33) hx hb dX5_through_19 (by decide) (fun c19 => ?_) (fun c19 => ?_)
    · have hres := (itl hres).1 c19
      exact b33 low hig spn fnd hres _ _ _ hP hS (lv_sub hl [0] rfl)
    · have hres := (itl hres).2 c19
      refine lv_aload_n hx hb dX5_through_22 rfl (lv_at hl 0 rfl) ?_
      refine gX_this5_now hx hb hown hw5 hK hP u1 dX5_through_23 ?_
      refine lv_iload_n hx hb dX5_through_26 rfl (lv_at hl 3 rfl) ?_
      refine cvI (q0 := 1) (ci := 3) hx hb hml hown hts hEo hE hK hP hS (kX3_hasHearer l D a cI cJ cS hd hEo par kin lea mos wrt tal siz tol hrs ags yea kpar kkin klea kmos kwrt ktal ksiz ktol khrs kags kyea isk tly gai bes low hig spn byt hld sta beh sor num fnd sbi she snu x3) gX5_through_X3_hasHearer rfl hdX3_hasHearer rfl rfl rfl ⟨rfl, rfl⟩ ⟨Nat.le_of_ble_eq_true rfl, Nat.le_of_ble_eq_true rfl⟩ ⟨Nat.zero_le _, Nat.zero_le _⟩ rfl hl.1 rfl (Nat.le_of_ble_eq_true rfl) dX5_through_27 (fun H locs hP hS => ?_)
      refine lv_if_ne (tgt := 40) hx hb dX5_through_30 (by decide) (fun c30 => ?_) (fun c30 => ?_)
      · have hres := (itl hres).2 c30
        refine lv_aload_n hx hb dX5_through_40 rfl (lv_at hl 0 rfl) ?_
        refine gX_this5_sayings hx hb hown hw5 hK hP u3 dX5_through_41 ?_
        refine lv_iload_n hx hb dX5_through_44 rfl (lv_at hl 1 rfl) ?_
        obtain ⟨q45, e45, hres⟩ := obd hres
        refine cvV (q0 := 17) (ci := 1) hx hb hml hown hts hEo hE hK hP hS (kX1_spanWords l D a cI cJ cS hd hEo par kin lea mos wrt tal siz tol hrs ags yea kpar kkin klea kmos kwrt ktal ksiz ktol khrs kags kyea isk tly gai bes low hig spn byt hld sta beh sor num fnd sbi she snu x1 q45 e45) gX5_through_X1_spanWords rfl hdX1_spanWords rfl rfl rfl ⟨rfl, rfl⟩ ⟨Nat.le_of_ble_eq_true rfl, Nat.le_of_ble_eq_true rfl⟩ ⟨Nat.zero_le _, Nat.zero_le _⟩ rfl hl.1 rfl (Nat.le_of_ble_eq_true rfl) dX5_through_45 (fun H locs hP hS => ?_)
        refine lv_aload_n hx hb dX5_through_48 rfl (lv_at hl 0 rfl) ?_
        refine gX_this5_sayings hx hb hown hw5 hK hP u3 dX5_through_49 ?_
        refine lv_aload_n hx hb dX5_through_52 rfl (lv_at hl 0 rfl) ?_
        refine gX_this5_now hx hb hown hw5 hK hP u1 dX5_through_53 ?_
        refine gX_now_sizes hx hb hown hw3 hK hP u4 dX5_through_56 ?_
        refine lv_iload_n hx hb dX5_through_59 rfl (lv_at hl 1 rfl) ?_
        obtain ⟨i60, hres⟩ := gdi hres
        refine lX_siz hx hb hK hP i60 dX5_through_60 ?_
        refine lv_aload_n hx hb dX5_through_61 rfl (lv_at hl 0 rfl) ?_
        refine gX_this5_now hx hb hown hw5 hK hP u1 dX5_through_62 ?_
        refine gX_now_ages hx hb hown hw3 hK hP u5 dX5_through_65 ?_
        refine lv_iload_n hx hb dX5_through_68 rfl (lv_at hl 2 rfl) ?_
        obtain ⟨i69, hres⟩ := gdi hres
        refine lX_ags hx hb hK hP i69 dX5_through_69 ?_
        obtain ⟨q70, e70, hres⟩ := obd hres
        refine cvI (q0 := 17) (ci := 1) hx hb hml hown hts hEo hE hK hP hS (kX1_comesOf l D a cI cJ cS hd hEo par kin lea mos wrt tal siz tol hrs ags yea kpar kkin klea kmos kwrt ktal ksiz ktol khrs kags kyea isk tly gai bes q45.1 q45.2.1 q45.2.2 byt hld sta beh sor num fnd sbi she snu (siz x1.toNatClampNeg) (ags x2.toNatClampNeg) q70 e70) gX5_through_X1_comesOf rfl hdX1_comesOf rfl rfl rfl ⟨rfl, rfl⟩ ⟨Nat.le_of_ble_eq_true rfl, Nat.le_of_ble_eq_true rfl⟩ ⟨Nat.zero_le _, Nat.zero_le _⟩ rfl hl.1 rfl (Nat.le_of_ble_eq_true rfl) dX5_through_70 (fun H locs hP hS => ?_)
        refine lv_istore (lv' := [(4, .int q70), (0, .ref (a 0)), (1, .int x1), (2, .int x2), (3, .int x3)]) hx hb dX5_through_73 hl (by decide) rfl (fun ls hl => ?_)
        refine lv_aload_n hx hb dX5_through_75 rfl (lv_at hl 1 rfl) ?_
        refine gX_this5_sayings hx hb hown hw5 hK hP u3 dX5_through_76 ?_
        refine lv_iload hx hb dX5_through_79 (lv_at hl 0 rfl) ?_
        refine lv_aload_n hx hb dX5_through_81 rfl (lv_at hl 1 rfl) ?_
        refine gX_this5_now hx hb hown hw5 hK hP u1 dX5_through_82 ?_
        refine gX_now_ages hx hb hown hw3 hK hP u5 dX5_through_85 ?_
        refine lv_iload_n hx hb dX5_through_88 rfl (lv_at hl 4 rfl) ?_
        obtain ⟨i89, hres⟩ := gdi hres
        refine lX_ags hx hb hK hP i89 dX5_through_89 ?_
        obtain ⟨q90, e90, hres⟩ := obd hres
        refine cvI (q0 := 17) (ci := 1) hx hb hml hown hts hEo hE hK hP hS (kX1_comesOf l D a cI cJ cS hd hEo par kin lea mos wrt tal siz tol hrs ags yea kpar kkin klea kmos kwrt ktal ksiz ktol khrs kags kyea isk tly gai bes q45.1 q45.2.1 q45.2.2 byt hld sta beh sor num fnd sbi she snu q70 (ags x3.toNatClampNeg) q90 e90) gX5_through_X1_comesOf rfl hdX1_comesOf rfl rfl rfl ⟨rfl, rfl⟩ ⟨Nat.le_of_ble_eq_true rfl, Nat.le_of_ble_eq_true rfl⟩ ⟨Nat.zero_le _, Nat.zero_le _⟩ rfl hl.1 rfl (Nat.le_of_ble_eq_true rfl) dX5_through_90 (fun H locs hP hS => ?_)
        exact hQ ▸ rtI (v := q90)  hx hb hr hlk hP hS (by rw [← (Option.some.inj hres)]) (by rw [← (Option.some.inj hres)]) dX5_through_93
      · have hres := (itl hres).1 c30
        exact b33 low hig spn fnd hres _ _ _ hP hS (lv_sub hl [0] rfl)
def fX5_middle_b38 (low : Nat → Int64) (hig : Nat → Int64) (spn : Int32) (fnd : Nat → Int32) : Option (Int32 × (Nat → Int64) × (Nat → Int64) × Int32 × (Nat → Int32)) :=
 (fX5_found fnd (-1000000001 : Int32)).bind fun q41 => some (q41.1, low, hig, spn, q41.2)
def fX5_middle_b165 (K89 : Int32 → Int32 → Int32 → Option (Int32 × (Nat → Int64) × (Nat → Int64) × Int32 × (Nat → Int32))) (x5 : Int32) (x6 : Int32) (x7 : Int32) : Option (Int32 × (Nat → Int64) × (Nat → Int64) × Int32 × (Nat → Int32)) :=
  K89 x5 x6 (x7 + 1)
def fX5_middle_b171 (low : Nat → Int64) (hig : Nat → Int64) (spn : Int32) (fnd : Nat → Int32) (x5 : Int32) : Option (Int32 × (Nat → Int64) × (Nat → Int64) × Int32 × (Nat → Int32)) :=
  if 0 ≤ x5 then some (x5, low, hig, spn, fnd) else (fX5_found fnd (-1000000004 : Int32)).bind fun q179 => some (q179.1, low, hig, spn, q179.2)
def fX5_middle_l89 (hrs : Int32) (ags : Nat → Int32) (low : Nat → Int64) (hig : Nat → Int64) (spn : Int32) (fnd : Nat → Int32) (x2 : Int32) (x3 : Int32) (x4 : Int32) (K89 : Int32 → Int32 → Int32 → Option (Int32 × (Nat → Int64) × (Nat → Int64) × Int32 × (Nat → Int32))) (x5 : Int32) (x6 : Int32) (x7 : Int32) : Option (Int32 × (Nat → Int64) × (Nat → Int64) × Int32 × (Nat → Int32)) :=
  if hrs ≤ x7 then fX5_middle_b171 low hig spn fnd x5 else gd (ib x7 10) ((fX1_comesOf low hig x4 (ags x7.toNatClampNeg)).bind fun q121 => gd (ib x3 10) ((fX1_comesOf low hig q121 (ags x3.toNatClampNeg)).bind fun q133 => if x7 = x2 then fX5_middle_b165 K89 x5 x6 x7 else if x7 = x3 then fX5_middle_b165 K89 x5 x6 x7 else if q133 ≤ x6 then fX5_middle_b165 K89 x5 x6 x7 else fX5_middle_b165 K89 x7 q133 x7))
def fX5_middle (kin : Nat → Int32) (lea : Nat → Int32) (mos : Nat → Int32) (tal : Int32) (siz : Nat → Int32) (tol : Nat → Int32) (hrs : Int32) (ags : Nat → Int32) (low : Nat → Int64) (hig : Nat → Int64) (spn : Int32) (fnd : Nat → Int32) (x1 : Int32) (x2 : Int32) (x3 : Int32) : Option (Int32 × (Nat → Int64) × (Nat → Int64) × Int32 × (Nat → Int32)) :=
  if (bI (fX3_hasTale tal x1)) = 0 then fX5_middle_b38 low hig spn fnd else if (bI (fX3_hasHearer hrs x2)) = 0 then fX5_middle_b38 low hig spn fnd else if (bI (fX3_hasHearer hrs x3)) = 0 then fX5_middle_b38 low hig spn fnd else if x2 = x3 then fX5_middle_b38 low hig spn fnd else (fX1_spanWords kin lea mos siz tol low hig spn x1).bind fun q50 => gd (ib x1 8) (gd (ib x2 10) ((fX1_comesOf q50.1 q50.2.1 (siz x1.toNatClampNeg) (ags x2.toNatClampNeg)).bind fun q75 => fix3 (fX5_middle_l89 hrs ags q50.1 q50.2.1 q50.2.2 fnd x2 x3 q75) 2000 (-1 : Int32) (-1 : Int32) (0 : Int32)))
abbrev rX5_middle : Room := { frames := 3, cells := 0, slots := 0, locals := 66 }
set_option maxHeartbeats 4000000 in
set_option maxRecDepth 100000 in
theorem kX5_middle (l : Launch) (D : va_G) (a : Nat → Nat) (cI cJ cS : ClassId) (hd : aok a 36) {Env : (Nat → Prop) → State → Heap → Prop} (hEo : envOK Env) (par : Int32) (kin lea mos wrt : Nat → Int32) (tal : Int32) (siz tol : Nat → Int32) (hrs : Int32) (ags : Nat → Int32) (yea kpar : Int32) (kkin klea kmos kwrt : Nat → Int32) (ktal : Int32) (ksiz ktol : Nat → Int32) (khrs : Int32) (kags : Nat → Int32) (kyea isk : Int32) (tly : Nat → Int64) (gai bes : Nat → Int32) (low hig : Nat → Int64) (spn : Int32) (byt : Nat → Int32) (hld sta beh sor num : Int32) (fnd sbi she : Nat → Int32) (snu : Nat → Nat → Int64) (x1 : Int32) (x2 : Int32) (x3 : Int32) (res : Int32 × (Nat → Int64) × (Nat → Int64) × Int32 × (Nat → Int32)) (hres : fX5_middle kin lea mos tal siz tol hrs ags low hig spn fnd x1 x2 x3 = some res) : CtI l D (tyL cI cJ cS) 36 a Env yX5_middle wsX5_middle rX5_middle [.ref (a 0), .int x1, .int x2, .int x3] (wX a cI cJ cS par kin lea mos wrt tal siz tol hrs ags yea kpar kkin klea kmos kwrt ktal ksiz ktol khrs kags kyea isk tly gai bes low hig spn byt hld sta beh sor num fnd sbi she snu) (wX a cI cJ cS par kin lea mos wrt tal siz tol hrs ags yea kpar kkin klea kmos kwrt ktal ksiz ktol khrs kags kyea isk tly gai bes res.2.1 res.2.2.1 res.2.2.2.1 byt hld sta beh sor num res.2.2.2.2 sbi she snu) res.1 := by
  refine CtI_mk (cc := cX5_middle) (maxL := 9) (ret := (some .int)) (by decide) rfl (Nat.le_of_ble_eq_true rfl) ?_
  intro p e s m args below meth c ls hx hb hr hlk hml hown hts hP hK hE hl
  have hS : va_S (adA a 36 s.heap.size) s.heap s.heap [] := va_S.rf
  have hl : lv_has ls 9 [(0, .ref (a 0)), (1, .int x1), (2, .int x2), (3, .int x3)] := hl
  have hown : s.vm.findClass RX5 = some m.cls := hown
  have hw3 : ∀ w ∈ wsX30, w.before args s = true := fun w h => hts w (List.mem_cons_of_mem _ (List.mem_append_left _ (List.mem_append_right _ h)))
  have hw5 : ∀ w ∈ wsX50, w.before args s = true := fun w h => hts w (List.mem_cons_of_mem _ (List.mem_append_left _ (List.mem_append_left _ (List.mem_append_right _ h))))
  have u1 : (Cond.fieldLink RX5 12 "YearWords" "now" "LYearWords$Stock;").before args s = true := hts _ (List.mem_of_getElem? (i := 1) (by decide +kernel))
  have u2 : (Cond.constant RX5 63 (-1000000001)).before args s = true := hts _ (List.mem_of_getElem? (i := 2) (by decide +kernel))
  have u3 : (Cond.fieldLink RX5 28 "YearWords" "sayings" "LYearWords$Sayings;").before args s = true := hts _ (List.mem_of_getElem? (i := 3) (by decide +kernel))
  have u4 : (Cond.fieldLink RX5 123 "YearWords$Stock" "sizes" "[I").before args s = true := hts _ (List.mem_of_getElem? (i := 4) (by decide +kernel))
  have u5 : (Cond.fieldLink RX5 183 "YearWords$Stock" "ages" "[I").before args s = true := hts _ (List.mem_of_getElem? (i := 5) (by decide +kernel))
  have u6 : (Cond.fieldLink RX5 174 "YearWords$Stock" "hearers" "I").before args s = true := hts _ (List.mem_of_getElem? (i := 6) (by decide +kernel))
  have u7 : (Cond.constant RX5 129 (-1000000004)).before args s = true := hts _ (List.mem_of_getElem? (i := 7) (by decide +kernel))
  obtain ⟨Q, hQ⟩ : ∃ Q, Q = mqI below D 36 a args s (wX a cI cJ cS par kin lea mos wrt tal siz tol hrs ags yea kpar kkin klea kmos kwrt ktal ksiz ktol khrs kags kyea isk tly gai bes res.2.1 res.2.2.1 res.2.2.2.1 byt hld sta beh sor num res.2.2.2.2 sbi she snu) res.1 := ⟨_, rfl⟩
  rw [← hQ]
  have b38 : ∀ (low : Nat → Int64) (hig : Nat → Int64) (spn : Int32) (fnd : Nat → Int32), fX5_middle_b38 low hig spn fnd = some res → ∀ (H : Heap) (locs : List Loc) (ls : Array Slot), va_P D vwCl (wX a cI cJ cS par kin lea mos wrt tal siz tol hrs ags yea kpar kkin klea kmos kwrt ktal ksiz ktol khrs kags kyea isk tly gai bes low hig spn byt hld sta beh sor num fnd sbi she snu) H → va_S (adA a 36 s.heap.size) s.heap H locs → lv_has ls 9 [(0, .ref (a 0))] → W p l e rX5_middle s m args below meth c H locs 0 0 Q (F0 m 38 ls []) := by
    intro low hig spn fnd hres H locs ls hP hS hl
    unfold fX5_middle_b38 at hres
    refine lv_aload_n hx hb dX5_middle_38 rfl (lv_at hl 0 rfl) ?_
    refine lv_ldc hx hb hown u2 dX5_middle_39 ?_
    obtain ⟨q41, e41, hres⟩ := obd hres
    refine cvI (q0 := 0) (ci := 5) hx hb hml hown hts hEo hE hK hP hS (kX5_found l D a cI cJ cS hd hEo par kin lea mos wrt tal siz tol hrs ags yea kpar kkin klea kmos kwrt ktal ksiz ktol khrs kags kyea isk tly gai bes low hig spn byt hld sta beh sor num fnd sbi she snu (-1000000001 : Int32) q41 e41) gX5_middle_X5_found rfl hdX5_found rfl rfl rfl ⟨rfl, rfl⟩ ⟨Nat.le_of_ble_eq_true rfl, Nat.le_of_ble_eq_true rfl⟩ ⟨Nat.zero_le _, Nat.zero_le _⟩ rfl hl.1 rfl (Nat.le_of_ble_eq_true rfl) dX5_middle_41 (fun H locs hP hS => ?_)
    exact hQ ▸ rtI (v := q41.1)  hx hb hr hlk hP hS (by rw [← (Option.some.inj hres)]) (by rw [← (Option.some.inj hres)]) dX5_middle_44
  have b171 : ∀ (low : Nat → Int64) (hig : Nat → Int64) (spn : Int32) (fnd : Nat → Int32) (x5 : Int32), fX5_middle_b171 low hig spn fnd x5 = some res → ∀ (H : Heap) (locs : List Loc) (ls : Array Slot), va_P D vwCl (wX a cI cJ cS par kin lea mos wrt tal siz tol hrs ags yea kpar kkin klea kmos kwrt ktal ksiz ktol khrs kags kyea isk tly gai bes low hig spn byt hld sta beh sor num fnd sbi she snu) H → va_S (adA a 36 s.heap.size) s.heap H locs → lv_has ls 9 [(0, .ref (a 0)), (5, .int x5)] → W p l e rX5_middle s m args below meth c H locs 0 0 Q (F0 m 171 ls []) := by
    intro low hig spn fnd x5 hres H locs ls hP hS hl
    unfold fX5_middle_b171 at hres
    refine lv_iload hx hb dX5_middle_171 (lv_at hl 1 rfl) ?_
    refine lv_if_ge (tgt := 185) hx hb dX5_middle_173 (by decide) (fun c173 => ?_) (fun c173 => ?_)
    · have hres := (itl hres).1 c173
      refine lv_iload hx hb dX5_middle_185 (lv_at hl 1 rfl) ?_
      exact hQ ▸ rtI (v := x5)  hx hb hr hlk hP hS (by rw [← (Option.some.inj hres)]) (by rw [← (Option.some.inj hres)]) dX5_middle_187
    · have hres := (itl hres).2 c173
      refine lv_aload_n hx hb dX5_middle_176 rfl (lv_at hl 0 rfl) ?_
      refine lv_ldc hx hb hown u7 dX5_middle_177 ?_
      obtain ⟨q179, e179, hres⟩ := obd hres
      refine cvI (q0 := 0) (ci := 5) hx hb hml hown hts hEo hE hK hP hS (kX5_found l D a cI cJ cS hd hEo par kin lea mos wrt tal siz tol hrs ags yea kpar kkin klea kmos kwrt ktal ksiz ktol khrs kags kyea isk tly gai bes low hig spn byt hld sta beh sor num fnd sbi she snu (-1000000004 : Int32) q179 e179) gX5_middle_X5_found rfl hdX5_found rfl rfl rfl ⟨rfl, rfl⟩ ⟨Nat.le_of_ble_eq_true rfl, Nat.le_of_ble_eq_true rfl⟩ ⟨Nat.zero_le _, Nat.zero_le _⟩ rfl hl.1 rfl (Nat.le_of_ble_eq_true rfl) dX5_middle_179 (fun H locs hP hS => ?_)
      refine lv_goto (tgt := 187) hx hb dX5_middle_182 (by decide) ?_
      exact hQ ▸ rtI (v := q179.1)  hx hb hr hlk hP hS (by rw [← (Option.some.inj hres)]) (by rw [← (Option.some.inj hres)]) dX5_middle_187
  have b89 : ∀ (low : Nat → Int64) (hig : Nat → Int64) (spn : Int32) (fnd : Nat → Int32) (x4 : Int32) (n : Nat) (x5 : Int32) (x6 : Int32) (x7 : Int32), fix3 (fX5_middle_l89 hrs ags low hig spn fnd x2 x3 x4) n x5 x6 x7 = some res → ∀ (H : Heap) (locs : List Loc) (ls : Array Slot), va_P D vwCl (wX a cI cJ cS par kin lea mos wrt tal siz tol hrs ags yea kpar kkin klea kmos kwrt ktal ksiz ktol khrs kags kyea isk tly gai bes low hig spn byt hld sta beh sor num fnd sbi she snu) H → va_S (adA a 36 s.heap.size) s.heap H locs → lv_has ls 9 [(0, .ref (a 0)), (2, .int x2), (3, .int x3), (4, .int x4), (5, .int x5), (6, .int x6), (7, .int x7)] → W p l e rX5_middle s m args below meth c H locs 0 0 Q (F0 m 89 ls []) := by
    intro low hig spn fnd x4
    refine fix3_r ?_
    intro K89 hK89 x5 x6 x7 hres H locs ls hP hS hl
    have b165 : ∀ (x5 : Int32) (x6 : Int32) (x7 : Int32), fX5_middle_b165 K89 x5 x6 x7 = some res → ∀ (H : Heap) (locs : List Loc) (ls : Array Slot), va_P D vwCl (wX a cI cJ cS par kin lea mos wrt tal siz tol hrs ags yea kpar kkin klea kmos kwrt ktal ksiz ktol khrs kags kyea isk tly gai bes low hig spn byt hld sta beh sor num fnd sbi she snu) H → va_S (adA a 36 s.heap.size) s.heap H locs → lv_has ls 9 [(0, .ref (a 0)), (2, .int x2), (3, .int x3), (4, .int x4), (5, .int x5), (6, .int x6), (7, .int x7)] → W p l e rX5_middle s m args below meth c H locs 0 0 Q (F0 m 165 ls []) := by
      intro x5 x6 x7 hres H locs ls hP hS hl
      unfold fX5_middle_b165 at hres
      refine lv_iinc (v := x7 + 1) (lv' := [(7, .int (x7 + 1)), (0, .ref (a 0)), (2, .int x2), (3, .int x3), (4, .int x4), (5, .int x5), (6, .int x6)]) hx hb dX5_middle_165 hl (k := 6) rfl (congrArg (fun z => x7 + z) (by decide)) (by decide) rfl (fun ls hl => ?_)
      refine lv_goto (tgt := 89) hx hb dX5_middle_168 (by decide) ?_
      exact hK89 x5 x6 (x7 + 1) hres _ _ _ hP hS (lv_sub hl [1, 2, 3, 4, 5, 6, 0] rfl)
    unfold fX5_middle_l89 at hres
    refine lv_iload hx hb dX5_middle_89 (lv_at hl 6 rfl) ?_
    refine lv_aload_n hx hb dX5_middle_91 rfl (lv_at hl 0 rfl) ?_
    refine gX_this5_now hx hb hown hw5 hK hP u1 dX5_middle_92 ?_
    refine gX_now_hearers hx hb hown hw3 hK hP u6 dX5_middle_95 ?_
    refine lv_icmp_ge (tgt := 171) hx hb dX5_middle_98 (by decide) (fun c98 => ?_) (fun c98 => ?_)
    · have hres := (itl hres).1 c98
      exact b171 low hig spn fnd x5 hres _ _ _ hP hS (lv_sub hl [0, 4] rfl)
    · have hres := (itl hres).2 c98
      refine lv_aload_n hx hb dX5_middle_101 rfl (lv_at hl 0 rfl) ?_
      refine gX_this5_sayings hx hb hown hw5 hK hP u3 dX5_middle_102 ?_
      refine lv_aload_n hx hb dX5_middle_105 rfl (lv_at hl 0 rfl) ?_
      refine gX_this5_sayings hx hb hown hw5 hK hP u3 dX5_middle_106 ?_
      refine lv_iload hx hb dX5_middle_109 (lv_at hl 3 rfl) ?_
      refine lv_aload_n hx hb dX5_middle_111 rfl (lv_at hl 0 rfl) ?_
      refine gX_this5_now hx hb hown hw5 hK hP u1 dX5_middle_112 ?_
      refine gX_now_ages hx hb hown hw3 hK hP u5 dX5_middle_115 ?_
      refine lv_iload hx hb dX5_middle_118 (lv_at hl 6 rfl) ?_
      obtain ⟨i120, hres⟩ := gdi hres
      refine lX_ags hx hb hK hP i120 dX5_middle_120 ?_
      obtain ⟨q121, e121, hres⟩ := obd hres
      refine cvI (q0 := 17) (ci := 1) hx hb hml hown hts hEo hE hK hP hS (kX1_comesOf l D a cI cJ cS hd hEo par kin lea mos wrt tal siz tol hrs ags yea kpar kkin klea kmos kwrt ktal ksiz ktol khrs kags kyea isk tly gai bes low hig spn byt hld sta beh sor num fnd sbi she snu x4 (ags x7.toNatClampNeg) q121 e121) gX5_middle_X1_comesOf rfl hdX1_comesOf rfl rfl rfl ⟨rfl, rfl⟩ ⟨Nat.le_of_ble_eq_true rfl, Nat.le_of_ble_eq_true rfl⟩ ⟨Nat.zero_le _, Nat.zero_le _⟩ rfl hl.1 rfl (Nat.le_of_ble_eq_true rfl) dX5_middle_121 (fun H locs hP hS => ?_)
      refine lv_aload_n hx hb dX5_middle_124 rfl (lv_at hl 0 rfl) ?_
      refine gX_this5_now hx hb hown hw5 hK hP u1 dX5_middle_125 ?_
      refine gX_now_ages hx hb hown hw3 hK hP u5 dX5_middle_128 ?_
      refine lv_iload_n hx hb dX5_middle_131 rfl (lv_at hl 2 rfl) ?_
      obtain ⟨i132, hres⟩ := gdi hres
      refine lX_ags hx hb hK hP i132 dX5_middle_132 ?_
      obtain ⟨q133, e133, hres⟩ := obd hres
      refine cvI (q0 := 17) (ci := 1) hx hb hml hown hts hEo hE hK hP hS (kX1_comesOf l D a cI cJ cS hd hEo par kin lea mos wrt tal siz tol hrs ags yea kpar kkin klea kmos kwrt ktal ksiz ktol khrs kags kyea isk tly gai bes low hig spn byt hld sta beh sor num fnd sbi she snu q121 (ags x3.toNatClampNeg) q133 e133) gX5_middle_X1_comesOf rfl hdX1_comesOf rfl rfl rfl ⟨rfl, rfl⟩ ⟨Nat.le_of_ble_eq_true rfl, Nat.le_of_ble_eq_true rfl⟩ ⟨Nat.zero_le _, Nat.zero_le _⟩ rfl hl.1 rfl (Nat.le_of_ble_eq_true rfl) dX5_middle_133 (fun H locs hP hS => ?_)
      refine lv_istore (lv' := [(8, .int q133), (0, .ref (a 0)), (2, .int x2), (3, .int x3), (4, .int x4), (5, .int x5), (6, .int x6), (7, .int x7)]) hx hb dX5_middle_136 hl (by decide) rfl (fun ls hl => ?_)
      refine lv_iload hx hb dX5_middle_138 (lv_at hl 7 rfl) ?_
      refine lv_iload_n hx hb dX5_middle_140 rfl (lv_at hl 2 rfl) ?_
      refine lv_icmp_eq (tgt := 165) hx hb dX5_middle_141 (by decide) (fun c141 => ?_) (fun c141 => ?_)
      · have hres := (itl hres).1 c141
        exact b165 x5 x6 x7 hres _ _ _ hP hS (lv_sub hl [1, 2, 3, 4, 5, 6, 7] rfl)
      · have hres := (itl hres).2 c141
        refine lv_iload hx hb dX5_middle_144 (lv_at hl 7 rfl) ?_
        refine lv_iload_n hx hb dX5_middle_146 rfl (lv_at hl 3 rfl) ?_
        refine lv_icmp_eq (tgt := 165) hx hb dX5_middle_147 (by decide) (fun c147 => ?_) (fun c147 => ?_)
        · have hres := (itl hres).1 c147
          exact b165 x5 x6 x7 hres _ _ _ hP hS (lv_sub hl [1, 2, 3, 4, 5, 6, 7] rfl)
        · have hres := (itl hres).2 c147
          refine lv_iload hx hb dX5_middle_150 (lv_at hl 0 rfl) ?_
          refine lv_iload hx hb dX5_middle_152 (lv_at hl 6 rfl) ?_
          refine lv_icmp_le (tgt := 165) hx hb dX5_middle_154 (by decide) (fun c154 => ?_) (fun c154 => ?_)
          · have hres := (itl hres).1 c154
            exact b165 x5 x6 x7 hres _ _ _ hP hS (lv_sub hl [1, 2, 3, 4, 5, 6, 7] rfl)
          · have hres := (itl hres).2 c154
            refine lv_iload hx hb dX5_middle_157 (lv_at hl 7 rfl) ?_
            refine lv_istore (lv' := [(5, .int x7), (8, .int q133), (0, .ref (a 0)), (2, .int x2), (3, .int x3), (4, .int x4), (6, .int x6), (7, .int x7)]) hx hb dX5_middle_159 hl (by decide) rfl (fun ls hl => ?_)
            refine lv_iload hx hb dX5_middle_161 (lv_at hl 1 rfl) ?_
            refine lv_istore (lv' := [(6, .int q133), (5, .int x7), (8, .int q133), (0, .ref (a 0)), (2, .int x2), (3, .int x3), (4, .int x4), (7, .int x7)]) hx hb dX5_middle_163 hl (by decide) rfl (fun ls hl => ?_)
            exact b165 x7 q133 x7 hres _ _ _ hP hS (lv_sub hl [3, 4, 5, 6, 1, 0, 7] rfl)
  unfold fX5_middle at hres
  refine lv_aload_n hx hb dX5_middle_0 rfl (lv_at hl 0 rfl) ?_
  refine gX_this5_now hx hb hown hw5 hK hP u1 dX5_middle_1 ?_
  refine lv_iload_n hx hb dX5_middle_4 rfl (lv_at hl 1 rfl) ?_
  refine cvI (q0 := 1) (ci := 3) hx hb hml hown hts hEo hE hK hP hS (kX3_hasTale l D a cI cJ cS hd hEo par kin lea mos wrt tal siz tol hrs ags yea kpar kkin klea kmos kwrt ktal ksiz ktol khrs kags kyea isk tly gai bes low hig spn byt hld sta beh sor num fnd sbi she snu x1) gX5_middle_X3_hasTale rfl hdX3_hasTale rfl rfl rfl ⟨rfl, rfl⟩ ⟨Nat.le_of_ble_eq_true rfl, Nat.le_of_ble_eq_true rfl⟩ ⟨Nat.zero_le _, Nat.zero_le _⟩ rfl hl.1 rfl (Nat.le_of_ble_eq_true rfl) dX5_middle_5 (fun H locs hP hS => ?_)
  refine lv_if_eq (tgt := 38) hx hb dX5_middle_8 (by decide) (fun c8 => ?_) (fun c8 => ?_)
  · have hres := (itl hres).1 c8
    exact b38 low hig spn fnd hres _ _ _ hP hS (lv_sub hl [0] rfl)
  · have hres := (itl hres).2 c8
    refine lv_aload_n hx hb dX5_middle_11 rfl (lv_at hl 0 rfl) ?_
    refine gX_this5_now hx hb hown hw5 hK hP u1 dX5_middle_12 ?_
    refine lv_iload_n hx hb dX5_middle_15 rfl (lv_at hl 2 rfl) ?_
    refine cvI (q0 := 1) (ci := 3) hx hb hml hown hts hEo hE hK hP hS (kX3_hasHearer l D a cI cJ cS hd hEo par kin lea mos wrt tal siz tol hrs ags yea kpar kkin klea kmos kwrt ktal ksiz ktol khrs kags kyea isk tly gai bes low hig spn byt hld sta beh sor num fnd sbi she snu x2) gX5_middle_X3_hasHearer rfl hdX3_hasHearer rfl rfl rfl ⟨rfl, rfl⟩ ⟨Nat.le_of_ble_eq_true rfl, Nat.le_of_ble_eq_true rfl⟩ ⟨Nat.zero_le _, Nat.zero_le _⟩ rfl hl.1 rfl (Nat.le_of_ble_eq_true rfl) dX5_middle_16 (fun H locs hP hS => ?_)
    refine lv_if_eq (tgt := 38) hx hb dX5_middle_19 (by decide) (fun c19 => ?_) (fun c19 => ?_)
    · have hres := (itl hres).1 c19
      exact b38 low hig spn fnd hres _ _ _ hP hS (lv_sub hl [0] rfl)
    · have hres := (itl hres).2 c19
      refine lv_aload_n hx hb dX5_middle_22 rfl (lv_at hl 0 rfl) ?_
      refine gX_this5_now hx hb hown hw5 hK hP u1 dX5_middle_23 ?_
      refine lv_iload_n hx hb dX5_middle_26 rfl (lv_at hl 3 rfl) ?_
      refine cvI (q0 := 1) (ci := 3) hx hb hml hown hts hEo hE hK hP hS (kX3_hasHearer l D a cI cJ cS hd hEo par kin lea mos wrt tal siz tol hrs ags yea kpar kkin klea kmos kwrt ktal ksiz ktol khrs kags kyea isk tly gai bes low hig spn byt hld sta beh sor num fnd sbi she snu x3) gX5_middle_X3_hasHearer rfl hdX3_hasHearer rfl rfl rfl ⟨rfl, rfl⟩ ⟨Nat.le_of_ble_eq_true rfl, Nat.le_of_ble_eq_true rfl⟩ ⟨Nat.zero_le _, Nat.zero_le _⟩ rfl hl.1 rfl (Nat.le_of_ble_eq_true rfl) dX5_middle_27 (fun H locs hP hS => ?_)
      refine lv_if_eq (tgt := 38) hx hb dX5_middle_30 (by decide) (fun c30 => ?_) (fun c30 => ?_)
      · have hres := (itl hres).1 c30
        exact b38 low hig spn fnd hres _ _ _ hP hS (lv_sub hl [0] rfl)
      · have hres := (itl hres).2 c30
        refine lv_iload_n hx hb dX5_middle_33 rfl (lv_at hl 2 rfl) ?_
        refine lv_iload_n hx hb dX5_middle_34 rfl (lv_at hl 3 rfl) ?_
        refine lv_icmp_ne (tgt := 45) hx hb dX5_middle_35 (by decide) (fun c35 => ?_) (fun c35 => ?_)
        · have hres := (itl hres).2 c35
          refine lv_aload_n hx hb dX5_middle_45 rfl (lv_at hl 0 rfl) ?_
          refine gX_this5_sayings hx hb hown hw5 hK hP u3 dX5_middle_46 ?_
          refine lv_iload_n hx hb dX5_middle_49 rfl (lv_at hl 1 rfl) ?_
          obtain ⟨q50, e50, hres⟩ := obd hres
          refine cvV (q0 := 17) (ci := 1) hx hb hml hown hts hEo hE hK hP hS (kX1_spanWords l D a cI cJ cS hd hEo par kin lea mos wrt tal siz tol hrs ags yea kpar kkin klea kmos kwrt ktal ksiz ktol khrs kags kyea isk tly gai bes low hig spn byt hld sta beh sor num fnd sbi she snu x1 q50 e50) gX5_middle_X1_spanWords rfl hdX1_spanWords rfl rfl rfl ⟨rfl, rfl⟩ ⟨Nat.le_of_ble_eq_true rfl, Nat.le_of_ble_eq_true rfl⟩ ⟨Nat.zero_le _, Nat.zero_le _⟩ rfl hl.1 rfl (Nat.le_of_ble_eq_true rfl) dX5_middle_50 (fun H locs hP hS => ?_)
          refine lv_aload_n hx hb dX5_middle_53 rfl (lv_at hl 0 rfl) ?_
          refine gX_this5_sayings hx hb hown hw5 hK hP u3 dX5_middle_54 ?_
          refine lv_aload_n hx hb dX5_middle_57 rfl (lv_at hl 0 rfl) ?_
          refine gX_this5_now hx hb hown hw5 hK hP u1 dX5_middle_58 ?_
          refine gX_now_sizes hx hb hown hw3 hK hP u4 dX5_middle_61 ?_
          refine lv_iload_n hx hb dX5_middle_64 rfl (lv_at hl 1 rfl) ?_
          obtain ⟨i65, hres⟩ := gdi hres
          refine lX_siz hx hb hK hP i65 dX5_middle_65 ?_
          refine lv_aload_n hx hb dX5_middle_66 rfl (lv_at hl 0 rfl) ?_
          refine gX_this5_now hx hb hown hw5 hK hP u1 dX5_middle_67 ?_
          refine gX_now_ages hx hb hown hw3 hK hP u5 dX5_middle_70 ?_
          refine lv_iload_n hx hb dX5_middle_73 rfl (lv_at hl 2 rfl) ?_
          obtain ⟨i74, hres⟩ := gdi hres
          refine lX_ags hx hb hK hP i74 dX5_middle_74 ?_
          obtain ⟨q75, e75, hres⟩ := obd hres
          refine cvI (q0 := 17) (ci := 1) hx hb hml hown hts hEo hE hK hP hS (kX1_comesOf l D a cI cJ cS hd hEo par kin lea mos wrt tal siz tol hrs ags yea kpar kkin klea kmos kwrt ktal ksiz ktol khrs kags kyea isk tly gai bes q50.1 q50.2.1 q50.2.2 byt hld sta beh sor num fnd sbi she snu (siz x1.toNatClampNeg) (ags x2.toNatClampNeg) q75 e75) gX5_middle_X1_comesOf rfl hdX1_comesOf rfl rfl rfl ⟨rfl, rfl⟩ ⟨Nat.le_of_ble_eq_true rfl, Nat.le_of_ble_eq_true rfl⟩ ⟨Nat.zero_le _, Nat.zero_le _⟩ rfl hl.1 rfl (Nat.le_of_ble_eq_true rfl) dX5_middle_75 (fun H locs hP hS => ?_)
          refine lv_istore (lv' := [(4, .int q75), (0, .ref (a 0)), (1, .int x1), (2, .int x2), (3, .int x3)]) hx hb dX5_middle_78 hl (by decide) rfl (fun ls hl => ?_)
          refine lv_iconst (v := (-1)) hx hb dX5_middle_80 (by decide) ?_
          refine lv_istore (lv' := [(5, .int (-1 : Int32)), (4, .int q75), (0, .ref (a 0)), (1, .int x1), (2, .int x2), (3, .int x3)]) hx hb dX5_middle_81 hl (by decide) rfl (fun ls hl => ?_)
          refine lv_iconst (v := (-1)) hx hb dX5_middle_83 (by decide) ?_
          refine lv_istore (lv' := [(6, .int (-1 : Int32)), (5, .int (-1 : Int32)), (4, .int q75), (0, .ref (a 0)), (1, .int x1), (2, .int x2), (3, .int x3)]) hx hb dX5_middle_84 hl (by decide) rfl (fun ls hl => ?_)
          refine lv_iconst (v := 0) hx hb dX5_middle_86 (by decide) ?_
          refine lv_istore (lv' := [(7, .int (0 : Int32)), (6, .int (-1 : Int32)), (5, .int (-1 : Int32)), (4, .int q75), (0, .ref (a 0)), (1, .int x1), (2, .int x2), (3, .int x3)]) hx hb dX5_middle_87 hl (by decide) rfl (fun ls hl => ?_)
          exact b89 q50.1 q50.2.1 q50.2.2 fnd q75 2000 (-1 : Int32) (-1 : Int32) (0 : Int32) hres _ _ _ hP hS (lv_sub hl [4, 6, 7, 3, 2, 1, 0] rfl)
        · have hres := (itl hres).1 c35
          exact b38 low hig spn fnd hres _ _ _ hP hS (lv_sub hl [0] rfl)
def fX5_chain_l55 (hrs : Int32) (ags : Nat → Int32) (low : Nat → Int64) (hig : Nat → Int64) (spn : Int32) (fnd : Nat → Int32) (K55 : Int32 → Int32 → Option (Int32 × (Nat → Int64) × (Nat → Int64) × Int32 × (Nat → Int32))) (x2 : Int32) (x3 : Int32) : Option (Int32 × (Nat → Int64) × (Nat → Int64) × Int32 × (Nat → Int32)) :=
  if hrs ≤ x3 then some (x2, low, hig, spn, fnd) else gd (ib x3 10) ((fX1_comesOf low hig x2 (ags x3.toNatClampNeg)).bind fun q80 => K55 q80 (x3 + 1))
def fX5_chain (kin : Nat → Int32) (lea : Nat → Int32) (mos : Nat → Int32) (tal : Int32) (siz : Nat → Int32) (tol : Nat → Int32) (hrs : Int32) (ags : Nat → Int32) (low : Nat → Int64) (hig : Nat → Int64) (spn : Int32) (fnd : Nat → Int32) (x1 : Int32) : Option (Int32 × (Nat → Int64) × (Nat → Int64) × Int32 × (Nat → Int32)) :=
  if (bI (fX3_hasTale tal x1)) = 0 then (fX5_found fnd (-1000000001 : Int32)).bind fun q14 => some (q14.1, low, hig, spn, q14.2) else if hrs = 0 then (fX5_found fnd (-1000000004 : Int32)).bind fun q31 => some (q31.1, low, hig, spn, q31.2) else (fX1_spanWords kin lea mos siz tol low hig spn x1).bind fun q40 => gd (ib x1 8) (fix2 (fX5_chain_l55 hrs ags q40.1 q40.2.1 q40.2.2 fnd) 2000 (siz x1.toNatClampNeg) (0 : Int32))
abbrev rX5_chain : Room := { frames := 3, cells := 0, slots := 0, locals := 66 }
set_option maxHeartbeats 4000000 in
set_option maxRecDepth 100000 in
theorem kX5_chain (l : Launch) (D : va_G) (a : Nat → Nat) (cI cJ cS : ClassId) (hd : aok a 36) {Env : (Nat → Prop) → State → Heap → Prop} (hEo : envOK Env) (par : Int32) (kin lea mos wrt : Nat → Int32) (tal : Int32) (siz tol : Nat → Int32) (hrs : Int32) (ags : Nat → Int32) (yea kpar : Int32) (kkin klea kmos kwrt : Nat → Int32) (ktal : Int32) (ksiz ktol : Nat → Int32) (khrs : Int32) (kags : Nat → Int32) (kyea isk : Int32) (tly : Nat → Int64) (gai bes : Nat → Int32) (low hig : Nat → Int64) (spn : Int32) (byt : Nat → Int32) (hld sta beh sor num : Int32) (fnd sbi she : Nat → Int32) (snu : Nat → Nat → Int64) (x1 : Int32) (res : Int32 × (Nat → Int64) × (Nat → Int64) × Int32 × (Nat → Int32)) (hres : fX5_chain kin lea mos tal siz tol hrs ags low hig spn fnd x1 = some res) : CtI l D (tyL cI cJ cS) 36 a Env yX5_chain wsX5_chain rX5_chain [.ref (a 0), .int x1] (wX a cI cJ cS par kin lea mos wrt tal siz tol hrs ags yea kpar kkin klea kmos kwrt ktal ksiz ktol khrs kags kyea isk tly gai bes low hig spn byt hld sta beh sor num fnd sbi she snu) (wX a cI cJ cS par kin lea mos wrt tal siz tol hrs ags yea kpar kkin klea kmos kwrt ktal ksiz ktol khrs kags kyea isk tly gai bes res.2.1 res.2.2.1 res.2.2.2.1 byt hld sta beh sor num res.2.2.2.2 sbi she snu) res.1 := by
  refine CtI_mk (cc := cX5_chain) (maxL := 4) (ret := (some .int)) (by decide) rfl (Nat.le_of_ble_eq_true rfl) ?_
  intro p e s m args below meth c ls hx hb hr hlk hml hown hts hP hK hE hl
  have hS : va_S (adA a 36 s.heap.size) s.heap s.heap [] := va_S.rf
  have hl : lv_has ls 4 [(0, .ref (a 0)), (1, .int x1)] := hl
  have hown : s.vm.findClass RX5 = some m.cls := hown
  have hw3 : ∀ w ∈ wsX30, w.before args s = true := fun w h => hts w (List.mem_cons_of_mem _ (List.mem_append_left _ (List.mem_append_right _ h)))
  have hw5 : ∀ w ∈ wsX50, w.before args s = true := fun w h => hts w (List.mem_cons_of_mem _ (List.mem_append_left _ (List.mem_append_left _ (List.mem_append_right _ h))))
  have u1 : (Cond.fieldLink RX5 12 "YearWords" "now" "LYearWords$Stock;").before args s = true := hts _ (List.mem_of_getElem? (i := 1) (by decide +kernel))
  have u2 : (Cond.constant RX5 63 (-1000000001)).before args s = true := hts _ (List.mem_of_getElem? (i := 2) (by decide +kernel))
  have u3 : (Cond.fieldLink RX5 174 "YearWords$Stock" "hearers" "I").before args s = true := hts _ (List.mem_of_getElem? (i := 3) (by decide +kernel))
  have u4 : (Cond.constant RX5 129 (-1000000004)).before args s = true := hts _ (List.mem_of_getElem? (i := 4) (by decide +kernel))
  have u5 : (Cond.fieldLink RX5 28 "YearWords" "sayings" "LYearWords$Sayings;").before args s = true := hts _ (List.mem_of_getElem? (i := 5) (by decide +kernel))
  have u6 : (Cond.fieldLink RX5 123 "YearWords$Stock" "sizes" "[I").before args s = true := hts _ (List.mem_of_getElem? (i := 6) (by decide +kernel))
  have u7 : (Cond.fieldLink RX5 183 "YearWords$Stock" "ages" "[I").before args s = true := hts _ (List.mem_of_getElem? (i := 7) (by decide +kernel))
  obtain ⟨Q, hQ⟩ : ∃ Q, Q = mqI below D 36 a args s (wX a cI cJ cS par kin lea mos wrt tal siz tol hrs ags yea kpar kkin klea kmos kwrt ktal ksiz ktol khrs kags kyea isk tly gai bes res.2.1 res.2.2.1 res.2.2.2.1 byt hld sta beh sor num res.2.2.2.2 sbi she snu) res.1 := ⟨_, rfl⟩
  rw [← hQ]
  have b55 : ∀ (low : Nat → Int64) (hig : Nat → Int64) (spn : Int32) (fnd : Nat → Int32) (n : Nat) (x2 : Int32) (x3 : Int32), fix2 (fX5_chain_l55 hrs ags low hig spn fnd) n x2 x3 = some res → ∀ (H : Heap) (locs : List Loc) (ls : Array Slot), va_P D vwCl (wX a cI cJ cS par kin lea mos wrt tal siz tol hrs ags yea kpar kkin klea kmos kwrt ktal ksiz ktol khrs kags kyea isk tly gai bes low hig spn byt hld sta beh sor num fnd sbi she snu) H → va_S (adA a 36 s.heap.size) s.heap H locs → lv_has ls 4 [(0, .ref (a 0)), (2, .int x2), (3, .int x3)] → W p l e rX5_chain s m args below meth c H locs 0 0 Q (F0 m 55 ls []) := by
    intro low hig spn fnd
    refine fix2_r ?_
    intro K55 hK55 x2 x3 hres H locs ls hP hS hl
    unfold fX5_chain_l55 at hres
    refine lv_iload_n hx hb dX5_chain_55 rfl (lv_at hl 2 rfl) ?_
    refine lv_aload_n hx hb dX5_chain_56 rfl (lv_at hl 0 rfl) ?_
    refine gX_this5_now hx hb hown hw5 hK hP u1 dX5_chain_57 ?_
    refine gX_now_hearers hx hb hown hw3 hK hP u3 dX5_chain_60 ?_
    refine lv_icmp_ge (tgt := 90) hx hb dX5_chain_63 (by decide) (fun c63 => ?_) (fun c63 => ?_)
    · have hres := (itl hres).1 c63
      refine lv_iload_n hx hb dX5_chain_90 rfl (lv_at hl 1 rfl) ?_
      exact hQ ▸ rtI (v := x2)  hx hb hr hlk hP hS (by rw [← (Option.some.inj hres)]) (by rw [← (Option.some.inj hres)]) dX5_chain_91
    · have hres := (itl hres).2 c63
      refine lv_aload_n hx hb dX5_chain_66 rfl (lv_at hl 0 rfl) ?_
      refine gX_this5_sayings hx hb hown hw5 hK hP u5 dX5_chain_67 ?_
      refine lv_iload_n hx hb dX5_chain_70 rfl (lv_at hl 1 rfl) ?_
      refine lv_aload_n hx hb dX5_chain_71 rfl (lv_at hl 0 rfl) ?_
      refine gX_this5_now hx hb hown hw5 hK hP u1 dX5_chain_72 ?_
      refine gX_now_ages hx hb hown hw3 hK hP u7 dX5_chain_75 ?_
      refine lv_iload_n hx hb dX5_chain_78 rfl (lv_at hl 2 rfl) ?_
      obtain ⟨i79, hres⟩ := gdi hres
      refine lX_ags hx hb hK hP i79 dX5_chain_79 ?_
      obtain ⟨q80, e80, hres⟩ := obd hres
      refine cvI (q0 := 17) (ci := 1) hx hb hml hown hts hEo hE hK hP hS (kX1_comesOf l D a cI cJ cS hd hEo par kin lea mos wrt tal siz tol hrs ags yea kpar kkin klea kmos kwrt ktal ksiz ktol khrs kags kyea isk tly gai bes low hig spn byt hld sta beh sor num fnd sbi she snu x2 (ags x3.toNatClampNeg) q80 e80) gX5_chain_X1_comesOf rfl hdX1_comesOf rfl rfl rfl ⟨rfl, rfl⟩ ⟨Nat.le_of_ble_eq_true rfl, Nat.le_of_ble_eq_true rfl⟩ ⟨Nat.zero_le _, Nat.zero_le _⟩ rfl hl.1 rfl (Nat.le_of_ble_eq_true rfl) dX5_chain_80 (fun H locs hP hS => ?_)
      refine lv_istore_n (lv' := [(2, .int q80), (0, .ref (a 0)), (3, .int x3)]) hx hb dX5_chain_83 rfl hl (by decide) rfl (fun ls hl => ?_)
      refine lv_iinc (v := x3 + 1) (lv' := [(3, .int (x3 + 1)), (2, .int q80), (0, .ref (a 0))]) hx hb dX5_chain_84 hl (k := 2) rfl (congrArg (fun z => x3 + z) (by decide)) (by decide) rfl (fun ls hl => ?_)
      refine lv_goto (tgt := 55) hx hb dX5_chain_87 (by decide) ?_
      exact hK55 q80 (x3 + 1) hres _ _ _ hP hS (lv_sub hl [2, 1, 0] rfl)
  unfold fX5_chain at hres
  refine lv_aload_n hx hb dX5_chain_0 rfl (lv_at hl 0 rfl) ?_
  refine gX_this5_now hx hb hown hw5 hK hP u1 dX5_chain_1 ?_
  refine lv_iload_n hx hb dX5_chain_4 rfl (lv_at hl 1 rfl) ?_
  refine cvI (q0 := 1) (ci := 3) hx hb hml hown hts hEo hE hK hP hS (kX3_hasTale l D a cI cJ cS hd hEo par kin lea mos wrt tal siz tol hrs ags yea kpar kkin klea kmos kwrt ktal ksiz ktol khrs kags kyea isk tly gai bes low hig spn byt hld sta beh sor num fnd sbi she snu x1) gX5_chain_X3_hasTale rfl hdX3_hasTale rfl rfl rfl ⟨rfl, rfl⟩ ⟨Nat.le_of_ble_eq_true rfl, Nat.le_of_ble_eq_true rfl⟩ ⟨Nat.zero_le _, Nat.zero_le _⟩ rfl hl.1 rfl (Nat.le_of_ble_eq_true rfl) dX5_chain_5 (fun H locs hP hS => ?_)
  refine lv_if_ne (tgt := 18) hx hb dX5_chain_8 (by decide) (fun c8 => ?_) (fun c8 => ?_)
  · have hres := (itl hres).2 c8
    refine lv_aload_n hx hb dX5_chain_18 rfl (lv_at hl 0 rfl) ?_
    refine gX_this5_now hx hb hown hw5 hK hP u1 dX5_chain_19 ?_
    refine gX_now_hearers hx hb hown hw3 hK hP u3 dX5_chain_22 ?_
    refine lv_if_ne (tgt := 35) hx hb dX5_chain_25 (by decide) (fun c25 => ?_) (fun c25 => ?_)
    · have hres := (itl hres).2 c25
      refine lv_aload_n hx hb dX5_chain_35 rfl (lv_at hl 0 rfl) ?_
      refine gX_this5_sayings hx hb hown hw5 hK hP u5 dX5_chain_36 ?_
      refine lv_iload_n hx hb dX5_chain_39 rfl (lv_at hl 1 rfl) ?_
      obtain ⟨q40, e40, hres⟩ := obd hres
      refine cvV (q0 := 17) (ci := 1) hx hb hml hown hts hEo hE hK hP hS (kX1_spanWords l D a cI cJ cS hd hEo par kin lea mos wrt tal siz tol hrs ags yea kpar kkin klea kmos kwrt ktal ksiz ktol khrs kags kyea isk tly gai bes low hig spn byt hld sta beh sor num fnd sbi she snu x1 q40 e40) gX5_chain_X1_spanWords rfl hdX1_spanWords rfl rfl rfl ⟨rfl, rfl⟩ ⟨Nat.le_of_ble_eq_true rfl, Nat.le_of_ble_eq_true rfl⟩ ⟨Nat.zero_le _, Nat.zero_le _⟩ rfl hl.1 rfl (Nat.le_of_ble_eq_true rfl) dX5_chain_40 (fun H locs hP hS => ?_)
      refine lv_aload_n hx hb dX5_chain_43 rfl (lv_at hl 0 rfl) ?_
      refine gX_this5_now hx hb hown hw5 hK hP u1 dX5_chain_44 ?_
      refine gX_now_sizes hx hb hown hw3 hK hP u6 dX5_chain_47 ?_
      refine lv_iload_n hx hb dX5_chain_50 rfl (lv_at hl 1 rfl) ?_
      obtain ⟨i51, hres⟩ := gdi hres
      refine lX_siz hx hb hK hP i51 dX5_chain_51 ?_
      refine lv_istore_n (lv' := [(2, .int (siz x1.toNatClampNeg)), (0, .ref (a 0)), (1, .int x1)]) hx hb dX5_chain_52 rfl hl (by decide) rfl (fun ls hl => ?_)
      refine lv_iconst (v := 0) hx hb dX5_chain_53 (by decide) ?_
      refine lv_istore_n (lv' := [(3, .int (0 : Int32)), (2, .int (siz x1.toNatClampNeg)), (0, .ref (a 0)), (1, .int x1)]) hx hb dX5_chain_54 rfl hl (by decide) rfl (fun ls hl => ?_)
      exact b55 q40.1 q40.2.1 q40.2.2 fnd 2000 (siz x1.toNatClampNeg) (0 : Int32) hres _ _ _ hP hS (lv_sub hl [2, 1, 0] rfl)
    · have hres := (itl hres).1 c25
      refine lv_aload_n hx hb dX5_chain_28 rfl (lv_at hl 0 rfl) ?_
      refine lv_ldc hx hb hown u4 dX5_chain_29 ?_
      obtain ⟨q31, e31, hres⟩ := obd hres
      refine cvI (q0 := 0) (ci := 5) hx hb hml hown hts hEo hE hK hP hS (kX5_found l D a cI cJ cS hd hEo par kin lea mos wrt tal siz tol hrs ags yea kpar kkin klea kmos kwrt ktal ksiz ktol khrs kags kyea isk tly gai bes low hig spn byt hld sta beh sor num fnd sbi she snu (-1000000004 : Int32) q31 e31) gX5_chain_X5_found rfl hdX5_found rfl rfl rfl ⟨rfl, rfl⟩ ⟨Nat.le_of_ble_eq_true rfl, Nat.le_of_ble_eq_true rfl⟩ ⟨Nat.zero_le _, Nat.zero_le _⟩ rfl hl.1 rfl (Nat.le_of_ble_eq_true rfl) dX5_chain_31 (fun H locs hP hS => ?_)
      exact hQ ▸ rtI (v := q31.1)  hx hb hr hlk hP hS (by rw [← (Option.some.inj hres)]) (by rw [← (Option.some.inj hres)]) dX5_chain_34
  · have hres := (itl hres).1 c8
    refine lv_aload_n hx hb dX5_chain_11 rfl (lv_at hl 0 rfl) ?_
    refine lv_ldc hx hb hown u2 dX5_chain_12 ?_
    obtain ⟨q14, e14, hres⟩ := obd hres
    refine cvI (q0 := 0) (ci := 5) hx hb hml hown hts hEo hE hK hP hS (kX5_found l D a cI cJ cS hd hEo par kin lea mos wrt tal siz tol hrs ags yea kpar kkin klea kmos kwrt ktal ksiz ktol khrs kags kyea isk tly gai bes low hig spn byt hld sta beh sor num fnd sbi she snu (-1000000001 : Int32) q14 e14) gX5_chain_X5_found rfl hdX5_found rfl rfl rfl ⟨rfl, rfl⟩ ⟨Nat.le_of_ble_eq_true rfl, Nat.le_of_ble_eq_true rfl⟩ ⟨Nat.zero_le _, Nat.zero_le _⟩ rfl hl.1 rfl (Nat.le_of_ble_eq_true rfl) dX5_chain_14 (fun H locs hP hS => ?_)
    exact hQ ▸ rtI (v := q14.1)  hx hb hr hlk hP hS (by rw [← (Option.some.inj hres)]) (by rw [← (Option.some.inj hres)]) dX5_chain_17
def fX5_spread_b21 (low : Nat → Int64) (hig : Nat → Int64) (spn : Int32) (fnd : Nat → Int32) : Option (Int32 × (Nat → Int64) × (Nat → Int64) × Int32 × (Nat → Int32)) :=
 (fX5_found fnd (-1000000001 : Int32)).bind fun q24 => some (q24.1, low, hig, spn, q24.2)
def fX5_spread_l67 (hrs : Int32) (ags : Nat → Int32) (low : Nat → Int64) (hig : Nat → Int64) (spn : Int32) (fnd : Nat → Int32) (x2 : Int32) (x3 : Int32) (K67 : Int32 → Int32 → Option (Int32 × (Nat → Int64) × (Nat → Int64) × Int32 × (Nat → Int32))) (x4 : Int32) (x5 : Int32) : Option (Int32 × (Nat → Int64) × (Nat → Int64) × Int32 × (Nat → Int32)) :=
  if hrs ≤ x5 then some (x4, low, hig, spn, fnd) else (fX3_nearTo hrs ags x4 x2).bind fun q89 => K67 (x4 ||| (x3 &&& q89)) (x5 + 1)
def fX5_spread (kin : Nat → Int32) (lea : Nat → Int32) (mos : Nat → Int32) (tal : Int32) (siz : Nat → Int32) (tol : Nat → Int32) (hrs : Int32) (ags : Nat → Int32) (low : Nat → Int64) (hig : Nat → Int64) (spn : Int32) (fnd : Nat → Int32) (x1 : Int32) (x2 : Int32) : Option (Int32 × (Nat → Int64) × (Nat → Int64) × Int32 × (Nat → Int32)) :=
  if (bI (fX3_hasTale tal x1)) = 0 then fX5_spread_b21 low hig spn fnd else if (bI (fX5_isIn x2 (0 : Int32) (99 : Int32))) = 0 then fX5_spread_b21 low hig spn fnd else if hrs = 0 then (fX5_found fnd (-1000000004 : Int32)).bind fun q41 => some (q41.1, low, hig, spn, q41.2) else (fX1_spanWords kin lea mos siz tol low hig spn x1).bind fun q50 => (fX1_sayableTo hrs ags q50.1 q50.2.1 q50.2.2).bind fun q57 => fix2 (fX5_spread_l67 hrs ags q50.1 q50.2.1 q50.2.2 fnd x2 q57) 2000 (1 : Int32) (1 : Int32)
theorem hdX3_nearTo : yX3_nearTo.cls = RX3 ∧ yX3_nearTo.cls ≠ "java/lang/invoke/MethodHandle" ∧ yX3_nearTo.cls ≠ "java/lang/invoke/VarHandle" ∧ (parseMethodDescriptor yX3_nearTo.desc).map (fun d => d.parameters.length) = some 2 := by decide +kernel
abbrev rX5_spread : Room := { frames := 3, cells := 0, slots := 0, locals := 66 }
set_option maxHeartbeats 4000000 in
set_option maxRecDepth 100000 in
theorem kX5_spread (l : Launch) (D : va_G) (a : Nat → Nat) (cI cJ cS : ClassId) (hd : aok a 36) {Env : (Nat → Prop) → State → Heap → Prop} (hEo : envOK Env) (par : Int32) (kin lea mos wrt : Nat → Int32) (tal : Int32) (siz tol : Nat → Int32) (hrs : Int32) (ags : Nat → Int32) (yea kpar : Int32) (kkin klea kmos kwrt : Nat → Int32) (ktal : Int32) (ksiz ktol : Nat → Int32) (khrs : Int32) (kags : Nat → Int32) (kyea isk : Int32) (tly : Nat → Int64) (gai bes : Nat → Int32) (low hig : Nat → Int64) (spn : Int32) (byt : Nat → Int32) (hld sta beh sor num : Int32) (fnd sbi she : Nat → Int32) (snu : Nat → Nat → Int64) (x1 : Int32) (x2 : Int32) (res : Int32 × (Nat → Int64) × (Nat → Int64) × Int32 × (Nat → Int32)) (hres : fX5_spread kin lea mos tal siz tol hrs ags low hig spn fnd x1 x2 = some res) : CtI l D (tyL cI cJ cS) 36 a Env yX5_spread wsX5_spread rX5_spread [.ref (a 0), .int x1, .int x2] (wX a cI cJ cS par kin lea mos wrt tal siz tol hrs ags yea kpar kkin klea kmos kwrt ktal ksiz ktol khrs kags kyea isk tly gai bes low hig spn byt hld sta beh sor num fnd sbi she snu) (wX a cI cJ cS par kin lea mos wrt tal siz tol hrs ags yea kpar kkin klea kmos kwrt ktal ksiz ktol khrs kags kyea isk tly gai bes res.2.1 res.2.2.1 res.2.2.2.1 byt hld sta beh sor num res.2.2.2.2 sbi she snu) res.1 := by
  refine CtI_mk (cc := cX5_spread) (maxL := 6) (ret := (some .int)) (by decide) rfl (Nat.le_of_ble_eq_true rfl) ?_
  intro p e s m args below meth c ls hx hb hr hlk hml hown hts hP hK hE hl
  have hS : va_S (adA a 36 s.heap.size) s.heap s.heap [] := va_S.rf
  have hl : lv_has ls 6 [(0, .ref (a 0)), (1, .int x1), (2, .int x2)] := hl
  have hown : s.vm.findClass RX5 = some m.cls := hown
  have hw3 : ∀ w ∈ wsX30, w.before args s = true := fun w h => hts w (List.mem_cons_of_mem _ (List.mem_append_left _ (List.mem_append_right _ h)))
  have hw5 : ∀ w ∈ wsX50, w.before args s = true := fun w h => hts w (List.mem_cons_of_mem _ (List.mem_append_left _ (List.mem_append_left _ (List.mem_append_right _ h))))
  have u1 : (Cond.fieldLink RX5 12 "YearWords" "now" "LYearWords$Stock;").before args s = true := hts _ (List.mem_of_getElem? (i := 1) (by decide +kernel))
  have u2 : (Cond.constant RX5 63 (-1000000001)).before args s = true := hts _ (List.mem_of_getElem? (i := 2) (by decide +kernel))
  have u3 : (Cond.fieldLink RX5 174 "YearWords$Stock" "hearers" "I").before args s = true := hts _ (List.mem_of_getElem? (i := 3) (by decide +kernel))
  have u4 : (Cond.constant RX5 129 (-1000000004)).before args s = true := hts _ (List.mem_of_getElem? (i := 4) (by decide +kernel))
  have u5 : (Cond.fieldLink RX5 28 "YearWords" "sayings" "LYearWords$Sayings;").before args s = true := hts _ (List.mem_of_getElem? (i := 5) (by decide +kernel))
  obtain ⟨Q, hQ⟩ : ∃ Q, Q = mqI below D 36 a args s (wX a cI cJ cS par kin lea mos wrt tal siz tol hrs ags yea kpar kkin klea kmos kwrt ktal ksiz ktol khrs kags kyea isk tly gai bes res.2.1 res.2.2.1 res.2.2.2.1 byt hld sta beh sor num res.2.2.2.2 sbi she snu) res.1 := ⟨_, rfl⟩
  rw [← hQ]
  have b21 : ∀ (low : Nat → Int64) (hig : Nat → Int64) (spn : Int32) (fnd : Nat → Int32), fX5_spread_b21 low hig spn fnd = some res → ∀ (H : Heap) (locs : List Loc) (ls : Array Slot), va_P D vwCl (wX a cI cJ cS par kin lea mos wrt tal siz tol hrs ags yea kpar kkin klea kmos kwrt ktal ksiz ktol khrs kags kyea isk tly gai bes low hig spn byt hld sta beh sor num fnd sbi she snu) H → va_S (adA a 36 s.heap.size) s.heap H locs → lv_has ls 6 [(0, .ref (a 0))] → W p l e rX5_spread s m args below meth c H locs 0 0 Q (F0 m 21 ls []) := by
    intro low hig spn fnd hres H locs ls hP hS hl
    unfold fX5_spread_b21 at hres
    refine lv_aload_n hx hb dX5_spread_21 rfl (lv_at hl 0 rfl) ?_
    refine lv_ldc hx hb hown u2 dX5_spread_22 ?_
    obtain ⟨q24, e24, hres⟩ := obd hres
    refine cvI (q0 := 0) (ci := 5) hx hb hml hown hts hEo hE hK hP hS (kX5_found l D a cI cJ cS hd hEo par kin lea mos wrt tal siz tol hrs ags yea kpar kkin klea kmos kwrt ktal ksiz ktol khrs kags kyea isk tly gai bes low hig spn byt hld sta beh sor num fnd sbi she snu (-1000000001 : Int32) q24 e24) gX5_spread_X5_found rfl hdX5_found rfl rfl rfl ⟨rfl, rfl⟩ ⟨Nat.le_of_ble_eq_true rfl, Nat.le_of_ble_eq_true rfl⟩ ⟨Nat.zero_le _, Nat.zero_le _⟩ rfl hl.1 rfl (Nat.le_of_ble_eq_true rfl) dX5_spread_24 (fun H locs hP hS => ?_)
    exact hQ ▸ rtI (v := q24.1)  hx hb hr hlk hP hS (by rw [← (Option.some.inj hres)]) (by rw [← (Option.some.inj hres)]) dX5_spread_27
  have b67 : ∀ (low : Nat → Int64) (hig : Nat → Int64) (spn : Int32) (fnd : Nat → Int32) (x3 : Int32) (n : Nat) (x4 : Int32) (x5 : Int32), fix2 (fX5_spread_l67 hrs ags low hig spn fnd x2 x3) n x4 x5 = some res → ∀ (H : Heap) (locs : List Loc) (ls : Array Slot), va_P D vwCl (wX a cI cJ cS par kin lea mos wrt tal siz tol hrs ags yea kpar kkin klea kmos kwrt ktal ksiz ktol khrs kags kyea isk tly gai bes low hig spn byt hld sta beh sor num fnd sbi she snu) H → va_S (adA a 36 s.heap.size) s.heap H locs → lv_has ls 6 [(0, .ref (a 0)), (2, .int x2), (3, .int x3), (4, .int x4), (5, .int x5)] → W p l e rX5_spread s m args below meth c H locs 0 0 Q (F0 m 67 ls []) := by
    intro low hig spn fnd x3
    refine fix2_r ?_
    intro K67 hK67 x4 x5 hres H locs ls hP hS hl
    unfold fX5_spread_l67 at hres
    refine lv_iload hx hb dX5_spread_67 (lv_at hl 4 rfl) ?_
    refine lv_aload_n hx hb dX5_spread_69 rfl (lv_at hl 0 rfl) ?_
    refine gX_this5_now hx hb hown hw5 hK hP u1 dX5_spread_70 ?_
    refine gX_now_hearers hx hb hown hw3 hK hP u3 dX5_spread_73 ?_
    refine lv_icmp_ge (tgt := 102) hx hb dX5_spread_76 (by decide) (fun c76 => ?_) (fun c76 => ?_)
    · have hres := (itl hres).1 c76
      refine lv_iload hx hb dX5_spread_102 (lv_at hl 3 rfl) ?_
      exact hQ ▸ rtI (v := x4)  hx hb hr hlk hP hS (by rw [← (Option.some.inj hres)]) (by rw [← (Option.some.inj hres)]) dX5_spread_104
    · have hres := (itl hres).2 c76
      refine lv_iload hx hb dX5_spread_79 (lv_at hl 3 rfl) ?_
      refine lv_iload_n hx hb dX5_spread_81 rfl (lv_at hl 2 rfl) ?_
      refine lv_aload_n hx hb dX5_spread_82 rfl (lv_at hl 0 rfl) ?_
      refine gX_this5_now hx hb hown hw5 hK hP u1 dX5_spread_83 ?_
      refine lv_iload hx hb dX5_spread_86 (lv_at hl 3 rfl) ?_
      refine lv_iload_n hx hb dX5_spread_88 rfl (lv_at hl 1 rfl) ?_
      obtain ⟨q89, e89, hres⟩ := obd hres
      refine cvI (q0 := 1) (ci := 3) hx hb hml hown hts hEo hE hK hP hS (kX3_nearTo l D a cI cJ cS hd hEo par kin lea mos wrt tal siz tol hrs ags yea kpar kkin klea kmos kwrt ktal ksiz ktol khrs kags kyea isk tly gai bes low hig spn byt hld sta beh sor num fnd sbi she snu x4 x2 q89 e89) gX5_spread_X3_nearTo rfl hdX3_nearTo rfl rfl rfl ⟨rfl, rfl⟩ ⟨Nat.le_of_ble_eq_true rfl, Nat.le_of_ble_eq_true rfl⟩ ⟨Nat.zero_le _, Nat.zero_le _⟩ rfl hl.1 rfl (Nat.le_of_ble_eq_true rfl) dX5_spread_89 (fun H locs hP hS => ?_)
      refine lv_iand hx hb dX5_spread_92 ?_
      refine lv_ior hx hb dX5_spread_93 ?_
      refine lv_istore (lv' := [(4, .int (x4 ||| (x3 &&& q89))), (0, .ref (a 0)), (2, .int x2), (3, .int x3), (5, .int x5)]) hx hb dX5_spread_94 hl (by decide) rfl (fun ls hl => ?_)
      refine lv_iinc (v := x5 + 1) (lv' := [(5, .int (x5 + 1)), (4, .int (x4 ||| (x3 &&& q89))), (0, .ref (a 0)), (2, .int x2), (3, .int x3)]) hx hb dX5_spread_96 hl (k := 4) rfl (congrArg (fun z => x5 + z) (by decide)) (by decide) rfl (fun ls hl => ?_)
      refine lv_goto (tgt := 67) hx hb dX5_spread_99 (by decide) ?_
      exact hK67 (x4 ||| (x3 &&& q89)) (x5 + 1) hres _ _ _ hP hS (lv_sub hl [2, 3, 4, 1, 0] rfl)
  unfold fX5_spread at hres
  refine lv_aload_n hx hb dX5_spread_0 rfl (lv_at hl 0 rfl) ?_
  refine gX_this5_now hx hb hown hw5 hK hP u1 dX5_spread_1 ?_
  refine lv_iload_n hx hb dX5_spread_4 rfl (lv_at hl 1 rfl) ?_
  refine cvI (q0 := 1) (ci := 3) hx hb hml hown hts hEo hE hK hP hS (kX3_hasTale l D a cI cJ cS hd hEo par kin lea mos wrt tal siz tol hrs ags yea kpar kkin klea kmos kwrt ktal ksiz ktol khrs kags kyea isk tly gai bes low hig spn byt hld sta beh sor num fnd sbi she snu x1) gX5_spread_X3_hasTale rfl hdX3_hasTale rfl rfl rfl ⟨rfl, rfl⟩ ⟨Nat.le_of_ble_eq_true rfl, Nat.le_of_ble_eq_true rfl⟩ ⟨Nat.zero_le _, Nat.zero_le _⟩ rfl hl.1 rfl (Nat.le_of_ble_eq_true rfl) dX5_spread_5 (fun H locs hP hS => ?_)
  refine lv_if_eq (tgt := 21) hx hb dX5_spread_8 (by decide) (fun c8 => ?_) (fun c8 => ?_)
  · have hres := (itl hres).1 c8
    exact b21 low hig spn fnd hres _ _ _ hP hS (lv_sub hl [0] rfl)
  · have hres := (itl hres).2 c8
    refine lv_iload_n hx hb dX5_spread_11 rfl (lv_at hl 2 rfl) ?_
    refine lv_iconst (v := 0) hx hb dX5_spread_12 (by decide) ?_
    refine lv_bipush (v := 99) hx hb dX5_spread_13 (by decide) ?_
    refine csI hx hb hml hown hts hEo hE hK hP hS (kX5_isIn l D a cI cJ cS hd hEo par kin lea mos wrt tal siz tol hrs ags yea kpar kkin klea kmos kwrt ktal ksiz ktol khrs kags kyea isk tly gai bes low hig spn byt hld sta beh sor num fnd sbi she snu x2 (0 : Int32) (99 : Int32)) gX5_spread_X5_isIn rfl hdX5_isIn ⟨rfl, rfl⟩ ⟨Nat.le_of_ble_eq_true rfl, Nat.le_of_ble_eq_true rfl⟩ ⟨Nat.zero_le _, Nat.zero_le _⟩ rfl hl.1 rfl (Nat.le_of_ble_eq_true rfl) dX5_spread_15 (fun H locs hP hS => ?_)
    refine lv_if_ne (tgt := 28) hx hb dX5_spread_18 (by decide) (fun c18 => ?_) (fun c18 => ?_)
    · have hres := (itl hres).2 c18
      refine lv_aload_n hx hb dX5_spread_28 rfl (lv_at hl 0 rfl) ?_
      refine gX_this5_now hx hb hown hw5 hK hP u1 dX5_spread_29 ?_
      refine gX_now_hearers hx hb hown hw3 hK hP u3 dX5_spread_32 ?_
      refine lv_if_ne (tgt := 45) hx hb dX5_spread_35 (by decide) (fun c35 => ?_) (fun c35 => ?_)
      · have hres := (itl hres).2 c35
        refine lv_aload_n hx hb dX5_spread_45 rfl (lv_at hl 0 rfl) ?_
        refine gX_this5_sayings hx hb hown hw5 hK hP u5 dX5_spread_46 ?_
        refine lv_iload_n hx hb dX5_spread_49 rfl (lv_at hl 1 rfl) ?_
        obtain ⟨q50, e50, hres⟩ := obd hres
        refine cvV (q0 := 17) (ci := 1) hx hb hml hown hts hEo hE hK hP hS (kX1_spanWords l D a cI cJ cS hd hEo par kin lea mos wrt tal siz tol hrs ags yea kpar kkin klea kmos kwrt ktal ksiz ktol khrs kags kyea isk tly gai bes low hig spn byt hld sta beh sor num fnd sbi she snu x1 q50 e50) gX5_spread_X1_spanWords rfl hdX1_spanWords rfl rfl rfl ⟨rfl, rfl⟩ ⟨Nat.le_of_ble_eq_true rfl, Nat.le_of_ble_eq_true rfl⟩ ⟨Nat.zero_le _, Nat.zero_le _⟩ rfl hl.1 rfl (Nat.le_of_ble_eq_true rfl) dX5_spread_50 (fun H locs hP hS => ?_)
        refine lv_aload_n hx hb dX5_spread_53 rfl (lv_at hl 0 rfl) ?_
        refine gX_this5_sayings hx hb hown hw5 hK hP u5 dX5_spread_54 ?_
        obtain ⟨q57, e57, hres⟩ := obd hres
        refine cvI (q0 := 17) (ci := 1) hx hb hml hown hts hEo hE hK hP hS (kX1_sayableTo l D a cI cJ cS hd hEo par kin lea mos wrt tal siz tol hrs ags yea kpar kkin klea kmos kwrt ktal ksiz ktol khrs kags kyea isk tly gai bes q50.1 q50.2.1 q50.2.2 byt hld sta beh sor num fnd sbi she snu  q57 e57) gX5_spread_X1_sayableTo rfl hdX1_sayableTo rfl rfl rfl ⟨rfl, rfl⟩ ⟨Nat.le_of_ble_eq_true rfl, Nat.le_of_ble_eq_true rfl⟩ ⟨Nat.zero_le _, Nat.zero_le _⟩ rfl hl.1 rfl (Nat.le_of_ble_eq_true rfl) dX5_spread_57 (fun H locs hP hS => ?_)
        refine lv_istore_n (lv' := [(3, .int q57), (0, .ref (a 0)), (1, .int x1), (2, .int x2)]) hx hb dX5_spread_60 rfl hl (by decide) rfl (fun ls hl => ?_)
        refine lv_iconst (v := 1) hx hb dX5_spread_61 (by decide) ?_
        refine lv_istore (lv' := [(4, .int (1 : Int32)), (3, .int q57), (0, .ref (a 0)), (1, .int x1), (2, .int x2)]) hx hb dX5_spread_62 hl (by decide) rfl (fun ls hl => ?_)
        refine lv_iconst (v := 1) hx hb dX5_spread_64 (by decide) ?_
        refine lv_istore (lv' := [(5, .int (1 : Int32)), (4, .int (1 : Int32)), (3, .int q57), (0, .ref (a 0)), (1, .int x1), (2, .int x2)]) hx hb dX5_spread_65 hl (by decide) rfl (fun ls hl => ?_)
        exact b67 q50.1 q50.2.1 q50.2.2 fnd q57 2000 (1 : Int32) (1 : Int32) hres _ _ _ hP hS (lv_sub hl [3, 5, 2, 1, 0] rfl)
      · have hres := (itl hres).1 c35
        refine lv_aload_n hx hb dX5_spread_38 rfl (lv_at hl 0 rfl) ?_
        refine lv_ldc hx hb hown u4 dX5_spread_39 ?_
        obtain ⟨q41, e41, hres⟩ := obd hres
        refine cvI (q0 := 0) (ci := 5) hx hb hml hown hts hEo hE hK hP hS (kX5_found l D a cI cJ cS hd hEo par kin lea mos wrt tal siz tol hrs ags yea kpar kkin klea kmos kwrt ktal ksiz ktol khrs kags kyea isk tly gai bes low hig spn byt hld sta beh sor num fnd sbi she snu (-1000000004 : Int32) q41 e41) gX5_spread_X5_found rfl hdX5_found rfl rfl rfl ⟨rfl, rfl⟩ ⟨Nat.le_of_ble_eq_true rfl, Nat.le_of_ble_eq_true rfl⟩ ⟨Nat.zero_le _, Nat.zero_le _⟩ rfl hl.1 rfl (Nat.le_of_ble_eq_true rfl) dX5_spread_41 (fun H locs hP hS => ?_)
        exact hQ ▸ rtI (v := q41.1)  hx hb hr hlk hP hS (by rw [← (Option.some.inj hres)]) (by rw [← (Option.some.inj hres)]) dX5_spread_44
    · have hres := (itl hres).1 c18
      exact b21 low hig spn fnd hres _ _ _ hP hS (lv_sub hl [0] rfl)
def fX5_feed_b64 (byt : Nat → Int32) (hld : Int32) (fnd : Nat → Int32) : Option (Int32 × (Nat → Int32) × Int32 × (Nat → Int32)) :=
  some (hld, byt, hld, fnd)
def fX5_feed_l41 (fnd : Nat → Int32) (x1 : Int32) (K41 : Int32 → (Nat → Int32) → Int32 → Option (Int32 × (Nat → Int32) × Int32 × (Nat → Int32))) (x3 : Int32) (byt : Nat → Int32) (hld : Int32) : Option (Int32 × (Nat → Int32) × Int32 × (Nat → Int32)) :=
  if x3 < 0 then fX5_feed_b64 byt hld fnd else (fX4_put byt hld ((x1.toUInt32 >>> (((8 : Int32) * x3).toUInt32 &&& Int32.toUInt32 31)).toInt32)).bind fun q55 => K41 (x3 + (-1)) q55.1 q55.2
def fX5_feed (byt : Nat → Int32) (hld : Int32) (fnd : Nat → Int32) (x1 : Int32) (x2 : Int32) : Option (Int32 × (Nat → Int32) × Int32 × (Nat → Int32)) :=
  if (bI (fX5_isIn x2 (1 : Int32) (4 : Int32))) = 0 then (fX5_found fnd (-1000000001 : Int32)).bind fun q12 => some (q12.1, byt, hld, q12.2) else if (hld + x2) ≤ (120 : Int32) then fix3 (fX5_feed_l41 fnd x1) 2000 (x2 - (1 : Int32)) byt hld else (fX5_found fnd (-1000000002 : Int32)).bind fun q33 => some (q33.1, byt, hld, q33.2)
theorem hdX4_put : yX4_put.cls = RX4 ∧ yX4_put.cls ≠ "java/lang/invoke/MethodHandle" ∧ yX4_put.cls ≠ "java/lang/invoke/VarHandle" ∧ (parseMethodDescriptor yX4_put.desc).map (fun d => d.parameters.length) = some 1 := by decide +kernel
abbrev rX5_feed : Room := { frames := 2, cells := 0, slots := 0, locals := 44 }
set_option maxHeartbeats 4000000 in
set_option maxRecDepth 100000 in
theorem kX5_feed (l : Launch) (D : va_G) (a : Nat → Nat) (cI cJ cS : ClassId) (hd : aok a 36) {Env : (Nat → Prop) → State → Heap → Prop} (hEo : envOK Env) (par : Int32) (kin lea mos wrt : Nat → Int32) (tal : Int32) (siz tol : Nat → Int32) (hrs : Int32) (ags : Nat → Int32) (yea kpar : Int32) (kkin klea kmos kwrt : Nat → Int32) (ktal : Int32) (ksiz ktol : Nat → Int32) (khrs : Int32) (kags : Nat → Int32) (kyea isk : Int32) (tly : Nat → Int64) (gai bes : Nat → Int32) (low hig : Nat → Int64) (spn : Int32) (byt : Nat → Int32) (hld sta beh sor num : Int32) (fnd sbi she : Nat → Int32) (snu : Nat → Nat → Int64) (x1 : Int32) (x2 : Int32) (res : Int32 × (Nat → Int32) × Int32 × (Nat → Int32)) (hres : fX5_feed byt hld fnd x1 x2 = some res) : CtI l D (tyL cI cJ cS) 36 a Env yX5_feed wsX5_feed rX5_feed [.ref (a 0), .int x1, .int x2] (wX a cI cJ cS par kin lea mos wrt tal siz tol hrs ags yea kpar kkin klea kmos kwrt ktal ksiz ktol khrs kags kyea isk tly gai bes low hig spn byt hld sta beh sor num fnd sbi she snu) (wX a cI cJ cS par kin lea mos wrt tal siz tol hrs ags yea kpar kkin klea kmos kwrt ktal ksiz ktol khrs kags kyea isk tly gai bes low hig spn res.2.1 res.2.2.1 sta beh sor num res.2.2.2 sbi she snu) res.1 := by
  refine CtI_mk (cc := cX5_feed) (maxL := 4) (ret := (some .int)) (by decide) rfl (Nat.le_of_ble_eq_true rfl) ?_
  intro p e s m args below meth c ls hx hb hr hlk hml hown hts hP hK hE hl
  have hS : va_S (adA a 36 s.heap.size) s.heap s.heap [] := va_S.rf
  have hl : lv_has ls 4 [(0, .ref (a 0)), (1, .int x1), (2, .int x2)] := hl
  have hown : s.vm.findClass RX5 = some m.cls := hown
  have hw4 : ∀ w ∈ wsX40, w.before args s = true := fun w h => hts w (List.mem_cons_of_mem _ (List.mem_append_right _ h))
  have hw5 : ∀ w ∈ wsX50, w.before args s = true := fun w h => hts w (List.mem_cons_of_mem _ (List.mem_append_left _ (List.mem_append_right _ h)))
  have u1 : (Cond.constant RX5 63 (-1000000001)).before args s = true := hts _ (List.mem_of_getElem? (i := 1) (by decide +kernel))
  have u2 : (Cond.fieldLink RX5 35 "YearWords" "tape" "LYearWords$Tape;").before args s = true := hts _ (List.mem_of_getElem? (i := 2) (by decide +kernel))
  have u3 : (Cond.fieldLink RX5 215 "YearWords$Tape" "held" "I").before args s = true := hts _ (List.mem_of_getElem? (i := 3) (by decide +kernel))
  have u4 : (Cond.constant RX5 72 (-1000000002)).before args s = true := hts _ (List.mem_of_getElem? (i := 4) (by decide +kernel))
  obtain ⟨Q, hQ⟩ : ∃ Q, Q = mqI below D 36 a args s (wX a cI cJ cS par kin lea mos wrt tal siz tol hrs ags yea kpar kkin klea kmos kwrt ktal ksiz ktol khrs kags kyea isk tly gai bes low hig spn res.2.1 res.2.2.1 sta beh sor num res.2.2.2 sbi she snu) res.1 := ⟨_, rfl⟩
  rw [← hQ]
  have b64 : ∀ (byt : Nat → Int32) (hld : Int32) (fnd : Nat → Int32), fX5_feed_b64 byt hld fnd = some res → ∀ (H : Heap) (locs : List Loc) (ls : Array Slot), va_P D vwCl (wX a cI cJ cS par kin lea mos wrt tal siz tol hrs ags yea kpar kkin klea kmos kwrt ktal ksiz ktol khrs kags kyea isk tly gai bes low hig spn byt hld sta beh sor num fnd sbi she snu) H → va_S (adA a 36 s.heap.size) s.heap H locs → lv_has ls 4 [(0, .ref (a 0))] → W p l e rX5_feed s m args below meth c H locs 0 0 Q (F0 m 64 ls []) := by
    intro byt hld fnd hres H locs ls hP hS hl
    unfold fX5_feed_b64 at hres
    refine lv_aload_n hx hb dX5_feed_64 rfl (lv_at hl 0 rfl) ?_
    refine gX_this5_tape hx hb hown hw5 hK hP u2 dX5_feed_65 ?_
    refine gX_tapo_held hx hb hown hw4 hK hP u3 dX5_feed_68 ?_
    exact hQ ▸ rtI (v := hld)  hx hb hr hlk hP hS (by rw [← (Option.some.inj hres)]) (by rw [← (Option.some.inj hres)]) dX5_feed_71
  have b41 : ∀ (fnd : Nat → Int32) (n : Nat) (x3 : Int32) (byt : Nat → Int32) (hld : Int32), fix3 (fX5_feed_l41 fnd x1) n x3 byt hld = some res → ∀ (H : Heap) (locs : List Loc) (ls : Array Slot), va_P D vwCl (wX a cI cJ cS par kin lea mos wrt tal siz tol hrs ags yea kpar kkin klea kmos kwrt ktal ksiz ktol khrs kags kyea isk tly gai bes low hig spn byt hld sta beh sor num fnd sbi she snu) H → va_S (adA a 36 s.heap.size) s.heap H locs → lv_has ls 4 [(0, .ref (a 0)), (1, .int x1), (3, .int x3)] → W p l e rX5_feed s m args below meth c H locs 0 0 Q (F0 m 41 ls []) := by
    intro fnd
    refine fix3_r ?_
    intro K41 hK41 x3 byt hld hres H locs ls hP hS hl
    unfold fX5_feed_l41 at hres
    refine lv_iload_n hx hb dX5_feed_41 rfl (lv_at hl 2 rfl) ?_
    refine lv_if_lt (tgt := 64) hx hb dX5_feed_42 (by decide) (fun c42 => ?_) (fun c42 => ?_)
    · have hres := (itl hres).1 c42
      exact b64 byt hld fnd hres _ _ _ hP hS (lv_sub hl [0] rfl)
    · have hres := (itl hres).2 c42
      refine lv_aload_n hx hb dX5_feed_45 rfl (lv_at hl 0 rfl) ?_
      refine gX_this5_tape hx hb hown hw5 hK hP u2 dX5_feed_46 ?_
      refine lv_iload_n hx hb dX5_feed_49 rfl (lv_at hl 1 rfl) ?_
      refine lv_bipush (v := 8) hx hb dX5_feed_50 (by decide) ?_
      refine lv_iload_n hx hb dX5_feed_52 rfl (lv_at hl 2 rfl) ?_
      refine lv_imul hx hb dX5_feed_53 ?_
      refine lv_iushr hx hb dX5_feed_54 rfl ?_
      obtain ⟨q55, e55, hres⟩ := obd hres
      refine cvV (q0 := 23) (ci := 4) hx hb hml hown hts hEo hE hK hP hS (kX4_put l D a cI cJ cS hd hEo par kin lea mos wrt tal siz tol hrs ags yea kpar kkin klea kmos kwrt ktal ksiz ktol khrs kags kyea isk tly gai bes low hig spn byt hld sta beh sor num fnd sbi she snu ((x1.toUInt32 >>> (((8 : Int32) * x3).toUInt32 &&& Int32.toUInt32 31)).toInt32) q55 e55) gX5_feed_X4_put rfl hdX4_put rfl rfl rfl ⟨rfl, rfl⟩ ⟨Nat.le_of_ble_eq_true rfl, Nat.le_of_ble_eq_true rfl⟩ ⟨Nat.zero_le _, Nat.zero_le _⟩ rfl hl.1 rfl (Nat.le_of_ble_eq_true rfl) dX5_feed_55 (fun H locs hP hS => ?_)
      refine lv_iinc (v := x3 + (-1)) (lv' := [(3, .int (x3 + (-1))), (0, .ref (a 0)), (1, .int x1)]) hx hb dX5_feed_58 hl (k := 2) rfl (congrArg (fun z => x3 + z) (by decide)) (by decide) rfl (fun ls hl => ?_)
      refine lv_goto (tgt := 41) hx hb dX5_feed_61 (by decide) ?_
      exact hK41 (x3 + (-1)) q55.1 q55.2 hres _ _ _ hP hS (lv_sub hl [1, 2, 0] rfl)
  unfold fX5_feed at hres
  refine lv_iload_n hx hb dX5_feed_0 rfl (lv_at hl 2 rfl) ?_
  refine lv_iconst (v := 1) hx hb dX5_feed_1 (by decide) ?_
  refine lv_iconst (v := 4) hx hb dX5_feed_2 (by decide) ?_
  refine csI hx hb hml hown hts hEo hE hK hP hS (kX5_isIn l D a cI cJ cS hd hEo par kin lea mos wrt tal siz tol hrs ags yea kpar kkin klea kmos kwrt ktal ksiz ktol khrs kags kyea isk tly gai bes low hig spn byt hld sta beh sor num fnd sbi she snu x2 (1 : Int32) (4 : Int32)) gX5_feed_X5_isIn rfl hdX5_isIn ⟨rfl, rfl⟩ ⟨Nat.le_of_ble_eq_true rfl, Nat.le_of_ble_eq_true rfl⟩ ⟨Nat.zero_le _, Nat.zero_le _⟩ rfl hl.1 rfl (Nat.le_of_ble_eq_true rfl) dX5_feed_3 (fun H locs hP hS => ?_)
  refine lv_if_ne (tgt := 16) hx hb dX5_feed_6 (by decide) (fun c6 => ?_) (fun c6 => ?_)
  · have hres := (itl hres).2 c6
    refine lv_aload_n hx hb dX5_feed_16 rfl (lv_at hl 0 rfl) ?_
    refine gX_this5_tape hx hb hown hw5 hK hP u2 dX5_feed_17 ?_
    refine gX_tapo_held hx hb hown hw4 hK hP u3 dX5_feed_20 ?_
    refine lv_iload_n hx hb dX5_feed_23 rfl (lv_at hl 2 rfl) ?_
    refine lv_iadd hx hb dX5_feed_24 ?_
    refine lv_bipush (v := 120) hx hb dX5_feed_25 (by decide) ?_
    refine lv_icmp_le (tgt := 37) hx hb dX5_feed_27 (by decide) (fun c27 => ?_) (fun c27 => ?_)
    · have hres := (itl hres).1 c27
      refine lv_iload_n hx hb dX5_feed_37 rfl (lv_at hl 2 rfl) ?_
      refine lv_iconst (v := 1) hx hb dX5_feed_38 (by decide) ?_
      refine lv_isub hx hb dX5_feed_39 ?_
      refine lv_istore_n (lv' := [(3, .int (x2 - (1 : Int32))), (0, .ref (a 0)), (1, .int x1), (2, .int x2)]) hx hb dX5_feed_40 rfl hl (by decide) rfl (fun ls hl => ?_)
      exact b41 fnd 2000 (x2 - (1 : Int32)) byt hld hres _ _ _ hP hS (lv_sub hl [1, 2, 0] rfl)
    · have hres := (itl hres).2 c27
      refine lv_aload_n hx hb dX5_feed_30 rfl (lv_at hl 0 rfl) ?_
      refine lv_ldc hx hb hown u4 dX5_feed_31 ?_
      obtain ⟨q33, e33, hres⟩ := obd hres
      refine cvI (q0 := 0) (ci := 5) hx hb hml hown hts hEo hE hK hP hS (kX5_found l D a cI cJ cS hd hEo par kin lea mos wrt tal siz tol hrs ags yea kpar kkin klea kmos kwrt ktal ksiz ktol khrs kags kyea isk tly gai bes low hig spn byt hld sta beh sor num fnd sbi she snu (-1000000002 : Int32) q33 e33) gX5_feed_X5_found rfl hdX5_found rfl rfl rfl ⟨rfl, rfl⟩ ⟨Nat.le_of_ble_eq_true rfl, Nat.le_of_ble_eq_true rfl⟩ ⟨Nat.zero_le _, Nat.zero_le _⟩ rfl hl.1 rfl (Nat.le_of_ble_eq_true rfl) dX5_feed_33 (fun H locs hP hS => ?_)
      exact hQ ▸ rtI (v := q33.1)  hx hb hr hlk hP hS (by rw [← (Option.some.inj hres)]) (by rw [← (Option.some.inj hres)]) dX5_feed_36
  · have hres := (itl hres).1 c6
    refine lv_aload_n hx hb dX5_feed_9 rfl (lv_at hl 0 rfl) ?_
    refine lv_ldc hx hb hown u1 dX5_feed_10 ?_
    obtain ⟨q12, e12, hres⟩ := obd hres
    refine cvI (q0 := 0) (ci := 5) hx hb hml hown hts hEo hE hK hP hS (kX5_found l D a cI cJ cS hd hEo par kin lea mos wrt tal siz tol hrs ags yea kpar kkin klea kmos kwrt ktal ksiz ktol khrs kags kyea isk tly gai bes low hig spn byt hld sta beh sor num fnd sbi she snu (-1000000001 : Int32) q12 e12) gX5_feed_X5_found rfl hdX5_found rfl rfl rfl ⟨rfl, rfl⟩ ⟨Nat.le_of_ble_eq_true rfl, Nat.le_of_ble_eq_true rfl⟩ ⟨Nat.zero_le _, Nat.zero_le _⟩ rfl hl.1 rfl (Nat.le_of_ble_eq_true rfl) dX5_feed_12 (fun H locs hP hS => ?_)
    exact hQ ▸ rtI (v := q12.1)  hx hb hr hlk hP hS (by rw [← (Option.some.inj hres)]) (by rw [← (Option.some.inj hres)]) dX5_feed_15
def fX5_wipe (hld : Int32) : Int32 × Int32 :=
 ((fX4_clear hld).1, (fX4_clear hld).2)
theorem hdX4_clear : yX4_clear.cls = RX4 ∧ yX4_clear.cls ≠ "java/lang/invoke/MethodHandle" ∧ yX4_clear.cls ≠ "java/lang/invoke/VarHandle" ∧ (parseMethodDescriptor yX4_clear.desc).map (fun d => d.parameters.length) = some 0 := by decide +kernel
abbrev rX5_wipe : Room := { frames := 1, cells := 0, slots := 0, locals := 21 }
set_option maxHeartbeats 4000000 in
set_option maxRecDepth 100000 in
theorem kX5_wipe (l : Launch) (D : va_G) (a : Nat → Nat) (cI cJ cS : ClassId) (hd : aok a 36) {Env : (Nat → Prop) → State → Heap → Prop} (hEo : envOK Env) (par : Int32) (kin lea mos wrt : Nat → Int32) (tal : Int32) (siz tol : Nat → Int32) (hrs : Int32) (ags : Nat → Int32) (yea kpar : Int32) (kkin klea kmos kwrt : Nat → Int32) (ktal : Int32) (ksiz ktol : Nat → Int32) (khrs : Int32) (kags : Nat → Int32) (kyea isk : Int32) (tly : Nat → Int64) (gai bes : Nat → Int32) (low hig : Nat → Int64) (spn : Int32) (byt : Nat → Int32) (hld sta beh sor num : Int32) (fnd sbi she : Nat → Int32) (snu : Nat → Nat → Int64)  : CtI l D (tyL cI cJ cS) 36 a Env yX5_wipe wsX5_wipe rX5_wipe [.ref (a 0)] (wX a cI cJ cS par kin lea mos wrt tal siz tol hrs ags yea kpar kkin klea kmos kwrt ktal ksiz ktol khrs kags kyea isk tly gai bes low hig spn byt hld sta beh sor num fnd sbi she snu) (wX a cI cJ cS par kin lea mos wrt tal siz tol hrs ags yea kpar kkin klea kmos kwrt ktal ksiz ktol khrs kags kyea isk tly gai bes low hig spn byt (fX5_wipe hld).2 sta beh sor num fnd sbi she snu) (fX5_wipe hld).1 := by
  generalize hres : fX5_wipe hld = res
  refine CtI_mk (cc := cX5_wipe) (maxL := 1) (ret := (some .int)) (by decide) rfl (Nat.le_of_ble_eq_true rfl) ?_
  intro p e s m args below meth c ls hx hb hr hlk hml hown hts hP hK hE hl
  have hS : va_S (adA a 36 s.heap.size) s.heap s.heap [] := va_S.rf
  have hl : lv_has ls 1 [(0, .ref (a 0))] := hl
  have hown : s.vm.findClass RX5 = some m.cls := hown
  have hw5 : ∀ w ∈ wsX50, w.before args s = true := fun w h => hts w (List.mem_cons_of_mem _ (List.mem_append_left _ (List.mem_append_right _ h)))
  have u1 : (Cond.fieldLink RX5 35 "YearWords" "tape" "LYearWords$Tape;").before args s = true := hts _ (List.mem_of_getElem? (i := 1) (by decide +kernel))
  obtain ⟨Q, hQ⟩ : ∃ Q, Q = mqI below D 36 a args s (wX a cI cJ cS par kin lea mos wrt tal siz tol hrs ags yea kpar kkin klea kmos kwrt ktal ksiz ktol khrs kags kyea isk tly gai bes low hig spn byt res.2 sta beh sor num fnd sbi she snu) res.1 := ⟨_, rfl⟩
  rw [← hQ]
  unfold fX5_wipe at hres
  refine lv_aload_n hx hb dX5_wipe_0 rfl (lv_at hl 0 rfl) ?_
  refine gX_this5_tape hx hb hown hw5 hK hP u1 dX5_wipe_1 ?_
  refine cvI (q0 := 23) (ci := 4) hx hb hml hown hts hEo hE hK hP hS (kX4_clear l D a cI cJ cS hd hEo par kin lea mos wrt tal siz tol hrs ags yea kpar kkin klea kmos kwrt ktal ksiz ktol khrs kags kyea isk tly gai bes low hig spn byt hld sta beh sor num fnd sbi she snu ) gX5_wipe_X4_clear rfl hdX4_clear rfl rfl rfl ⟨rfl, rfl⟩ ⟨Nat.le_of_ble_eq_true rfl, Nat.le_of_ble_eq_true rfl⟩ ⟨Nat.zero_le _, Nat.zero_le _⟩ rfl hl.1 rfl (Nat.le_of_ble_eq_true rfl) dX5_wipe_4 (fun H locs hP hS => ?_)
  exact hQ ▸ rtI (v := (fX4_clear hld).1)  hx hb hr hlk hP hS (by rw [← hres]) (by rw [← hres]) dX5_wipe_7
def fX5_book_b48 (par : Int32) (kin : Nat → Int32) (lea : Nat → Int32) (mos : Nat → Int32) (wrt : Nat → Int32) (tal : Int32) (siz : Nat → Int32) (tol : Nat → Int32) (hrs : Int32) (ags : Nat → Int32) (hld : Int32) (sta : Int32) (beh : Int32) (sor : Int32) (num : Int32) (x4 : Int32) : Option (Int32 × Int32 × (Nat → Int32) × (Nat → Int32) × (Nat → Int32) × (Nat → Int32) × Int32 × (Nat → Int32) × (Nat → Int32) × Int32 × (Nat → Int32) × Int32 × Int32 × Int32 × Int32 × Int32) :=
  some (x4, par, kin, lea, mos, wrt, tal, siz, tol, hrs, ags, (fX4_clear hld).2, sta, beh, sor, num)
def fX5_book (par : Int32) (kin : Nat → Int32) (lea : Nat → Int32) (mos : Nat → Int32) (wrt : Nat → Int32) (tal : Int32) (siz : Nat → Int32) (tol : Nat → Int32) (hrs : Int32) (ags : Nat → Int32) (byt : Nat → Int32) (hld : Int32) (sta : Int32) (beh : Int32) (sor : Int32) (num : Int32) : Option (Int32 × Int32 × (Nat → Int32) × (Nat → Int32) × (Nat → Int32) × (Nat → Int32) × Int32 × (Nat → Int32) × (Nat → Int32) × Int32 × (Nat → Int32) × Int32 × Int32 × Int32 × Int32 × Int32) :=
 (fX0_readText par kin lea mos wrt tal siz tol hrs ags byt hld sta beh sor num).bind fun q28 => if 0 ≤ q28.1 then fX5_book_b48 q28.2.1 q28.2.2.1 q28.2.2.2.1 q28.2.2.2.2.1 q28.2.2.2.2.2.1 q28.2.2.2.2.2.2.1 q28.2.2.2.2.2.2.2.1 q28.2.2.2.2.2.2.2.2.1 q28.2.2.2.2.2.2.2.2.2.1 q28.2.2.2.2.2.2.2.2.2.2.1 hld q28.2.2.2.2.2.2.2.2.2.2.2.1 q28.2.2.2.2.2.2.2.2.2.2.2.2.1 q28.2.2.2.2.2.2.2.2.2.2.2.2.2.1 q28.2.2.2.2.2.2.2.2.2.2.2.2.2.2 q28.1 else fX5_book_b48 ((fX3_shrinkTo q28.2.1 q28.2.2.2.2.2.2.1 q28.2.2.2.2.2.2.2.2.2.1 par tal hrs).1) q28.2.2.1 q28.2.2.2.1 q28.2.2.2.2.1 q28.2.2.2.2.2.1 ((fX3_shrinkTo q28.2.1 q28.2.2.2.2.2.2.1 q28.2.2.2.2.2.2.2.2.2.1 par tal hrs).2.1) q28.2.2.2.2.2.2.2.1 q28.2.2.2.2.2.2.2.2.1 ((fX3_shrinkTo q28.2.1 q28.2.2.2.2.2.2.1 q28.2.2.2.2.2.2.2.2.2.1 par tal hrs).2.2) q28.2.2.2.2.2.2.2.2.2.2.1 hld q28.2.2.2.2.2.2.2.2.2.2.2.1 q28.2.2.2.2.2.2.2.2.2.2.2.2.1 q28.2.2.2.2.2.2.2.2.2.2.2.2.2.1 q28.2.2.2.2.2.2.2.2.2.2.2.2.2.2 q28.1
theorem hdX0_readText : yX0_readText.cls = RX0 ∧ yX0_readText.cls ≠ "java/lang/invoke/MethodHandle" ∧ yX0_readText.cls ≠ "java/lang/invoke/VarHandle" ∧ (parseMethodDescriptor yX0_readText.desc).map (fun d => d.parameters.length) = some 0 := by decide +kernel
theorem hdX3_shrinkTo : yX3_shrinkTo.cls = RX3 ∧ yX3_shrinkTo.cls ≠ "java/lang/invoke/MethodHandle" ∧ yX3_shrinkTo.cls ≠ "java/lang/invoke/VarHandle" ∧ (parseMethodDescriptor yX3_shrinkTo.desc).map (fun d => d.parameters.length) = some 3 := by decide +kernel
abbrev rX5_book : Room := { frames := 8, cells := 0, slots := 0, locals := 173 }
set_option maxHeartbeats 4000000 in
set_option maxRecDepth 100000 in
theorem kX5_book (l : Launch) (D : va_G) (a : Nat → Nat) (cI cJ cS : ClassId) (hd : aok a 36) {Env : (Nat → Prop) → State → Heap → Prop} (hEo : envOK Env) (ut : Nat) (sa sb : Nat → Nat) (hEX : envX Env ut sa sb) (par : Int32) (kin lea mos wrt : Nat → Int32) (tal : Int32) (siz tol : Nat → Int32) (hrs : Int32) (ags : Nat → Int32) (yea kpar : Int32) (kkin klea kmos kwrt : Nat → Int32) (ktal : Int32) (ksiz ktol : Nat → Int32) (khrs : Int32) (kags : Nat → Int32) (kyea isk : Int32) (tly : Nat → Int64) (gai bes : Nat → Int32) (low hig : Nat → Int64) (spn : Int32) (byt : Nat → Int32) (hld sta beh sor num : Int32) (fnd sbi she : Nat → Int32) (snu : Nat → Nat → Int64)  (res : Int32 × Int32 × (Nat → Int32) × (Nat → Int32) × (Nat → Int32) × (Nat → Int32) × Int32 × (Nat → Int32) × (Nat → Int32) × Int32 × (Nat → Int32) × Int32 × Int32 × Int32 × Int32 × Int32) (hres : fX5_book par kin lea mos wrt tal siz tol hrs ags byt hld sta beh sor num = some res) : CtI l D (tyL cI cJ cS) 36 a Env yX5_book wsX5_book rX5_book [.ref (a 0)] (wX a cI cJ cS par kin lea mos wrt tal siz tol hrs ags yea kpar kkin klea kmos kwrt ktal ksiz ktol khrs kags kyea isk tly gai bes low hig spn byt hld sta beh sor num fnd sbi she snu) (wX a cI cJ cS res.2.1 res.2.2.1 res.2.2.2.1 res.2.2.2.2.1 res.2.2.2.2.2.1 res.2.2.2.2.2.2.1 res.2.2.2.2.2.2.2.1 res.2.2.2.2.2.2.2.2.1 res.2.2.2.2.2.2.2.2.2.1 res.2.2.2.2.2.2.2.2.2.2.1 yea kpar kkin klea kmos kwrt ktal ksiz ktol khrs kags kyea isk tly gai bes low hig spn byt res.2.2.2.2.2.2.2.2.2.2.2.1 res.2.2.2.2.2.2.2.2.2.2.2.2.1 res.2.2.2.2.2.2.2.2.2.2.2.2.2.1 res.2.2.2.2.2.2.2.2.2.2.2.2.2.2.1 res.2.2.2.2.2.2.2.2.2.2.2.2.2.2.2 fnd sbi she snu) res.1 := by
  refine CtI_mk (cc := cX5_book) (maxL := 5) (ret := (some .int)) (by decide) rfl (Nat.le_of_ble_eq_true rfl) ?_
  intro p e s m args below meth c ls hx hb hr hlk hml hown hts hP hK hE hl
  have hS : va_S (adA a 36 s.heap.size) s.heap s.heap [] := va_S.rf
  have hl : lv_has ls 5 [(0, .ref (a 0))] := hl
  have hown : s.vm.findClass RX5 = some m.cls := hown
  have hw3 : ∀ w ∈ wsX30, w.before args s = true := fun w h => hts w (List.mem_cons_of_mem _ (List.mem_append_left _ (List.mem_append_left _ (List.mem_append_right _ h))))
  have hw5 : ∀ w ∈ wsX50, w.before args s = true := fun w h => hts w (List.mem_cons_of_mem _ (List.mem_append_left _ (List.mem_append_left _ (List.mem_append_left _ (List.mem_append_right _ h)))))
  have u1 : (Cond.fieldLink RX5 12 "YearWords" "now" "LYearWords$Stock;").before args s = true := hts _ (List.mem_of_getElem? (i := 1) (by decide +kernel))
  have u2 : (Cond.fieldLink RX5 68 "YearWords$Stock" "parts" "I").before args s = true := hts _ (List.mem_of_getElem? (i := 2) (by decide +kernel))
  have u3 : (Cond.fieldLink RX5 113 "YearWords$Stock" "tales" "I").before args s = true := hts _ (List.mem_of_getElem? (i := 3) (by decide +kernel))
  have u4 : (Cond.fieldLink RX5 174 "YearWords$Stock" "hearers" "I").before args s = true := hts _ (List.mem_of_getElem? (i := 4) (by decide +kernel))
  have u5 : (Cond.fieldLink RX5 44 "YearWords" "reading" "LYearWords$Reading;").before args s = true := hts _ (List.mem_of_getElem? (i := 5) (by decide +kernel))
  have u6 : (Cond.fieldLink RX5 35 "YearWords" "tape" "LYearWords$Tape;").before args s = true := hts _ (List.mem_of_getElem? (i := 6) (by decide +kernel))
  obtain ⟨Q, hQ⟩ : ∃ Q, Q = mqI below D 36 a args s (wX a cI cJ cS res.2.1 res.2.2.1 res.2.2.2.1 res.2.2.2.2.1 res.2.2.2.2.2.1 res.2.2.2.2.2.2.1 res.2.2.2.2.2.2.2.1 res.2.2.2.2.2.2.2.2.1 res.2.2.2.2.2.2.2.2.2.1 res.2.2.2.2.2.2.2.2.2.2.1 yea kpar kkin klea kmos kwrt ktal ksiz ktol khrs kags kyea isk tly gai bes low hig spn byt res.2.2.2.2.2.2.2.2.2.2.2.1 res.2.2.2.2.2.2.2.2.2.2.2.2.1 res.2.2.2.2.2.2.2.2.2.2.2.2.2.1 res.2.2.2.2.2.2.2.2.2.2.2.2.2.2.1 res.2.2.2.2.2.2.2.2.2.2.2.2.2.2.2 fnd sbi she snu) res.1 := ⟨_, rfl⟩
  rw [← hQ]
  have b48 : ∀ (par : Int32) (kin : Nat → Int32) (lea : Nat → Int32) (mos : Nat → Int32) (wrt : Nat → Int32) (tal : Int32) (siz : Nat → Int32) (tol : Nat → Int32) (hrs : Int32) (ags : Nat → Int32) (hld : Int32) (sta : Int32) (beh : Int32) (sor : Int32) (num : Int32) (x4 : Int32), fX5_book_b48 par kin lea mos wrt tal siz tol hrs ags hld sta beh sor num x4 = some res → ∀ (H : Heap) (locs : List Loc) (ls : Array Slot), va_P D vwCl (wX a cI cJ cS par kin lea mos wrt tal siz tol hrs ags yea kpar kkin klea kmos kwrt ktal ksiz ktol khrs kags kyea isk tly gai bes low hig spn byt hld sta beh sor num fnd sbi she snu) H → va_S (adA a 36 s.heap.size) s.heap H locs → lv_has ls 5 [(0, .ref (a 0)), (4, .int x4)] → W p l e rX5_book s m args below meth c H locs 0 0 Q (F0 m 48 ls []) := by
    intro par kin lea mos wrt tal siz tol hrs ags hld sta beh sor num x4 hres H locs ls hP hS hl
    unfold fX5_book_b48 at hres
    refine lv_aload_n hx hb dX5_book_48 rfl (lv_at hl 0 rfl) ?_
    refine gX_this5_tape hx hb hown hw5 hK hP u6 dX5_book_49 ?_
    refine cvI (q0 := 23) (ci := 4) hx hb hml hown hts hEo hE hK hP hS (kX4_clear l D a cI cJ cS hd hEo par kin lea mos wrt tal siz tol hrs ags yea kpar kkin klea kmos kwrt ktal ksiz ktol khrs kags kyea isk tly gai bes low hig spn byt hld sta beh sor num fnd sbi she snu ) gX5_book_X4_clear rfl hdX4_clear rfl rfl rfl ⟨rfl, rfl⟩ ⟨Nat.le_of_ble_eq_true rfl, Nat.le_of_ble_eq_true rfl⟩ ⟨Nat.zero_le _, Nat.zero_le _⟩ rfl hl.1 rfl (Nat.le_of_ble_eq_true rfl) dX5_book_52 (fun H locs hP hS => ?_)
    refine lv_pop hx hb dX5_book_55 rfl ?_
    refine lv_iload hx hb dX5_book_56 (lv_at hl 1 rfl) ?_
    exact hQ ▸ rtI (v := x4)  hx hb hr hlk hP hS (by rw [← (Option.some.inj hres)]) (by rw [← (Option.some.inj hres)]) dX5_book_58
  unfold fX5_book at hres
  refine lv_aload_n hx hb dX5_book_0 rfl (lv_at hl 0 rfl) ?_
  refine gX_this5_now hx hb hown hw5 hK hP u1 dX5_book_1 ?_
  refine gX_now_parts hx hb hown hw3 hK hP u2 dX5_book_4 ?_
  refine lv_istore_n (lv' := [(1, .int par), (0, .ref (a 0))]) hx hb dX5_book_7 rfl hl (by decide) rfl (fun ls hl => ?_)
  refine lv_aload_n hx hb dX5_book_8 rfl (lv_at hl 1 rfl) ?_
  refine gX_this5_now hx hb hown hw5 hK hP u1 dX5_book_9 ?_
  refine gX_now_tales hx hb hown hw3 hK hP u3 dX5_book_12 ?_
  refine lv_istore_n (lv' := [(2, .int tal), (1, .int par), (0, .ref (a 0))]) hx hb dX5_book_15 rfl hl (by decide) rfl (fun ls hl => ?_)
  refine lv_aload_n hx hb dX5_book_16 rfl (lv_at hl 2 rfl) ?_
  refine gX_this5_now hx hb hown hw5 hK hP u1 dX5_book_17 ?_
  refine gX_now_hearers hx hb hown hw3 hK hP u4 dX5_book_20 ?_
  refine lv_istore_n (lv' := [(3, .int hrs), (2, .int tal), (1, .int par), (0, .ref (a 0))]) hx hb dX5_book_23 rfl hl (by decide) rfl (fun ls hl => ?_)
  refine lv_aload_n hx hb dX5_book_24 rfl (lv_at hl 3 rfl) ?_
  refine gX_this5_reading hx hb hown hw5 hK hP u5 dX5_book_25 ?_
  obtain ⟨q28, e28, hres⟩ := obd hres
  refine cvI (q0 := 25) (ci := 0) hx hb hml hown hts hEo hE hK hP hS (kX0_readText l D a cI cJ cS hd hEo ut sa sb hEX par kin lea mos wrt tal siz tol hrs ags yea kpar kkin klea kmos kwrt ktal ksiz ktol khrs kags kyea isk tly gai bes low hig spn byt hld sta beh sor num fnd sbi she snu  q28 e28) gX5_book_X0_readText rfl hdX0_readText rfl rfl rfl ⟨rfl, rfl⟩ ⟨Nat.le_of_ble_eq_true rfl, Nat.le_of_ble_eq_true rfl⟩ ⟨Nat.zero_le _, Nat.zero_le _⟩ rfl hl.1 rfl (Nat.le_of_ble_eq_true rfl) dX5_book_28 (fun H locs hP hS => ?_)
  refine lv_istore (lv' := [(4, .int q28.1), (3, .int hrs), (2, .int tal), (1, .int par), (0, .ref (a 0))]) hx hb dX5_book_31 hl (by decide) rfl (fun ls hl => ?_)
  refine lv_iload hx hb dX5_book_33 (lv_at hl 0 rfl) ?_
  refine lv_if_ge (tgt := 48) hx hb dX5_book_35 (by decide) (fun c35 => ?_) (fun c35 => ?_)
  · have hres := (itl hres).1 c35
    exact b48 q28.2.1 q28.2.2.1 q28.2.2.2.1 q28.2.2.2.2.1 q28.2.2.2.2.2.1 q28.2.2.2.2.2.2.1 q28.2.2.2.2.2.2.2.1 q28.2.2.2.2.2.2.2.2.1 q28.2.2.2.2.2.2.2.2.2.1 q28.2.2.2.2.2.2.2.2.2.2.1 hld q28.2.2.2.2.2.2.2.2.2.2.2.1 q28.2.2.2.2.2.2.2.2.2.2.2.2.1 q28.2.2.2.2.2.2.2.2.2.2.2.2.2.1 q28.2.2.2.2.2.2.2.2.2.2.2.2.2.2 q28.1 hres _ _ _ hP hS (lv_sub hl [4, 0] rfl)
  · have hres := (itl hres).2 c35
    refine lv_aload_n hx hb dX5_book_38 rfl (lv_at hl 4 rfl) ?_
    refine gX_this5_now hx hb hown hw5 hK hP u1 dX5_book_39 ?_
    refine lv_iload_n hx hb dX5_book_42 rfl (lv_at hl 3 rfl) ?_
    refine lv_iload_n hx hb dX5_book_43 rfl (lv_at hl 2 rfl) ?_
    refine lv_iload_n hx hb dX5_book_44 rfl (lv_at hl 1 rfl) ?_
    refine cvV (q0 := 1) (ci := 3) hx hb hml hown hts hEo hE hK hP hS (kX3_shrinkTo l D a cI cJ cS hd hEo q28.2.1 q28.2.2.1 q28.2.2.2.1 q28.2.2.2.2.1 q28.2.2.2.2.2.1 q28.2.2.2.2.2.2.1 q28.2.2.2.2.2.2.2.1 q28.2.2.2.2.2.2.2.2.1 q28.2.2.2.2.2.2.2.2.2.1 q28.2.2.2.2.2.2.2.2.2.2.1 yea kpar kkin klea kmos kwrt ktal ksiz ktol khrs kags kyea isk tly gai bes low hig spn byt hld q28.2.2.2.2.2.2.2.2.2.2.2.1 q28.2.2.2.2.2.2.2.2.2.2.2.2.1 q28.2.2.2.2.2.2.2.2.2.2.2.2.2.1 q28.2.2.2.2.2.2.2.2.2.2.2.2.2.2 fnd sbi she snu par tal hrs) gX5_book_X3_shrinkTo rfl hdX3_shrinkTo rfl rfl rfl ⟨rfl, rfl⟩ ⟨Nat.le_of_ble_eq_true rfl, Nat.le_of_ble_eq_true rfl⟩ ⟨Nat.zero_le _, Nat.zero_le _⟩ rfl hl.1 rfl (Nat.le_of_ble_eq_true rfl) dX5_book_45 (fun H locs hP hS => ?_)
    exact b48 ((fX3_shrinkTo q28.2.1 q28.2.2.2.2.2.2.1 q28.2.2.2.2.2.2.2.2.2.1 par tal hrs).1) q28.2.2.1 q28.2.2.2.1 q28.2.2.2.2.1 q28.2.2.2.2.2.1 ((fX3_shrinkTo q28.2.1 q28.2.2.2.2.2.2.1 q28.2.2.2.2.2.2.2.2.2.1 par tal hrs).2.1) q28.2.2.2.2.2.2.2.1 q28.2.2.2.2.2.2.2.2.1 ((fX3_shrinkTo q28.2.1 q28.2.2.2.2.2.2.1 q28.2.2.2.2.2.2.2.2.2.1 par tal hrs).2.2) q28.2.2.2.2.2.2.2.2.2.2.1 hld q28.2.2.2.2.2.2.2.2.2.2.2.1 q28.2.2.2.2.2.2.2.2.2.2.2.2.1 q28.2.2.2.2.2.2.2.2.2.2.2.2.2.1 q28.2.2.2.2.2.2.2.2.2.2.2.2.2.2 q28.1 hres _ _ _ hP hS (lv_sub hl [4, 0] rfl)
def fX5_sheet_b43 (fnd : Nat → Int32) (sbi : Nat → Int32) (she : Nat → Int32) (snu : Nat → Nat → Int64) : Option (Int32 × (Nat → Int32) × (Nat → Int32) × (Nat → Int32) × (Nat → Nat → Int64)) :=
 (fX5_found fnd (-1000000001 : Int32)).bind fun q46 => some (q46.1, q46.2, sbi, she, snu)
def fX5_sheet_b27 (fnd : Nat → Int32) (sbi : Nat → Int32) (she : Nat → Int32) (snu : Nat → Nat → Int64) (x1 : Int32) (x2 : Int32) (x3 : Int32) (z0 : Bool) : Option (Int32 × (Nat → Int32) × (Nat → Int32) × (Nat → Int32) × (Nat → Nat → Int64)) :=
  if (bI (fX5_isIn x1 (0 : Int32) (3 : Int32))) = 0 then fX5_sheet_b43 fnd sbi she snu else if (bI z0) = 0 then fX5_sheet_b43 fnd sbi she snu else if 0 ≤ x3 then if x3 ≤ (40 : Int32) then gd (ib x1 4) ((fX2_renew sbi she snu x1 x2 x3).bind fun q82 => some (q82.1, fnd, q82.2.1, q82.2.2.1, q82.2.2.2)) else (fX5_found fnd (-1000000001 : Int32)).bind fun q70 => some (q70.1, q70.2, sbi, she, snu) else (fX5_found fnd (-1000000007 : Int32)).bind fun q57 => some (q57.1, q57.2, sbi, she, snu)
def fX5_sheet_b22 (fnd : Nat → Int32) (sbi : Nat → Int32) (she : Nat → Int32) (snu : Nat → Nat → Int64) (x1 : Int32) (x2 : Int32) (x3 : Int32) : Option (Int32 × (Nat → Int32) × (Nat → Int32) × (Nat → Int32) × (Nat → Nat → Int64)) :=
  fX5_sheet_b27 fnd sbi she snu x1 x2 x3 true
def fX5_sheet (fnd : Nat → Int32) (sbi : Nat → Int32) (she : Nat → Int32) (snu : Nat → Nat → Int64) (x1 : Int32) (x2 : Int32) (x3 : Int32) : Option (Int32 × (Nat → Int32) × (Nat → Int32) × (Nat → Int32) × (Nat → Nat → Int64)) :=
  if x2 = 0 then fX5_sheet_b22 fnd sbi she snu x1 x2 x3 else if x2 = (8 : Int32) then fX5_sheet_b22 fnd sbi she snu x1 x2 x3 else if x2 = (16 : Int32) then fX5_sheet_b22 fnd sbi she snu x1 x2 x3 else if x2 = (64 : Int32) then fX5_sheet_b22 fnd sbi she snu x1 x2 x3 else fX5_sheet_b27 fnd sbi she snu x1 x2 x3 false
theorem hdX2_renew : yX2_renew.cls = RX2 ∧ yX2_renew.cls ≠ "java/lang/invoke/MethodHandle" ∧ yX2_renew.cls ≠ "java/lang/invoke/VarHandle" ∧ (parseMethodDescriptor yX2_renew.desc).map (fun d => d.parameters.length) = some 2 := by decide +kernel
abbrev rX5_sheet : Room := { frames := 2, cells := 0, slots := 0, locals := 44 }
set_option maxHeartbeats 4000000 in
set_option maxRecDepth 100000 in
theorem kX5_sheet (l : Launch) (D : va_G) (a : Nat → Nat) (cI cJ cS : ClassId) (hd : aok a 36) {Env : (Nat → Prop) → State → Heap → Prop} (hEo : envOK Env) (par : Int32) (kin lea mos wrt : Nat → Int32) (tal : Int32) (siz tol : Nat → Int32) (hrs : Int32) (ags : Nat → Int32) (yea kpar : Int32) (kkin klea kmos kwrt : Nat → Int32) (ktal : Int32) (ksiz ktol : Nat → Int32) (khrs : Int32) (kags : Nat → Int32) (kyea isk : Int32) (tly : Nat → Int64) (gai bes : Nat → Int32) (low hig : Nat → Int64) (spn : Int32) (byt : Nat → Int32) (hld sta beh sor num : Int32) (fnd sbi she : Nat → Int32) (snu : Nat → Nat → Int64) (x1 : Int32) (x2 : Int32) (x3 : Int32) (res : Int32 × (Nat → Int32) × (Nat → Int32) × (Nat → Int32) × (Nat → Nat → Int64)) (hres : fX5_sheet fnd sbi she snu x1 x2 x3 = some res) : CtI l D (tyL cI cJ cS) 36 a Env yX5_sheet wsX5_sheet rX5_sheet [.ref (a 0), .int x1, .int x2, .int x3] (wX a cI cJ cS par kin lea mos wrt tal siz tol hrs ags yea kpar kkin klea kmos kwrt ktal ksiz ktol khrs kags kyea isk tly gai bes low hig spn byt hld sta beh sor num fnd sbi she snu) (wX a cI cJ cS par kin lea mos wrt tal siz tol hrs ags yea kpar kkin klea kmos kwrt ktal ksiz ktol khrs kags kyea isk tly gai bes low hig spn byt hld sta beh sor num res.2.1 res.2.2.1 res.2.2.2.1 res.2.2.2.2) res.1 := by
  refine CtI_mk (cc := cX5_sheet) (maxL := 5) (ret := (some .int)) (by decide) rfl (Nat.le_of_ble_eq_true rfl) ?_
  intro p e s m args below meth c ls hx hb hr hlk hml hown hts hP hK hE hl
  have hS : va_S (adA a 36 s.heap.size) s.heap s.heap [] := va_S.rf
  have hl : lv_has ls 5 [(0, .ref (a 0)), (1, .int x1), (2, .int x2), (3, .int x3)] := hl
  have hown : s.vm.findClass RX5 = some m.cls := hown
  have hw5 : ∀ w ∈ wsX50, w.before args s = true := fun w h => hts w (List.mem_cons_of_mem _ (List.mem_append_left _ (List.mem_append_right _ h)))
  have u1 : (Cond.constant RX5 63 (-1000000001)).before args s = true := hts _ (List.mem_of_getElem? (i := 1) (by decide +kernel))
  have u2 : (Cond.constant RX5 231 (-1000000007)).before args s = true := hts _ (List.mem_of_getElem? (i := 2) (by decide +kernel))
  have u3 : (Cond.fieldLink RX5 50 "YearWords" "sheets" "[LYearWords$Sheet;").before args s = true := hts _ (List.mem_of_getElem? (i := 3) (by decide +kernel))
  obtain ⟨Q, hQ⟩ : ∃ Q, Q = mqI below D 36 a args s (wX a cI cJ cS par kin lea mos wrt tal siz tol hrs ags yea kpar kkin klea kmos kwrt ktal ksiz ktol khrs kags kyea isk tly gai bes low hig spn byt hld sta beh sor num res.2.1 res.2.2.1 res.2.2.2.1 res.2.2.2.2) res.1 := ⟨_, rfl⟩
  rw [← hQ]
  have b43 : ∀ (fnd : Nat → Int32) (sbi : Nat → Int32) (she : Nat → Int32) (snu : Nat → Nat → Int64), fX5_sheet_b43 fnd sbi she snu = some res → ∀ (H : Heap) (locs : List Loc) (ls : Array Slot), va_P D vwCl (wX a cI cJ cS par kin lea mos wrt tal siz tol hrs ags yea kpar kkin klea kmos kwrt ktal ksiz ktol khrs kags kyea isk tly gai bes low hig spn byt hld sta beh sor num fnd sbi she snu) H → va_S (adA a 36 s.heap.size) s.heap H locs → lv_has ls 5 [(0, .ref (a 0))] → W p l e rX5_sheet s m args below meth c H locs 0 0 Q (F0 m 43 ls []) := by
    intro fnd sbi she snu hres H locs ls hP hS hl
    unfold fX5_sheet_b43 at hres
    refine lv_aload_n hx hb dX5_sheet_43 rfl (lv_at hl 0 rfl) ?_
    refine lv_ldc hx hb hown u1 dX5_sheet_44 ?_
    obtain ⟨q46, e46, hres⟩ := obd hres
    refine cvI (q0 := 0) (ci := 5) hx hb hml hown hts hEo hE hK hP hS (kX5_found l D a cI cJ cS hd hEo par kin lea mos wrt tal siz tol hrs ags yea kpar kkin klea kmos kwrt ktal ksiz ktol khrs kags kyea isk tly gai bes low hig spn byt hld sta beh sor num fnd sbi she snu (-1000000001 : Int32) q46 e46) gX5_sheet_X5_found rfl hdX5_found rfl rfl rfl ⟨rfl, rfl⟩ ⟨Nat.le_of_ble_eq_true rfl, Nat.le_of_ble_eq_true rfl⟩ ⟨Nat.zero_le _, Nat.zero_le _⟩ rfl hl.1 rfl (Nat.le_of_ble_eq_true rfl) dX5_sheet_46 (fun H locs hP hS => ?_)
    exact hQ ▸ rtI (v := q46.1)  hx hb hr hlk hP hS (by rw [← (Option.some.inj hres)]) (by rw [← (Option.some.inj hres)]) dX5_sheet_49
  have b27 : ∀ (fnd : Nat → Int32) (sbi : Nat → Int32) (she : Nat → Int32) (snu : Nat → Nat → Int64) (z0 : Bool), fX5_sheet_b27 fnd sbi she snu x1 x2 x3 z0 = some res → ∀ (H : Heap) (locs : List Loc) (ls : Array Slot), va_P D vwCl (wX a cI cJ cS par kin lea mos wrt tal siz tol hrs ags yea kpar kkin klea kmos kwrt ktal ksiz ktol khrs kags kyea isk tly gai bes low hig spn byt hld sta beh sor num fnd sbi she snu) H → va_S (adA a 36 s.heap.size) s.heap H locs → lv_has ls 5 [(0, .ref (a 0)), (1, .int x1), (2, .int x2), (3, .int x3)] → W p l e rX5_sheet s m args below meth c H locs 0 0 Q (F0 m 27 ls [.int (bI z0)]) := by
    intro fnd sbi she snu z0 hres H locs ls hP hS hl
    unfold fX5_sheet_b27 at hres
    refine lv_istore (lv' := [(4, .int (bI z0)), (0, .ref (a 0)), (1, .int x1), (2, .int x2), (3, .int x3)]) hx hb dX5_sheet_27 hl (by decide) rfl (fun ls hl => ?_)
    refine lv_iload_n hx hb dX5_sheet_29 rfl (lv_at hl 2 rfl) ?_
    refine lv_iconst (v := 0) hx hb dX5_sheet_30 (by decide) ?_
    refine lv_iconst (v := 3) hx hb dX5_sheet_31 (by decide) ?_
    refine csI hx hb hml hown hts hEo hE hK hP hS (kX5_isIn l D a cI cJ cS hd hEo par kin lea mos wrt tal siz tol hrs ags yea kpar kkin klea kmos kwrt ktal ksiz ktol khrs kags kyea isk tly gai bes low hig spn byt hld sta beh sor num fnd sbi she snu x1 (0 : Int32) (3 : Int32)) gX5_sheet_X5_isIn rfl hdX5_isIn ⟨rfl, rfl⟩ ⟨Nat.le_of_ble_eq_true rfl, Nat.le_of_ble_eq_true rfl⟩ ⟨Nat.zero_le _, Nat.zero_le _⟩ rfl hl.1 rfl (Nat.le_of_ble_eq_true rfl) dX5_sheet_32 (fun H locs hP hS => ?_)
    refine lv_if_eq (tgt := 43) hx hb dX5_sheet_35 (by decide) (fun c35 => ?_) (fun c35 => ?_)
    · have hres := (itl hres).1 c35
      exact b43 fnd sbi she snu hres _ _ _ hP hS (lv_sub hl [1] rfl)
    · have hres := (itl hres).2 c35
      refine lv_iload hx hb dX5_sheet_38 (lv_at hl 0 rfl) ?_
      refine lv_if_ne (tgt := 50) hx hb dX5_sheet_40 (by decide) (fun c40 => ?_) (fun c40 => ?_)
      · have hres := (itl hres).2 c40
        refine lv_iload_n hx hb dX5_sheet_50 rfl (lv_at hl 4 rfl) ?_
        refine lv_if_ge (tgt := 61) hx hb dX5_sheet_51 (by decide) (fun c51 => ?_) (fun c51 => ?_)
        · have hres := (itl hres).1 c51
          refine lv_iload_n hx hb dX5_sheet_61 rfl (lv_at hl 4 rfl) ?_
          refine lv_bipush (v := 40) hx hb dX5_sheet_62 (by decide) ?_
          refine lv_icmp_le (tgt := 74) hx hb dX5_sheet_64 (by decide) (fun c64 => ?_) (fun c64 => ?_)
          · have hres := (itl hres).1 c64
            refine lv_aload_n hx hb dX5_sheet_74 rfl (lv_at hl 1 rfl) ?_
            refine gX_this5_sheets hx hb hown hw5 hK hP u3 dX5_sheet_75 ?_
            refine lv_iload_n hx hb dX5_sheet_78 rfl (lv_at hl 2 rfl) ?_
            obtain ⟨i79, hres⟩ := gdi hres
            refine lX_sheets hx hb hK hP i79 dX5_sheet_79 ?_
            refine lv_iload_n hx hb dX5_sheet_80 rfl (lv_at hl 3 rfl) ?_
            refine lv_iload_n hx hb dX5_sheet_81 rfl (lv_at hl 4 rfl) ?_
            obtain ⟨q82, e82, hres⟩ := obd hres
            refine cvI (q0 := (28 + 2 * x1.toNatClampNeg)) (ci := 2) hx hb hml hown hts hEo hE hK hP hS (kX2_renew l D a cI cJ cS hd hEo par kin lea mos wrt tal siz tol hrs ags yea kpar kkin klea kmos kwrt ktal ksiz ktol khrs kags kyea isk tly gai bes low hig spn byt hld sta beh sor num fnd sbi she snu x1 x2 x3 i79 q82 e82) gX5_sheet_X2_renew rfl hdX2_renew rfl rfl (wX_sh_at (sh_lt i79)) ⟨rfl, rfl⟩ ⟨Nat.le_of_ble_eq_true rfl, Nat.le_of_ble_eq_true rfl⟩ ⟨Nat.zero_le _, Nat.zero_le _⟩ rfl hl.1 rfl (Nat.le_of_ble_eq_true rfl) dX5_sheet_82 (fun H locs hP hS => ?_)
            exact hQ ▸ rtI (v := q82.1)  hx hb hr hlk hP hS (by rw [← (Option.some.inj hres)]) (by rw [← (Option.some.inj hres)]) dX5_sheet_85
          · have hres := (itl hres).2 c64
            refine lv_aload_n hx hb dX5_sheet_67 rfl (lv_at hl 1 rfl) ?_
            refine lv_ldc hx hb hown u1 dX5_sheet_68 ?_
            obtain ⟨q70, e70, hres⟩ := obd hres
            refine cvI (q0 := 0) (ci := 5) hx hb hml hown hts hEo hE hK hP hS (kX5_found l D a cI cJ cS hd hEo par kin lea mos wrt tal siz tol hrs ags yea kpar kkin klea kmos kwrt ktal ksiz ktol khrs kags kyea isk tly gai bes low hig spn byt hld sta beh sor num fnd sbi she snu (-1000000001 : Int32) q70 e70) gX5_sheet_X5_found rfl hdX5_found rfl rfl rfl ⟨rfl, rfl⟩ ⟨Nat.le_of_ble_eq_true rfl, Nat.le_of_ble_eq_true rfl⟩ ⟨Nat.zero_le _, Nat.zero_le _⟩ rfl hl.1 rfl (Nat.le_of_ble_eq_true rfl) dX5_sheet_70 (fun H locs hP hS => ?_)
            exact hQ ▸ rtI (v := q70.1)  hx hb hr hlk hP hS (by rw [← (Option.some.inj hres)]) (by rw [← (Option.some.inj hres)]) dX5_sheet_73
        · have hres := (itl hres).2 c51
          refine lv_aload_n hx hb dX5_sheet_54 rfl (lv_at hl 1 rfl) ?_
          refine lv_ldc hx hb hown u2 dX5_sheet_55 ?_
          obtain ⟨q57, e57, hres⟩ := obd hres
          refine cvI (q0 := 0) (ci := 5) hx hb hml hown hts hEo hE hK hP hS (kX5_found l D a cI cJ cS hd hEo par kin lea mos wrt tal siz tol hrs ags yea kpar kkin klea kmos kwrt ktal ksiz ktol khrs kags kyea isk tly gai bes low hig spn byt hld sta beh sor num fnd sbi she snu (-1000000007 : Int32) q57 e57) gX5_sheet_X5_found rfl hdX5_found rfl rfl rfl ⟨rfl, rfl⟩ ⟨Nat.le_of_ble_eq_true rfl, Nat.le_of_ble_eq_true rfl⟩ ⟨Nat.zero_le _, Nat.zero_le _⟩ rfl hl.1 rfl (Nat.le_of_ble_eq_true rfl) dX5_sheet_57 (fun H locs hP hS => ?_)
          exact hQ ▸ rtI (v := q57.1)  hx hb hr hlk hP hS (by rw [← (Option.some.inj hres)]) (by rw [← (Option.some.inj hres)]) dX5_sheet_60
      · have hres := (itl hres).1 c40
        exact b43 fnd sbi she snu hres _ _ _ hP hS (lv_sub hl [1] rfl)
  have b22 : ∀ (fnd : Nat → Int32) (sbi : Nat → Int32) (she : Nat → Int32) (snu : Nat → Nat → Int64), fX5_sheet_b22 fnd sbi she snu x1 x2 x3 = some res → ∀ (H : Heap) (locs : List Loc) (ls : Array Slot), va_P D vwCl (wX a cI cJ cS par kin lea mos wrt tal siz tol hrs ags yea kpar kkin klea kmos kwrt ktal ksiz ktol khrs kags kyea isk tly gai bes low hig spn byt hld sta beh sor num fnd sbi she snu) H → va_S (adA a 36 s.heap.size) s.heap H locs → lv_has ls 5 [(0, .ref (a 0)), (1, .int x1), (2, .int x2), (3, .int x3)] → W p l e rX5_sheet s m args below meth c H locs 0 0 Q (F0 m 22 ls []) := by
    intro fnd sbi she snu hres H locs ls hP hS hl
    unfold fX5_sheet_b22 at hres
    refine lv_iconst (v := 1) hx hb dX5_sheet_22 (by decide) ?_
    refine lv_goto (tgt := 27) hx hb dX5_sheet_23 (by decide) ?_
    exact b27 fnd sbi she snu true hres _ _ _ hP hS (lv_sub hl [0, 1, 2, 3] rfl)
  unfold fX5_sheet at hres
  refine lv_iload_n hx hb dX5_sheet_0 rfl (lv_at hl 2 rfl) ?_
  refine lv_if_eq (tgt := 22) hx hb dX5_sheet_1 (by decide) (fun c1 => ?_) (fun c1 => ?_)
  · have hres := (itl hres).1 c1
    exact b22 fnd sbi she snu hres _ _ _ hP hS (lv_sub hl [0, 1, 2, 3] rfl)
  · have hres := (itl hres).2 c1
    refine lv_iload_n hx hb dX5_sheet_4 rfl (lv_at hl 2 rfl) ?_
    refine lv_bipush (v := 8) hx hb dX5_sheet_5 (by decide) ?_
    refine lv_icmp_eq (tgt := 22) hx hb dX5_sheet_7 (by decide) (fun c7 => ?_) (fun c7 => ?_)
    · have hres := (itl hres).1 c7
      exact b22 fnd sbi she snu hres _ _ _ hP hS (lv_sub hl [0, 1, 2, 3] rfl)
    · have hres := (itl hres).2 c7
      refine lv_iload_n hx hb dX5_sheet_10 rfl (lv_at hl 2 rfl) ?_
      refine lv_bipush (v := 16) hx hb dX5_sheet_11 (by decide) ?_
      refine lv_icmp_eq (tgt := 22) hx hb dX5_sheet_13 (by decide) (fun c13 => ?_) (fun c13 => ?_)
      · have hres := (itl hres).1 c13
        exact b22 fnd sbi she snu hres _ _ _ hP hS (lv_sub hl [0, 1, 2, 3] rfl)
      · have hres := (itl hres).2 c13
        refine lv_iload_n hx hb dX5_sheet_16 rfl (lv_at hl 2 rfl) ?_
        refine lv_bipush (v := 64) hx hb dX5_sheet_17 (by decide) ?_
        refine lv_icmp_ne (tgt := 26) hx hb dX5_sheet_19 (by decide) (fun c19 => ?_) (fun c19 => ?_)
        · have hres := (itl hres).2 c19
          refine lv_iconst (v := 0) hx hb dX5_sheet_26 (by decide) ?_
          exact b27 fnd sbi she snu false hres _ _ _ hP hS (lv_sub hl [0, 1, 2, 3] rfl)
        · have hres := (itl hres).1 c19
          exact b22 fnd sbi she snu hres _ _ _ hP hS (lv_sub hl [0, 1, 2, 3] rfl)
def fX5_write (fnd : Nat → Int32) (sbi : Nat → Int32) (she : Nat → Int32) (snu : Nat → Nat → Int64) (x1 : Int32) (x2 : Int32) (x3 : Int64) : Option (Int64 × (Nat → Int32) × (Nat → Nat → Int64)) :=
  if (bI (fX5_isIn x1 (0 : Int32) (3 : Int32))) = 0 then (fX5_found fnd (-1000000001 : Int32)).bind fun q12 => some (q12.1.toInt64, q12.2, snu) else gd (ib x1 4) (if (bI (fX2_isMissing sbi x1)) = 0 then if (bI (fX5_isIn x2 (0 : Int32) ((she x1.toNatClampNeg) - (1 : Int32)))) = 0 then (fX5_found fnd (-1000000001 : Int32)).bind fun q69 => some (q69.1.toInt64, q69.2, snu) else (fX2_put sbi snu x1 x2 x3).bind fun q60 => some (q60.1, fnd, q60.2) else (fX5_found fnd (-1000000006 : Int32)).bind fun q36 => some (q36.1.toInt64, q36.2, snu))
theorem hdX2_isMissing : yX2_isMissing.cls = RX2 ∧ yX2_isMissing.cls ≠ "java/lang/invoke/MethodHandle" ∧ yX2_isMissing.cls ≠ "java/lang/invoke/VarHandle" ∧ (parseMethodDescriptor yX2_isMissing.desc).map (fun d => d.parameters.length) = some 0 := by decide +kernel
theorem hdX2_put : yX2_put.cls = RX2 ∧ yX2_put.cls ≠ "java/lang/invoke/MethodHandle" ∧ yX2_put.cls ≠ "java/lang/invoke/VarHandle" ∧ (parseMethodDescriptor yX2_put.desc).map (fun d => d.parameters.length) = some 2 := by decide +kernel
abbrev rX5_write : Room := { frames := 2, cells := 0, slots := 0, locals := 47 }
set_option maxHeartbeats 4000000 in
set_option maxRecDepth 100000 in
theorem kX5_write (l : Launch) (D : va_G) (a : Nat → Nat) (cI cJ cS : ClassId) (hd : aok a 36) {Env : (Nat → Prop) → State → Heap → Prop} (hEo : envOK Env) (par : Int32) (kin lea mos wrt : Nat → Int32) (tal : Int32) (siz tol : Nat → Int32) (hrs : Int32) (ags : Nat → Int32) (yea kpar : Int32) (kkin klea kmos kwrt : Nat → Int32) (ktal : Int32) (ksiz ktol : Nat → Int32) (khrs : Int32) (kags : Nat → Int32) (kyea isk : Int32) (tly : Nat → Int64) (gai bes : Nat → Int32) (low hig : Nat → Int64) (spn : Int32) (byt : Nat → Int32) (hld sta beh sor num : Int32) (fnd sbi she : Nat → Int32) (snu : Nat → Nat → Int64) (x1 : Int32) (x2 : Int32) (x3 : Int64) (res : Int64 × (Nat → Int32) × (Nat → Nat → Int64)) (hres : fX5_write fnd sbi she snu x1 x2 x3 = some res) : CtL l D (tyL cI cJ cS) 36 a Env yX5_write wsX5_write rX5_write [.ref (a 0), .int x1, .int x2, .long x3] (wX a cI cJ cS par kin lea mos wrt tal siz tol hrs ags yea kpar kkin klea kmos kwrt ktal ksiz ktol khrs kags kyea isk tly gai bes low hig spn byt hld sta beh sor num fnd sbi she snu) (wX a cI cJ cS par kin lea mos wrt tal siz tol hrs ags yea kpar kkin klea kmos kwrt ktal ksiz ktol khrs kags kyea isk tly gai bes low hig spn byt hld sta beh sor num res.2.1 sbi she res.2.2) res.1 := by
  refine CtL_mk (cc := cX5_write) (maxL := 6) (ret := (some .long)) (by decide) rfl (Nat.le_of_ble_eq_true rfl) ?_
  intro p e s m args below meth c ls hx hb hr hlk hml hown hts hP hK hE hl
  have hS : va_S (adA a 36 s.heap.size) s.heap s.heap [] := va_S.rf
  have hl : lv_has ls 6 [(0, .ref (a 0)), (1, .int x1), (2, .int x2), (3, .long x3)] := hl
  have hown : s.vm.findClass RX5 = some m.cls := hown
  have hw2 : ∀ w ∈ wsX20, w.before args s = true := fun w h => hts w (List.mem_cons_of_mem _ (List.mem_append_right _ h))
  have hw5 : ∀ w ∈ wsX50, w.before args s = true := fun w h => hts w (List.mem_cons_of_mem _ (List.mem_append_left _ (List.mem_append_right _ h)))
  have u1 : (Cond.constant RX5 63 (-1000000001)).before args s = true := hts _ (List.mem_of_getElem? (i := 1) (by decide +kernel))
  have u2 : (Cond.fieldLink RX5 50 "YearWords" "sheets" "[LYearWords$Sheet;").before args s = true := hts _ (List.mem_of_getElem? (i := 2) (by decide +kernel))
  have u3 : (Cond.constant RX5 239 (-1000000006)).before args s = true := hts _ (List.mem_of_getElem? (i := 3) (by decide +kernel))
  have u4 : (Cond.fieldLink RX5 240 "YearWords$Sheet" "held" "I").before args s = true := hts _ (List.mem_of_getElem? (i := 4) (by decide +kernel))
  obtain ⟨Q, hQ⟩ : ∃ Q, Q = mqL below D 36 a args s (wX a cI cJ cS par kin lea mos wrt tal siz tol hrs ags yea kpar kkin klea kmos kwrt ktal ksiz ktol khrs kags kyea isk tly gai bes low hig spn byt hld sta beh sor num res.2.1 sbi she res.2.2) res.1 := ⟨_, rfl⟩
  rw [← hQ]
  unfold fX5_write at hres
  refine lv_iload_n hx hb dX5_write_0 rfl (lv_at hl 1 rfl) ?_
  refine lv_iconst (v := 0) hx hb dX5_write_1 (by decide) ?_
  refine lv_iconst (v := 3) hx hb dX5_write_2 (by decide) ?_
  refine csI hx hb hml hown hts hEo hE hK hP hS (kX5_isIn l D a cI cJ cS hd hEo par kin lea mos wrt tal siz tol hrs ags yea kpar kkin klea kmos kwrt ktal ksiz ktol khrs kags kyea isk tly gai bes low hig spn byt hld sta beh sor num fnd sbi she snu x1 (0 : Int32) (3 : Int32)) gX5_write_X5_isIn rfl hdX5_isIn ⟨rfl, rfl⟩ ⟨Nat.le_of_ble_eq_true rfl, Nat.le_of_ble_eq_true rfl⟩ ⟨Nat.zero_le _, Nat.zero_le _⟩ rfl hl.1 rfl (Nat.le_of_ble_eq_true rfl) dX5_write_3 (fun H locs hP hS => ?_)
  refine lv_if_ne (tgt := 17) hx hb dX5_write_6 (by decide) (fun c6 => ?_) (fun c6 => ?_)
  · have hres := (itl hres).2 c6
    refine lv_aload_n hx hb dX5_write_17 rfl (lv_at hl 0 rfl) ?_
    refine gX_this5_sheets hx hb hown hw5 hK hP u2 dX5_write_18 ?_
    refine lv_iload_n hx hb dX5_write_21 rfl (lv_at hl 1 rfl) ?_
    obtain ⟨i22, hres⟩ := gdi hres
    refine lX_sheets hx hb hK hP i22 dX5_write_22 ?_
    refine lv_astore (lv' := [(5, .ref (a (28 + 2 * x1.toNatClampNeg))), (0, .ref (a 0)), (1, .int x1), (2, .int x2), (3, .long x3)]) hx hb dX5_write_23 hl (by decide) rfl (fun ls hl => ?_)
    refine lv_aload hx hb dX5_write_25 (lv_at hl 0 rfl) ?_
    refine cvI (q0 := (28 + 2 * x1.toNatClampNeg)) (ci := 2) hx hb hml hown hts hEo hE hK hP hS (kX2_isMissing l D a cI cJ cS hd hEo par kin lea mos wrt tal siz tol hrs ags yea kpar kkin klea kmos kwrt ktal ksiz ktol khrs kags kyea isk tly gai bes low hig spn byt hld sta beh sor num fnd sbi she snu x1 i22) gX5_write_X2_isMissing rfl hdX2_isMissing rfl rfl (wX_sh_at (sh_lt i22)) ⟨rfl, rfl⟩ ⟨Nat.le_of_ble_eq_true rfl, Nat.le_of_ble_eq_true rfl⟩ ⟨Nat.zero_le _, Nat.zero_le _⟩ rfl hl.1 rfl (Nat.le_of_ble_eq_true rfl) dX5_write_27 (fun H locs hP hS => ?_)
    refine lv_if_eq (tgt := 41) hx hb dX5_write_30 (by decide) (fun c30 => ?_) (fun c30 => ?_)
    · have hres := (itl hres).1 c30
      refine lv_iload_n hx hb dX5_write_41 rfl (lv_at hl 3 rfl) ?_
      refine lv_iconst (v := 0) hx hb dX5_write_42 (by decide) ?_
      refine lv_aload hx hb dX5_write_43 (lv_at hl 0 rfl) ?_
      refine gX_sheet_held hx hb hown hw2 hK hP i22 u4 dX5_write_45 ?_
      refine lv_iconst (v := 1) hx hb dX5_write_48 (by decide) ?_
      refine lv_isub hx hb dX5_write_49 ?_
      refine csI hx hb hml hown hts hEo hE hK hP hS (kX5_isIn l D a cI cJ cS hd hEo par kin lea mos wrt tal siz tol hrs ags yea kpar kkin klea kmos kwrt ktal ksiz ktol khrs kags kyea isk tly gai bes low hig spn byt hld sta beh sor num fnd sbi she snu x2 (0 : Int32) ((she x1.toNatClampNeg) - (1 : Int32))) gX5_write_X5_isIn rfl hdX5_isIn ⟨rfl, rfl⟩ ⟨Nat.le_of_ble_eq_true rfl, Nat.le_of_ble_eq_true rfl⟩ ⟨Nat.zero_le _, Nat.zero_le _⟩ rfl hl.1 rfl (Nat.le_of_ble_eq_true rfl) dX5_write_50 (fun H locs hP hS => ?_)
      refine lv_if_eq (tgt := 66) hx hb dX5_write_53 (by decide) (fun c53 => ?_) (fun c53 => ?_)
      · have hres := (itl hres).1 c53
        refine lv_aload_n hx hb dX5_write_66 rfl (lv_at hl 1 rfl) ?_
        refine lv_ldc hx hb hown u1 dX5_write_67 ?_
        obtain ⟨q69, e69, hres⟩ := obd hres
        refine cvI (q0 := 0) (ci := 5) hx hb hml hown hts hEo hE hK hP hS (kX5_found l D a cI cJ cS hd hEo par kin lea mos wrt tal siz tol hrs ags yea kpar kkin klea kmos kwrt ktal ksiz ktol khrs kags kyea isk tly gai bes low hig spn byt hld sta beh sor num fnd sbi she snu (-1000000001 : Int32) q69 e69) gX5_write_X5_found rfl hdX5_found rfl rfl rfl ⟨rfl, rfl⟩ ⟨Nat.le_of_ble_eq_true rfl, Nat.le_of_ble_eq_true rfl⟩ ⟨Nat.zero_le _, Nat.zero_le _⟩ rfl hl.1 rfl (Nat.le_of_ble_eq_true rfl) dX5_write_69 (fun H locs hP hS => ?_)
        refine lv_i2l hx hb dX5_write_72 rfl ?_
        exact hQ ▸ rtL (v := q69.1.toInt64)  hx hb hr hlk hP hS (by rw [← (Option.some.inj hres)]) (by rw [← (Option.some.inj hres)]) dX5_write_73
      · have hres := (itl hres).2 c53
        refine lv_aload hx hb dX5_write_56 (lv_at hl 0 rfl) ?_
        refine lv_iload_n hx hb dX5_write_58 rfl (lv_at hl 3 rfl) ?_
        refine lv_lload_n hx hb dX5_write_59 rfl (lv_at hl 4 rfl) ?_
        obtain ⟨q60, e60, hres⟩ := obd hres
        refine cvL (q0 := (28 + 2 * x1.toNatClampNeg)) (ci := 2) hx hb hml hown hts hEo hE hK hP hS (kX2_put l D a cI cJ cS hd hEo par kin lea mos wrt tal siz tol hrs ags yea kpar kkin klea kmos kwrt ktal ksiz ktol khrs kags kyea isk tly gai bes low hig spn byt hld sta beh sor num fnd sbi she snu x1 x2 x3 i22 q60 e60) gX5_write_X2_put rfl hdX2_put rfl rfl (wX_sh_at (sh_lt i22)) ⟨rfl, rfl⟩ ⟨Nat.le_of_ble_eq_true rfl, Nat.le_of_ble_eq_true rfl⟩ ⟨Nat.zero_le _, Nat.zero_le _⟩ rfl hl.1 rfl (Nat.le_of_ble_eq_true rfl) dX5_write_60 (fun H locs hP hS => ?_)
        refine lv_goto (tgt := 73) hx hb dX5_write_63 (by decide) ?_
        exact hQ ▸ rtL (v := q60.1)  hx hb hr hlk hP hS (by rw [← (Option.some.inj hres)]) (by rw [← (Option.some.inj hres)]) dX5_write_73
    · have hres := (itl hres).2 c30
      refine lv_aload_n hx hb dX5_write_33 rfl (lv_at hl 1 rfl) ?_
      refine lv_ldc hx hb hown u3 dX5_write_34 ?_
      obtain ⟨q36, e36, hres⟩ := obd hres
      refine cvI (q0 := 0) (ci := 5) hx hb hml hown hts hEo hE hK hP hS (kX5_found l D a cI cJ cS hd hEo par kin lea mos wrt tal siz tol hrs ags yea kpar kkin klea kmos kwrt ktal ksiz ktol khrs kags kyea isk tly gai bes low hig spn byt hld sta beh sor num fnd sbi she snu (-1000000006 : Int32) q36 e36) gX5_write_X5_found rfl hdX5_found rfl rfl rfl ⟨rfl, rfl⟩ ⟨Nat.le_of_ble_eq_true rfl, Nat.le_of_ble_eq_true rfl⟩ ⟨Nat.zero_le _, Nat.zero_le _⟩ rfl hl.1 rfl (Nat.le_of_ble_eq_true rfl) dX5_write_36 (fun H locs hP hS => ?_)
      refine lv_i2l hx hb dX5_write_39 rfl ?_
      exact hQ ▸ rtL (v := q36.1.toInt64)  hx hb hr hlk hP hS (by rw [← (Option.some.inj hres)]) (by rw [← (Option.some.inj hres)]) dX5_write_40
  · have hres := (itl hres).1 c6
    refine lv_aload_n hx hb dX5_write_9 rfl (lv_at hl 0 rfl) ?_
    refine lv_ldc hx hb hown u1 dX5_write_10 ?_
    obtain ⟨q12, e12, hres⟩ := obd hres
    refine cvI (q0 := 0) (ci := 5) hx hb hml hown hts hEo hE hK hP hS (kX5_found l D a cI cJ cS hd hEo par kin lea mos wrt tal siz tol hrs ags yea kpar kkin klea kmos kwrt ktal ksiz ktol khrs kags kyea isk tly gai bes low hig spn byt hld sta beh sor num fnd sbi she snu (-1000000001 : Int32) q12 e12) gX5_write_X5_found rfl hdX5_found rfl rfl rfl ⟨rfl, rfl⟩ ⟨Nat.le_of_ble_eq_true rfl, Nat.le_of_ble_eq_true rfl⟩ ⟨Nat.zero_le _, Nat.zero_le _⟩ rfl hl.1 rfl (Nat.le_of_ble_eq_true rfl) dX5_write_12 (fun H locs hP hS => ?_)
    refine lv_i2l hx hb dX5_write_15 rfl ?_
    exact hQ ▸ rtL (v := q12.1.toInt64)  hx hb hr hlk hP hS (by rw [← (Option.some.inj hres)]) (by rw [← (Option.some.inj hres)]) dX5_write_16
def fX5_copy_b18 (fnd : Nat → Int32) (snu : Nat → Nat → Int64) : Option (Int32 × (Nat → Int32) × (Nat → Nat → Int64)) :=
 (fX5_found fnd (-1000000001 : Int32)).bind fun q21 => some (q21.1, q21.2, snu)
def fX5_copy_b57 (fnd : Nat → Int32) (snu : Nat → Nat → Int64) : Option (Int32 × (Nat → Int32) × (Nat → Nat → Int64)) :=
 (fX5_found fnd (-1000000006 : Int32)).bind fun q60 => some (q60.1, q60.2, snu)
def fX5_copy_b107 (fnd : Nat → Int32) (snu : Nat → Nat → Int64) : Option (Int32 × (Nat → Int32) × (Nat → Nat → Int64)) :=
 (fX5_found fnd (-1000000001 : Int32)).bind fun q110 => some (q110.1, q110.2, snu)
def fX5_copy (fnd : Nat → Int32) (sbi : Nat → Int32) (she : Nat → Int32) (snu : Nat → Nat → Int64) (x1 : Int32) (x2 : Int32) (x3 : Int32) (x4 : Int32) (x5 : Int32) : Option (Int32 × (Nat → Int32) × (Nat → Nat → Int64)) :=
  if (bI (fX5_isIn x1 (0 : Int32) (3 : Int32))) = 0 then fX5_copy_b18 fnd snu else if (bI (fX5_isIn x3 (0 : Int32) (3 : Int32))) = 0 then fX5_copy_b18 fnd snu else gd (ib x1 4) (gd (ib x3 4) (if (bI (fX2_isMissing sbi x1)) = 0 then if (bI (fX2_isMissing sbi x3)) = 0 then if (sbi x1.toNatClampNeg) = (sbi x3.toNatClampNeg) then if (bI (fX2_holds she x1 x2 x5)) = 0 then fX5_copy_b107 fnd snu else if (bI (fX2_holds she x3 x4 x5)) = 0 then fX5_copy_b107 fnd snu else gd (cpk x2 x4 x5 40) (some (x5, fnd, va_up snu x3.toNatClampNeg (va_cpy (snu x1.toNatClampNeg) (snu x3.toNatClampNeg) x2.toNatClampNeg x4.toNatClampNeg x5.toNatClampNeg))) else (fX5_found fnd (-1000000003 : Int32)).bind fun q80 => some (q80.1, q80.2, snu) else fX5_copy_b57 fnd snu else fX5_copy_b57 fnd snu))
theorem hdX2_holds : yX2_holds.cls = RX2 ∧ yX2_holds.cls ≠ "java/lang/invoke/MethodHandle" ∧ yX2_holds.cls ≠ "java/lang/invoke/VarHandle" ∧ (parseMethodDescriptor yX2_holds.desc).map (fun d => d.parameters.length) = some 2 := by decide +kernel
abbrev rX5_copy : Room := { frames := 2, cells := 0, slots := 0, locals := 44 }
set_option maxHeartbeats 4000000 in
set_option maxRecDepth 100000 in
theorem kX5_copy (l : Launch) (D : va_G) (a : Nat → Nat) (cI cJ cS : ClassId) (hd : aok a 36) {Env : (Nat → Prop) → State → Heap → Prop} (hEo : envOK Env) (par : Int32) (kin lea mos wrt : Nat → Int32) (tal : Int32) (siz tol : Nat → Int32) (hrs : Int32) (ags : Nat → Int32) (yea kpar : Int32) (kkin klea kmos kwrt : Nat → Int32) (ktal : Int32) (ksiz ktol : Nat → Int32) (khrs : Int32) (kags : Nat → Int32) (kyea isk : Int32) (tly : Nat → Int64) (gai bes : Nat → Int32) (low hig : Nat → Int64) (spn : Int32) (byt : Nat → Int32) (hld sta beh sor num : Int32) (fnd sbi she : Nat → Int32) (snu : Nat → Nat → Int64) (x1 : Int32) (x2 : Int32) (x3 : Int32) (x4 : Int32) (x5 : Int32) (res : Int32 × (Nat → Int32) × (Nat → Nat → Int64)) (hres : fX5_copy fnd sbi she snu x1 x2 x3 x4 x5 = some res) : CtI l D (tyL cI cJ cS) 36 a Env yX5_copy wsX5_copy rX5_copy [.ref (a 0), .int x1, .int x2, .int x3, .int x4, .int x5] (wX a cI cJ cS par kin lea mos wrt tal siz tol hrs ags yea kpar kkin klea kmos kwrt ktal ksiz ktol khrs kags kyea isk tly gai bes low hig spn byt hld sta beh sor num fnd sbi she snu) (wX a cI cJ cS par kin lea mos wrt tal siz tol hrs ags yea kpar kkin klea kmos kwrt ktal ksiz ktol khrs kags kyea isk tly gai bes low hig spn byt hld sta beh sor num res.2.1 sbi she res.2.2) res.1 := by
  refine CtI_mk (cc := cX5_copy) (maxL := 8) (ret := (some .int)) (by decide) rfl (Nat.le_of_ble_eq_true rfl) ?_
  intro p e s m args below meth c ls hx hb hr hlk hml hown hts hP hK hE hl
  have hS : va_S (adA a 36 s.heap.size) s.heap s.heap [] := va_S.rf
  have hl : lv_has ls 8 [(0, .ref (a 0)), (1, .int x1), (2, .int x2), (3, .int x3), (4, .int x4), (5, .int x5)] := hl
  have hown : s.vm.findClass RX5 = some m.cls := hown
  have hw2 : ∀ w ∈ wsX20, w.before args s = true := fun w h => hts w (List.mem_cons_of_mem _ (List.mem_append_right _ h))
  have hw5 : ∀ w ∈ wsX50, w.before args s = true := fun w h => hts w (List.mem_cons_of_mem _ (List.mem_append_left _ (List.mem_append_right _ h)))
  have u1 : (Cond.constant RX5 63 (-1000000001)).before args s = true := hts _ (List.mem_of_getElem? (i := 1) (by decide +kernel))
  have u2 : (Cond.fieldLink RX5 50 "YearWords" "sheets" "[LYearWords$Sheet;").before args s = true := hts _ (List.mem_of_getElem? (i := 2) (by decide +kernel))
  have u3 : (Cond.constant RX5 239 (-1000000006)).before args s = true := hts _ (List.mem_of_getElem? (i := 3) (by decide +kernel))
  have u4 : (Cond.fieldLink RX5 244 "YearWords$Sheet" "bits" "I").before args s = true := hts _ (List.mem_of_getElem? (i := 4) (by decide +kernel))
  have u5 : (Cond.constant RX5 104 (-1000000003)).before args s = true := hts _ (List.mem_of_getElem? (i := 5) (by decide +kernel))
  have u6 : (Cond.fieldLink RX5 250 "YearWords$Sheet" "numbers" "[J").before args s = true := hts _ (List.mem_of_getElem? (i := 6) (by decide +kernel))
  have u7 : (Cond.methodLink RX5 254 arraycopyName).before args s = true := hts _ (List.mem_of_getElem? (i := 7) (by decide +kernel))
  have u8 : (Cond.native arraycopyName).before args s = true := hts _ (List.mem_of_getElem? (i := 8) (by decide +kernel))
  have u9 : (Cond.static arraycopyName).before args s = true := hts _ (List.mem_of_getElem? (i := 9) (by decide +kernel))
  have u10 : (Cond.initialized "java/lang/System").before args s = true := hts _ (List.mem_of_getElem? (i := 10) (by decide +kernel))
  obtain ⟨Q, hQ⟩ : ∃ Q, Q = mqI below D 36 a args s (wX a cI cJ cS par kin lea mos wrt tal siz tol hrs ags yea kpar kkin klea kmos kwrt ktal ksiz ktol khrs kags kyea isk tly gai bes low hig spn byt hld sta beh sor num res.2.1 sbi she res.2.2) res.1 := ⟨_, rfl⟩
  rw [← hQ]
  have b18 : ∀ (fnd : Nat → Int32) (snu : Nat → Nat → Int64), fX5_copy_b18 fnd snu = some res → ∀ (H : Heap) (locs : List Loc) (ls : Array Slot), va_P D vwCl (wX a cI cJ cS par kin lea mos wrt tal siz tol hrs ags yea kpar kkin klea kmos kwrt ktal ksiz ktol khrs kags kyea isk tly gai bes low hig spn byt hld sta beh sor num fnd sbi she snu) H → va_S (adA a 36 s.heap.size) s.heap H locs → lv_has ls 8 [(0, .ref (a 0))] → W p l e rX5_copy s m args below meth c H locs 0 0 Q (F0 m 18 ls []) := by
    intro fnd snu hres H locs ls hP hS hl
    unfold fX5_copy_b18 at hres
    refine lv_aload_n hx hb dX5_copy_18 rfl (lv_at hl 0 rfl) ?_
    refine lv_ldc hx hb hown u1 dX5_copy_19 ?_
    obtain ⟨q21, e21, hres⟩ := obd hres
    refine cvI (q0 := 0) (ci := 5) hx hb hml hown hts hEo hE hK hP hS (kX5_found l D a cI cJ cS hd hEo par kin lea mos wrt tal siz tol hrs ags yea kpar kkin klea kmos kwrt ktal ksiz ktol khrs kags kyea isk tly gai bes low hig spn byt hld sta beh sor num fnd sbi she snu (-1000000001 : Int32) q21 e21) gX5_copy_X5_found rfl hdX5_found rfl rfl rfl ⟨rfl, rfl⟩ ⟨Nat.le_of_ble_eq_true rfl, Nat.le_of_ble_eq_true rfl⟩ ⟨Nat.zero_le _, Nat.zero_le _⟩ rfl hl.1 rfl (Nat.le_of_ble_eq_true rfl) dX5_copy_21 (fun H locs hP hS => ?_)
    exact hQ ▸ rtI (v := q21.1)  hx hb hr hlk hP hS (by rw [← (Option.some.inj hres)]) (by rw [← (Option.some.inj hres)]) dX5_copy_24
  have b57 : ∀ (fnd : Nat → Int32) (snu : Nat → Nat → Int64), fX5_copy_b57 fnd snu = some res → ∀ (H : Heap) (locs : List Loc) (ls : Array Slot), va_P D vwCl (wX a cI cJ cS par kin lea mos wrt tal siz tol hrs ags yea kpar kkin klea kmos kwrt ktal ksiz ktol khrs kags kyea isk tly gai bes low hig spn byt hld sta beh sor num fnd sbi she snu) H → va_S (adA a 36 s.heap.size) s.heap H locs → lv_has ls 8 [(0, .ref (a 0))] → W p l e rX5_copy s m args below meth c H locs 0 0 Q (F0 m 57 ls []) := by
    intro fnd snu hres H locs ls hP hS hl
    unfold fX5_copy_b57 at hres
    refine lv_aload_n hx hb dX5_copy_57 rfl (lv_at hl 0 rfl) ?_
    refine lv_ldc hx hb hown u3 dX5_copy_58 ?_
    obtain ⟨q60, e60, hres⟩ := obd hres
    refine cvI (q0 := 0) (ci := 5) hx hb hml hown hts hEo hE hK hP hS (kX5_found l D a cI cJ cS hd hEo par kin lea mos wrt tal siz tol hrs ags yea kpar kkin klea kmos kwrt ktal ksiz ktol khrs kags kyea isk tly gai bes low hig spn byt hld sta beh sor num fnd sbi she snu (-1000000006 : Int32) q60 e60) gX5_copy_X5_found rfl hdX5_found rfl rfl rfl ⟨rfl, rfl⟩ ⟨Nat.le_of_ble_eq_true rfl, Nat.le_of_ble_eq_true rfl⟩ ⟨Nat.zero_le _, Nat.zero_le _⟩ rfl hl.1 rfl (Nat.le_of_ble_eq_true rfl) dX5_copy_60 (fun H locs hP hS => ?_)
    exact hQ ▸ rtI (v := q60.1)  hx hb hr hlk hP hS (by rw [← (Option.some.inj hres)]) (by rw [← (Option.some.inj hres)]) dX5_copy_63
  have b107 : ∀ (fnd : Nat → Int32) (snu : Nat → Nat → Int64), fX5_copy_b107 fnd snu = some res → ∀ (H : Heap) (locs : List Loc) (ls : Array Slot), va_P D vwCl (wX a cI cJ cS par kin lea mos wrt tal siz tol hrs ags yea kpar kkin klea kmos kwrt ktal ksiz ktol khrs kags kyea isk tly gai bes low hig spn byt hld sta beh sor num fnd sbi she snu) H → va_S (adA a 36 s.heap.size) s.heap H locs → lv_has ls 8 [(0, .ref (a 0))] → W p l e rX5_copy s m args below meth c H locs 0 0 Q (F0 m 107 ls []) := by
    intro fnd snu hres H locs ls hP hS hl
    unfold fX5_copy_b107 at hres
    refine lv_aload_n hx hb dX5_copy_107 rfl (lv_at hl 0 rfl) ?_
    refine lv_ldc hx hb hown u1 dX5_copy_108 ?_
    obtain ⟨q110, e110, hres⟩ := obd hres
    refine cvI (q0 := 0) (ci := 5) hx hb hml hown hts hEo hE hK hP hS (kX5_found l D a cI cJ cS hd hEo par kin lea mos wrt tal siz tol hrs ags yea kpar kkin klea kmos kwrt ktal ksiz ktol khrs kags kyea isk tly gai bes low hig spn byt hld sta beh sor num fnd sbi she snu (-1000000001 : Int32) q110 e110) gX5_copy_X5_found rfl hdX5_found rfl rfl rfl ⟨rfl, rfl⟩ ⟨Nat.le_of_ble_eq_true rfl, Nat.le_of_ble_eq_true rfl⟩ ⟨Nat.zero_le _, Nat.zero_le _⟩ rfl hl.1 rfl (Nat.le_of_ble_eq_true rfl) dX5_copy_110 (fun H locs hP hS => ?_)
    exact hQ ▸ rtI (v := q110.1)  hx hb hr hlk hP hS (by rw [← (Option.some.inj hres)]) (by rw [← (Option.some.inj hres)]) dX5_copy_113
  unfold fX5_copy at hres
  refine lv_iload_n hx hb dX5_copy_0 rfl (lv_at hl 1 rfl) ?_
  refine lv_iconst (v := 0) hx hb dX5_copy_1 (by decide) ?_
  refine lv_iconst (v := 3) hx hb dX5_copy_2 (by decide) ?_
  refine csI hx hb hml hown hts hEo hE hK hP hS (kX5_isIn l D a cI cJ cS hd hEo par kin lea mos wrt tal siz tol hrs ags yea kpar kkin klea kmos kwrt ktal ksiz ktol khrs kags kyea isk tly gai bes low hig spn byt hld sta beh sor num fnd sbi she snu x1 (0 : Int32) (3 : Int32)) gX5_copy_X5_isIn rfl hdX5_isIn ⟨rfl, rfl⟩ ⟨Nat.le_of_ble_eq_true rfl, Nat.le_of_ble_eq_true rfl⟩ ⟨Nat.zero_le _, Nat.zero_le _⟩ rfl hl.1 rfl (Nat.le_of_ble_eq_true rfl) dX5_copy_3 (fun H locs hP hS => ?_)
  refine lv_if_eq (tgt := 18) hx hb dX5_copy_6 (by decide) (fun c6 => ?_) (fun c6 => ?_)
  · have hres := (itl hres).1 c6
    exact b18 fnd snu hres _ _ _ hP hS (lv_sub hl [0] rfl)
  · have hres := (itl hres).2 c6
    refine lv_iload_n hx hb dX5_copy_9 rfl (lv_at hl 3 rfl) ?_
    refine lv_iconst (v := 0) hx hb dX5_copy_10 (by decide) ?_
    refine lv_iconst (v := 3) hx hb dX5_copy_11 (by decide) ?_
    refine csI hx hb hml hown hts hEo hE hK hP hS (kX5_isIn l D a cI cJ cS hd hEo par kin lea mos wrt tal siz tol hrs ags yea kpar kkin klea kmos kwrt ktal ksiz ktol khrs kags kyea isk tly gai bes low hig spn byt hld sta beh sor num fnd sbi she snu x3 (0 : Int32) (3 : Int32)) gX5_copy_X5_isIn rfl hdX5_isIn ⟨rfl, rfl⟩ ⟨Nat.le_of_ble_eq_true rfl, Nat.le_of_ble_eq_true rfl⟩ ⟨Nat.zero_le _, Nat.zero_le _⟩ rfl hl.1 rfl (Nat.le_of_ble_eq_true rfl) dX5_copy_12 (fun H locs hP hS => ?_)
    refine lv_if_ne (tgt := 25) hx hb dX5_copy_15 (by decide) (fun c15 => ?_) (fun c15 => ?_)
    · have hres := (itl hres).2 c15
      refine lv_aload_n hx hb dX5_copy_25 rfl (lv_at hl 0 rfl) ?_
      refine gX_this5_sheets hx hb hown hw5 hK hP u2 dX5_copy_26 ?_
      refine lv_iload_n hx hb dX5_copy_29 rfl (lv_at hl 1 rfl) ?_
      obtain ⟨i30, hres⟩ := gdi hres
      refine lX_sheets hx hb hK hP i30 dX5_copy_30 ?_
      refine lv_astore (lv' := [(6, .ref (a (28 + 2 * x1.toNatClampNeg))), (0, .ref (a 0)), (1, .int x1), (2, .int x2), (3, .int x3), (4, .int x4), (5, .int x5)]) hx hb dX5_copy_31 hl (by decide) rfl (fun ls hl => ?_)
      refine lv_aload_n hx hb dX5_copy_33 rfl (lv_at hl 1 rfl) ?_
      refine gX_this5_sheets hx hb hown hw5 hK hP u2 dX5_copy_34 ?_
      refine lv_iload_n hx hb dX5_copy_37 rfl (lv_at hl 4 rfl) ?_
      obtain ⟨i38, hres⟩ := gdi hres
      refine lX_sheets hx hb hK hP i38 dX5_copy_38 ?_
      refine lv_astore (lv' := [(7, .ref (a (28 + 2 * x3.toNatClampNeg))), (6, .ref (a (28 + 2 * x1.toNatClampNeg))), (0, .ref (a 0)), (1, .int x1), (2, .int x2), (3, .int x3), (4, .int x4), (5, .int x5)]) hx hb dX5_copy_39 hl (by decide) rfl (fun ls hl => ?_)
      refine lv_aload hx hb dX5_copy_41 (lv_at hl 1 rfl) ?_
      refine cvI (q0 := (28 + 2 * x1.toNatClampNeg)) (ci := 2) hx hb hml hown hts hEo hE hK hP hS (kX2_isMissing l D a cI cJ cS hd hEo par kin lea mos wrt tal siz tol hrs ags yea kpar kkin klea kmos kwrt ktal ksiz ktol khrs kags kyea isk tly gai bes low hig spn byt hld sta beh sor num fnd sbi she snu x1 i30) gX5_copy_X2_isMissing rfl hdX2_isMissing rfl rfl (wX_sh_at (sh_lt i30)) ⟨rfl, rfl⟩ ⟨Nat.le_of_ble_eq_true rfl, Nat.le_of_ble_eq_true rfl⟩ ⟨Nat.zero_le _, Nat.zero_le _⟩ rfl hl.1 rfl (Nat.le_of_ble_eq_true rfl) dX5_copy_43 (fun H locs hP hS => ?_)
      refine lv_if_ne (tgt := 57) hx hb dX5_copy_46 (by decide) (fun c46 => ?_) (fun c46 => ?_)
      · have hres := (itl hres).2 c46
        exact b57 fnd snu hres _ _ _ hP hS (lv_sub hl [2] rfl)
      · have hres := (itl hres).1 c46
        refine lv_aload hx hb dX5_copy_49 (lv_at hl 0 rfl) ?_
        refine cvI (q0 := (28 + 2 * x3.toNatClampNeg)) (ci := 2) hx hb hml hown hts hEo hE hK hP hS (kX2_isMissing l D a cI cJ cS hd hEo par kin lea mos wrt tal siz tol hrs ags yea kpar kkin klea kmos kwrt ktal ksiz ktol khrs kags kyea isk tly gai bes low hig spn byt hld sta beh sor num fnd sbi she snu x3 i38) gX5_copy_X2_isMissing rfl hdX2_isMissing rfl rfl (wX_sh_at (sh_lt i38)) ⟨rfl, rfl⟩ ⟨Nat.le_of_ble_eq_true rfl, Nat.le_of_ble_eq_true rfl⟩ ⟨Nat.zero_le _, Nat.zero_le _⟩ rfl hl.1 rfl (Nat.le_of_ble_eq_true rfl) dX5_copy_51 (fun H locs hP hS => ?_)
        refine lv_if_eq (tgt := 64) hx hb dX5_copy_54 (by decide) (fun c54 => ?_) (fun c54 => ?_)
        · have hres := (itl hres).1 c54
          refine lv_aload hx hb dX5_copy_64 (lv_at hl 1 rfl) ?_
          refine gX_sheet_bits hx hb hown hw2 hK hP i30 u4 dX5_copy_66 ?_
          refine lv_aload hx hb dX5_copy_69 (lv_at hl 0 rfl) ?_
          refine gX_sheet_bits hx hb hown hw2 hK hP i38 u4 dX5_copy_71 ?_
          refine lv_icmp_eq (tgt := 84) hx hb dX5_copy_74 (by decide) (fun c74 => ?_) (fun c74 => ?_)
          · have hres := (itl hres).1 c74
            refine lv_aload hx hb dX5_copy_84 (lv_at hl 1 rfl) ?_
            refine lv_iload_n hx hb dX5_copy_86 rfl (lv_at hl 4 rfl) ?_
            refine lv_iload hx hb dX5_copy_87 (lv_at hl 7 rfl) ?_
            refine cvI (q0 := (28 + 2 * x1.toNatClampNeg)) (ci := 2) hx hb hml hown hts hEo hE hK hP hS (kX2_holds l D a cI cJ cS hd hEo par kin lea mos wrt tal siz tol hrs ags yea kpar kkin klea kmos kwrt ktal ksiz ktol khrs kags kyea isk tly gai bes low hig spn byt hld sta beh sor num fnd sbi she snu x1 x2 x5 i30) gX5_copy_X2_holds rfl hdX2_holds rfl rfl (wX_sh_at (sh_lt i30)) ⟨rfl, rfl⟩ ⟨Nat.le_of_ble_eq_true rfl, Nat.le_of_ble_eq_true rfl⟩ ⟨Nat.zero_le _, Nat.zero_le _⟩ rfl hl.1 rfl (Nat.le_of_ble_eq_true rfl) dX5_copy_89 (fun H locs hP hS => ?_)
            refine lv_if_eq (tgt := 107) hx hb dX5_copy_92 (by decide) (fun c92 => ?_) (fun c92 => ?_)
            · have hres := (itl hres).1 c92
              exact b107 fnd snu hres _ _ _ hP hS (lv_sub hl [2] rfl)
            · have hres := (itl hres).2 c92
              refine lv_aload hx hb dX5_copy_95 (lv_at hl 0 rfl) ?_
              refine lv_iload hx hb dX5_copy_97 (lv_at hl 6 rfl) ?_
              refine lv_iload hx hb dX5_copy_99 (lv_at hl 7 rfl) ?_
              refine cvI (q0 := (28 + 2 * x3.toNatClampNeg)) (ci := 2) hx hb hml hown hts hEo hE hK hP hS (kX2_holds l D a cI cJ cS hd hEo par kin lea mos wrt tal siz tol hrs ags yea kpar kkin klea kmos kwrt ktal ksiz ktol khrs kags kyea isk tly gai bes low hig spn byt hld sta beh sor num fnd sbi she snu x3 x4 x5 i38) gX5_copy_X2_holds rfl hdX2_holds rfl rfl (wX_sh_at (sh_lt i38)) ⟨rfl, rfl⟩ ⟨Nat.le_of_ble_eq_true rfl, Nat.le_of_ble_eq_true rfl⟩ ⟨Nat.zero_le _, Nat.zero_le _⟩ rfl hl.1 rfl (Nat.le_of_ble_eq_true rfl) dX5_copy_101 (fun H locs hP hS => ?_)
              refine lv_if_ne (tgt := 114) hx hb dX5_copy_104 (by decide) (fun c104 => ?_) (fun c104 => ?_)
              · have hres := (itl hres).2 c104
                refine lv_aload hx hb dX5_copy_114 (lv_at hl 1 rfl) ?_
                refine gX_sheet_numbers hx hb hown hw2 hK hP i30 u6 dX5_copy_116 ?_
                refine lv_iload_n hx hb dX5_copy_119 rfl (lv_at hl 4 rfl) ?_
                refine lv_aload hx hb dX5_copy_120 (lv_at hl 0 rfl) ?_
                refine gX_sheet_numbers hx hb hown hw2 hK hP i38 u6 dX5_copy_122 ?_
                refine lv_iload hx hb dX5_copy_125 (lv_at hl 6 rfl) ?_
                refine lv_iload hx hb dX5_copy_127 (lv_at hl 7 rfl) ?_
                obtain ⟨i129, hres⟩ := gds hres
                refine cX_sheet hx hb (hml.trans hl.1.symm) hown u7 u8 u9 u10 hK hP hd hS i30 i38 i129 (Nat.le_of_ble_eq_true rfl) (Nat.le_of_ble_eq_true rfl) dX5_copy_129 (fun H locs hP hS => ?_)
                refine lv_iload hx hb dX5_copy_132 (lv_at hl 7 rfl) ?_
                exact hQ ▸ rtI (v := x5)  hx hb hr hlk hP hS (by rw [← (Option.some.inj hres)]) (by rw [← (Option.some.inj hres)]) dX5_copy_134
              · have hres := (itl hres).1 c104
                exact b107 fnd snu hres _ _ _ hP hS (lv_sub hl [2] rfl)
          · have hres := (itl hres).2 c74
            refine lv_aload_n hx hb dX5_copy_77 rfl (lv_at hl 2 rfl) ?_
            refine lv_ldc hx hb hown u5 dX5_copy_78 ?_
            obtain ⟨q80, e80, hres⟩ := obd hres
            refine cvI (q0 := 0) (ci := 5) hx hb hml hown hts hEo hE hK hP hS (kX5_found l D a cI cJ cS hd hEo par kin lea mos wrt tal siz tol hrs ags yea kpar kkin klea kmos kwrt ktal ksiz ktol khrs kags kyea isk tly gai bes low hig spn byt hld sta beh sor num fnd sbi she snu (-1000000003 : Int32) q80 e80) gX5_copy_X5_found rfl hdX5_found rfl rfl rfl ⟨rfl, rfl⟩ ⟨Nat.le_of_ble_eq_true rfl, Nat.le_of_ble_eq_true rfl⟩ ⟨Nat.zero_le _, Nat.zero_le _⟩ rfl hl.1 rfl (Nat.le_of_ble_eq_true rfl) dX5_copy_80 (fun H locs hP hS => ?_)
            exact hQ ▸ rtI (v := q80.1)  hx hb hr hlk hP hS (by rw [← (Option.some.inj hres)]) (by rw [← (Option.some.inj hres)]) dX5_copy_83
        · have hres := (itl hres).2 c54
          exact b57 fnd snu hres _ _ _ hP hS (lv_sub hl [2] rfl)
    · have hres := (itl hres).1 c15
      exact b18 fnd snu hres _ _ _ hP hS (lv_sub hl [0] rfl)
def fX5_lays_b104 (K42 : Int32 → Int32 → (Nat → Int32) → Option (Int32 × (Nat → Int32) × (Nat → Int32))) (ags : Nat → Int32) (x3 : Int32) (x4 : Int32) : Option (Int32 × (Nat → Int32) × (Nat → Int32)) :=
  K42 x3 (x4 + 1) ags
def fX5_lays_l42 (hrs : Int32) (fnd : Nat → Int32) (she : Nat → Int32) (snu : Nat → Nat → Int64) (x2 : Int32) (K42 : Int32 → Int32 → (Nat → Int32) → Option (Int32 × (Nat → Int32) × (Nat → Int32))) (x3 : Int32) (x4 : Int32) (ags : Nat → Int32) : Option (Int32 × (Nat → Int32) × (Nat → Int32)) :=
  if hrs ≤ x4 then some (x3, ags, fnd) else if (she x2.toNatClampNeg) ≤ x4 then some (x3, ags, fnd) else gd (ib x4 40) (if (lg_cmp (snu x2.toNatClampNeg x4.toNatClampNeg) (0 : Int64)) < 0 then fX5_lays_b104 K42 ags x3 x4 else if 0 < (lg_cmp (snu x2.toNatClampNeg x4.toNatClampNeg) ((99) : Int64)) then fX5_lays_b104 K42 ags x3 x4 else gd (ib x4 10) (fX5_lays_b104 K42 (upd ags x4.toNatClampNeg ((snu x2.toNatClampNeg x4.toNatClampNeg).toInt32)) (x3 + 1) x4))
def fX5_lays (hrs : Int32) (ags : Nat → Int32) (fnd : Nat → Int32) (sbi : Nat → Int32) (she : Nat → Int32) (snu : Nat → Nat → Int64) (x1 : Int32) : Option (Int32 × (Nat → Int32) × (Nat → Int32)) :=
  if (bI (fX5_isIn x1 (0 : Int32) (3 : Int32))) = 0 then (fX5_found fnd (-1000000001 : Int32)).bind fun q12 => some (q12.1, ags, q12.2) else gd (ib x1 4) (if (bI (fX2_isMissing sbi x1)) = 0 then fix3 (fX5_lays_l42 hrs fnd she snu x1) 2000 (0 : Int32) (0 : Int32) ags else (fX5_found fnd (-1000000006 : Int32)).bind fun q33 => some (q33.1, ags, q33.2))
abbrev rX5_lays : Room := { frames := 2, cells := 0, slots := 0, locals := 44 }
set_option maxHeartbeats 4000000 in
set_option maxRecDepth 100000 in
theorem kX5_lays (l : Launch) (D : va_G) (a : Nat → Nat) (cI cJ cS : ClassId) (hd : aok a 36) {Env : (Nat → Prop) → State → Heap → Prop} (hEo : envOK Env) (par : Int32) (kin lea mos wrt : Nat → Int32) (tal : Int32) (siz tol : Nat → Int32) (hrs : Int32) (ags : Nat → Int32) (yea kpar : Int32) (kkin klea kmos kwrt : Nat → Int32) (ktal : Int32) (ksiz ktol : Nat → Int32) (khrs : Int32) (kags : Nat → Int32) (kyea isk : Int32) (tly : Nat → Int64) (gai bes : Nat → Int32) (low hig : Nat → Int64) (spn : Int32) (byt : Nat → Int32) (hld sta beh sor num : Int32) (fnd sbi she : Nat → Int32) (snu : Nat → Nat → Int64) (x1 : Int32) (res : Int32 × (Nat → Int32) × (Nat → Int32)) (hres : fX5_lays hrs ags fnd sbi she snu x1 = some res) : CtI l D (tyL cI cJ cS) 36 a Env yX5_lays wsX5_lays rX5_lays [.ref (a 0), .int x1] (wX a cI cJ cS par kin lea mos wrt tal siz tol hrs ags yea kpar kkin klea kmos kwrt ktal ksiz ktol khrs kags kyea isk tly gai bes low hig spn byt hld sta beh sor num fnd sbi she snu) (wX a cI cJ cS par kin lea mos wrt tal siz tol hrs res.2.1 yea kpar kkin klea kmos kwrt ktal ksiz ktol khrs kags kyea isk tly gai bes low hig spn byt hld sta beh sor num res.2.2 sbi she snu) res.1 := by
  refine CtI_mk (cc := cX5_lays) (maxL := 7) (ret := (some .int)) (by decide) rfl (Nat.le_of_ble_eq_true rfl) ?_
  intro p e s m args below meth c ls hx hb hr hlk hml hown hts hP hK hE hl
  have hS : va_S (adA a 36 s.heap.size) s.heap s.heap [] := va_S.rf
  have hl : lv_has ls 7 [(0, .ref (a 0)), (1, .int x1)] := hl
  have hown : s.vm.findClass RX5 = some m.cls := hown
  have hw2 : ∀ w ∈ wsX20, w.before args s = true := fun w h => hts w (List.mem_cons_of_mem _ (List.mem_append_right _ h))
  have hw3 : ∀ w ∈ wsX30, w.before args s = true := fun w h => hts w (List.mem_cons_of_mem _ (List.mem_append_left _ (List.mem_append_right _ h)))
  have hw5 : ∀ w ∈ wsX50, w.before args s = true := fun w h => hts w (List.mem_cons_of_mem _ (List.mem_append_left _ (List.mem_append_left _ (List.mem_append_right _ h))))
  have u1 : (Cond.constant RX5 63 (-1000000001)).before args s = true := hts _ (List.mem_of_getElem? (i := 1) (by decide +kernel))
  have u2 : (Cond.fieldLink RX5 50 "YearWords" "sheets" "[LYearWords$Sheet;").before args s = true := hts _ (List.mem_of_getElem? (i := 2) (by decide +kernel))
  have u3 : (Cond.constant RX5 239 (-1000000006)).before args s = true := hts _ (List.mem_of_getElem? (i := 3) (by decide +kernel))
  have u4 : (Cond.fieldLink RX5 12 "YearWords" "now" "LYearWords$Stock;").before args s = true := hts _ (List.mem_of_getElem? (i := 4) (by decide +kernel))
  have u5 : (Cond.fieldLink RX5 174 "YearWords$Stock" "hearers" "I").before args s = true := hts _ (List.mem_of_getElem? (i := 5) (by decide +kernel))
  have u6 : (Cond.fieldLink RX5 240 "YearWords$Sheet" "held" "I").before args s = true := hts _ (List.mem_of_getElem? (i := 6) (by decide +kernel))
  have u7 : (Cond.fieldLink RX5 250 "YearWords$Sheet" "numbers" "[J").before args s = true := hts _ (List.mem_of_getElem? (i := 7) (by decide +kernel))
  have u8 : (Cond.constantLong RX5 260 (99)).before args s = true := hts _ (List.mem_of_getElem? (i := 8) (by decide +kernel))
  have u9 : (Cond.fieldLink RX5 183 "YearWords$Stock" "ages" "[I").before args s = true := hts _ (List.mem_of_getElem? (i := 9) (by decide +kernel))
  obtain ⟨Q, hQ⟩ : ∃ Q, Q = mqI below D 36 a args s (wX a cI cJ cS par kin lea mos wrt tal siz tol hrs res.2.1 yea kpar kkin klea kmos kwrt ktal ksiz ktol khrs kags kyea isk tly gai bes low hig spn byt hld sta beh sor num res.2.2 sbi she snu) res.1 := ⟨_, rfl⟩
  rw [← hQ]
  have b42 : ∀ (fnd : Nat → Int32) (x2 : Int32) (n : Nat) (x3 : Int32) (x4 : Int32) (ags : Nat → Int32), fix3 (fX5_lays_l42 hrs fnd she snu x2) n x3 x4 ags = some res → vp_in x2 4 → ∀ (H : Heap) (locs : List Loc) (ls : Array Slot), va_P D vwCl (wX a cI cJ cS par kin lea mos wrt tal siz tol hrs ags yea kpar kkin klea kmos kwrt ktal ksiz ktol khrs kags kyea isk tly gai bes low hig spn byt hld sta beh sor num fnd sbi she snu) H → va_S (adA a 36 s.heap.size) s.heap H locs → lv_has ls 7 [(0, .ref (a 0)), (2, .ref (a (28 + 2 * x2.toNatClampNeg))), (3, .int x3), (4, .int x4)] → W p l e rX5_lays s m args below meth c H locs 0 0 Q (F0 m 42 ls []) := by
    intro fnd x2
    refine fix3_r ?_
    intro K42 hK42 x3 x4 ags hres hi2 H locs ls hP hS hl
    have b104 : ∀ (ags : Nat → Int32) (x3 : Int32) (x4 : Int32), fX5_lays_b104 K42 ags x3 x4 = some res → vp_in x2 4 → ∀ (H : Heap) (locs : List Loc) (ls : Array Slot), va_P D vwCl (wX a cI cJ cS par kin lea mos wrt tal siz tol hrs ags yea kpar kkin klea kmos kwrt ktal ksiz ktol khrs kags kyea isk tly gai bes low hig spn byt hld sta beh sor num fnd sbi she snu) H → va_S (adA a 36 s.heap.size) s.heap H locs → lv_has ls 7 [(0, .ref (a 0)), (2, .ref (a (28 + 2 * x2.toNatClampNeg))), (3, .int x3), (4, .int x4)] → W p l e rX5_lays s m args below meth c H locs 0 0 Q (F0 m 104 ls []) := by
      intro ags x3 x4 hres hi2 H locs ls hP hS hl
      unfold fX5_lays_b104 at hres
      refine lv_iinc (v := x4 + 1) (lv' := [(4, .int (x4 + 1)), (0, .ref (a 0)), (2, .ref (a (28 + 2 * x2.toNatClampNeg))), (3, .int x3)]) hx hb dX5_lays_104 hl (k := 3) rfl (congrArg (fun z => x4 + z) (by decide)) (by decide) rfl (fun ls hl => ?_)
      refine lv_goto (tgt := 42) hx hb dX5_lays_107 (by decide) ?_
      exact hK42 x3 (x4 + 1) ags hres hi2 _ _ _ hP hS (lv_sub hl [1, 2, 3, 0] rfl)
    unfold fX5_lays_l42 at hres
    refine lv_iload hx hb dX5_lays_42 (lv_at hl 3 rfl) ?_
    refine lv_aload_n hx hb dX5_lays_44 rfl (lv_at hl 0 rfl) ?_
    refine gX_this5_now hx hb hown hw5 hK hP u4 dX5_lays_45 ?_
    refine gX_now_hearers hx hb hown hw3 hK hP u5 dX5_lays_48 ?_
    refine lv_icmp_ge (tgt := 110) hx hb dX5_lays_51 (by decide) (fun c51 => ?_) (fun c51 => ?_)
    · have hres := (itl hres).1 c51
      refine lv_iload_n hx hb dX5_lays_110 rfl (lv_at hl 2 rfl) ?_
      exact hQ ▸ rtI (v := x3)  hx hb hr hlk hP hS (by rw [← (Option.some.inj hres)]) (by rw [← (Option.some.inj hres)]) dX5_lays_111
    · have hres := (itl hres).2 c51
      refine lv_iload hx hb dX5_lays_54 (lv_at hl 3 rfl) ?_
      refine lv_aload_n hx hb dX5_lays_56 rfl (lv_at hl 1 rfl) ?_
      refine gX_sheet_held hx hb hown hw2 hK hP hi2 u6 dX5_lays_57 ?_
      refine lv_icmp_ge (tgt := 110) hx hb dX5_lays_60 (by decide) (fun c60 => ?_) (fun c60 => ?_)
      · have hres := (itl hres).1 c60
        refine lv_iload_n hx hb dX5_lays_110 rfl (lv_at hl 2 rfl) ?_
        exact hQ ▸ rtI (v := x3)  hx hb hr hlk hP hS (by rw [← (Option.some.inj hres)]) (by rw [← (Option.some.inj hres)]) dX5_lays_111
      · have hres := (itl hres).2 c60
        refine lv_aload_n hx hb dX5_lays_63 rfl (lv_at hl 1 rfl) ?_
        refine gX_sheet_numbers hx hb hown hw2 hK hP hi2 u7 dX5_lays_64 ?_
        refine lv_iload hx hb dX5_lays_67 (lv_at hl 3 rfl) ?_
        obtain ⟨i69, hres⟩ := gdi hres
        refine lX_sheet hx hb hK hP hi2 i69 dX5_lays_69 ?_
        refine lv_lstore (lv' := [(5, .long (snu x2.toNatClampNeg x4.toNatClampNeg)), (0, .ref (a 0)), (2, .ref (a (28 + 2 * x2.toNatClampNeg))), (3, .int x3), (4, .int x4)]) hx hb dX5_lays_70 hl (by decide) rfl (fun ls hl => ?_)
        refine lv_lload hx hb dX5_lays_72 (lv_at hl 0 rfl) ?_
        refine lv_lconst (v := 0) hx hb dX5_lays_74 (by decide) ?_
        refine W.lcmp hx hb dX5_lays_75 ?_
        refine lv_if_lt (tgt := 104) hx hb dX5_lays_76 (by decide) (fun c76 => ?_) (fun c76 => ?_)
        · have hres := (itl hres).1 c76
          exact b104 ags x3 x4 hres hi2 _ _ _ hP hS (lv_sub hl [1, 2, 3, 4] rfl)
        · have hres := (itl hres).2 c76
          refine lv_lload hx hb dX5_lays_79 (lv_at hl 0 rfl) ?_
          refine lv_ldc2 hx hb hown u8 dX5_lays_81 ?_
          refine W.lcmp hx hb dX5_lays_84 ?_
          refine lv_if_gt (tgt := 104) hx hb dX5_lays_85 (by decide) (fun c85 => ?_) (fun c85 => ?_)
          · have hres := (itl hres).1 c85
            exact b104 ags x3 x4 hres hi2 _ _ _ hP hS (lv_sub hl [1, 2, 3, 4] rfl)
          · have hres := (itl hres).2 c85
            refine lv_aload_n hx hb dX5_lays_88 rfl (lv_at hl 1 rfl) ?_
            refine gX_this5_now hx hb hown hw5 hK hP u4 dX5_lays_89 ?_
            refine gX_now_ages hx hb hown hw3 hK hP u9 dX5_lays_92 ?_
            refine lv_iload hx hb dX5_lays_95 (lv_at hl 4 rfl) ?_
            refine lv_lload hx hb dX5_lays_97 (lv_at hl 0 rfl) ?_
            refine lv_l2i hx hb dX5_lays_99 rfl ?_
            obtain ⟨i100, hres⟩ := gdi hres
            refine sX_ags hx hb hK hP hd hS i100 dX5_lays_100 (fun H locs hP hS => ?_)
            refine lv_iinc (v := x3 + 1) (lv' := [(3, .int (x3 + 1)), (5, .long (snu x2.toNatClampNeg x4.toNatClampNeg)), (0, .ref (a 0)), (2, .ref (a (28 + 2 * x2.toNatClampNeg))), (4, .int x4)]) hx hb dX5_lays_101 hl (k := 3) rfl (congrArg (fun z => x3 + z) (by decide)) (by decide) rfl (fun ls hl => ?_)
            exact b104 (upd ags x4.toNatClampNeg ((snu x2.toNatClampNeg x4.toNatClampNeg).toInt32)) (x3 + 1) x4 hres hi2 _ _ _ hP hS (lv_sub hl [2, 3, 0, 4] rfl)
  unfold fX5_lays at hres
  refine lv_iload_n hx hb dX5_lays_0 rfl (lv_at hl 1 rfl) ?_
  refine lv_iconst (v := 0) hx hb dX5_lays_1 (by decide) ?_
  refine lv_iconst (v := 3) hx hb dX5_lays_2 (by decide) ?_
  refine csI hx hb hml hown hts hEo hE hK hP hS (kX5_isIn l D a cI cJ cS hd hEo par kin lea mos wrt tal siz tol hrs ags yea kpar kkin klea kmos kwrt ktal ksiz ktol khrs kags kyea isk tly gai bes low hig spn byt hld sta beh sor num fnd sbi she snu x1 (0 : Int32) (3 : Int32)) gX5_lays_X5_isIn rfl hdX5_isIn ⟨rfl, rfl⟩ ⟨Nat.le_of_ble_eq_true rfl, Nat.le_of_ble_eq_true rfl⟩ ⟨Nat.zero_le _, Nat.zero_le _⟩ rfl hl.1 rfl (Nat.le_of_ble_eq_true rfl) dX5_lays_3 (fun H locs hP hS => ?_)
  refine lv_if_ne (tgt := 16) hx hb dX5_lays_6 (by decide) (fun c6 => ?_) (fun c6 => ?_)
  · have hres := (itl hres).2 c6
    refine lv_aload_n hx hb dX5_lays_16 rfl (lv_at hl 0 rfl) ?_
    refine gX_this5_sheets hx hb hown hw5 hK hP u2 dX5_lays_17 ?_
    refine lv_iload_n hx hb dX5_lays_20 rfl (lv_at hl 1 rfl) ?_
    obtain ⟨i21, hres⟩ := gdi hres
    refine lX_sheets hx hb hK hP i21 dX5_lays_21 ?_
    refine lv_astore_n (lv' := [(2, .ref (a (28 + 2 * x1.toNatClampNeg))), (0, .ref (a 0)), (1, .int x1)]) hx hb dX5_lays_22 rfl hl (by decide) rfl (fun ls hl => ?_)
    refine lv_aload_n hx hb dX5_lays_23 rfl (lv_at hl 0 rfl) ?_
    refine cvI (q0 := (28 + 2 * x1.toNatClampNeg)) (ci := 2) hx hb hml hown hts hEo hE hK hP hS (kX2_isMissing l D a cI cJ cS hd hEo par kin lea mos wrt tal siz tol hrs ags yea kpar kkin klea kmos kwrt ktal ksiz ktol khrs kags kyea isk tly gai bes low hig spn byt hld sta beh sor num fnd sbi she snu x1 i21) gX5_lays_X2_isMissing rfl hdX2_isMissing rfl rfl (wX_sh_at (sh_lt i21)) ⟨rfl, rfl⟩ ⟨Nat.le_of_ble_eq_true rfl, Nat.le_of_ble_eq_true rfl⟩ ⟨Nat.zero_le _, Nat.zero_le _⟩ rfl hl.1 rfl (Nat.le_of_ble_eq_true rfl) dX5_lays_24 (fun H locs hP hS => ?_)
    refine lv_if_eq (tgt := 37) hx hb dX5_lays_27 (by decide) (fun c27 => ?_) (fun c27 => ?_)
    · have hres := (itl hres).1 c27
      refine lv_iconst (v := 0) hx hb dX5_lays_37 (by decide) ?_
      refine lv_istore_n (lv' := [(3, .int (0 : Int32)), (2, .ref (a (28 + 2 * x1.toNatClampNeg))), (0, .ref (a 0)), (1, .int x1)]) hx hb dX5_lays_38 rfl hl (by decide) rfl (fun ls hl => ?_)
      refine lv_iconst (v := 0) hx hb dX5_lays_39 (by decide) ?_
      refine lv_istore (lv' := [(4, .int (0 : Int32)), (3, .int (0 : Int32)), (2, .ref (a (28 + 2 * x1.toNatClampNeg))), (0, .ref (a 0)), (1, .int x1)]) hx hb dX5_lays_40 hl (by decide) rfl (fun ls hl => ?_)
      exact b42 fnd x1 2000 (0 : Int32) (0 : Int32) ags hres i21 _ _ _ hP hS (lv_sub hl [3, 2, 1, 0] rfl)
    · have hres := (itl hres).2 c27
      refine lv_aload_n hx hb dX5_lays_30 rfl (lv_at hl 1 rfl) ?_
      refine lv_ldc hx hb hown u3 dX5_lays_31 ?_
      obtain ⟨q33, e33, hres⟩ := obd hres
      refine cvI (q0 := 0) (ci := 5) hx hb hml hown hts hEo hE hK hP hS (kX5_found l D a cI cJ cS hd hEo par kin lea mos wrt tal siz tol hrs ags yea kpar kkin klea kmos kwrt ktal ksiz ktol khrs kags kyea isk tly gai bes low hig spn byt hld sta beh sor num fnd sbi she snu (-1000000006 : Int32) q33 e33) gX5_lays_X5_found rfl hdX5_found rfl rfl rfl ⟨rfl, rfl⟩ ⟨Nat.le_of_ble_eq_true rfl, Nat.le_of_ble_eq_true rfl⟩ ⟨Nat.zero_le _, Nat.zero_le _⟩ rfl hl.1 rfl (Nat.le_of_ble_eq_true rfl) dX5_lays_33 (fun H locs hP hS => ?_)
      exact hQ ▸ rtI (v := q33.1)  hx hb hr hlk hP hS (by rw [← (Option.some.inj hres)]) (by rw [← (Option.some.inj hres)]) dX5_lays_36
  · have hres := (itl hres).1 c6
    refine lv_aload_n hx hb dX5_lays_9 rfl (lv_at hl 0 rfl) ?_
    refine lv_ldc hx hb hown u1 dX5_lays_10 ?_
    obtain ⟨q12, e12, hres⟩ := obd hres
    refine cvI (q0 := 0) (ci := 5) hx hb hml hown hts hEo hE hK hP hS (kX5_found l D a cI cJ cS hd hEo par kin lea mos wrt tal siz tol hrs ags yea kpar kkin klea kmos kwrt ktal ksiz ktol khrs kags kyea isk tly gai bes low hig spn byt hld sta beh sor num fnd sbi she snu (-1000000001 : Int32) q12 e12) gX5_lays_X5_found rfl hdX5_found rfl rfl rfl ⟨rfl, rfl⟩ ⟨Nat.le_of_ble_eq_true rfl, Nat.le_of_ble_eq_true rfl⟩ ⟨Nat.zero_le _, Nat.zero_le _⟩ rfl hl.1 rfl (Nat.le_of_ble_eq_true rfl) dX5_lays_12 (fun H locs hP hS => ?_)
    exact hQ ▸ rtI (v := q12.1)  hx hb hr hlk hP hS (by rw [← (Option.some.inj hres)]) (by rw [← (Option.some.inj hres)]) dX5_lays_15
def fX5_say_b60 (gai : Nat → Int32) (bes : Nat → Int32) (fnd : Nat → Int32) (snu : Nat → Nat → Int64) : Option (Int32 × (Nat → Int32) × (Nat → Int32) × (Nat → Int32) × (Nat → Nat → Int64)) :=
 (fX5_found fnd (-1000000001 : Int32)).bind fun q63 => some (q63.1, gai, bes, q63.2, snu)
def fX5_say_l110 (gai : Nat → Int32) (bes : Nat → Int32) (fnd : Nat → Int32) (sbi : Nat → Int32) (x4 : Int32) (x5 : Int32) (K110 : Int32 → (Nat → Nat → Int64) → Option (Int32 × (Nat → Int32) × (Nat → Int32) × (Nat → Int32) × (Nat → Nat → Int64))) (x6 : Int32) (snu : Nat → Nat → Int64) : Option (Int32 × (Nat → Int32) × (Nat → Int32) × (Nat → Int32) × (Nat → Nat → Int64)) :=
  if x5 ≤ x6 then some (x5, gai, bes, fnd, snu) else gd (ib x6 10) ((fX2_put sbi snu x4 x6 ((bes x6.toNatClampNeg).toInt64)).bind fun q132 => K110 (x6 + 1) q132.2)
def fX5_say (kin : Nat → Int32) (lea : Nat → Int32) (mos : Nat → Int32) (wrt : Nat → Int32) (tal : Int32) (siz : Nat → Int32) (tol : Nat → Int32) (gai : Nat → Int32) (bes : Nat → Int32) (fnd : Nat → Int32) (sbi : Nat → Int32) (she : Nat → Int32) (snu : Nat → Nat → Int64) (x1 : Int32) (x2 : Int32) (x3 : Int32) : Option (Int32 × (Nat → Int32) × (Nat → Int32) × (Nat → Int32) × (Nat → Nat → Int64)) :=
  if (bI (fX5_isIn x1 (0 : Int32) (3 : Int32))) = 0 then (fX5_found fnd (-1000000001 : Int32)).bind fun q12 => some (q12.1, gai, bes, q12.2, snu) else gd (ib x1 4) (if (bI (fX2_isMissing sbi x1)) = 0 then if (bI (fX3_hasTale tal x2)) = 0 then fX5_say_b60 gai bes fnd snu else if (bI (fX5_isIn x3 (0 : Int32) (120 : Int32))) = 0 then fX5_say_b60 gai bes fnd snu else (fX1_findBest kin lea mos wrt siz tol gai bes x2 x3).bind fun q73 => if q73.1 = (-1000000000 : Int32) then (fX5_found fnd (-1000000004 : Int32)).bind fun q84 => some (q84.1, q73.2.1, q73.2.2, q84.2, snu) else gd (ib x2 8) (fix2 (fX5_say_l110 q73.2.1 q73.2.2 fnd sbi x1 (if (she x1.toNatClampNeg) < (siz x2.toNatClampNeg) then (she x1.toNatClampNeg) else (siz x2.toNatClampNeg))) 2000 (0 : Int32) snu) else (fX5_found fnd (-1000000006 : Int32)).bind fun q35 => some (q35.1, gai, bes, q35.2, snu))
abbrev rX5_say : Room := { frames := 4, cells := 0, slots := 0, locals := 96 }
set_option maxHeartbeats 4000000 in
set_option maxRecDepth 100000 in
theorem kX5_say (l : Launch) (D : va_G) (a : Nat → Nat) (cI cJ cS : ClassId) (hd : aok a 36) {Env : (Nat → Prop) → State → Heap → Prop} (hEo : envOK Env) (par : Int32) (kin lea mos wrt : Nat → Int32) (tal : Int32) (siz tol : Nat → Int32) (hrs : Int32) (ags : Nat → Int32) (yea kpar : Int32) (kkin klea kmos kwrt : Nat → Int32) (ktal : Int32) (ksiz ktol : Nat → Int32) (khrs : Int32) (kags : Nat → Int32) (kyea isk : Int32) (tly : Nat → Int64) (gai bes : Nat → Int32) (low hig : Nat → Int64) (spn : Int32) (byt : Nat → Int32) (hld sta beh sor num : Int32) (fnd sbi she : Nat → Int32) (snu : Nat → Nat → Int64) (x1 : Int32) (x2 : Int32) (x3 : Int32) (res : Int32 × (Nat → Int32) × (Nat → Int32) × (Nat → Int32) × (Nat → Nat → Int64)) (hres : fX5_say kin lea mos wrt tal siz tol gai bes fnd sbi she snu x1 x2 x3 = some res) : CtI l D (tyL cI cJ cS) 36 a Env yX5_say wsX5_say rX5_say [.ref (a 0), .int x1, .int x2, .int x3] (wX a cI cJ cS par kin lea mos wrt tal siz tol hrs ags yea kpar kkin klea kmos kwrt ktal ksiz ktol khrs kags kyea isk tly gai bes low hig spn byt hld sta beh sor num fnd sbi she snu) (wX a cI cJ cS par kin lea mos wrt tal siz tol hrs ags yea kpar kkin klea kmos kwrt ktal ksiz ktol khrs kags kyea isk tly res.2.1 res.2.2.1 low hig spn byt hld sta beh sor num res.2.2.2.1 sbi she res.2.2.2.2) res.1 := by
  refine CtI_mk (cc := cX5_say) (maxL := 7) (ret := (some .int)) (by decide) rfl (Nat.le_of_ble_eq_true rfl) ?_
  intro p e s m args below meth c ls hx hb hr hlk hml hown hts hP hK hE hl
  have hS : va_S (adA a 36 s.heap.size) s.heap s.heap [] := va_S.rf
  have hl : lv_has ls 7 [(0, .ref (a 0)), (1, .int x1), (2, .int x2), (3, .int x3)] := hl
  have hown : s.vm.findClass RX5 = some m.cls := hown
  have hw1 : ∀ w ∈ wsX10, w.before args s = true := fun w h => hts w (List.mem_cons_of_mem _ (List.mem_append_right _ h))
  have hw2 : ∀ w ∈ wsX20, w.before args s = true := fun w h => hts w (List.mem_cons_of_mem _ (List.mem_append_left _ (List.mem_append_right _ h)))
  have hw3 : ∀ w ∈ wsX30, w.before args s = true := fun w h => hts w (List.mem_cons_of_mem _ (List.mem_append_left _ (List.mem_append_left _ (List.mem_append_right _ h))))
  have hw5 : ∀ w ∈ wsX50, w.before args s = true := fun w h => hts w (List.mem_cons_of_mem _ (List.mem_append_left _ (List.mem_append_left _ (List.mem_append_left _ (List.mem_append_right _ h)))))
  have u1 : (Cond.constant RX5 63 (-1000000001)).before args s = true := hts _ (List.mem_of_getElem? (i := 1) (by decide +kernel))
  have u2 : (Cond.fieldLink RX5 50 "YearWords" "sheets" "[LYearWords$Sheet;").before args s = true := hts _ (List.mem_of_getElem? (i := 2) (by decide +kernel))
  have u3 : (Cond.constant RX5 239 (-1000000006)).before args s = true := hts _ (List.mem_of_getElem? (i := 3) (by decide +kernel))
  have u4 : (Cond.fieldLink RX5 12 "YearWords" "now" "LYearWords$Stock;").before args s = true := hts _ (List.mem_of_getElem? (i := 4) (by decide +kernel))
  have u5 : (Cond.fieldLink RX5 28 "YearWords" "sayings" "LYearWords$Sayings;").before args s = true := hts _ (List.mem_of_getElem? (i := 5) (by decide +kernel))
  have u6 : (Cond.constant RX5 160 (-1000000000)).before args s = true := hts _ (List.mem_of_getElem? (i := 6) (by decide +kernel))
  have u7 : (Cond.constant RX5 129 (-1000000004)).before args s = true := hts _ (List.mem_of_getElem? (i := 7) (by decide +kernel))
  have u8 : (Cond.fieldLink RX5 123 "YearWords$Stock" "sizes" "[I").before args s = true := hts _ (List.mem_of_getElem? (i := 8) (by decide +kernel))
  have u9 : (Cond.fieldLink RX5 240 "YearWords$Sheet" "held" "I").before args s = true := hts _ (List.mem_of_getElem? (i := 9) (by decide +kernel))
  have u10 : (Cond.methodLink RX5 262 Lib.Math.min.name).before args s = true := hts _ (List.mem_of_getElem? (i := 10) (by decide +kernel))
  have u11 : (Cond.static Lib.Math.min.name).before args s = true := hts _ (List.mem_of_getElem? (i := 11) (by decide +kernel))
  have u12 : (Cond.initialized "java/lang/Math").before args s = true := hts _ (List.mem_of_getElem? (i := 12) (by decide +kernel))
  have u13 : (Cond.code Lib.Math.min.name Lib.Math.min.code 2 (some .int)).before args s = true := hts _ (List.mem_of_getElem? (i := 13) (by decide +kernel))
  have u14 : (Cond.fieldLink RX5 161 "YearWords$Sayings" "bestLengths" "[I").before args s = true := hts _ (List.mem_of_getElem? (i := 14) (by decide +kernel))
  obtain ⟨Q, hQ⟩ : ∃ Q, Q = mqI below D 36 a args s (wX a cI cJ cS par kin lea mos wrt tal siz tol hrs ags yea kpar kkin klea kmos kwrt ktal ksiz ktol khrs kags kyea isk tly res.2.1 res.2.2.1 low hig spn byt hld sta beh sor num res.2.2.2.1 sbi she res.2.2.2.2) res.1 := ⟨_, rfl⟩
  rw [← hQ]
  have b60 : ∀ (gai : Nat → Int32) (bes : Nat → Int32) (fnd : Nat → Int32) (snu : Nat → Nat → Int64), fX5_say_b60 gai bes fnd snu = some res → ∀ (H : Heap) (locs : List Loc) (ls : Array Slot), va_P D vwCl (wX a cI cJ cS par kin lea mos wrt tal siz tol hrs ags yea kpar kkin klea kmos kwrt ktal ksiz ktol khrs kags kyea isk tly gai bes low hig spn byt hld sta beh sor num fnd sbi she snu) H → va_S (adA a 36 s.heap.size) s.heap H locs → lv_has ls 7 [(0, .ref (a 0))] → W p l e rX5_say s m args below meth c H locs 0 0 Q (F0 m 60 ls []) := by
    intro gai bes fnd snu hres H locs ls hP hS hl
    unfold fX5_say_b60 at hres
    refine lv_aload_n hx hb dX5_say_60 rfl (lv_at hl 0 rfl) ?_
    refine lv_ldc hx hb hown u1 dX5_say_61 ?_
    obtain ⟨q63, e63, hres⟩ := obd hres
    refine cvI (q0 := 0) (ci := 5) hx hb hml hown hts hEo hE hK hP hS (kX5_found l D a cI cJ cS hd hEo par kin lea mos wrt tal siz tol hrs ags yea kpar kkin klea kmos kwrt ktal ksiz ktol khrs kags kyea isk tly gai bes low hig spn byt hld sta beh sor num fnd sbi she snu (-1000000001 : Int32) q63 e63) gX5_say_X5_found rfl hdX5_found rfl rfl rfl ⟨rfl, rfl⟩ ⟨Nat.le_of_ble_eq_true rfl, Nat.le_of_ble_eq_true rfl⟩ ⟨Nat.zero_le _, Nat.zero_le _⟩ rfl hl.1 rfl (Nat.le_of_ble_eq_true rfl) dX5_say_63 (fun H locs hP hS => ?_)
    exact hQ ▸ rtI (v := q63.1)  hx hb hr hlk hP hS (by rw [← (Option.some.inj hres)]) (by rw [← (Option.some.inj hres)]) dX5_say_66
  have b110 : ∀ (gai : Nat → Int32) (bes : Nat → Int32) (fnd : Nat → Int32) (x4 : Int32) (x5 : Int32) (n : Nat) (x6 : Int32) (snu : Nat → Nat → Int64), fix2 (fX5_say_l110 gai bes fnd sbi x4 x5) n x6 snu = some res → vp_in x4 4 → ∀ (H : Heap) (locs : List Loc) (ls : Array Slot), va_P D vwCl (wX a cI cJ cS par kin lea mos wrt tal siz tol hrs ags yea kpar kkin klea kmos kwrt ktal ksiz ktol khrs kags kyea isk tly gai bes low hig spn byt hld sta beh sor num fnd sbi she snu) H → va_S (adA a 36 s.heap.size) s.heap H locs → lv_has ls 7 [(0, .ref (a 0)), (4, .ref (a (28 + 2 * x4.toNatClampNeg))), (5, .int x5), (6, .int x6)] → W p l e rX5_say s m args below meth c H locs 0 0 Q (F0 m 110 ls []) := by
    intro gai bes fnd x4 x5
    refine fix2_r ?_
    intro K110 hK110 x6 snu hres hi4 H locs ls hP hS hl
    unfold fX5_say_l110 at hres
    refine lv_iload hx hb dX5_say_110 (lv_at hl 3 rfl) ?_
    refine lv_iload hx hb dX5_say_112 (lv_at hl 2 rfl) ?_
    refine lv_icmp_ge (tgt := 142) hx hb dX5_say_114 (by decide) (fun c114 => ?_) (fun c114 => ?_)
    · have hres := (itl hres).1 c114
      refine lv_iload hx hb dX5_say_142 (lv_at hl 2 rfl) ?_
      exact hQ ▸ rtI (v := x5)  hx hb hr hlk hP hS (by rw [← (Option.some.inj hres)]) (by rw [← (Option.some.inj hres)]) dX5_say_144
    · have hres := (itl hres).2 c114
      refine lv_aload hx hb dX5_say_117 (lv_at hl 1 rfl) ?_
      refine lv_iload hx hb dX5_say_119 (lv_at hl 3 rfl) ?_
      refine lv_aload_n hx hb dX5_say_121 rfl (lv_at hl 0 rfl) ?_
      refine gX_this5_sayings hx hb hown hw5 hK hP u5 dX5_say_122 ?_
      refine gX_sayo_bestLengths hx hb hown hw1 hK hP u14 dX5_say_125 ?_
      refine lv_iload hx hb dX5_say_128 (lv_at hl 3 rfl) ?_
      obtain ⟨i130, hres⟩ := gdi hres
      refine lX_bes hx hb hK hP i130 dX5_say_130 ?_
      refine lv_i2l hx hb dX5_say_131 rfl ?_
      obtain ⟨q132, e132, hres⟩ := obd hres
      refine cvL (q0 := (28 + 2 * x4.toNatClampNeg)) (ci := 2) hx hb hml hown hts hEo hE hK hP hS (kX2_put l D a cI cJ cS hd hEo par kin lea mos wrt tal siz tol hrs ags yea kpar kkin klea kmos kwrt ktal ksiz ktol khrs kags kyea isk tly gai bes low hig spn byt hld sta beh sor num fnd sbi she snu x4 x6 ((bes x6.toNatClampNeg).toInt64) hi4 q132 e132) gX5_say_X2_put rfl hdX2_put rfl rfl (wX_sh_at (sh_lt hi4)) ⟨rfl, rfl⟩ ⟨Nat.le_of_ble_eq_true rfl, Nat.le_of_ble_eq_true rfl⟩ ⟨Nat.zero_le _, Nat.zero_le _⟩ rfl hl.1 rfl (Nat.le_of_ble_eq_true rfl) dX5_say_132 (fun H locs hP hS => ?_)
      refine lv_pop2_2 hx hb dX5_say_135 rfl ?_
      refine lv_iinc (v := x6 + 1) (lv' := [(6, .int (x6 + 1)), (0, .ref (a 0)), (4, .ref (a (28 + 2 * x4.toNatClampNeg))), (5, .int x5)]) hx hb dX5_say_136 hl (k := 3) rfl (congrArg (fun z => x6 + z) (by decide)) (by decide) rfl (fun ls hl => ?_)
      refine lv_goto (tgt := 110) hx hb dX5_say_139 (by decide) ?_
      exact hK110 (x6 + 1) q132.2 hres hi4 _ _ _ hP hS (lv_sub hl [1, 2, 3, 0] rfl)
  unfold fX5_say at hres
  refine lv_iload_n hx hb dX5_say_0 rfl (lv_at hl 1 rfl) ?_
  refine lv_iconst (v := 0) hx hb dX5_say_1 (by decide) ?_
  refine lv_iconst (v := 3) hx hb dX5_say_2 (by decide) ?_
  refine csI hx hb hml hown hts hEo hE hK hP hS (kX5_isIn l D a cI cJ cS hd hEo par kin lea mos wrt tal siz tol hrs ags yea kpar kkin klea kmos kwrt ktal ksiz ktol khrs kags kyea isk tly gai bes low hig spn byt hld sta beh sor num fnd sbi she snu x1 (0 : Int32) (3 : Int32)) gX5_say_X5_isIn rfl hdX5_isIn ⟨rfl, rfl⟩ ⟨Nat.le_of_ble_eq_true rfl, Nat.le_of_ble_eq_true rfl⟩ ⟨Nat.zero_le _, Nat.zero_le _⟩ rfl hl.1 rfl (Nat.le_of_ble_eq_true rfl) dX5_say_3 (fun H locs hP hS => ?_)
  refine lv_if_ne (tgt := 16) hx hb dX5_say_6 (by decide) (fun c6 => ?_) (fun c6 => ?_)
  · have hres := (itl hres).2 c6
    refine lv_aload_n hx hb dX5_say_16 rfl (lv_at hl 0 rfl) ?_
    refine gX_this5_sheets hx hb hown hw5 hK hP u2 dX5_say_17 ?_
    refine lv_iload_n hx hb dX5_say_20 rfl (lv_at hl 1 rfl) ?_
    obtain ⟨i21, hres⟩ := gdi hres
    refine lX_sheets hx hb hK hP i21 dX5_say_21 ?_
    refine lv_astore (lv' := [(4, .ref (a (28 + 2 * x1.toNatClampNeg))), (0, .ref (a 0)), (1, .int x1), (2, .int x2), (3, .int x3)]) hx hb dX5_say_22 hl (by decide) rfl (fun ls hl => ?_)
    refine lv_aload hx hb dX5_say_24 (lv_at hl 0 rfl) ?_
    refine cvI (q0 := (28 + 2 * x1.toNatClampNeg)) (ci := 2) hx hb hml hown hts hEo hE hK hP hS (kX2_isMissing l D a cI cJ cS hd hEo par kin lea mos wrt tal siz tol hrs ags yea kpar kkin klea kmos kwrt ktal ksiz ktol khrs kags kyea isk tly gai bes low hig spn byt hld sta beh sor num fnd sbi she snu x1 i21) gX5_say_X2_isMissing rfl hdX2_isMissing rfl rfl (wX_sh_at (sh_lt i21)) ⟨rfl, rfl⟩ ⟨Nat.le_of_ble_eq_true rfl, Nat.le_of_ble_eq_true rfl⟩ ⟨Nat.zero_le _, Nat.zero_le _⟩ rfl hl.1 rfl (Nat.le_of_ble_eq_true rfl) dX5_say_26 (fun H locs hP hS => ?_)
    refine lv_if_eq (tgt := 39) hx hb dX5_say_29 (by decide) (fun c29 => ?_) (fun c29 => ?_)
    · have hres := (itl hres).1 c29
      refine lv_aload_n hx hb dX5_say_39 rfl (lv_at hl 1 rfl) ?_
      refine gX_this5_now hx hb hown hw5 hK hP u4 dX5_say_40 ?_
      refine lv_iload_n hx hb dX5_say_43 rfl (lv_at hl 3 rfl) ?_
      refine cvI (q0 := 1) (ci := 3) hx hb hml hown hts hEo hE hK hP hS (kX3_hasTale l D a cI cJ cS hd hEo par kin lea mos wrt tal siz tol hrs ags yea kpar kkin klea kmos kwrt ktal ksiz ktol khrs kags kyea isk tly gai bes low hig spn byt hld sta beh sor num fnd sbi she snu x2) gX5_say_X3_hasTale rfl hdX3_hasTale rfl rfl rfl ⟨rfl, rfl⟩ ⟨Nat.le_of_ble_eq_true rfl, Nat.le_of_ble_eq_true rfl⟩ ⟨Nat.zero_le _, Nat.zero_le _⟩ rfl hl.1 rfl (Nat.le_of_ble_eq_true rfl) dX5_say_44 (fun H locs hP hS => ?_)
      refine lv_if_eq (tgt := 60) hx hb dX5_say_47 (by decide) (fun c47 => ?_) (fun c47 => ?_)
      · have hres := (itl hres).1 c47
        exact b60 gai bes fnd snu hres _ _ _ hP hS (lv_sub hl [1] rfl)
      · have hres := (itl hres).2 c47
        refine lv_iload_n hx hb dX5_say_50 rfl (lv_at hl 4 rfl) ?_
        refine lv_iconst (v := 0) hx hb dX5_say_51 (by decide) ?_
        refine lv_bipush (v := 120) hx hb dX5_say_52 (by decide) ?_
        refine csI hx hb hml hown hts hEo hE hK hP hS (kX5_isIn l D a cI cJ cS hd hEo par kin lea mos wrt tal siz tol hrs ags yea kpar kkin klea kmos kwrt ktal ksiz ktol khrs kags kyea isk tly gai bes low hig spn byt hld sta beh sor num fnd sbi she snu x3 (0 : Int32) (120 : Int32)) gX5_say_X5_isIn rfl hdX5_isIn ⟨rfl, rfl⟩ ⟨Nat.le_of_ble_eq_true rfl, Nat.le_of_ble_eq_true rfl⟩ ⟨Nat.zero_le _, Nat.zero_le _⟩ rfl hl.1 rfl (Nat.le_of_ble_eq_true rfl) dX5_say_54 (fun H locs hP hS => ?_)
        refine lv_if_ne (tgt := 67) hx hb dX5_say_57 (by decide) (fun c57 => ?_) (fun c57 => ?_)
        · have hres := (itl hres).2 c57
          refine lv_aload_n hx hb dX5_say_67 rfl (lv_at hl 1 rfl) ?_
          refine gX_this5_sayings hx hb hown hw5 hK hP u5 dX5_say_68 ?_
          refine lv_iload_n hx hb dX5_say_71 rfl (lv_at hl 3 rfl) ?_
          refine lv_iload_n hx hb dX5_say_72 rfl (lv_at hl 4 rfl) ?_
          obtain ⟨q73, e73, hres⟩ := obd hres
          refine cvI (q0 := 17) (ci := 1) hx hb hml hown hts hEo hE hK hP hS (kX1_findBest l D a cI cJ cS hd hEo par kin lea mos wrt tal siz tol hrs ags yea kpar kkin klea kmos kwrt ktal ksiz ktol khrs kags kyea isk tly gai bes low hig spn byt hld sta beh sor num fnd sbi she snu x2 x3 q73 e73) gX5_say_X1_findBest rfl hdX1_findBest rfl rfl rfl ⟨rfl, rfl⟩ ⟨Nat.le_of_ble_eq_true rfl, Nat.le_of_ble_eq_true rfl⟩ ⟨Nat.zero_le _, Nat.zero_le _⟩ rfl hl.1 rfl (Nat.le_of_ble_eq_true rfl) dX5_say_73 (fun H locs hP hS => ?_)
          refine lv_ldc hx hb hown u6 dX5_say_76 ?_
          refine lv_icmp_ne (tgt := 88) hx hb dX5_say_78 (by decide) (fun c78 => ?_) (fun c78 => ?_)
          · have hres := (itl hres).2 c78
            refine lv_aload_n hx hb dX5_say_88 rfl (lv_at hl 1 rfl) ?_
            refine gX_this5_now hx hb hown hw5 hK hP u4 dX5_say_89 ?_
            refine gX_now_sizes hx hb hown hw3 hK hP u8 dX5_say_92 ?_
            refine lv_iload_n hx hb dX5_say_95 rfl (lv_at hl 3 rfl) ?_
            obtain ⟨i96, hres⟩ := gdi hres
            refine lX_siz hx hb hK hP i96 dX5_say_96 ?_
            refine lv_aload hx hb dX5_say_97 (lv_at hl 0 rfl) ?_
            refine gX_sheet_held hx hb hown hw2 hK hP i21 u9 dX5_say_99 ?_
            refine va_mmin hx hb (hml.trans hl.1.symm) hown u10 u11 u12 u13 (Nat.le_of_ble_eq_true rfl) (Nat.le_of_ble_eq_true rfl) (Nat.zero_le _) (Nat.zero_le _) dX5_say_102 ?_
            refine lv_istore (lv' := [(5, .int (if (she x1.toNatClampNeg) < (siz x2.toNatClampNeg) then (she x1.toNatClampNeg) else (siz x2.toNatClampNeg))), (4, .ref (a (28 + 2 * x1.toNatClampNeg))), (0, .ref (a 0)), (1, .int x1), (2, .int x2), (3, .int x3)]) hx hb dX5_say_105 hl (by decide) rfl (fun ls hl => ?_)
            refine lv_iconst (v := 0) hx hb dX5_say_107 (by decide) ?_
            refine lv_istore (lv' := [(6, .int (0 : Int32)), (5, .int (if (she x1.toNatClampNeg) < (siz x2.toNatClampNeg) then (she x1.toNatClampNeg) else (siz x2.toNatClampNeg))), (4, .ref (a (28 + 2 * x1.toNatClampNeg))), (0, .ref (a 0)), (1, .int x1), (2, .int x2), (3, .int x3)]) hx hb dX5_say_108 hl (by decide) rfl (fun ls hl => ?_)
            exact b110 q73.2.1 q73.2.2 fnd x1 (if (she x1.toNatClampNeg) < (siz x2.toNatClampNeg) then (she x1.toNatClampNeg) else (siz x2.toNatClampNeg)) 2000 (0 : Int32) snu hres i21 _ _ _ hP hS (lv_sub hl [3, 2, 1, 0] rfl)
          · have hres := (itl hres).1 c78
            refine lv_aload_n hx hb dX5_say_81 rfl (lv_at hl 1 rfl) ?_
            refine lv_ldc hx hb hown u7 dX5_say_82 ?_
            obtain ⟨q84, e84, hres⟩ := obd hres
            refine cvI (q0 := 0) (ci := 5) hx hb hml hown hts hEo hE hK hP hS (kX5_found l D a cI cJ cS hd hEo par kin lea mos wrt tal siz tol hrs ags yea kpar kkin klea kmos kwrt ktal ksiz ktol khrs kags kyea isk tly q73.2.1 q73.2.2 low hig spn byt hld sta beh sor num fnd sbi she snu (-1000000004 : Int32) q84 e84) gX5_say_X5_found rfl hdX5_found rfl rfl rfl ⟨rfl, rfl⟩ ⟨Nat.le_of_ble_eq_true rfl, Nat.le_of_ble_eq_true rfl⟩ ⟨Nat.zero_le _, Nat.zero_le _⟩ rfl hl.1 rfl (Nat.le_of_ble_eq_true rfl) dX5_say_84 (fun H locs hP hS => ?_)
            exact hQ ▸ rtI (v := q84.1)  hx hb hr hlk hP hS (by rw [← (Option.some.inj hres)]) (by rw [← (Option.some.inj hres)]) dX5_say_87
        · have hres := (itl hres).1 c57
          exact b60 gai bes fnd snu hres _ _ _ hP hS (lv_sub hl [1] rfl)
    · have hres := (itl hres).2 c29
      refine lv_aload_n hx hb dX5_say_32 rfl (lv_at hl 1 rfl) ?_
      refine lv_ldc hx hb hown u3 dX5_say_33 ?_
      obtain ⟨q35, e35, hres⟩ := obd hres
      refine cvI (q0 := 0) (ci := 5) hx hb hml hown hts hEo hE hK hP hS (kX5_found l D a cI cJ cS hd hEo par kin lea mos wrt tal siz tol hrs ags yea kpar kkin klea kmos kwrt ktal ksiz ktol khrs kags kyea isk tly gai bes low hig spn byt hld sta beh sor num fnd sbi she snu (-1000000006 : Int32) q35 e35) gX5_say_X5_found rfl hdX5_found rfl rfl rfl ⟨rfl, rfl⟩ ⟨Nat.le_of_ble_eq_true rfl, Nat.le_of_ble_eq_true rfl⟩ ⟨Nat.zero_le _, Nat.zero_le _⟩ rfl hl.1 rfl (Nat.le_of_ble_eq_true rfl) dX5_say_35 (fun H locs hP hS => ?_)
      exact hQ ▸ rtI (v := q35.1)  hx hb hr hlk hP hS (by rw [← (Option.some.inj hres)]) (by rw [← (Option.some.inj hres)]) dX5_say_38
  · have hres := (itl hres).1 c6
    refine lv_aload_n hx hb dX5_say_9 rfl (lv_at hl 0 rfl) ?_
    refine lv_ldc hx hb hown u1 dX5_say_10 ?_
    obtain ⟨q12, e12, hres⟩ := obd hres
    refine cvI (q0 := 0) (ci := 5) hx hb hml hown hts hEo hE hK hP hS (kX5_found l D a cI cJ cS hd hEo par kin lea mos wrt tal siz tol hrs ags yea kpar kkin klea kmos kwrt ktal ksiz ktol khrs kags kyea isk tly gai bes low hig spn byt hld sta beh sor num fnd sbi she snu (-1000000001 : Int32) q12 e12) gX5_say_X5_found rfl hdX5_found rfl rfl rfl ⟨rfl, rfl⟩ ⟨Nat.le_of_ble_eq_true rfl, Nat.le_of_ble_eq_true rfl⟩ ⟨Nat.zero_le _, Nat.zero_le _⟩ rfl hl.1 rfl (Nat.le_of_ble_eq_true rfl) dX5_say_12 (fun H locs hP hS => ?_)
    exact hQ ▸ rtI (v := q12.1)  hx hb hr hlk hP hS (by rw [← (Option.some.inj hres)]) (by rw [← (Option.some.inj hres)]) dX5_say_15
