def fX5_isUnder_l4 (x1 : Int32) (K4 : Int32 → Int32 → Option (Bool)) (x2 : Int32) (x3 : Int32) : Option (Bool) :=
  if (6 : Int32) ≤ x3 then some false else if x2 < 0 then some false else if x2 = x1 then some true else gd (ib x2 6) (K4 (underV x2.toNatClampNeg) (x3 + 1))
def fX5_isUnder (x0 : Int32) (x1 : Int32) : Option (Bool) :=
  fix2 (fX5_isUnder_l4 x1) 2000 x0 (0 : Int32)
abbrev rX5_isUnder : Room := { frames := 0, cells := 0, slots := 0, locals := 0 }
set_option maxHeartbeats 4000000 in
set_option maxRecDepth 100000 in
theorem kX5_isUnder (l : Launch) (D : va_G) (a : Nat → Nat) (cI cJ cS : ClassId) (hd : aok a 36) {Env : (Nat → Prop) → State → Heap → Prop} (hEo : envOK Env) (ut : Nat) (sa sb : Nat → Nat) (hEX : envX Env ut sa sb) (par : Int32) (kin lea mos wrt : Nat → Int32) (tal : Int32) (siz tol : Nat → Int32) (hrs : Int32) (ags : Nat → Int32) (yea kpar : Int32) (kkin klea kmos kwrt : Nat → Int32) (ktal : Int32) (ksiz ktol : Nat → Int32) (khrs : Int32) (kags : Nat → Int32) (kyea isk : Int32) (tly : Nat → Int64) (gai bes : Nat → Int32) (low hig : Nat → Int64) (spn : Int32) (byt : Nat → Int32) (hld sta beh sor num : Int32) (fnd sbi she : Nat → Int32) (snu : Nat → Nat → Int64) (x0 : Int32) (x1 : Int32) (res : Bool) (hres : fX5_isUnder x0 x1 = some res) : CtI l D (tyL cI cJ cS) 36 a Env yX5_isUnder wsX5_isUnder rX5_isUnder [.int x0, .int x1] (wX a cI cJ cS par kin lea mos wrt tal siz tol hrs ags yea kpar kkin klea kmos kwrt ktal ksiz ktol khrs kags kyea isk tly gai bes low hig spn byt hld sta beh sor num fnd sbi she snu) (wX a cI cJ cS par kin lea mos wrt tal siz tol hrs ags yea kpar kkin klea kmos kwrt ktal ksiz ktol khrs kags kyea isk tly gai bes low hig spn byt hld sta beh sor num fnd sbi she snu) (bI res) := by
  refine CtI_mk (cc := cX5_isUnder) (maxL := 4) (ret := (some .boolean)) (by decide) rfl (Nat.le_of_ble_eq_true rfl) ?_
  intro p e s m args below meth c ls hx hb hr hlk hml hown hts hP hK hE hl
  have hS : va_S (adA a 36 s.heap.size) s.heap s.heap [] := va_S.rf
  have hl : lv_has ls 4 [(0, .int x0), (1, .int x1)] := hl
  have hown : s.vm.findClass RX5 = some m.cls := hown
  have u1 : (Cond.fieldLink RX5 276 "YearWords" "UNDER" "[I").before args s = true := hts _ (List.mem_of_getElem? (i := 1) (by decide +kernel))
  obtain ⟨Q, hQ⟩ : ∃ Q, Q = mqI below D 36 a args s (wX a cI cJ cS par kin lea mos wrt tal siz tol hrs ags yea kpar kkin klea kmos kwrt ktal ksiz ktol khrs kags kyea isk tly gai bes low hig spn byt hld sta beh sor num fnd sbi she snu) (bI res) := ⟨_, rfl⟩
  rw [← hQ]
  have b4 : ∀  (n : Nat) (x2 : Int32) (x3 : Int32), fix2 (fX5_isUnder_l4 x1) n x2 x3 = some res → ∀ (H : Heap) (locs : List Loc) (ls : Array Slot), va_P D vwCl (wX a cI cJ cS par kin lea mos wrt tal siz tol hrs ags yea kpar kkin klea kmos kwrt ktal ksiz ktol khrs kags kyea isk tly gai bes low hig spn byt hld sta beh sor num fnd sbi she snu) H → va_S (adA a 36 s.heap.size) s.heap H locs → lv_has ls 4 [(1, .int x1), (2, .int x2), (3, .int x3)] → W p l e rX5_isUnder s m args below meth c H locs 0 0 Q (F0 m 4 ls []) := by
    refine fix2_r ?_
    intro K4 hK4 x2 x3 hres H locs ls hP hS hl
    unfold fX5_isUnder_l4 at hres
    refine lv_iload_n hx hb dX5_isUnder_4 rfl (lv_at hl 2 rfl) ?_
    refine lv_bipush (v := 6) hx hb dX5_isUnder_5 (by decide) ?_
    refine lv_icmp_ge (tgt := 33) hx hb dX5_isUnder_7 (by decide) (fun c7 => ?_) (fun c7 => ?_)
    · have hres := (itl hres).1 c7
      refine lv_iconst (v := 0) hx hb dX5_isUnder_33 (by decide) ?_
      exact hQ ▸ rtZ (v := false)  hx hb hr hlk hP hS (by rw [← (Option.some.inj hres)]) rfl dX5_isUnder_34
    · have hres := (itl hres).2 c7
      refine lv_iload_n hx hb dX5_isUnder_10 rfl (lv_at hl 1 rfl) ?_
      refine lv_if_lt (tgt := 33) hx hb dX5_isUnder_11 (by decide) (fun c11 => ?_) (fun c11 => ?_)
      · have hres := (itl hres).1 c11
        refine lv_iconst (v := 0) hx hb dX5_isUnder_33 (by decide) ?_
        exact hQ ▸ rtZ (v := false)  hx hb hr hlk hP hS (by rw [← (Option.some.inj hres)]) rfl dX5_isUnder_34
      · have hres := (itl hres).2 c11
        refine lv_iload_n hx hb dX5_isUnder_14 rfl (lv_at hl 1 rfl) ?_
        refine lv_iload_n hx hb dX5_isUnder_15 rfl (lv_at hl 0 rfl) ?_
        refine lv_icmp_ne (tgt := 21) hx hb dX5_isUnder_16 (by decide) (fun c16 => ?_) (fun c16 => ?_)
        · have hres := (itl hres).2 c16
          refine va_gets (v := .ref ut) hx hb (hEX.1 _ _ _ hE).1 hS hown u1 (fun _ h => h) dX5_isUnder_21 ?_
          refine lv_iload_n hx hb dX5_isUnder_24 rfl (lv_at hl 1 rfl) ?_
          obtain ⟨i25, hres⟩ := gdi hres
          refine va_ti hx hb (hEX.1 _ _ _ hE).2 hS i25 rfl dX5_isUnder_25 ?_
          refine lv_istore_n (lv' := [(2, .int (underV x2.toNatClampNeg)), (1, .int x1), (3, .int x3)]) hx hb dX5_isUnder_26 rfl hl (by decide) rfl (fun ls hl => ?_)
          refine lv_iinc (v := x3 + 1) (lv' := [(3, .int (x3 + 1)), (2, .int (underV x2.toNatClampNeg)), (1, .int x1)]) hx hb dX5_isUnder_27 hl (k := 2) rfl (congrArg (fun z => x3 + z) (by decide)) (by decide) rfl (fun ls hl => ?_)
          refine lv_goto (tgt := 4) hx hb dX5_isUnder_30 (by decide) ?_
          exact hK4 (underV x2.toNatClampNeg) (x3 + 1) hres _ _ _ hP hS (lv_sub hl [2, 1, 0] rfl)
        · have hres := (itl hres).1 c16
          refine lv_iconst (v := 1) hx hb dX5_isUnder_19 (by decide) ?_
          exact hQ ▸ rtZ (v := true)  hx hb hr hlk hP hS (by rw [← (Option.some.inj hres)]) rfl dX5_isUnder_20
  unfold fX5_isUnder at hres
  refine lv_iload_n hx hb dX5_isUnder_0 rfl (lv_at hl 0 rfl) ?_
  refine lv_istore_n (lv' := [(2, .int x0), (0, .int x0), (1, .int x1)]) hx hb dX5_isUnder_1 rfl hl (by decide) rfl (fun ls hl => ?_)
  refine lv_iconst (v := 0) hx hb dX5_isUnder_2 (by decide) ?_
  refine lv_istore_n (lv' := [(3, .int (0 : Int32)), (2, .int x0), (0, .int x0), (1, .int x1)]) hx hb dX5_isUnder_3 rfl hl (by decide) rfl (fun ls hl => ?_)
  exact b4  2000 x0 (0 : Int32) hres _ _ _ hP hS (lv_sub hl [3, 1, 0] rfl)
def fX5_as_b20 (fnd : Nat → Int32) : Option (Int32 × (Nat → Int32)) :=
 (fX5_found fnd (-1000000001 : Int32)).bind fun q23 => some (q23.1, q23.2)
def fX5_as (par : Int32) (kin : Nat → Int32) (wrt : Nat → Int32) (fnd : Nat → Int32) (x1 : Int32) (x2 : Int32) : Option (Int32 × (Nat → Int32)) :=
  if (bI (fX3_hasPart par x1)) = 0 then fX5_as_b20 fnd else if (bI (fX5_isIn x2 (0 : Int32) (5 : Int32))) = 0 then fX5_as_b20 fnd else gd (ib x1 16) ((fX5_isUnder (kin x1.toNatClampNeg) x2).bind fun q37 => if (bI q37) = 0 then (fX5_found fnd (-1000000003 : Int32)).bind fun q58 => some (q58.1, q58.2) else gd (ib x1 16) (some (wrt x1.toNatClampNeg, fnd)))
theorem hdX5_isUnder : yX5_isUnder.cls ≠ "java/lang/invoke/MethodHandle" ∧ yX5_isUnder.cls ≠ "java/lang/invoke/VarHandle" ∧ (parseMethodDescriptor yX5_isUnder.desc).map (fun d => d.parameters.length) = some 2 := by decide +kernel
abbrev rX5_as : Room := { frames := 2, cells := 0, slots := 0, locals := 44 }
set_option maxHeartbeats 4000000 in
set_option maxRecDepth 100000 in
theorem kX5_as (l : Launch) (D : va_G) (a : Nat → Nat) (cI cJ cS : ClassId) (hd : aok a 36) {Env : (Nat → Prop) → State → Heap → Prop} (hEo : envOK Env) (ut : Nat) (sa sb : Nat → Nat) (hEX : envX Env ut sa sb) (par : Int32) (kin lea mos wrt : Nat → Int32) (tal : Int32) (siz tol : Nat → Int32) (hrs : Int32) (ags : Nat → Int32) (yea kpar : Int32) (kkin klea kmos kwrt : Nat → Int32) (ktal : Int32) (ksiz ktol : Nat → Int32) (khrs : Int32) (kags : Nat → Int32) (kyea isk : Int32) (tly : Nat → Int64) (gai bes : Nat → Int32) (low hig : Nat → Int64) (spn : Int32) (byt : Nat → Int32) (hld sta beh sor num : Int32) (fnd sbi she : Nat → Int32) (snu : Nat → Nat → Int64) (x1 : Int32) (x2 : Int32) (res : Int32 × (Nat → Int32)) (hres : fX5_as par kin wrt fnd x1 x2 = some res) : CtI l D (tyL cI cJ cS) 36 a Env yX5_as wsX5_as rX5_as [.ref (a 0), .int x1, .int x2] (wX a cI cJ cS par kin lea mos wrt tal siz tol hrs ags yea kpar kkin klea kmos kwrt ktal ksiz ktol khrs kags kyea isk tly gai bes low hig spn byt hld sta beh sor num fnd sbi she snu) (wX a cI cJ cS par kin lea mos wrt tal siz tol hrs ags yea kpar kkin klea kmos kwrt ktal ksiz ktol khrs kags kyea isk tly gai bes low hig spn byt hld sta beh sor num res.2 sbi she snu) res.1 := by
  refine CtI_mk (cc := cX5_as) (maxL := 3) (ret := (some .int)) (by decide) rfl (Nat.le_of_ble_eq_true rfl) ?_
  intro p e s m args below meth c ls hx hb hr hlk hml hown hts hP hK hE hl
  have hS : va_S (adA a 36 s.heap.size) s.heap s.heap [] := va_S.rf
  have hl : lv_has ls 3 [(0, .ref (a 0)), (1, .int x1), (2, .int x2)] := hl
  have hown : s.vm.findClass RX5 = some m.cls := hown
  have hw3 : ∀ w ∈ wsX30, w.before args s = true := fun w h => hts w (List.mem_cons_of_mem _ (List.mem_append_right _ h))
  have hw5 : ∀ w ∈ wsX50, w.before args s = true := fun w h => hts w (List.mem_cons_of_mem _ (List.mem_append_left _ (List.mem_append_right _ h)))
  have u1 : (Cond.fieldLink RX5 12 "YearWords" "now" "LYearWords$Stock;").before args s = true := hts _ (List.mem_of_getElem? (i := 1) (by decide +kernel))
  have u2 : (Cond.constant RX5 63 (-1000000001)).before args s = true := hts _ (List.mem_of_getElem? (i := 2) (by decide +kernel))
  have u3 : (Cond.fieldLink RX5 81 "YearWords$Stock" "kinds" "[I").before args s = true := hts _ (List.mem_of_getElem? (i := 3) (by decide +kernel))
  have u4 : (Cond.fieldLink RX5 90 "YearWords$Stock" "worths" "[I").before args s = true := hts _ (List.mem_of_getElem? (i := 4) (by decide +kernel))
  have u5 : (Cond.constant RX5 104 (-1000000003)).before args s = true := hts _ (List.mem_of_getElem? (i := 5) (by decide +kernel))
  obtain ⟨Q, hQ⟩ : ∃ Q, Q = mqI below D 36 a args s (wX a cI cJ cS par kin lea mos wrt tal siz tol hrs ags yea kpar kkin klea kmos kwrt ktal ksiz ktol khrs kags kyea isk tly gai bes low hig spn byt hld sta beh sor num res.2 sbi she snu) res.1 := ⟨_, rfl⟩
  rw [← hQ]
  have b20 : ∀ (fnd : Nat → Int32), fX5_as_b20 fnd = some res → ∀ (H : Heap) (locs : List Loc) (ls : Array Slot), va_P D vwCl (wX a cI cJ cS par kin lea mos wrt tal siz tol hrs ags yea kpar kkin klea kmos kwrt ktal ksiz ktol khrs kags kyea isk tly gai bes low hig spn byt hld sta beh sor num fnd sbi she snu) H → va_S (adA a 36 s.heap.size) s.heap H locs → lv_has ls 3 [(0, .ref (a 0))] → W p l e rX5_as s m args below meth c H locs 0 0 Q (F0 m 20 ls []) := by
    intro fnd hres H locs ls hP hS hl
    unfold fX5_as_b20 at hres
    refine lv_aload_n hx hb dX5_as_20 rfl (lv_at hl 0 rfl) ?_
    refine lv_ldc hx hb hown u2 dX5_as_21 ?_
    obtain ⟨q23, e23, hres⟩ := obd hres
    refine cvI (q0 := 0) (ci := 5) hx hb hml hown hts hEo hE hK hP hS (kX5_found l D a cI cJ cS hd hEo par kin lea mos wrt tal siz tol hrs ags yea kpar kkin klea kmos kwrt ktal ksiz ktol khrs kags kyea isk tly gai bes low hig spn byt hld sta beh sor num fnd sbi she snu (-1000000001 : Int32) q23 e23) gX5_as_X5_found rfl hdX5_found rfl rfl rfl ⟨rfl, rfl⟩ ⟨Nat.le_of_ble_eq_true rfl, Nat.le_of_ble_eq_true rfl⟩ ⟨Nat.zero_le _, Nat.zero_le _⟩ rfl hl.1 rfl (Nat.le_of_ble_eq_true rfl) dX5_as_23 (fun H locs hP hS => ?_)
    exact hQ ▸ rtI (v := q23.1)  hx hb hr hlk hP hS (by rw [← (Option.some.inj hres)]) (by rw [← (Option.some.inj hres)]) dX5_as_26
  unfold fX5_as at hres
  refine lv_aload_n hx hb dX5_as_0 rfl (lv_at hl 0 rfl) ?_
  refine gX_this5_now hx hb hown hw5 hK hP u1 dX5_as_1 ?_
  refine lv_iload_n hx hb dX5_as_4 rfl (lv_at hl 1 rfl) ?_
  refine cvI (q0 := 1) (ci := 3) hx hb hml hown hts hEo hE hK hP hS (kX3_hasPart l D a cI cJ cS hd hEo par kin lea mos wrt tal siz tol hrs ags yea kpar kkin klea kmos kwrt ktal ksiz ktol khrs kags kyea isk tly gai bes low hig spn byt hld sta beh sor num fnd sbi she snu x1) gX5_as_X3_hasPart rfl hdX3_hasPart rfl rfl rfl ⟨rfl, rfl⟩ ⟨Nat.le_of_ble_eq_true rfl, Nat.le_of_ble_eq_true rfl⟩ ⟨Nat.zero_le _, Nat.zero_le _⟩ rfl hl.1 rfl (Nat.le_of_ble_eq_true rfl) dX5_as_5 (fun H locs hP hS => ?_)
  refine lv_if_eq (tgt := 20) hx hb dX5_as_8 (by decide) (fun c8 => ?_) (fun c8 => ?_)
  · have hres := (itl hres).1 c8
    exact b20 fnd hres _ _ _ hP hS (lv_sub hl [0] rfl)
  · have hres := (itl hres).2 c8
    refine lv_iload_n hx hb dX5_as_11 rfl (lv_at hl 2 rfl) ?_
    refine lv_iconst (v := 0) hx hb dX5_as_12 (by decide) ?_
    refine lv_iconst (v := 5) hx hb dX5_as_13 (by decide) ?_
    refine csI hx hb hml hown hts hEo hE hK hP hS (kX5_isIn l D a cI cJ cS hd hEo par kin lea mos wrt tal siz tol hrs ags yea kpar kkin klea kmos kwrt ktal ksiz ktol khrs kags kyea isk tly gai bes low hig spn byt hld sta beh sor num fnd sbi she snu x2 (0 : Int32) (5 : Int32)) gX5_as_X5_isIn rfl hdX5_isIn ⟨rfl, rfl⟩ ⟨Nat.le_of_ble_eq_true rfl, Nat.le_of_ble_eq_true rfl⟩ ⟨Nat.zero_le _, Nat.zero_le _⟩ rfl hl.1 rfl (Nat.le_of_ble_eq_true rfl) dX5_as_14 (fun H locs hP hS => ?_)
    refine lv_if_ne (tgt := 27) hx hb dX5_as_17 (by decide) (fun c17 => ?_) (fun c17 => ?_)
    · have hres := (itl hres).2 c17
      refine lv_aload_n hx hb dX5_as_27 rfl (lv_at hl 0 rfl) ?_
      refine gX_this5_now hx hb hown hw5 hK hP u1 dX5_as_28 ?_
      refine gX_now_kinds hx hb hown hw3 hK hP u3 dX5_as_31 ?_
      refine lv_iload_n hx hb dX5_as_34 rfl (lv_at hl 1 rfl) ?_
      obtain ⟨i35, hres⟩ := gdi hres
      refine lX_kin hx hb hK hP i35 dX5_as_35 ?_
      refine lv_iload_n hx hb dX5_as_36 rfl (lv_at hl 2 rfl) ?_
      obtain ⟨q37, e37, hres⟩ := obd hres
      refine csI hx hb hml hown hts hEo hE hK hP hS (kX5_isUnder l D a cI cJ cS hd hEo ut sa sb hEX par kin lea mos wrt tal siz tol hrs ags yea kpar kkin klea kmos kwrt ktal ksiz ktol khrs kags kyea isk tly gai bes low hig spn byt hld sta beh sor num fnd sbi she snu (kin x1.toNatClampNeg) x2 q37 e37) gX5_as_X5_isUnder rfl hdX5_isUnder ⟨rfl, rfl⟩ ⟨Nat.le_of_ble_eq_true rfl, Nat.le_of_ble_eq_true rfl⟩ ⟨Nat.zero_le _, Nat.zero_le _⟩ rfl hl.1 rfl (Nat.le_of_ble_eq_true rfl) dX5_as_37 (fun H locs hP hS => ?_)
      refine lv_if_eq (tgt := 55) hx hb dX5_as_40 (by decide) (fun c40 => ?_) (fun c40 => ?_)
      · have hres := (itl hres).1 c40
        refine lv_aload_n hx hb dX5_as_55 rfl (lv_at hl 0 rfl) ?_
        refine lv_ldc hx hb hown u5 dX5_as_56 ?_
        obtain ⟨q58, e58, hres⟩ := obd hres
        refine cvI (q0 := 0) (ci := 5) hx hb hml hown hts hEo hE hK hP hS (kX5_found l D a cI cJ cS hd hEo par kin lea mos wrt tal siz tol hrs ags yea kpar kkin klea kmos kwrt ktal ksiz ktol khrs kags kyea isk tly gai bes low hig spn byt hld sta beh sor num fnd sbi she snu (-1000000003 : Int32) q58 e58) gX5_as_X5_found rfl hdX5_found rfl rfl rfl ⟨rfl, rfl⟩ ⟨Nat.le_of_ble_eq_true rfl, Nat.le_of_ble_eq_true rfl⟩ ⟨Nat.zero_le _, Nat.zero_le _⟩ rfl hl.1 rfl (Nat.le_of_ble_eq_true rfl) dX5_as_58 (fun H locs hP hS => ?_)
        exact hQ ▸ rtI (v := q58.1)  hx hb hr hlk hP hS (by rw [← (Option.some.inj hres)]) (by rw [← (Option.some.inj hres)]) dX5_as_61
      · have hres := (itl hres).2 c40
        refine lv_aload_n hx hb dX5_as_43 rfl (lv_at hl 0 rfl) ?_
        refine gX_this5_now hx hb hown hw5 hK hP u1 dX5_as_44 ?_
        refine gX_now_worths hx hb hown hw3 hK hP u4 dX5_as_47 ?_
        refine lv_iload_n hx hb dX5_as_50 rfl (lv_at hl 1 rfl) ?_
        obtain ⟨i51, hres⟩ := gdi hres
        refine lX_wrt hx hb hK hP i51 dX5_as_51 ?_
        refine lv_goto (tgt := 61) hx hb dX5_as_52 (by decide) ?_
        exact hQ ▸ rtI (v := wrt x1.toNatClampNeg)  hx hb hr hlk hP hS (by rw [← (Option.some.inj hres)]) (by rw [← (Option.some.inj hres)]) dX5_as_61
    · have hres := (itl hres).1 c17
      exact b20 fnd hres _ _ _ hP hS (lv_sub hl [0] rfl)
def fX5_isLength (x0 : Int32) (x1 : Int64) : Bool :=
  if (lg_cmp x1 (0 : Int64)) < 0 then false else if 0 < (lg_cmp x1 ((24) : Int64)) then false else if ((x0 >>> (x1.toInt32 &&& 31)) &&& (1 : Int32)) = (1 : Int32) then true else false
abbrev rX5_isLength : Room := { frames := 0, cells := 0, slots := 0, locals := 0 }
set_option maxHeartbeats 4000000 in
set_option maxRecDepth 100000 in
theorem kX5_isLength (l : Launch) (D : va_G) (a : Nat → Nat) (cI cJ cS : ClassId) (hd : aok a 36) {Env : (Nat → Prop) → State → Heap → Prop} (hEo : envOK Env) (par : Int32) (kin lea mos wrt : Nat → Int32) (tal : Int32) (siz tol : Nat → Int32) (hrs : Int32) (ags : Nat → Int32) (yea kpar : Int32) (kkin klea kmos kwrt : Nat → Int32) (ktal : Int32) (ksiz ktol : Nat → Int32) (khrs : Int32) (kags : Nat → Int32) (kyea isk : Int32) (tly : Nat → Int64) (gai bes : Nat → Int32) (low hig : Nat → Int64) (spn : Int32) (byt : Nat → Int32) (hld sta beh sor num : Int32) (fnd sbi she : Nat → Int32) (snu : Nat → Nat → Int64) (x0 : Int32) (x1 : Int64) : CtI l D (tyL cI cJ cS) 36 a Env yX5_isLength wsX5_isLength rX5_isLength [.int x0, .long x1] (wX a cI cJ cS par kin lea mos wrt tal siz tol hrs ags yea kpar kkin klea kmos kwrt ktal ksiz ktol khrs kags kyea isk tly gai bes low hig spn byt hld sta beh sor num fnd sbi she snu) (wX a cI cJ cS par kin lea mos wrt tal siz tol hrs ags yea kpar kkin klea kmos kwrt ktal ksiz ktol khrs kags kyea isk tly gai bes low hig spn byt hld sta beh sor num fnd sbi she snu) (bI (fX5_isLength x0 x1)) := by
  generalize hres : fX5_isLength x0 x1 = res
  refine CtI_mk (cc := cX5_isLength) (maxL := 3) (ret := (some .boolean)) (by decide) rfl (Nat.le_of_ble_eq_true rfl) ?_
  intro p e s m args below meth c ls hx hb hr hlk hml hown hts hP hK hE hl
  have hS : va_S (adA a 36 s.heap.size) s.heap s.heap [] := va_S.rf
  have hl : lv_has ls 3 [(0, .int x0), (1, .long x1)] := hl
  have hown : s.vm.findClass RX5 = some m.cls := hown
  have u1 : (Cond.constantLong RX5 274 (24)).before args s = true := hts _ (List.mem_of_getElem? (i := 1) (by decide +kernel))
  obtain ⟨Q, hQ⟩ : ∃ Q, Q = mqI below D 36 a args s (wX a cI cJ cS par kin lea mos wrt tal siz tol hrs ags yea kpar kkin klea kmos kwrt ktal ksiz ktol khrs kags kyea isk tly gai bes low hig spn byt hld sta beh sor num fnd sbi she snu) (bI res) := ⟨_, rfl⟩
  rw [← hQ]
  unfold fX5_isLength at hres
  refine lv_lload_n hx hb dX5_isLength_0 rfl (lv_at hl 1 rfl) ?_
  refine lv_lconst (v := 0) hx hb dX5_isLength_1 (by decide) ?_
  refine W.lcmp hx hb dX5_isLength_2 ?_
  refine lv_if_lt (tgt := 28) hx hb dX5_isLength_3 (by decide) (fun c3 => ?_) (fun c3 => ?_)
  · have hres := (itl hres).1 c3
    refine lv_iconst (v := 0) hx hb dX5_isLength_28 (by decide) ?_
    exact hQ ▸ rtZ (v := false)  hx hb hr hlk hP hS (by rw [← hres]) rfl dX5_isLength_29
  · have hres := (itl hres).2 c3
    refine lv_lload_n hx hb dX5_isLength_6 rfl (lv_at hl 1 rfl) ?_
    refine lv_ldc2 hx hb hown u1 dX5_isLength_7 ?_
    refine W.lcmp hx hb dX5_isLength_10 ?_
    refine lv_if_gt (tgt := 28) hx hb dX5_isLength_11 (by decide) (fun c11 => ?_) (fun c11 => ?_)
    · have hres := (itl hres).1 c11
      refine lv_iconst (v := 0) hx hb dX5_isLength_28 (by decide) ?_
      exact hQ ▸ rtZ (v := false)  hx hb hr hlk hP hS (by rw [← hres]) rfl dX5_isLength_29
    · have hres := (itl hres).2 c11
      refine lv_iload_n hx hb dX5_isLength_14 rfl (lv_at hl 0 rfl) ?_
      refine lv_lload_n hx hb dX5_isLength_15 rfl (lv_at hl 1 rfl) ?_
      refine lv_l2i hx hb dX5_isLength_16 rfl ?_
      refine lv_ishr hx hb dX5_isLength_17 ?_
      refine lv_iconst (v := 1) hx hb dX5_isLength_18 (by decide) ?_
      refine lv_iand hx hb dX5_isLength_19 ?_
      refine lv_iconst (v := 1) hx hb dX5_isLength_20 (by decide) ?_
      refine lv_icmp_ne (tgt := 28) hx hb dX5_isLength_21 (by decide) (fun c21 => ?_) (fun c21 => ?_)
      · have hres := (itl hres).2 c21
        refine lv_iconst (v := 0) hx hb dX5_isLength_28 (by decide) ?_
        exact hQ ▸ rtZ (v := false)  hx hb hr hlk hP hS (by rw [← hres]) rfl dX5_isLength_29
      · have hres := (itl hres).1 c21
        refine lv_iconst (v := 1) hx hb dX5_isLength_24 (by decide) ?_
        refine lv_goto (tgt := 29) hx hb dX5_isLength_25 (by decide) ?_
        exact hQ ▸ rtZ (v := true)  hx hb hr hlk hP hS (by rw [← hres]) rfl dX5_isLength_29
def fX5_value_b27 (fnd : Nat → Int32) : Option (Int32 × (Nat → Int32)) :=
 (fX5_found fnd (-1000000001 : Int32)).bind fun q30 => some (q30.1, q30.2)
def fX5_value (par : Int32) (kin : Nat → Int32) (lea : Nat → Int32) (mos : Nat → Int32) (wrt : Nat → Int32) (fnd : Nat → Int32) (x1 : Int32) (x2 : Int32) : Option (Int32 × (Nat → Int32)) :=
  if (bI (fX3_hasPart par x1)) = 0 then fX5_value_b27 fnd else (fX3_lengthsOf kin lea mos x1).bind fun q16 => if (bI (fX5_isLength q16 x2.toInt64)) = 0 then fX5_value_b27 fnd else (fX3_valueOf kin mos wrt x1 x2).bind fun q40 => some (q40, fnd)
theorem hdX5_isLength : yX5_isLength.cls ≠ "java/lang/invoke/MethodHandle" ∧ yX5_isLength.cls ≠ "java/lang/invoke/VarHandle" ∧ (parseMethodDescriptor yX5_isLength.desc).map (fun d => d.parameters.length) = some 2 := by decide +kernel
abbrev rX5_value : Room := { frames := 2, cells := 0, slots := 0, locals := 44 }
set_option maxHeartbeats 4000000 in
set_option maxRecDepth 100000 in
theorem kX5_value (l : Launch) (D : va_G) (a : Nat → Nat) (cI cJ cS : ClassId) (hd : aok a 36) {Env : (Nat → Prop) → State → Heap → Prop} (hEo : envOK Env) (par : Int32) (kin lea mos wrt : Nat → Int32) (tal : Int32) (siz tol : Nat → Int32) (hrs : Int32) (ags : Nat → Int32) (yea kpar : Int32) (kkin klea kmos kwrt : Nat → Int32) (ktal : Int32) (ksiz ktol : Nat → Int32) (khrs : Int32) (kags : Nat → Int32) (kyea isk : Int32) (tly : Nat → Int64) (gai bes : Nat → Int32) (low hig : Nat → Int64) (spn : Int32) (byt : Nat → Int32) (hld sta beh sor num : Int32) (fnd sbi she : Nat → Int32) (snu : Nat → Nat → Int64) (x1 : Int32) (x2 : Int32) (res : Int32 × (Nat → Int32)) (hres : fX5_value par kin lea mos wrt fnd x1 x2 = some res) : CtI l D (tyL cI cJ cS) 36 a Env yX5_value wsX5_value rX5_value [.ref (a 0), .int x1, .int x2] (wX a cI cJ cS par kin lea mos wrt tal siz tol hrs ags yea kpar kkin klea kmos kwrt ktal ksiz ktol khrs kags kyea isk tly gai bes low hig spn byt hld sta beh sor num fnd sbi she snu) (wX a cI cJ cS par kin lea mos wrt tal siz tol hrs ags yea kpar kkin klea kmos kwrt ktal ksiz ktol khrs kags kyea isk tly gai bes low hig spn byt hld sta beh sor num res.2 sbi she snu) res.1 := by
  refine CtI_mk (cc := cX5_value) (maxL := 3) (ret := (some .int)) (by decide) rfl (Nat.le_of_ble_eq_true rfl) ?_
  intro p e s m args below meth c ls hx hb hr hlk hml hown hts hP hK hE hl
  have hS : va_S (adA a 36 s.heap.size) s.heap s.heap [] := va_S.rf
  have hl : lv_has ls 3 [(0, .ref (a 0)), (1, .int x1), (2, .int x2)] := hl
  have hown : s.vm.findClass RX5 = some m.cls := hown
  have hw5 : ∀ w ∈ wsX50, w.before args s = true := fun w h => hts w (List.mem_cons_of_mem _ (List.mem_append_left _ (List.mem_append_right _ h)))
  have u1 : (Cond.fieldLink RX5 12 "YearWords" "now" "LYearWords$Stock;").before args s = true := hts _ (List.mem_of_getElem? (i := 1) (by decide +kernel))
  have u2 : (Cond.constant RX5 63 (-1000000001)).before args s = true := hts _ (List.mem_of_getElem? (i := 2) (by decide +kernel))
  obtain ⟨Q, hQ⟩ : ∃ Q, Q = mqI below D 36 a args s (wX a cI cJ cS par kin lea mos wrt tal siz tol hrs ags yea kpar kkin klea kmos kwrt ktal ksiz ktol khrs kags kyea isk tly gai bes low hig spn byt hld sta beh sor num res.2 sbi she snu) res.1 := ⟨_, rfl⟩
  rw [← hQ]
  have b27 : ∀ (fnd : Nat → Int32), fX5_value_b27 fnd = some res → ∀ (H : Heap) (locs : List Loc) (ls : Array Slot), va_P D vwCl (wX a cI cJ cS par kin lea mos wrt tal siz tol hrs ags yea kpar kkin klea kmos kwrt ktal ksiz ktol khrs kags kyea isk tly gai bes low hig spn byt hld sta beh sor num fnd sbi she snu) H → va_S (adA a 36 s.heap.size) s.heap H locs → lv_has ls 3 [(0, .ref (a 0))] → W p l e rX5_value s m args below meth c H locs 0 0 Q (F0 m 27 ls []) := by
    intro fnd hres H locs ls hP hS hl
    unfold fX5_value_b27 at hres
    refine lv_aload_n hx hb dX5_value_27 rfl (lv_at hl 0 rfl) ?_
    refine lv_ldc hx hb hown u2 dX5_value_28 ?_
    obtain ⟨q30, e30, hres⟩ := obd hres
    refine cvI (q0 := 0) (ci := 5) hx hb hml hown hts hEo hE hK hP hS (kX5_found l D a cI cJ cS hd hEo par kin lea mos wrt tal siz tol hrs ags yea kpar kkin klea kmos kwrt ktal ksiz ktol khrs kags kyea isk tly gai bes low hig spn byt hld sta beh sor num fnd sbi she snu (-1000000001 : Int32) q30 e30) gX5_value_X5_found rfl hdX5_found rfl rfl rfl ⟨rfl, rfl⟩ ⟨Nat.le_of_ble_eq_true rfl, Nat.le_of_ble_eq_true rfl⟩ ⟨Nat.zero_le _, Nat.zero_le _⟩ rfl hl.1 rfl (Nat.le_of_ble_eq_true rfl) dX5_value_30 (fun H locs hP hS => ?_)
    exact hQ ▸ rtI (v := q30.1)  hx hb hr hlk hP hS (by rw [← (Option.some.inj hres)]) (by rw [← (Option.some.inj hres)]) dX5_value_33
  unfold fX5_value at hres
  refine lv_aload_n hx hb dX5_value_0 rfl (lv_at hl 0 rfl) ?_
  refine gX_this5_now hx hb hown hw5 hK hP u1 dX5_value_1 ?_
  refine lv_iload_n hx hb dX5_value_4 rfl (lv_at hl 1 rfl) ?_
  refine cvI (q0 := 1) (ci := 3) hx hb hml hown hts hEo hE hK hP hS (kX3_hasPart l D a cI cJ cS hd hEo par kin lea mos wrt tal siz tol hrs ags yea kpar kkin klea kmos kwrt ktal ksiz ktol khrs kags kyea isk tly gai bes low hig spn byt hld sta beh sor num fnd sbi she snu x1) gX5_value_X3_hasPart rfl hdX3_hasPart rfl rfl rfl ⟨rfl, rfl⟩ ⟨Nat.le_of_ble_eq_true rfl, Nat.le_of_ble_eq_true rfl⟩ ⟨Nat.zero_le _, Nat.zero_le _⟩ rfl hl.1 rfl (Nat.le_of_ble_eq_true rfl) dX5_value_5 (fun H locs hP hS => ?_)
  refine lv_if_eq (tgt := 27) hx hb dX5_value_8 (by decide) (fun c8 => ?_) (fun c8 => ?_)
  · have hres := (itl hres).1 c8
    exact b27 fnd hres _ _ _ hP hS (lv_sub hl [0] rfl)
  · have hres := (itl hres).2 c8
    refine lv_aload_n hx hb dX5_value_11 rfl (lv_at hl 0 rfl) ?_
    refine gX_this5_now hx hb hown hw5 hK hP u1 dX5_value_12 ?_
    refine lv_iload_n hx hb dX5_value_15 rfl (lv_at hl 1 rfl) ?_
    obtain ⟨q16, e16, hres⟩ := obd hres
    refine cvI (q0 := 1) (ci := 3) hx hb hml hown hts hEo hE hK hP hS (kX3_lengthsOf l D a cI cJ cS hd hEo par kin lea mos wrt tal siz tol hrs ags yea kpar kkin klea kmos kwrt ktal ksiz ktol khrs kags kyea isk tly gai bes low hig spn byt hld sta beh sor num fnd sbi she snu x1 q16 e16) gX5_value_X3_lengthsOf rfl hdX3_lengthsOf rfl rfl rfl ⟨rfl, rfl⟩ ⟨Nat.le_of_ble_eq_true rfl, Nat.le_of_ble_eq_true rfl⟩ ⟨Nat.zero_le _, Nat.zero_le _⟩ rfl hl.1 rfl (Nat.le_of_ble_eq_true rfl) dX5_value_16 (fun H locs hP hS => ?_)
    refine lv_iload_n hx hb dX5_value_19 rfl (lv_at hl 2 rfl) ?_
    refine lv_i2l hx hb dX5_value_20 rfl ?_
    refine csI hx hb hml hown hts hEo hE hK hP hS (kX5_isLength l D a cI cJ cS hd hEo par kin lea mos wrt tal siz tol hrs ags yea kpar kkin klea kmos kwrt ktal ksiz ktol khrs kags kyea isk tly gai bes low hig spn byt hld sta beh sor num fnd sbi she snu q16 x2.toInt64) gX5_value_X5_isLength rfl hdX5_isLength ⟨rfl, rfl⟩ ⟨Nat.le_of_ble_eq_true rfl, Nat.le_of_ble_eq_true rfl⟩ ⟨Nat.zero_le _, Nat.zero_le _⟩ rfl hl.1 rfl (Nat.le_of_ble_eq_true rfl) dX5_value_21 (fun H locs hP hS => ?_)
    refine lv_if_ne (tgt := 34) hx hb dX5_value_24 (by decide) (fun c24 => ?_) (fun c24 => ?_)
    · have hres := (itl hres).2 c24
      refine lv_aload_n hx hb dX5_value_34 rfl (lv_at hl 0 rfl) ?_
      refine gX_this5_now hx hb hown hw5 hK hP u1 dX5_value_35 ?_
      refine lv_iload_n hx hb dX5_value_38 rfl (lv_at hl 1 rfl) ?_
      refine lv_iload_n hx hb dX5_value_39 rfl (lv_at hl 2 rfl) ?_
      obtain ⟨q40, e40, hres⟩ := obd hres
      refine cvI (q0 := 1) (ci := 3) hx hb hml hown hts hEo hE hK hP hS (kX3_valueOf l D a cI cJ cS hd hEo par kin lea mos wrt tal siz tol hrs ags yea kpar kkin klea kmos kwrt ktal ksiz ktol khrs kags kyea isk tly gai bes low hig spn byt hld sta beh sor num fnd sbi she snu x1 x2 q40 e40) gX5_value_X3_valueOf rfl hdX3_valueOf rfl rfl rfl ⟨rfl, rfl⟩ ⟨Nat.le_of_ble_eq_true rfl, Nat.le_of_ble_eq_true rfl⟩ ⟨Nat.zero_le _, Nat.zero_le _⟩ rfl hl.1 rfl (Nat.le_of_ble_eq_true rfl) dX5_value_40 (fun H locs hP hS => ?_)
      exact hQ ▸ rtI (v := q40)  hx hb hr hlk hP hS (by rw [← (Option.some.inj hres)]) (by rw [← (Option.some.inj hres)]) dX5_value_43
    · have hres := (itl hres).1 c24
      exact b27 fnd hres _ _ _ hP hS (lv_sub hl [0] rfl)
def fX5_tale (tal : Int32) (siz : Nat → Int32) (fnd : Nat → Int32) : Option (Int32 × Int32 × (Nat → Int32) × (Nat → Int32)) :=
  if tal < (8 : Int32) then (fX3_addTale tal siz).bind fun q25 => some (q25.1, q25.2.1, q25.2.2, fnd) else (fX5_found fnd (-1000000002 : Int32)).bind fun q15 => some (q15.1, tal, siz, q15.2)
abbrev rX5_tale : Room := { frames := 2, cells := 0, slots := 0, locals := 44 }
set_option maxHeartbeats 4000000 in
set_option maxRecDepth 100000 in
theorem kX5_tale (l : Launch) (D : va_G) (a : Nat → Nat) (cI cJ cS : ClassId) (hd : aok a 36) {Env : (Nat → Prop) → State → Heap → Prop} (hEo : envOK Env) (par : Int32) (kin lea mos wrt : Nat → Int32) (tal : Int32) (siz tol : Nat → Int32) (hrs : Int32) (ags : Nat → Int32) (yea kpar : Int32) (kkin klea kmos kwrt : Nat → Int32) (ktal : Int32) (ksiz ktol : Nat → Int32) (khrs : Int32) (kags : Nat → Int32) (kyea isk : Int32) (tly : Nat → Int64) (gai bes : Nat → Int32) (low hig : Nat → Int64) (spn : Int32) (byt : Nat → Int32) (hld sta beh sor num : Int32) (fnd sbi she : Nat → Int32) (snu : Nat → Nat → Int64)  (res : Int32 × Int32 × (Nat → Int32) × (Nat → Int32)) (hres : fX5_tale tal siz fnd = some res) : CtI l D (tyL cI cJ cS) 36 a Env yX5_tale wsX5_tale rX5_tale [.ref (a 0)] (wX a cI cJ cS par kin lea mos wrt tal siz tol hrs ags yea kpar kkin klea kmos kwrt ktal ksiz ktol khrs kags kyea isk tly gai bes low hig spn byt hld sta beh sor num fnd sbi she snu) (wX a cI cJ cS par kin lea mos wrt res.2.1 res.2.2.1 tol hrs ags yea kpar kkin klea kmos kwrt ktal ksiz ktol khrs kags kyea isk tly gai bes low hig spn byt hld sta beh sor num res.2.2.2 sbi she snu) res.1 := by
  refine CtI_mk (cc := cX5_tale) (maxL := 1) (ret := (some .int)) (by decide) rfl (Nat.le_of_ble_eq_true rfl) ?_
  intro p e s m args below meth c ls hx hb hr hlk hml hown hts hP hK hE hl
  have hS : va_S (adA a 36 s.heap.size) s.heap s.heap [] := va_S.rf
  have hl : lv_has ls 1 [(0, .ref (a 0))] := hl
  have hown : s.vm.findClass RX5 = some m.cls := hown
  have hw3 : ∀ w ∈ wsX30, w.before args s = true := fun w h => hts w (List.mem_cons_of_mem _ (List.mem_append_right _ h))
  have hw5 : ∀ w ∈ wsX50, w.before args s = true := fun w h => hts w (List.mem_cons_of_mem _ (List.mem_append_left _ (List.mem_append_right _ h)))
  have u1 : (Cond.fieldLink RX5 12 "YearWords" "now" "LYearWords$Stock;").before args s = true := hts _ (List.mem_of_getElem? (i := 1) (by decide +kernel))
  have u2 : (Cond.fieldLink RX5 113 "YearWords$Stock" "tales" "I").before args s = true := hts _ (List.mem_of_getElem? (i := 2) (by decide +kernel))
  have u3 : (Cond.constant RX5 72 (-1000000002)).before args s = true := hts _ (List.mem_of_getElem? (i := 3) (by decide +kernel))
  obtain ⟨Q, hQ⟩ : ∃ Q, Q = mqI below D 36 a args s (wX a cI cJ cS par kin lea mos wrt res.2.1 res.2.2.1 tol hrs ags yea kpar kkin klea kmos kwrt ktal ksiz ktol khrs kags kyea isk tly gai bes low hig spn byt hld sta beh sor num res.2.2.2 sbi she snu) res.1 := ⟨_, rfl⟩
  rw [← hQ]
  unfold fX5_tale at hres
  refine lv_aload_n hx hb dX5_tale_0 rfl (lv_at hl 0 rfl) ?_
  refine gX_this5_now hx hb hown hw5 hK hP u1 dX5_tale_1 ?_
  refine gX_now_tales hx hb hown hw3 hK hP u2 dX5_tale_4 ?_
  refine lv_bipush (v := 8) hx hb dX5_tale_7 (by decide) ?_
  refine lv_icmp_lt (tgt := 21) hx hb dX5_tale_9 (by decide) (fun c9 => ?_) (fun c9 => ?_)
  · have hres := (itl hres).1 c9
    refine lv_aload_n hx hb dX5_tale_21 rfl (lv_at hl 0 rfl) ?_
    refine gX_this5_now hx hb hown hw5 hK hP u1 dX5_tale_22 ?_
    obtain ⟨q25, e25, hres⟩ := obd hres
    refine cvI (q0 := 1) (ci := 3) hx hb hml hown hts hEo hE hK hP hS (kX3_addTale l D a cI cJ cS hd hEo par kin lea mos wrt tal siz tol hrs ags yea kpar kkin klea kmos kwrt ktal ksiz ktol khrs kags kyea isk tly gai bes low hig spn byt hld sta beh sor num fnd sbi she snu  q25 e25) gX5_tale_X3_addTale rfl hdX3_addTale rfl rfl rfl ⟨rfl, rfl⟩ ⟨Nat.le_of_ble_eq_true rfl, Nat.le_of_ble_eq_true rfl⟩ ⟨Nat.zero_le _, Nat.zero_le _⟩ rfl hl.1 rfl (Nat.le_of_ble_eq_true rfl) dX5_tale_25 (fun H locs hP hS => ?_)
    exact hQ ▸ rtI (v := q25.1)  hx hb hr hlk hP hS (by rw [← (Option.some.inj hres)]) (by rw [← (Option.some.inj hres)]) dX5_tale_28
  · have hres := (itl hres).2 c9
    refine lv_aload_n hx hb dX5_tale_12 rfl (lv_at hl 0 rfl) ?_
    refine lv_ldc hx hb hown u3 dX5_tale_13 ?_
    obtain ⟨q15, e15, hres⟩ := obd hres
    refine cvI (q0 := 0) (ci := 5) hx hb hml hown hts hEo hE hK hP hS (kX5_found l D a cI cJ cS hd hEo par kin lea mos wrt tal siz tol hrs ags yea kpar kkin klea kmos kwrt ktal ksiz ktol khrs kags kyea isk tly gai bes low hig spn byt hld sta beh sor num fnd sbi she snu (-1000000002 : Int32) q15 e15) gX5_tale_X5_found rfl hdX5_found rfl rfl rfl ⟨rfl, rfl⟩ ⟨Nat.le_of_ble_eq_true rfl, Nat.le_of_ble_eq_true rfl⟩ ⟨Nat.zero_le _, Nat.zero_le _⟩ rfl hl.1 rfl (Nat.le_of_ble_eq_true rfl) dX5_tale_15 (fun H locs hP hS => ?_)
    refine lv_goto (tgt := 28) hx hb dX5_tale_18 (by decide) ?_
    exact hQ ▸ rtI (v := q15.1)  hx hb hr hlk hP hS (by rw [← (Option.some.inj hres)]) (by rw [← (Option.some.inj hres)]) dX5_tale_28
def fX5_tell_b22 (siz : Nat → Int32) (tol : Nat → Int32) (fnd : Nat → Int32) : Option (Int32 × (Nat → Int32) × (Nat → Int32) × (Nat → Int32)) :=
 (fX5_found fnd (-1000000001 : Int32)).bind fun q25 => some (q25.1, siz, tol, q25.2)
def fX5_tell (par : Int32) (tal : Int32) (siz : Nat → Int32) (tol : Nat → Int32) (fnd : Nat → Int32) (x1 : Int32) (x2 : Int32) : Option (Int32 × (Nat → Int32) × (Nat → Int32) × (Nat → Int32)) :=
  if (bI (fX3_hasTale tal x1)) = 0 then fX5_tell_b22 siz tol fnd else if (bI (fX3_hasPart par x2)) = 0 then fX5_tell_b22 siz tol fnd else gd (ib x1 8) (if (siz x1.toNatClampNeg) < (10 : Int32) then (fX3_addTold siz tol x1 x2).bind fun q58 => some (q58.1, q58.2.1, q58.2.2, fnd) else (fX5_found fnd (-1000000002 : Int32)).bind fun q46 => some (q46.1, siz, tol, q46.2))
theorem hdX3_hasTale : yX3_hasTale.cls = RX3 ∧ yX3_hasTale.cls ≠ "java/lang/invoke/MethodHandle" ∧ yX3_hasTale.cls ≠ "java/lang/invoke/VarHandle" ∧ (parseMethodDescriptor yX3_hasTale.desc).map (fun d => d.parameters.length) = some 1 := by decide +kernel
abbrev rX5_tell : Room := { frames := 2, cells := 0, slots := 0, locals := 44 }
set_option maxHeartbeats 4000000 in
set_option maxRecDepth 100000 in
theorem kX5_tell (l : Launch) (D : va_G) (a : Nat → Nat) (cI cJ cS : ClassId) (hd : aok a 36) {Env : (Nat → Prop) → State → Heap → Prop} (hEo : envOK Env) (par : Int32) (kin lea mos wrt : Nat → Int32) (tal : Int32) (siz tol : Nat → Int32) (hrs : Int32) (ags : Nat → Int32) (yea kpar : Int32) (kkin klea kmos kwrt : Nat → Int32) (ktal : Int32) (ksiz ktol : Nat → Int32) (khrs : Int32) (kags : Nat → Int32) (kyea isk : Int32) (tly : Nat → Int64) (gai bes : Nat → Int32) (low hig : Nat → Int64) (spn : Int32) (byt : Nat → Int32) (hld sta beh sor num : Int32) (fnd sbi she : Nat → Int32) (snu : Nat → Nat → Int64) (x1 : Int32) (x2 : Int32) (res : Int32 × (Nat → Int32) × (Nat → Int32) × (Nat → Int32)) (hres : fX5_tell par tal siz tol fnd x1 x2 = some res) : CtI l D (tyL cI cJ cS) 36 a Env yX5_tell wsX5_tell rX5_tell [.ref (a 0), .int x1, .int x2] (wX a cI cJ cS par kin lea mos wrt tal siz tol hrs ags yea kpar kkin klea kmos kwrt ktal ksiz ktol khrs kags kyea isk tly gai bes low hig spn byt hld sta beh sor num fnd sbi she snu) (wX a cI cJ cS par kin lea mos wrt tal res.2.1 res.2.2.1 hrs ags yea kpar kkin klea kmos kwrt ktal ksiz ktol khrs kags kyea isk tly gai bes low hig spn byt hld sta beh sor num res.2.2.2 sbi she snu) res.1 := by
  refine CtI_mk (cc := cX5_tell) (maxL := 3) (ret := (some .int)) (by decide) rfl (Nat.le_of_ble_eq_true rfl) ?_
  intro p e s m args below meth c ls hx hb hr hlk hml hown hts hP hK hE hl
  have hS : va_S (adA a 36 s.heap.size) s.heap s.heap [] := va_S.rf
  have hl : lv_has ls 3 [(0, .ref (a 0)), (1, .int x1), (2, .int x2)] := hl
  have hown : s.vm.findClass RX5 = some m.cls := hown
  have hw3 : ∀ w ∈ wsX30, w.before args s = true := fun w h => hts w (List.mem_cons_of_mem _ (List.mem_append_right _ h))
  have hw5 : ∀ w ∈ wsX50, w.before args s = true := fun w h => hts w (List.mem_cons_of_mem _ (List.mem_append_left _ (List.mem_append_right _ h)))
  have u1 : (Cond.fieldLink RX5 12 "YearWords" "now" "LYearWords$Stock;").before args s = true := hts _ (List.mem_of_getElem? (i := 1) (by decide +kernel))
  have u2 : (Cond.constant RX5 63 (-1000000001)).before args s = true := hts _ (List.mem_of_getElem? (i := 2) (by decide +kernel))
  have u3 : (Cond.fieldLink RX5 123 "YearWords$Stock" "sizes" "[I").before args s = true := hts _ (List.mem_of_getElem? (i := 3) (by decide +kernel))
  have u4 : (Cond.constant RX5 72 (-1000000002)).before args s = true := hts _ (List.mem_of_getElem? (i := 4) (by decide +kernel))
  obtain ⟨Q, hQ⟩ : ∃ Q, Q = mqI below D 36 a args s (wX a cI cJ cS par kin lea mos wrt tal res.2.1 res.2.2.1 hrs ags yea kpar kkin klea kmos kwrt ktal ksiz ktol khrs kags kyea isk tly gai bes low hig spn byt hld sta beh sor num res.2.2.2 sbi she snu) res.1 := ⟨_, rfl⟩
  rw [← hQ]
  have b22 : ∀ (siz : Nat → Int32) (tol : Nat → Int32) (fnd : Nat → Int32), fX5_tell_b22 siz tol fnd = some res → ∀ (H : Heap) (locs : List Loc) (ls : Array Slot), va_P D vwCl (wX a cI cJ cS par kin lea mos wrt tal siz tol hrs ags yea kpar kkin klea kmos kwrt ktal ksiz ktol khrs kags kyea isk tly gai bes low hig spn byt hld sta beh sor num fnd sbi she snu) H → va_S (adA a 36 s.heap.size) s.heap H locs → lv_has ls 3 [(0, .ref (a 0))] → W p l e rX5_tell s m args below meth c H locs 0 0 Q (F0 m 22 ls []) := by
    intro siz tol fnd hres H locs ls hP hS hl
    unfold fX5_tell_b22 at hres
    refine lv_aload_n hx hb dX5_tell_22 rfl (lv_at hl 0 rfl) ?_
    refine lv_ldc hx hb hown u2 dX5_tell_23 ?_
    obtain ⟨q25, e25, hres⟩ := obd hres
    refine cvI (q0 := 0) (ci := 5) hx hb hml hown hts hEo hE hK hP hS (kX5_found l D a cI cJ cS hd hEo par kin lea mos wrt tal siz tol hrs ags yea kpar kkin klea kmos kwrt ktal ksiz ktol khrs kags kyea isk tly gai bes low hig spn byt hld sta beh sor num fnd sbi she snu (-1000000001 : Int32) q25 e25) gX5_tell_X5_found rfl hdX5_found rfl rfl rfl ⟨rfl, rfl⟩ ⟨Nat.le_of_ble_eq_true rfl, Nat.le_of_ble_eq_true rfl⟩ ⟨Nat.zero_le _, Nat.zero_le _⟩ rfl hl.1 rfl (Nat.le_of_ble_eq_true rfl) dX5_tell_25 (fun H locs hP hS => ?_)
    exact hQ ▸ rtI (v := q25.1)  hx hb hr hlk hP hS (by rw [← (Option.some.inj hres)]) (by rw [← (Option.some.inj hres)]) dX5_tell_28
  unfold fX5_tell at hres
  refine lv_aload_n hx hb dX5_tell_0 rfl (lv_at hl 0 rfl) ?_
  refine gX_this5_now hx hb hown hw5 hK hP u1 dX5_tell_1 ?_
  refine lv_iload_n hx hb dX5_tell_4 rfl (lv_at hl 1 rfl) ?_
  refine cvI (q0 := 1) (ci := 3) hx hb hml hown hts hEo hE hK hP hS (kX3_hasTale l D a cI cJ cS hd hEo par kin lea mos wrt tal siz tol hrs ags yea kpar kkin klea kmos kwrt ktal ksiz ktol khrs kags kyea isk tly gai bes low hig spn byt hld sta beh sor num fnd sbi she snu x1) gX5_tell_X3_hasTale rfl hdX3_hasTale rfl rfl rfl ⟨rfl, rfl⟩ ⟨Nat.le_of_ble_eq_true rfl, Nat.le_of_ble_eq_true rfl⟩ ⟨Nat.zero_le _, Nat.zero_le _⟩ rfl hl.1 rfl (Nat.le_of_ble_eq_true rfl) dX5_tell_5 (fun H locs hP hS => ?_)
  refine lv_if_eq (tgt := 22) hx hb dX5_tell_8 (by decide) (fun c8 => ?_) (fun c8 => ?_)
  · have hres := (itl hres).1 c8
    exact b22 siz tol fnd hres _ _ _ hP hS (lv_sub hl [0] rfl)
  · have hres := (itl hres).2 c8
    refine lv_aload_n hx hb dX5_tell_11 rfl (lv_at hl 0 rfl) ?_
    refine gX_this5_now hx hb hown hw5 hK hP u1 dX5_tell_12 ?_
    refine lv_iload_n hx hb dX5_tell_15 rfl (lv_at hl 2 rfl) ?_
    refine cvI (q0 := 1) (ci := 3) hx hb hml hown hts hEo hE hK hP hS (kX3_hasPart l D a cI cJ cS hd hEo par kin lea mos wrt tal siz tol hrs ags yea kpar kkin klea kmos kwrt ktal ksiz ktol khrs kags kyea isk tly gai bes low hig spn byt hld sta beh sor num fnd sbi she snu x2) gX5_tell_X3_hasPart rfl hdX3_hasPart rfl rfl rfl ⟨rfl, rfl⟩ ⟨Nat.le_of_ble_eq_true rfl, Nat.le_of_ble_eq_true rfl⟩ ⟨Nat.zero_le _, Nat.zero_le _⟩ rfl hl.1 rfl (Nat.le_of_ble_eq_true rfl) dX5_tell_16 (fun H locs hP hS => ?_)
    refine lv_if_ne (tgt := 29) hx hb dX5_tell_19 (by decide) (fun c19 => ?_) (fun c19 => ?_)
    · have hres := (itl hres).2 c19
      refine lv_aload_n hx hb dX5_tell_29 rfl (lv_at hl 0 rfl) ?_
      refine gX_this5_now hx hb hown hw5 hK hP u1 dX5_tell_30 ?_
      refine gX_now_sizes hx hb hown hw3 hK hP u3 dX5_tell_33 ?_
      refine lv_iload_n hx hb dX5_tell_36 rfl (lv_at hl 1 rfl) ?_
      obtain ⟨i37, hres⟩ := gdi hres
      refine lX_siz hx hb hK hP i37 dX5_tell_37 ?_
      refine lv_bipush (v := 10) hx hb dX5_tell_38 (by decide) ?_
      refine lv_icmp_lt (tgt := 52) hx hb dX5_tell_40 (by decide) (fun c40 => ?_) (fun c40 => ?_)
      · have hres := (itl hres).1 c40
        refine lv_aload_n hx hb dX5_tell_52 rfl (lv_at hl 0 rfl) ?_
        refine gX_this5_now hx hb hown hw5 hK hP u1 dX5_tell_53 ?_
        refine lv_iload_n hx hb dX5_tell_56 rfl (lv_at hl 1 rfl) ?_
        refine lv_iload_n hx hb dX5_tell_57 rfl (lv_at hl 2 rfl) ?_
        obtain ⟨q58, e58, hres⟩ := obd hres
        refine cvI (q0 := 1) (ci := 3) hx hb hml hown hts hEo hE hK hP hS (kX3_addTold l D a cI cJ cS hd hEo par kin lea mos wrt tal siz tol hrs ags yea kpar kkin klea kmos kwrt ktal ksiz ktol khrs kags kyea isk tly gai bes low hig spn byt hld sta beh sor num fnd sbi she snu x1 x2 q58 e58) gX5_tell_X3_addTold rfl hdX3_addTold rfl rfl rfl ⟨rfl, rfl⟩ ⟨Nat.le_of_ble_eq_true rfl, Nat.le_of_ble_eq_true rfl⟩ ⟨Nat.zero_le _, Nat.zero_le _⟩ rfl hl.1 rfl (Nat.le_of_ble_eq_true rfl) dX5_tell_58 (fun H locs hP hS => ?_)
        exact hQ ▸ rtI (v := q58.1)  hx hb hr hlk hP hS (by rw [← (Option.some.inj hres)]) (by rw [← (Option.some.inj hres)]) dX5_tell_61
      · have hres := (itl hres).2 c40
        refine lv_aload_n hx hb dX5_tell_43 rfl (lv_at hl 0 rfl) ?_
        refine lv_ldc hx hb hown u4 dX5_tell_44 ?_
        obtain ⟨q46, e46, hres⟩ := obd hres
        refine cvI (q0 := 0) (ci := 5) hx hb hml hown hts hEo hE hK hP hS (kX5_found l D a cI cJ cS hd hEo par kin lea mos wrt tal siz tol hrs ags yea kpar kkin klea kmos kwrt ktal ksiz ktol khrs kags kyea isk tly gai bes low hig spn byt hld sta beh sor num fnd sbi she snu (-1000000002 : Int32) q46 e46) gX5_tell_X5_found rfl hdX5_found rfl rfl rfl ⟨rfl, rfl⟩ ⟨Nat.le_of_ble_eq_true rfl, Nat.le_of_ble_eq_true rfl⟩ ⟨Nat.zero_le _, Nat.zero_le _⟩ rfl hl.1 rfl (Nat.le_of_ble_eq_true rfl) dX5_tell_46 (fun H locs hP hS => ?_)
        refine lv_goto (tgt := 61) hx hb dX5_tell_49 (by decide) ?_
        exact hQ ▸ rtI (v := q46.1)  hx hb hr hlk hP hS (by rw [← (Option.some.inj hres)]) (by rw [← (Option.some.inj hres)]) dX5_tell_61
    · have hres := (itl hres).1 c19
      exact b22 siz tol fnd hres _ _ _ hP hS (lv_sub hl [0] rfl)
def fX5_cut (tal : Int32) (siz : Nat → Int32) (tol : Nat → Int32) (fnd : Nat → Int32) (x1 : Int32) : Option (Int32 × (Nat → Int32) × (Nat → Int32)) :=
  if (bI (fX3_hasTale tal x1)) = 0 then (fX5_found fnd (-1000000001 : Int32)).bind fun q14 => some (q14.1, siz, q14.2) else gd (ib x1 8) (if (siz x1.toNatClampNeg) = 0 then (fX5_found fnd (-1000000004 : Int32)).bind fun q33 => some (q33.1, siz, q33.2) else (fX3_dropTold siz tol x1).bind fun q44 => some (q44.1, q44.2, fnd))
theorem hdX3_dropTold : yX3_dropTold.cls = RX3 ∧ yX3_dropTold.cls ≠ "java/lang/invoke/MethodHandle" ∧ yX3_dropTold.cls ≠ "java/lang/invoke/VarHandle" ∧ (parseMethodDescriptor yX3_dropTold.desc).map (fun d => d.parameters.length) = some 1 := by decide +kernel
abbrev rX5_cut : Room := { frames := 2, cells := 0, slots := 0, locals := 44 }
set_option maxHeartbeats 4000000 in
set_option maxRecDepth 100000 in
theorem kX5_cut (l : Launch) (D : va_G) (a : Nat → Nat) (cI cJ cS : ClassId) (hd : aok a 36) {Env : (Nat → Prop) → State → Heap → Prop} (hEo : envOK Env) (par : Int32) (kin lea mos wrt : Nat → Int32) (tal : Int32) (siz tol : Nat → Int32) (hrs : Int32) (ags : Nat → Int32) (yea kpar : Int32) (kkin klea kmos kwrt : Nat → Int32) (ktal : Int32) (ksiz ktol : Nat → Int32) (khrs : Int32) (kags : Nat → Int32) (kyea isk : Int32) (tly : Nat → Int64) (gai bes : Nat → Int32) (low hig : Nat → Int64) (spn : Int32) (byt : Nat → Int32) (hld sta beh sor num : Int32) (fnd sbi she : Nat → Int32) (snu : Nat → Nat → Int64) (x1 : Int32) (res : Int32 × (Nat → Int32) × (Nat → Int32)) (hres : fX5_cut tal siz tol fnd x1 = some res) : CtI l D (tyL cI cJ cS) 36 a Env yX5_cut wsX5_cut rX5_cut [.ref (a 0), .int x1] (wX a cI cJ cS par kin lea mos wrt tal siz tol hrs ags yea kpar kkin klea kmos kwrt ktal ksiz ktol khrs kags kyea isk tly gai bes low hig spn byt hld sta beh sor num fnd sbi she snu) (wX a cI cJ cS par kin lea mos wrt tal res.2.1 tol hrs ags yea kpar kkin klea kmos kwrt ktal ksiz ktol khrs kags kyea isk tly gai bes low hig spn byt hld sta beh sor num res.2.2 sbi she snu) res.1 := by
  refine CtI_mk (cc := cX5_cut) (maxL := 2) (ret := (some .int)) (by decide) rfl (Nat.le_of_ble_eq_true rfl) ?_
  intro p e s m args below meth c ls hx hb hr hlk hml hown hts hP hK hE hl
  have hS : va_S (adA a 36 s.heap.size) s.heap s.heap [] := va_S.rf
  have hl : lv_has ls 2 [(0, .ref (a 0)), (1, .int x1)] := hl
  have hown : s.vm.findClass RX5 = some m.cls := hown
  have hw3 : ∀ w ∈ wsX30, w.before args s = true := fun w h => hts w (List.mem_cons_of_mem _ (List.mem_append_right _ h))
  have hw5 : ∀ w ∈ wsX50, w.before args s = true := fun w h => hts w (List.mem_cons_of_mem _ (List.mem_append_left _ (List.mem_append_right _ h)))
  have u1 : (Cond.fieldLink RX5 12 "YearWords" "now" "LYearWords$Stock;").before args s = true := hts _ (List.mem_of_getElem? (i := 1) (by decide +kernel))
  have u2 : (Cond.constant RX5 63 (-1000000001)).before args s = true := hts _ (List.mem_of_getElem? (i := 2) (by decide +kernel))
  have u3 : (Cond.fieldLink RX5 123 "YearWords$Stock" "sizes" "[I").before args s = true := hts _ (List.mem_of_getElem? (i := 3) (by decide +kernel))
  have u4 : (Cond.constant RX5 129 (-1000000004)).before args s = true := hts _ (List.mem_of_getElem? (i := 4) (by decide +kernel))
  obtain ⟨Q, hQ⟩ : ∃ Q, Q = mqI below D 36 a args s (wX a cI cJ cS par kin lea mos wrt tal res.2.1 tol hrs ags yea kpar kkin klea kmos kwrt ktal ksiz ktol khrs kags kyea isk tly gai bes low hig spn byt hld sta beh sor num res.2.2 sbi she snu) res.1 := ⟨_, rfl⟩
  rw [← hQ]
  unfold fX5_cut at hres
  refine lv_aload_n hx hb dX5_cut_0 rfl (lv_at hl 0 rfl) ?_
  refine gX_this5_now hx hb hown hw5 hK hP u1 dX5_cut_1 ?_
  refine lv_iload_n hx hb dX5_cut_4 rfl (lv_at hl 1 rfl) ?_
  refine cvI (q0 := 1) (ci := 3) hx hb hml hown hts hEo hE hK hP hS (kX3_hasTale l D a cI cJ cS hd hEo par kin lea mos wrt tal siz tol hrs ags yea kpar kkin klea kmos kwrt ktal ksiz ktol khrs kags kyea isk tly gai bes low hig spn byt hld sta beh sor num fnd sbi she snu x1) gX5_cut_X3_hasTale rfl hdX3_hasTale rfl rfl rfl ⟨rfl, rfl⟩ ⟨Nat.le_of_ble_eq_true rfl, Nat.le_of_ble_eq_true rfl⟩ ⟨Nat.zero_le _, Nat.zero_le _⟩ rfl hl.1 rfl (Nat.le_of_ble_eq_true rfl) dX5_cut_5 (fun H locs hP hS => ?_)
  refine lv_if_ne (tgt := 18) hx hb dX5_cut_8 (by decide) (fun c8 => ?_) (fun c8 => ?_)
  · have hres := (itl hres).2 c8
    refine lv_aload_n hx hb dX5_cut_18 rfl (lv_at hl 0 rfl) ?_
    refine gX_this5_now hx hb hown hw5 hK hP u1 dX5_cut_19 ?_
    refine gX_now_sizes hx hb hown hw3 hK hP u3 dX5_cut_22 ?_
    refine lv_iload_n hx hb dX5_cut_25 rfl (lv_at hl 1 rfl) ?_
    obtain ⟨i26, hres⟩ := gdi hres
    refine lX_siz hx hb hK hP i26 dX5_cut_26 ?_
    refine lv_if_ne (tgt := 39) hx hb dX5_cut_27 (by decide) (fun c27 => ?_) (fun c27 => ?_)
    · have hres := (itl hres).2 c27
      refine lv_aload_n hx hb dX5_cut_39 rfl (lv_at hl 0 rfl) ?_
      refine gX_this5_now hx hb hown hw5 hK hP u1 dX5_cut_40 ?_
      refine lv_iload_n hx hb dX5_cut_43 rfl (lv_at hl 1 rfl) ?_
      obtain ⟨q44, e44, hres⟩ := obd hres
      refine cvI (q0 := 1) (ci := 3) hx hb hml hown hts hEo hE hK hP hS (kX3_dropTold l D a cI cJ cS hd hEo par kin lea mos wrt tal siz tol hrs ags yea kpar kkin klea kmos kwrt ktal ksiz ktol khrs kags kyea isk tly gai bes low hig spn byt hld sta beh sor num fnd sbi she snu x1 q44 e44) gX5_cut_X3_dropTold rfl hdX3_dropTold rfl rfl rfl ⟨rfl, rfl⟩ ⟨Nat.le_of_ble_eq_true rfl, Nat.le_of_ble_eq_true rfl⟩ ⟨Nat.zero_le _, Nat.zero_le _⟩ rfl hl.1 rfl (Nat.le_of_ble_eq_true rfl) dX5_cut_44 (fun H locs hP hS => ?_)
      exact hQ ▸ rtI (v := q44.1)  hx hb hr hlk hP hS (by rw [← (Option.some.inj hres)]) (by rw [← (Option.some.inj hres)]) dX5_cut_47
    · have hres := (itl hres).1 c27
      refine lv_aload_n hx hb dX5_cut_30 rfl (lv_at hl 0 rfl) ?_
      refine lv_ldc hx hb hown u4 dX5_cut_31 ?_
      obtain ⟨q33, e33, hres⟩ := obd hres
      refine cvI (q0 := 0) (ci := 5) hx hb hml hown hts hEo hE hK hP hS (kX5_found l D a cI cJ cS hd hEo par kin lea mos wrt tal siz tol hrs ags yea kpar kkin klea kmos kwrt ktal ksiz ktol khrs kags kyea isk tly gai bes low hig spn byt hld sta beh sor num fnd sbi she snu (-1000000004 : Int32) q33 e33) gX5_cut_X5_found rfl hdX5_found rfl rfl rfl ⟨rfl, rfl⟩ ⟨Nat.le_of_ble_eq_true rfl, Nat.le_of_ble_eq_true rfl⟩ ⟨Nat.zero_le _, Nat.zero_le _⟩ rfl hl.1 rfl (Nat.le_of_ble_eq_true rfl) dX5_cut_33 (fun H locs hP hS => ?_)
      refine lv_goto (tgt := 47) hx hb dX5_cut_36 (by decide) ?_
      exact hQ ▸ rtI (v := q33.1)  hx hb hr hlk hP hS (by rw [← (Option.some.inj hres)]) (by rw [← (Option.some.inj hres)]) dX5_cut_47
  · have hres := (itl hres).1 c8
    refine lv_aload_n hx hb dX5_cut_11 rfl (lv_at hl 0 rfl) ?_
    refine lv_ldc hx hb hown u2 dX5_cut_12 ?_
    obtain ⟨q14, e14, hres⟩ := obd hres
    refine cvI (q0 := 0) (ci := 5) hx hb hml hown hts hEo hE hK hP hS (kX5_found l D a cI cJ cS hd hEo par kin lea mos wrt tal siz tol hrs ags yea kpar kkin klea kmos kwrt ktal ksiz ktol khrs kags kyea isk tly gai bes low hig spn byt hld sta beh sor num fnd sbi she snu (-1000000001 : Int32) q14 e14) gX5_cut_X5_found rfl hdX5_found rfl rfl rfl ⟨rfl, rfl⟩ ⟨Nat.le_of_ble_eq_true rfl, Nat.le_of_ble_eq_true rfl⟩ ⟨Nat.zero_le _, Nat.zero_le _⟩ rfl hl.1 rfl (Nat.le_of_ble_eq_true rfl) dX5_cut_14 (fun H locs hP hS => ?_)
    exact hQ ▸ rtI (v := q14.1)  hx hb hr hlk hP hS (by rw [← (Option.some.inj hres)]) (by rw [← (Option.some.inj hres)]) dX5_cut_17
def fX5_ith_b30 (fnd : Nat → Int32) : Option (Int32 × (Nat → Int32)) :=
 (fX5_found fnd (-1000000001 : Int32)).bind fun q33 => some (q33.1, q33.2)
def fX5_ith (tal : Int32) (siz : Nat → Int32) (tol : Nat → Int32) (fnd : Nat → Int32) (x1 : Int32) (x2 : Int32) : Option (Int32 × (Nat → Int32)) :=
  if (bI (fX3_hasTale tal x1)) = 0 then fX5_ith_b30 fnd else gd (ib x1 8) (if (bI (fX5_isIn x2 (0 : Int32) ((siz x1.toNatClampNeg) - (1 : Int32)))) = 0 then fX5_ith_b30 fnd else (fX3_toldAt tol x1 x2).bind fun q43 => some (q43, fnd))
abbrev rX5_ith : Room := { frames := 2, cells := 0, slots := 0, locals := 44 }
set_option maxHeartbeats 4000000 in
set_option maxRecDepth 100000 in
theorem kX5_ith (l : Launch) (D : va_G) (a : Nat → Nat) (cI cJ cS : ClassId) (hd : aok a 36) {Env : (Nat → Prop) → State → Heap → Prop} (hEo : envOK Env) (par : Int32) (kin lea mos wrt : Nat → Int32) (tal : Int32) (siz tol : Nat → Int32) (hrs : Int32) (ags : Nat → Int32) (yea kpar : Int32) (kkin klea kmos kwrt : Nat → Int32) (ktal : Int32) (ksiz ktol : Nat → Int32) (khrs : Int32) (kags : Nat → Int32) (kyea isk : Int32) (tly : Nat → Int64) (gai bes : Nat → Int32) (low hig : Nat → Int64) (spn : Int32) (byt : Nat → Int32) (hld sta beh sor num : Int32) (fnd sbi she : Nat → Int32) (snu : Nat → Nat → Int64) (x1 : Int32) (x2 : Int32) (res : Int32 × (Nat → Int32)) (hres : fX5_ith tal siz tol fnd x1 x2 = some res) : CtI l D (tyL cI cJ cS) 36 a Env yX5_ith wsX5_ith rX5_ith [.ref (a 0), .int x1, .int x2] (wX a cI cJ cS par kin lea mos wrt tal siz tol hrs ags yea kpar kkin klea kmos kwrt ktal ksiz ktol khrs kags kyea isk tly gai bes low hig spn byt hld sta beh sor num fnd sbi she snu) (wX a cI cJ cS par kin lea mos wrt tal siz tol hrs ags yea kpar kkin klea kmos kwrt ktal ksiz ktol khrs kags kyea isk tly gai bes low hig spn byt hld sta beh sor num res.2 sbi she snu) res.1 := by
  refine CtI_mk (cc := cX5_ith) (maxL := 3) (ret := (some .int)) (by decide) rfl (Nat.le_of_ble_eq_true rfl) ?_
  intro p e s m args below meth c ls hx hb hr hlk hml hown hts hP hK hE hl
  have hS : va_S (adA a 36 s.heap.size) s.heap s.heap [] := va_S.rf
  have hl : lv_has ls 3 [(0, .ref (a 0)), (1, .int x1), (2, .int x2)] := hl
  have hown : s.vm.findClass RX5 = some m.cls := hown
  have hw3 : ∀ w ∈ wsX30, w.before args s = true := fun w h => hts w (List.mem_cons_of_mem _ (List.mem_append_right _ h))
  have hw5 : ∀ w ∈ wsX50, w.before args s = true := fun w h => hts w (List.mem_cons_of_mem _ (List.mem_append_left _ (List.mem_append_right _ h)))
  have u1 : (Cond.fieldLink RX5 12 "YearWords" "now" "LYearWords$Stock;").before args s = true := hts _ (List.mem_of_getElem? (i := 1) (by decide +kernel))
  have u2 : (Cond.fieldLink RX5 123 "YearWords$Stock" "sizes" "[I").before args s = true := hts _ (List.mem_of_getElem? (i := 2) (by decide +kernel))
  have u3 : (Cond.constant RX5 63 (-1000000001)).before args s = true := hts _ (List.mem_of_getElem? (i := 3) (by decide +kernel))
  obtain ⟨Q, hQ⟩ : ∃ Q, Q = mqI below D 36 a args s (wX a cI cJ cS par kin lea mos wrt tal siz tol hrs ags yea kpar kkin klea kmos kwrt ktal ksiz ktol khrs kags kyea isk tly gai bes low hig spn byt hld sta beh sor num res.2 sbi she snu) res.1 := ⟨_, rfl⟩
  rw [← hQ]
  have b30 : ∀ (fnd : Nat → Int32), fX5_ith_b30 fnd = some res → ∀ (H : Heap) (locs : List Loc) (ls : Array Slot), va_P D vwCl (wX a cI cJ cS par kin lea mos wrt tal siz tol hrs ags yea kpar kkin klea kmos kwrt ktal ksiz ktol khrs kags kyea isk tly gai bes low hig spn byt hld sta beh sor num fnd sbi she snu) H → va_S (adA a 36 s.heap.size) s.heap H locs → lv_has ls 3 [(0, .ref (a 0))] → W p l e rX5_ith s m args below meth c H locs 0 0 Q (F0 m 30 ls []) := by
    intro fnd hres H locs ls hP hS hl
    unfold fX5_ith_b30 at hres
    refine lv_aload_n hx hb dX5_ith_30 rfl (lv_at hl 0 rfl) ?_
    refine lv_ldc hx hb hown u3 dX5_ith_31 ?_
    obtain ⟨q33, e33, hres⟩ := obd hres
    refine cvI (q0 := 0) (ci := 5) hx hb hml hown hts hEo hE hK hP hS (kX5_found l D a cI cJ cS hd hEo par kin lea mos wrt tal siz tol hrs ags yea kpar kkin klea kmos kwrt ktal ksiz ktol khrs kags kyea isk tly gai bes low hig spn byt hld sta beh sor num fnd sbi she snu (-1000000001 : Int32) q33 e33) gX5_ith_X5_found rfl hdX5_found rfl rfl rfl ⟨rfl, rfl⟩ ⟨Nat.le_of_ble_eq_true rfl, Nat.le_of_ble_eq_true rfl⟩ ⟨Nat.zero_le _, Nat.zero_le _⟩ rfl hl.1 rfl (Nat.le_of_ble_eq_true rfl) dX5_ith_33 (fun H locs hP hS => ?_)
    exact hQ ▸ rtI (v := q33.1)  hx hb hr hlk hP hS (by rw [← (Option.some.inj hres)]) (by rw [← (Option.some.inj hres)]) dX5_ith_36
  unfold fX5_ith at hres
  refine lv_aload_n hx hb dX5_ith_0 rfl (lv_at hl 0 rfl) ?_
  refine gX_this5_now hx hb hown hw5 hK hP u1 dX5_ith_1 ?_
  refine lv_iload_n hx hb dX5_ith_4 rfl (lv_at hl 1 rfl) ?_
  refine cvI (q0 := 1) (ci := 3) hx hb hml hown hts hEo hE hK hP hS (kX3_hasTale l D a cI cJ cS hd hEo par kin lea mos wrt tal siz tol hrs ags yea kpar kkin klea kmos kwrt ktal ksiz ktol khrs kags kyea isk tly gai bes low hig spn byt hld sta beh sor num fnd sbi she snu x1) gX5_ith_X3_hasTale rfl hdX3_hasTale rfl rfl rfl ⟨rfl, rfl⟩ ⟨Nat.le_of_ble_eq_true rfl, Nat.le_of_ble_eq_true rfl⟩ ⟨Nat.zero_le _, Nat.zero_le _⟩ rfl hl.1 rfl (Nat.le_of_ble_eq_true rfl) dX5_ith_5 (fun H locs hP hS => ?_)
  refine lv_if_eq (tgt := 30) hx hb dX5_ith_8 (by decide) (fun c8 => ?_) (fun c8 => ?_)
  · have hres := (itl hres).1 c8
    exact b30 fnd hres _ _ _ hP hS (lv_sub hl [0] rfl)
  · have hres := (itl hres).2 c8
    refine lv_iload_n hx hb dX5_ith_11 rfl (lv_at hl 2 rfl) ?_
    refine lv_iconst (v := 0) hx hb dX5_ith_12 (by decide) ?_
    refine lv_aload_n hx hb dX5_ith_13 rfl (lv_at hl 0 rfl) ?_
    refine gX_this5_now hx hb hown hw5 hK hP u1 dX5_ith_14 ?_
    refine gX_now_sizes hx hb hown hw3 hK hP u2 dX5_ith_17 ?_
    refine lv_iload_n hx hb dX5_ith_20 rfl (lv_at hl 1 rfl) ?_
    obtain ⟨i21, hres⟩ := gdi hres
    refine lX_siz hx hb hK hP i21 dX5_ith_21 ?_
    refine lv_iconst (v := 1) hx hb dX5_ith_22 (by decide) ?_
    refine lv_isub hx hb dX5_ith_23 ?_
    refine csI hx hb hml hown hts hEo hE hK hP hS (kX5_isIn l D a cI cJ cS hd hEo par kin lea mos wrt tal siz tol hrs ags yea kpar kkin klea kmos kwrt ktal ksiz ktol khrs kags kyea isk tly gai bes low hig spn byt hld sta beh sor num fnd sbi she snu x2 (0 : Int32) ((siz x1.toNatClampNeg) - (1 : Int32))) gX5_ith_X5_isIn rfl hdX5_isIn ⟨rfl, rfl⟩ ⟨Nat.le_of_ble_eq_true rfl, Nat.le_of_ble_eq_true rfl⟩ ⟨Nat.zero_le _, Nat.zero_le _⟩ rfl hl.1 rfl (Nat.le_of_ble_eq_true rfl) dX5_ith_24 (fun H locs hP hS => ?_)
    refine lv_if_ne (tgt := 37) hx hb dX5_ith_27 (by decide) (fun c27 => ?_) (fun c27 => ?_)
    · have hres := (itl hres).2 c27
      refine lv_aload_n hx hb dX5_ith_37 rfl (lv_at hl 0 rfl) ?_
      refine gX_this5_now hx hb hown hw5 hK hP u1 dX5_ith_38 ?_
      refine lv_iload_n hx hb dX5_ith_41 rfl (lv_at hl 1 rfl) ?_
      refine lv_iload_n hx hb dX5_ith_42 rfl (lv_at hl 2 rfl) ?_
      obtain ⟨q43, e43, hres⟩ := obd hres
      refine cvI (q0 := 1) (ci := 3) hx hb hml hown hts hEo hE hK hP hS (kX3_toldAt l D a cI cJ cS hd hEo par kin lea mos wrt tal siz tol hrs ags yea kpar kkin klea kmos kwrt ktal ksiz ktol khrs kags kyea isk tly gai bes low hig spn byt hld sta beh sor num fnd sbi she snu x1 x2 q43 e43) gX5_ith_X3_toldAt rfl hdX3_toldAt rfl rfl rfl ⟨rfl, rfl⟩ ⟨Nat.le_of_ble_eq_true rfl, Nat.le_of_ble_eq_true rfl⟩ ⟨Nat.zero_le _, Nat.zero_le _⟩ rfl hl.1 rfl (Nat.le_of_ble_eq_true rfl) dX5_ith_43 (fun H locs hP hS => ?_)
      exact hQ ▸ rtI (v := q43)  hx hb hr hlk hP hS (by rw [← (Option.some.inj hres)]) (by rw [← (Option.some.inj hres)]) dX5_ith_46
    · have hres := (itl hres).1 c27
      exact b30 fnd hres _ _ _ hP hS (lv_sub hl [0] rfl)
def fX5_size (tal : Int32) (siz : Nat → Int32) (fnd : Nat → Int32) (x1 : Int32) : Option (Int32 × (Nat → Int32)) :=
  if (bI (fX3_hasTale tal x1)) = 0 then (fX5_found fnd (-1000000001 : Int32)).bind fun q26 => some (q26.1, q26.2) else gd (ib x1 8) (some (siz x1.toNatClampNeg, fnd))
abbrev rX5_size : Room := { frames := 2, cells := 0, slots := 0, locals := 44 }
set_option maxHeartbeats 4000000 in
set_option maxRecDepth 100000 in
theorem kX5_size (l : Launch) (D : va_G) (a : Nat → Nat) (cI cJ cS : ClassId) (hd : aok a 36) {Env : (Nat → Prop) → State → Heap → Prop} (hEo : envOK Env) (par : Int32) (kin lea mos wrt : Nat → Int32) (tal : Int32) (siz tol : Nat → Int32) (hrs : Int32) (ags : Nat → Int32) (yea kpar : Int32) (kkin klea kmos kwrt : Nat → Int32) (ktal : Int32) (ksiz ktol : Nat → Int32) (khrs : Int32) (kags : Nat → Int32) (kyea isk : Int32) (tly : Nat → Int64) (gai bes : Nat → Int32) (low hig : Nat → Int64) (spn : Int32) (byt : Nat → Int32) (hld sta beh sor num : Int32) (fnd sbi she : Nat → Int32) (snu : Nat → Nat → Int64) (x1 : Int32) (res : Int32 × (Nat → Int32)) (hres : fX5_size tal siz fnd x1 = some res) : CtI l D (tyL cI cJ cS) 36 a Env yX5_size wsX5_size rX5_size [.ref (a 0), .int x1] (wX a cI cJ cS par kin lea mos wrt tal siz tol hrs ags yea kpar kkin klea kmos kwrt ktal ksiz ktol khrs kags kyea isk tly gai bes low hig spn byt hld sta beh sor num fnd sbi she snu) (wX a cI cJ cS par kin lea mos wrt tal siz tol hrs ags yea kpar kkin klea kmos kwrt ktal ksiz ktol khrs kags kyea isk tly gai bes low hig spn byt hld sta beh sor num res.2 sbi she snu) res.1 := by
  refine CtI_mk (cc := cX5_size) (maxL := 2) (ret := (some .int)) (by decide) rfl (Nat.le_of_ble_eq_true rfl) ?_
  intro p e s m args below meth c ls hx hb hr hlk hml hown hts hP hK hE hl
  have hS : va_S (adA a 36 s.heap.size) s.heap s.heap [] := va_S.rf
  have hl : lv_has ls 2 [(0, .ref (a 0)), (1, .int x1)] := hl
  have hown : s.vm.findClass RX5 = some m.cls := hown
  have hw3 : ∀ w ∈ wsX30, w.before args s = true := fun w h => hts w (List.mem_cons_of_mem _ (List.mem_append_right _ h))
  have hw5 : ∀ w ∈ wsX50, w.before args s = true := fun w h => hts w (List.mem_cons_of_mem _ (List.mem_append_left _ (List.mem_append_right _ h)))
  have u1 : (Cond.fieldLink RX5 12 "YearWords" "now" "LYearWords$Stock;").before args s = true := hts _ (List.mem_of_getElem? (i := 1) (by decide +kernel))
  have u2 : (Cond.fieldLink RX5 123 "YearWords$Stock" "sizes" "[I").before args s = true := hts _ (List.mem_of_getElem? (i := 2) (by decide +kernel))
  have u3 : (Cond.constant RX5 63 (-1000000001)).before args s = true := hts _ (List.mem_of_getElem? (i := 3) (by decide +kernel))
  obtain ⟨Q, hQ⟩ : ∃ Q, Q = mqI below D 36 a args s (wX a cI cJ cS par kin lea mos wrt tal siz tol hrs ags yea kpar kkin klea kmos kwrt ktal ksiz ktol khrs kags kyea isk tly gai bes low hig spn byt hld sta beh sor num res.2 sbi she snu) res.1 := ⟨_, rfl⟩
  rw [← hQ]
  unfold fX5_size at hres
  refine lv_aload_n hx hb dX5_size_0 rfl (lv_at hl 0 rfl) ?_
  refine gX_this5_now hx hb hown hw5 hK hP u1 dX5_size_1 ?_
  refine lv_iload_n hx hb dX5_size_4 rfl (lv_at hl 1 rfl) ?_
  refine cvI (q0 := 1) (ci := 3) hx hb hml hown hts hEo hE hK hP hS (kX3_hasTale l D a cI cJ cS hd hEo par kin lea mos wrt tal siz tol hrs ags yea kpar kkin klea kmos kwrt ktal ksiz ktol khrs kags kyea isk tly gai bes low hig spn byt hld sta beh sor num fnd sbi she snu x1) gX5_size_X3_hasTale rfl hdX3_hasTale rfl rfl rfl ⟨rfl, rfl⟩ ⟨Nat.le_of_ble_eq_true rfl, Nat.le_of_ble_eq_true rfl⟩ ⟨Nat.zero_le _, Nat.zero_le _⟩ rfl hl.1 rfl (Nat.le_of_ble_eq_true rfl) dX5_size_5 (fun H locs hP hS => ?_)
  refine lv_if_eq (tgt := 23) hx hb dX5_size_8 (by decide) (fun c8 => ?_) (fun c8 => ?_)
  · have hres := (itl hres).1 c8
    refine lv_aload_n hx hb dX5_size_23 rfl (lv_at hl 0 rfl) ?_
    refine lv_ldc hx hb hown u3 dX5_size_24 ?_
    obtain ⟨q26, e26, hres⟩ := obd hres
    refine cvI (q0 := 0) (ci := 5) hx hb hml hown hts hEo hE hK hP hS (kX5_found l D a cI cJ cS hd hEo par kin lea mos wrt tal siz tol hrs ags yea kpar kkin klea kmos kwrt ktal ksiz ktol khrs kags kyea isk tly gai bes low hig spn byt hld sta beh sor num fnd sbi she snu (-1000000001 : Int32) q26 e26) gX5_size_X5_found rfl hdX5_found rfl rfl rfl ⟨rfl, rfl⟩ ⟨Nat.le_of_ble_eq_true rfl, Nat.le_of_ble_eq_true rfl⟩ ⟨Nat.zero_le _, Nat.zero_le _⟩ rfl hl.1 rfl (Nat.le_of_ble_eq_true rfl) dX5_size_26 (fun H locs hP hS => ?_)
    exact hQ ▸ rtI (v := q26.1)  hx hb hr hlk hP hS (by rw [← (Option.some.inj hres)]) (by rw [← (Option.some.inj hres)]) dX5_size_29
  · have hres := (itl hres).2 c8
    refine lv_aload_n hx hb dX5_size_11 rfl (lv_at hl 0 rfl) ?_
    refine gX_this5_now hx hb hown hw5 hK hP u1 dX5_size_12 ?_
    refine gX_now_sizes hx hb hown hw3 hK hP u2 dX5_size_15 ?_
    refine lv_iload_n hx hb dX5_size_18 rfl (lv_at hl 1 rfl) ?_
    obtain ⟨i19, hres⟩ := gdi hres
    refine lX_siz hx hb hK hP i19 dX5_size_19 ?_
    refine lv_goto (tgt := 29) hx hb dX5_size_20 (by decide) ?_
    exact hQ ▸ rtI (v := siz x1.toNatClampNeg)  hx hb hr hlk hP hS (by rw [← (Option.some.inj hres)]) (by rw [← (Option.some.inj hres)]) dX5_size_29
def fX5_ways_b21 (tly : Nat → Int64) (fnd : Nat → Int32) : Option (Int64 × (Nat → Int64) × (Nat → Int32)) :=
 (fX5_found fnd (-1000000001 : Int32)).bind fun q24 => some (q24.1.toInt64, tly, q24.2)
def fX5_ways (kin : Nat → Int32) (lea : Nat → Int32) (mos : Nat → Int32) (tal : Int32) (siz : Nat → Int32) (tol : Nat → Int32) (tly : Nat → Int64) (fnd : Nat → Int32) (x1 : Int32) (x2 : Int32) : Option (Int64 × (Nat → Int64) × (Nat → Int32)) :=
  if (bI (fX3_hasTale tal x1)) = 0 then fX5_ways_b21 tly fnd else if (bI (fX5_isIn x2 (0 : Int32) (120 : Int32))) = 0 then fX5_ways_b21 tly fnd else (fX1_waysIn kin lea mos siz tol tly x1 x2).bind fun q35 => some (q35.1, q35.2, fnd)
theorem hdX1_waysIn : yX1_waysIn.cls = RX1 ∧ yX1_waysIn.cls ≠ "java/lang/invoke/MethodHandle" ∧ yX1_waysIn.cls ≠ "java/lang/invoke/VarHandle" ∧ (parseMethodDescriptor yX1_waysIn.desc).map (fun d => d.parameters.length) = some 2 := by decide +kernel
abbrev rX5_ways : Room := { frames := 3, cells := 0, slots := 0, locals := 67 }
set_option maxHeartbeats 4000000 in
set_option maxRecDepth 100000 in
theorem kX5_ways (l : Launch) (D : va_G) (a : Nat → Nat) (cI cJ cS : ClassId) (hd : aok a 36) {Env : (Nat → Prop) → State → Heap → Prop} (hEo : envOK Env) (par : Int32) (kin lea mos wrt : Nat → Int32) (tal : Int32) (siz tol : Nat → Int32) (hrs : Int32) (ags : Nat → Int32) (yea kpar : Int32) (kkin klea kmos kwrt : Nat → Int32) (ktal : Int32) (ksiz ktol : Nat → Int32) (khrs : Int32) (kags : Nat → Int32) (kyea isk : Int32) (tly : Nat → Int64) (gai bes : Nat → Int32) (low hig : Nat → Int64) (spn : Int32) (byt : Nat → Int32) (hld sta beh sor num : Int32) (fnd sbi she : Nat → Int32) (snu : Nat → Nat → Int64) (x1 : Int32) (x2 : Int32) (res : Int64 × (Nat → Int64) × (Nat → Int32)) (hres : fX5_ways kin lea mos tal siz tol tly fnd x1 x2 = some res) : CtL l D (tyL cI cJ cS) 36 a Env yX5_ways wsX5_ways rX5_ways [.ref (a 0), .int x1, .int x2] (wX a cI cJ cS par kin lea mos wrt tal siz tol hrs ags yea kpar kkin klea kmos kwrt ktal ksiz ktol khrs kags kyea isk tly gai bes low hig spn byt hld sta beh sor num fnd sbi she snu) (wX a cI cJ cS par kin lea mos wrt tal siz tol hrs ags yea kpar kkin klea kmos kwrt ktal ksiz ktol khrs kags kyea isk res.2.1 gai bes low hig spn byt hld sta beh sor num res.2.2 sbi she snu) res.1 := by
  refine CtL_mk (cc := cX5_ways) (maxL := 3) (ret := (some .long)) (by decide) rfl (Nat.le_of_ble_eq_true rfl) ?_
  intro p e s m args below meth c ls hx hb hr hlk hml hown hts hP hK hE hl
  have hS : va_S (adA a 36 s.heap.size) s.heap s.heap [] := va_S.rf
  have hl : lv_has ls 3 [(0, .ref (a 0)), (1, .int x1), (2, .int x2)] := hl
  have hown : s.vm.findClass RX5 = some m.cls := hown
  have hw5 : ∀ w ∈ wsX50, w.before args s = true := fun w h => hts w (List.mem_cons_of_mem _ (List.mem_append_left _ (List.mem_append_left _ (List.mem_append_right _ h))))
  have u1 : (Cond.fieldLink RX5 12 "YearWords" "now" "LYearWords$Stock;").before args s = true := hts _ (List.mem_of_getElem? (i := 1) (by decide +kernel))
  have u2 : (Cond.constant RX5 63 (-1000000001)).before args s = true := hts _ (List.mem_of_getElem? (i := 2) (by decide +kernel))
  have u3 : (Cond.fieldLink RX5 28 "YearWords" "sayings" "LYearWords$Sayings;").before args s = true := hts _ (List.mem_of_getElem? (i := 3) (by decide +kernel))
  obtain ⟨Q, hQ⟩ : ∃ Q, Q = mqL below D 36 a args s (wX a cI cJ cS par kin lea mos wrt tal siz tol hrs ags yea kpar kkin klea kmos kwrt ktal ksiz ktol khrs kags kyea isk res.2.1 gai bes low hig spn byt hld sta beh sor num res.2.2 sbi she snu) res.1 := ⟨_, rfl⟩
  rw [← hQ]
  have b21 : ∀ (tly : Nat → Int64) (fnd : Nat → Int32), fX5_ways_b21 tly fnd = some res → ∀ (H : Heap) (locs : List Loc) (ls : Array Slot), va_P D vwCl (wX a cI cJ cS par kin lea mos wrt tal siz tol hrs ags yea kpar kkin klea kmos kwrt ktal ksiz ktol khrs kags kyea isk tly gai bes low hig spn byt hld sta beh sor num fnd sbi she snu) H → va_S (adA a 36 s.heap.size) s.heap H locs → lv_has ls 3 [(0, .ref (a 0))] → W p l e rX5_ways s m args below meth c H locs 0 0 Q (F0 m 21 ls []) := by
    intro tly fnd hres H locs ls hP hS hl
    unfold fX5_ways_b21 at hres
    refine lv_aload_n hx hb dX5_ways_21 rfl (lv_at hl 0 rfl) ?_
    refine lv_ldc hx hb hown u2 dX5_ways_22 ?_
    obtain ⟨q24, e24, hres⟩ := obd hres
    refine cvI (q0 := 0) (ci := 5) hx hb hml hown hts hEo hE hK hP hS (kX5_found l D a cI cJ cS hd hEo par kin lea mos wrt tal siz tol hrs ags yea kpar kkin klea kmos kwrt ktal ksiz ktol khrs kags kyea isk tly gai bes low hig spn byt hld sta beh sor num fnd sbi she snu (-1000000001 : Int32) q24 e24) gX5_ways_X5_found rfl hdX5_found rfl rfl rfl ⟨rfl, rfl⟩ ⟨Nat.le_of_ble_eq_true rfl, Nat.le_of_ble_eq_true rfl⟩ ⟨Nat.zero_le _, Nat.zero_le _⟩ rfl hl.1 rfl (Nat.le_of_ble_eq_true rfl) dX5_ways_24 (fun H locs hP hS => ?_)
    refine lv_i2l hx hb dX5_ways_27 rfl ?_
    exact hQ ▸ rtL (v := q24.1.toInt64)  hx hb hr hlk hP hS (by rw [← (Option.some.inj hres)]) (by rw [← (Option.some.inj hres)]) dX5_ways_28
  unfold fX5_ways at hres
  refine lv_aload_n hx hb dX5_ways_0 rfl (lv_at hl 0 rfl) ?_
  refine gX_this5_now hx hb hown hw5 hK hP u1 dX5_ways_1 ?_
  refine lv_iload_n hx hb dX5_ways_4 rfl (lv_at hl 1 rfl) ?_
  refine cvI (q0 := 1) (ci := 3) hx hb hml hown hts hEo hE hK hP hS (kX3_hasTale l D a cI cJ cS hd hEo par kin lea mos wrt tal siz tol hrs ags yea kpar kkin klea kmos kwrt ktal ksiz ktol khrs kags kyea isk tly gai bes low hig spn byt hld sta beh sor num fnd sbi she snu x1) gX5_ways_X3_hasTale rfl hdX3_hasTale rfl rfl rfl ⟨rfl, rfl⟩ ⟨Nat.le_of_ble_eq_true rfl, Nat.le_of_ble_eq_true rfl⟩ ⟨Nat.zero_le _, Nat.zero_le _⟩ rfl hl.1 rfl (Nat.le_of_ble_eq_true rfl) dX5_ways_5 (fun H locs hP hS => ?_)
  refine lv_if_eq (tgt := 21) hx hb dX5_ways_8 (by decide) (fun c8 => ?_) (fun c8 => ?_)
  · have hres := (itl hres).1 c8
    exact b21 tly fnd hres _ _ _ hP hS (lv_sub hl [0] rfl)
  · have hres := (itl hres).2 c8
    refine lv_iload_n hx hb dX5_ways_11 rfl (lv_at hl 2 rfl) ?_
    refine lv_iconst (v := 0) hx hb dX5_ways_12 (by decide) ?_
    refine lv_bipush (v := 120) hx hb dX5_ways_13 (by decide) ?_
    refine csI hx hb hml hown hts hEo hE hK hP hS (kX5_isIn l D a cI cJ cS hd hEo par kin lea mos wrt tal siz tol hrs ags yea kpar kkin klea kmos kwrt ktal ksiz ktol khrs kags kyea isk tly gai bes low hig spn byt hld sta beh sor num fnd sbi she snu x2 (0 : Int32) (120 : Int32)) gX5_ways_X5_isIn rfl hdX5_isIn ⟨rfl, rfl⟩ ⟨Nat.le_of_ble_eq_true rfl, Nat.le_of_ble_eq_true rfl⟩ ⟨Nat.zero_le _, Nat.zero_le _⟩ rfl hl.1 rfl (Nat.le_of_ble_eq_true rfl) dX5_ways_15 (fun H locs hP hS => ?_)
    refine lv_if_ne (tgt := 29) hx hb dX5_ways_18 (by decide) (fun c18 => ?_) (fun c18 => ?_)
    · have hres := (itl hres).2 c18
      refine lv_aload_n hx hb dX5_ways_29 rfl (lv_at hl 0 rfl) ?_
      refine gX_this5_sayings hx hb hown hw5 hK hP u3 dX5_ways_30 ?_
      refine lv_iload_n hx hb dX5_ways_33 rfl (lv_at hl 1 rfl) ?_
      refine lv_iload_n hx hb dX5_ways_34 rfl (lv_at hl 2 rfl) ?_
      obtain ⟨q35, e35, hres⟩ := obd hres
      refine cvL (q0 := 17) (ci := 1) hx hb hml hown hts hEo hE hK hP hS (kX1_waysIn l D a cI cJ cS hd hEo par kin lea mos wrt tal siz tol hrs ags yea kpar kkin klea kmos kwrt ktal ksiz ktol khrs kags kyea isk tly gai bes low hig spn byt hld sta beh sor num fnd sbi she snu x1 x2 q35 e35) gX5_ways_X1_waysIn rfl hdX1_waysIn rfl rfl rfl ⟨rfl, rfl⟩ ⟨Nat.le_of_ble_eq_true rfl, Nat.le_of_ble_eq_true rfl⟩ ⟨Nat.zero_le _, Nat.zero_le _⟩ rfl hl.1 rfl (Nat.le_of_ble_eq_true rfl) dX5_ways_35 (fun H locs hP hS => ?_)
      exact hQ ▸ rtL (v := q35.1)  hx hb hr hlk hP hS (by rw [← (Option.some.inj hres)]) (by rw [← (Option.some.inj hres)]) dX5_ways_38
    · have hres := (itl hres).1 c18
      exact b21 tly fnd hres _ _ _ hP hS (lv_sub hl [0] rfl)
def fX5_allWays (kin : Nat → Int32) (lea : Nat → Int32) (mos : Nat → Int32) (tal : Int32) (siz : Nat → Int32) (tol : Nat → Int32) (fnd : Nat → Int32) (x1 : Int32) : Option (Int64 × (Nat → Int32)) :=
  if (bI (fX3_hasTale tal x1)) = 0 then (fX5_found fnd (-1000000001 : Int32)).bind fun q25 => some (q25.1.toInt64, q25.2) else (fX1_waysInAll kin lea mos siz tol x1).bind fun q16 => some (q16, fnd)
theorem hdX1_waysInAll : yX1_waysInAll.cls = RX1 ∧ yX1_waysInAll.cls ≠ "java/lang/invoke/MethodHandle" ∧ yX1_waysInAll.cls ≠ "java/lang/invoke/VarHandle" ∧ (parseMethodDescriptor yX1_waysInAll.desc).map (fun d => d.parameters.length) = some 1 := by decide +kernel
abbrev rX5_allWays : Room := { frames := 3, cells := 0, slots := 0, locals := 68 }
set_option maxHeartbeats 4000000 in
set_option maxRecDepth 100000 in
theorem kX5_allWays (l : Launch) (D : va_G) (a : Nat → Nat) (cI cJ cS : ClassId) (hd : aok a 36) {Env : (Nat → Prop) → State → Heap → Prop} (hEo : envOK Env) (par : Int32) (kin lea mos wrt : Nat → Int32) (tal : Int32) (siz tol : Nat → Int32) (hrs : Int32) (ags : Nat → Int32) (yea kpar : Int32) (kkin klea kmos kwrt : Nat → Int32) (ktal : Int32) (ksiz ktol : Nat → Int32) (khrs : Int32) (kags : Nat → Int32) (kyea isk : Int32) (tly : Nat → Int64) (gai bes : Nat → Int32) (low hig : Nat → Int64) (spn : Int32) (byt : Nat → Int32) (hld sta beh sor num : Int32) (fnd sbi she : Nat → Int32) (snu : Nat → Nat → Int64) (x1 : Int32) (res : Int64 × (Nat → Int32)) (hres : fX5_allWays kin lea mos tal siz tol fnd x1 = some res) : CtL l D (tyL cI cJ cS) 36 a Env yX5_allWays wsX5_allWays rX5_allWays [.ref (a 0), .int x1] (wX a cI cJ cS par kin lea mos wrt tal siz tol hrs ags yea kpar kkin klea kmos kwrt ktal ksiz ktol khrs kags kyea isk tly gai bes low hig spn byt hld sta beh sor num fnd sbi she snu) (wX a cI cJ cS par kin lea mos wrt tal siz tol hrs ags yea kpar kkin klea kmos kwrt ktal ksiz ktol khrs kags kyea isk tly gai bes low hig spn byt hld sta beh sor num res.2 sbi she snu) res.1 := by
  refine CtL_mk (cc := cX5_allWays) (maxL := 2) (ret := (some .long)) (by decide) rfl (Nat.le_of_ble_eq_true rfl) ?_
  intro p e s m args below meth c ls hx hb hr hlk hml hown hts hP hK hE hl
  have hS : va_S (adA a 36 s.heap.size) s.heap s.heap [] := va_S.rf
  have hl : lv_has ls 2 [(0, .ref (a 0)), (1, .int x1)] := hl
  have hown : s.vm.findClass RX5 = some m.cls := hown
  have hw5 : ∀ w ∈ wsX50, w.before args s = true := fun w h => hts w (List.mem_cons_of_mem _ (List.mem_append_left _ (List.mem_append_left _ (List.mem_append_right _ h))))
  have u1 : (Cond.fieldLink RX5 12 "YearWords" "now" "LYearWords$Stock;").before args s = true := hts _ (List.mem_of_getElem? (i := 1) (by decide +kernel))
  have u2 : (Cond.fieldLink RX5 28 "YearWords" "sayings" "LYearWords$Sayings;").before args s = true := hts _ (List.mem_of_getElem? (i := 2) (by decide +kernel))
  have u3 : (Cond.constant RX5 63 (-1000000001)).before args s = true := hts _ (List.mem_of_getElem? (i := 3) (by decide +kernel))
  obtain ⟨Q, hQ⟩ : ∃ Q, Q = mqL below D 36 a args s (wX a cI cJ cS par kin lea mos wrt tal siz tol hrs ags yea kpar kkin klea kmos kwrt ktal ksiz ktol khrs kags kyea isk tly gai bes low hig spn byt hld sta beh sor num res.2 sbi she snu) res.1 := ⟨_, rfl⟩
  rw [← hQ]
  unfold fX5_allWays at hres
  refine lv_aload_n hx hb dX5_allWays_0 rfl (lv_at hl 0 rfl) ?_
  refine gX_this5_now hx hb hown hw5 hK hP u1 dX5_allWays_1 ?_
  refine lv_iload_n hx hb dX5_allWays_4 rfl (lv_at hl 1 rfl) ?_
  refine cvI (q0 := 1) (ci := 3) hx hb hml hown hts hEo hE hK hP hS (kX3_hasTale l D a cI cJ cS hd hEo par kin lea mos wrt tal siz tol hrs ags yea kpar kkin klea kmos kwrt ktal ksiz ktol khrs kags kyea isk tly gai bes low hig spn byt hld sta beh sor num fnd sbi she snu x1) gX5_allWays_X3_hasTale rfl hdX3_hasTale rfl rfl rfl ⟨rfl, rfl⟩ ⟨Nat.le_of_ble_eq_true rfl, Nat.le_of_ble_eq_true rfl⟩ ⟨Nat.zero_le _, Nat.zero_le _⟩ rfl hl.1 rfl (Nat.le_of_ble_eq_true rfl) dX5_allWays_5 (fun H locs hP hS => ?_)
  refine lv_if_eq (tgt := 22) hx hb dX5_allWays_8 (by decide) (fun c8 => ?_) (fun c8 => ?_)
  · have hres := (itl hres).1 c8
    refine lv_aload_n hx hb dX5_allWays_22 rfl (lv_at hl 0 rfl) ?_
    refine lv_ldc hx hb hown u3 dX5_allWays_23 ?_
    obtain ⟨q25, e25, hres⟩ := obd hres
    refine cvI (q0 := 0) (ci := 5) hx hb hml hown hts hEo hE hK hP hS (kX5_found l D a cI cJ cS hd hEo par kin lea mos wrt tal siz tol hrs ags yea kpar kkin klea kmos kwrt ktal ksiz ktol khrs kags kyea isk tly gai bes low hig spn byt hld sta beh sor num fnd sbi she snu (-1000000001 : Int32) q25 e25) gX5_allWays_X5_found rfl hdX5_found rfl rfl rfl ⟨rfl, rfl⟩ ⟨Nat.le_of_ble_eq_true rfl, Nat.le_of_ble_eq_true rfl⟩ ⟨Nat.zero_le _, Nat.zero_le _⟩ rfl hl.1 rfl (Nat.le_of_ble_eq_true rfl) dX5_allWays_25 (fun H locs hP hS => ?_)
    refine lv_i2l hx hb dX5_allWays_28 rfl ?_
    exact hQ ▸ rtL (v := q25.1.toInt64)  hx hb hr hlk hP hS (by rw [← (Option.some.inj hres)]) (by rw [← (Option.some.inj hres)]) dX5_allWays_29
  · have hres := (itl hres).2 c8
    refine lv_aload_n hx hb dX5_allWays_11 rfl (lv_at hl 0 rfl) ?_
    refine gX_this5_sayings hx hb hown hw5 hK hP u2 dX5_allWays_12 ?_
    refine lv_iload_n hx hb dX5_allWays_15 rfl (lv_at hl 1 rfl) ?_
    obtain ⟨q16, e16, hres⟩ := obd hres
    refine cvL (q0 := 17) (ci := 1) hx hb hml hown hts hEo hE hK hP hS (kX1_waysInAll l D a cI cJ cS hd hEo par kin lea mos wrt tal siz tol hrs ags yea kpar kkin klea kmos kwrt ktal ksiz ktol khrs kags kyea isk tly gai bes low hig spn byt hld sta beh sor num fnd sbi she snu x1 q16 e16) gX5_allWays_X1_waysInAll rfl hdX1_waysInAll rfl rfl rfl ⟨rfl, rfl⟩ ⟨Nat.le_of_ble_eq_true rfl, Nat.le_of_ble_eq_true rfl⟩ ⟨Nat.zero_le _, Nat.zero_le _⟩ rfl hl.1 rfl (Nat.le_of_ble_eq_true rfl) dX5_allWays_16 (fun H locs hP hS => ?_)
    refine lv_goto (tgt := 29) hx hb dX5_allWays_19 (by decide) ?_
    exact hQ ▸ rtL (v := q16)  hx hb hr hlk hP hS (by rw [← (Option.some.inj hres)]) (by rw [← (Option.some.inj hres)]) dX5_allWays_29
def fX5_length_b20 (low : Nat → Int64) (hig : Nat → Int64) (spn : Int32) (fnd : Nat → Int32) : Option (Int32 × (Nat → Int64) × (Nat → Int64) × Int32 × (Nat → Int32)) :=
 (fX5_found fnd (-1000000001 : Int32)).bind fun q23 => some (q23.1, low, hig, spn, q23.2)
def fX5_length (kin : Nat → Int32) (lea : Nat → Int32) (mos : Nat → Int32) (tal : Int32) (siz : Nat → Int32) (tol : Nat → Int32) (low : Nat → Int64) (hig : Nat → Int64) (spn : Int32) (fnd : Nat → Int32) (x1 : Int32) (x2 : Int32) : Option (Int32 × (Nat → Int64) × (Nat → Int64) × Int32 × (Nat → Int32)) :=
  if (bI (fX3_hasTale tal x1)) = 0 then fX5_length_b20 low hig spn fnd else if (bI (fX5_isIn x2 (0 : Int32) (2 : Int32))) = 0 then fX5_length_b20 low hig spn fnd else (fX1_spanWords kin lea mos siz tol low hig spn x1).bind fun q32 => (fX1_fewestWords q32.1 q32.2.1 q32.2.2).bind fun q39 => (fX1_mostWords q32.1 q32.2.1 q32.2.2).bind fun q47 => if q39 ≤ q47 then if x2 = 0 then some (q39, q32.1, q32.2.1, q32.2.2, fnd) else if x2 = (1 : Int32) then some (q47, q32.1, q32.2.1, q32.2.2, fnd) else (fX1_gapsBetween q32.1 q32.2.1 q32.2.2 q39 q47).bind fun q88 => some (q88, q32.1, q32.2.1, q32.2.2, fnd) else (fX5_found fnd (-1000000004 : Int32)).bind fun q61 => some (q61.1, q32.1, q32.2.1, q32.2.2, q61.2)
theorem hdX1_fewestWords : yX1_fewestWords.cls = RX1 ∧ yX1_fewestWords.cls ≠ "java/lang/invoke/MethodHandle" ∧ yX1_fewestWords.cls ≠ "java/lang/invoke/VarHandle" ∧ (parseMethodDescriptor yX1_fewestWords.desc).map (fun d => d.parameters.length) = some 0 := by decide +kernel
theorem hdX1_gapsBetween : yX1_gapsBetween.cls = RX1 ∧ yX1_gapsBetween.cls ≠ "java/lang/invoke/MethodHandle" ∧ yX1_gapsBetween.cls ≠ "java/lang/invoke/VarHandle" ∧ (parseMethodDescriptor yX1_gapsBetween.desc).map (fun d => d.parameters.length) = some 2 := by decide +kernel
theorem hdX1_mostWords : yX1_mostWords.cls = RX1 ∧ yX1_mostWords.cls ≠ "java/lang/invoke/MethodHandle" ∧ yX1_mostWords.cls ≠ "java/lang/invoke/VarHandle" ∧ (parseMethodDescriptor yX1_mostWords.desc).map (fun d => d.parameters.length) = some 0 := by decide +kernel
theorem hdX1_spanWords : yX1_spanWords.cls = RX1 ∧ yX1_spanWords.cls ≠ "java/lang/invoke/MethodHandle" ∧ yX1_spanWords.cls ≠ "java/lang/invoke/VarHandle" ∧ (parseMethodDescriptor yX1_spanWords.desc).map (fun d => d.parameters.length) = some 1 := by decide +kernel
abbrev rX5_length : Room := { frames := 3, cells := 0, slots := 0, locals := 67 }
set_option maxHeartbeats 4000000 in
set_option maxRecDepth 100000 in
theorem kX5_length (l : Launch) (D : va_G) (a : Nat → Nat) (cI cJ cS : ClassId) (hd : aok a 36) {Env : (Nat → Prop) → State → Heap → Prop} (hEo : envOK Env) (par : Int32) (kin lea mos wrt : Nat → Int32) (tal : Int32) (siz tol : Nat → Int32) (hrs : Int32) (ags : Nat → Int32) (yea kpar : Int32) (kkin klea kmos kwrt : Nat → Int32) (ktal : Int32) (ksiz ktol : Nat → Int32) (khrs : Int32) (kags : Nat → Int32) (kyea isk : Int32) (tly : Nat → Int64) (gai bes : Nat → Int32) (low hig : Nat → Int64) (spn : Int32) (byt : Nat → Int32) (hld sta beh sor num : Int32) (fnd sbi she : Nat → Int32) (snu : Nat → Nat → Int64) (x1 : Int32) (x2 : Int32) (res : Int32 × (Nat → Int64) × (Nat → Int64) × Int32 × (Nat → Int32)) (hres : fX5_length kin lea mos tal siz tol low hig spn fnd x1 x2 = some res) : CtI l D (tyL cI cJ cS) 36 a Env yX5_length wsX5_length rX5_length [.ref (a 0), .int x1, .int x2] (wX a cI cJ cS par kin lea mos wrt tal siz tol hrs ags yea kpar kkin klea kmos kwrt ktal ksiz ktol khrs kags kyea isk tly gai bes low hig spn byt hld sta beh sor num fnd sbi she snu) (wX a cI cJ cS par kin lea mos wrt tal siz tol hrs ags yea kpar kkin klea kmos kwrt ktal ksiz ktol khrs kags kyea isk tly gai bes res.2.1 res.2.2.1 res.2.2.2.1 byt hld sta beh sor num res.2.2.2.2 sbi she snu) res.1 := by
  refine CtI_mk (cc := cX5_length) (maxL := 5) (ret := (some .int)) (by decide) rfl (Nat.le_of_ble_eq_true rfl) ?_
  intro p e s m args below meth c ls hx hb hr hlk hml hown hts hP hK hE hl
  have hS : va_S (adA a 36 s.heap.size) s.heap s.heap [] := va_S.rf
  have hl : lv_has ls 5 [(0, .ref (a 0)), (1, .int x1), (2, .int x2)] := hl
  have hown : s.vm.findClass RX5 = some m.cls := hown
  have hw5 : ∀ w ∈ wsX50, w.before args s = true := fun w h => hts w (List.mem_cons_of_mem _ (List.mem_append_left _ (List.mem_append_left _ (List.mem_append_right _ h))))
  have u1 : (Cond.fieldLink RX5 12 "YearWords" "now" "LYearWords$Stock;").before args s = true := hts _ (List.mem_of_getElem? (i := 1) (by decide +kernel))
  have u2 : (Cond.constant RX5 63 (-1000000001)).before args s = true := hts _ (List.mem_of_getElem? (i := 2) (by decide +kernel))
  have u3 : (Cond.fieldLink RX5 28 "YearWords" "sayings" "LYearWords$Sayings;").before args s = true := hts _ (List.mem_of_getElem? (i := 3) (by decide +kernel))
  have u4 : (Cond.constant RX5 129 (-1000000004)).before args s = true := hts _ (List.mem_of_getElem? (i := 4) (by decide +kernel))
  obtain ⟨Q, hQ⟩ : ∃ Q, Q = mqI below D 36 a args s (wX a cI cJ cS par kin lea mos wrt tal siz tol hrs ags yea kpar kkin klea kmos kwrt ktal ksiz ktol khrs kags kyea isk tly gai bes res.2.1 res.2.2.1 res.2.2.2.1 byt hld sta beh sor num res.2.2.2.2 sbi she snu) res.1 := ⟨_, rfl⟩
  rw [← hQ]
  have b20 : ∀ (low : Nat → Int64) (hig : Nat → Int64) (spn : Int32) (fnd : Nat → Int32), fX5_length_b20 low hig spn fnd = some res → ∀ (H : Heap) (locs : List Loc) (ls : Array Slot), va_P D vwCl (wX a cI cJ cS par kin lea mos wrt tal siz tol hrs ags yea kpar kkin klea kmos kwrt ktal ksiz ktol khrs kags kyea isk tly gai bes low hig spn byt hld sta beh sor num fnd sbi she snu) H → va_S (adA a 36 s.heap.size) s.heap H locs → lv_has ls 5 [(0, .ref (a 0))] → W p l e rX5_length s m args below meth c H locs 0 0 Q (F0 m 20 ls []) := by
    intro low hig spn fnd hres H locs ls hP hS hl
    unfold fX5_length_b20 at hres
    refine lv_aload_n hx hb dX5_length_20 rfl (lv_at hl 0 rfl) ?_
    refine lv_ldc hx hb hown u2 dX5_length_21 ?_
    obtain ⟨q23, e23, hres⟩ := obd hres
    refine cvI (q0 := 0) (ci := 5) hx hb hml hown hts hEo hE hK hP hS (kX5_found l D a cI cJ cS hd hEo par kin lea mos wrt tal siz tol hrs ags yea kpar kkin klea kmos kwrt ktal ksiz ktol khrs kags kyea isk tly gai bes low hig spn byt hld sta beh sor num fnd sbi she snu (-1000000001 : Int32) q23 e23) gX5_length_X5_found rfl hdX5_found rfl rfl rfl ⟨rfl, rfl⟩ ⟨Nat.le_of_ble_eq_true rfl, Nat.le_of_ble_eq_true rfl⟩ ⟨Nat.zero_le _, Nat.zero_le _⟩ rfl hl.1 rfl (Nat.le_of_ble_eq_true rfl) dX5_length_23 (fun H locs hP hS => ?_)
    exact hQ ▸ rtI (v := q23.1)  hx hb hr hlk hP hS (by rw [← (Option.some.inj hres)]) (by rw [← (Option.some.inj hres)]) dX5_length_26
  unfold fX5_length at hres
  refine lv_aload_n hx hb dX5_length_0 rfl (lv_at hl 0 rfl) ?_
  refine gX_this5_now hx hb hown hw5 hK hP u1 dX5_length_1 ?_
  refine lv_iload_n hx hb dX5_length_4 rfl (lv_at hl 1 rfl) ?_
  refine cvI (q0 := 1) (ci := 3) hx hb hml hown hts hEo hE hK hP hS (kX3_hasTale l D a cI cJ cS hd hEo par kin lea mos wrt tal siz tol hrs ags yea kpar kkin klea kmos kwrt ktal ksiz ktol khrs kags kyea isk tly gai bes low hig spn byt hld sta beh sor num fnd sbi she snu x1) gX5_length_X3_hasTale rfl hdX3_hasTale rfl rfl rfl ⟨rfl, rfl⟩ ⟨Nat.le_of_ble_eq_true rfl, Nat.le_of_ble_eq_true rfl⟩ ⟨Nat.zero_le _, Nat.zero_le _⟩ rfl hl.1 rfl (Nat.le_of_ble_eq_true rfl) dX5_length_5 (fun H locs hP hS => ?_)
  refine lv_if_eq (tgt := 20) hx hb dX5_length_8 (by decide) (fun c8 => ?_) (fun c8 => ?_)
  · have hres := (itl hres).1 c8
    exact b20 low hig spn fnd hres _ _ _ hP hS (lv_sub hl [0] rfl)
  · have hres := (itl hres).2 c8
    refine lv_iload_n hx hb dX5_length_11 rfl (lv_at hl 2 rfl) ?_
    refine lv_iconst (v := 0) hx hb dX5_length_12 (by decide) ?_
    refine lv_iconst (v := 2) hx hb dX5_length_13 (by decide) ?_
    refine csI hx hb hml hown hts hEo hE hK hP hS (kX5_isIn l D a cI cJ cS hd hEo par kin lea mos wrt tal siz tol hrs ags yea kpar kkin klea kmos kwrt ktal ksiz ktol khrs kags kyea isk tly gai bes low hig spn byt hld sta beh sor num fnd sbi she snu x2 (0 : Int32) (2 : Int32)) gX5_length_X5_isIn rfl hdX5_isIn ⟨rfl, rfl⟩ ⟨Nat.le_of_ble_eq_true rfl, Nat.le_of_ble_eq_true rfl⟩ ⟨Nat.zero_le _, Nat.zero_le _⟩ rfl hl.1 rfl (Nat.le_of_ble_eq_true rfl) dX5_length_14 (fun H locs hP hS => ?_)
    refine lv_if_ne (tgt := 27) hx hb dX5_length_17 (by decide) (fun c17 => ?_) (fun c17 => ?_)
    · have hres := (itl hres).2 c17
      refine lv_aload_n hx hb dX5_length_27 rfl (lv_at hl 0 rfl) ?_
      refine gX_this5_sayings hx hb hown hw5 hK hP u3 dX5_length_28 ?_
      refine lv_iload_n hx hb dX5_length_31 rfl (lv_at hl 1 rfl) ?_
      obtain ⟨q32, e32, hres⟩ := obd hres
      refine cvV (q0 := 17) (ci := 1) hx hb hml hown hts hEo hE hK hP hS (kX1_spanWords l D a cI cJ cS hd hEo par kin lea mos wrt tal siz tol hrs ags yea kpar kkin klea kmos kwrt ktal ksiz ktol khrs kags kyea isk tly gai bes low hig spn byt hld sta beh sor num fnd sbi she snu x1 q32 e32) gX5_length_X1_spanWords rfl hdX1_spanWords rfl rfl rfl ⟨rfl, rfl⟩ ⟨Nat.le_of_ble_eq_true rfl, Nat.le_of_ble_eq_true rfl⟩ ⟨Nat.zero_le _, Nat.zero_le _⟩ rfl hl.1 rfl (Nat.le_of_ble_eq_true rfl) dX5_length_32 (fun H locs hP hS => ?_)
      refine lv_aload_n hx hb dX5_length_35 rfl (lv_at hl 0 rfl) ?_
      refine gX_this5_sayings hx hb hown hw5 hK hP u3 dX5_length_36 ?_
      obtain ⟨q39, e39, hres⟩ := obd hres
      refine cvI (q0 := 17) (ci := 1) hx hb hml hown hts hEo hE hK hP hS (kX1_fewestWords l D a cI cJ cS hd hEo par kin lea mos wrt tal siz tol hrs ags yea kpar kkin klea kmos kwrt ktal ksiz ktol khrs kags kyea isk tly gai bes q32.1 q32.2.1 q32.2.2 byt hld sta beh sor num fnd sbi she snu  q39 e39) gX5_length_X1_fewestWords rfl hdX1_fewestWords rfl rfl rfl ⟨rfl, rfl⟩ ⟨Nat.le_of_ble_eq_true rfl, Nat.le_of_ble_eq_true rfl⟩ ⟨Nat.zero_le _, Nat.zero_le _⟩ rfl hl.1 rfl (Nat.le_of_ble_eq_true rfl) dX5_length_39 (fun H locs hP hS => ?_)
      refine lv_istore_n (lv' := [(3, .int q39), (0, .ref (a 0)), (1, .int x1), (2, .int x2)]) hx hb dX5_length_42 rfl hl (by decide) rfl (fun ls hl => ?_)
      refine lv_aload_n hx hb dX5_length_43 rfl (lv_at hl 1 rfl) ?_
      refine gX_this5_sayings hx hb hown hw5 hK hP u3 dX5_length_44 ?_
      obtain ⟨q47, e47, hres⟩ := obd hres
      refine cvI (q0 := 17) (ci := 1) hx hb hml hown hts hEo hE hK hP hS (kX1_mostWords l D a cI cJ cS hd hEo par kin lea mos wrt tal siz tol hrs ags yea kpar kkin klea kmos kwrt ktal ksiz ktol khrs kags kyea isk tly gai bes q32.1 q32.2.1 q32.2.2 byt hld sta beh sor num fnd sbi she snu  q47 e47) gX5_length_X1_mostWords rfl hdX1_mostWords rfl rfl rfl ⟨rfl, rfl⟩ ⟨Nat.le_of_ble_eq_true rfl, Nat.le_of_ble_eq_true rfl⟩ ⟨Nat.zero_le _, Nat.zero_le _⟩ rfl hl.1 rfl (Nat.le_of_ble_eq_true rfl) dX5_length_47 (fun H locs hP hS => ?_)
      refine lv_istore (lv' := [(4, .int q47), (3, .int q39), (0, .ref (a 0)), (1, .int x1), (2, .int x2)]) hx hb dX5_length_50 hl (by decide) rfl (fun ls hl => ?_)
      refine lv_iload_n hx hb dX5_length_52 rfl (lv_at hl 1 rfl) ?_
      refine lv_iload hx hb dX5_length_53 (lv_at hl 0 rfl) ?_
      refine lv_icmp_le (tgt := 65) hx hb dX5_length_55 (by decide) (fun c55 => ?_) (fun c55 => ?_)
      · have hres := (itl hres).1 c55
        refine lv_iload_n hx hb dX5_length_65 rfl (lv_at hl 4 rfl) ?_
        refine lv_if_ne (tgt := 71) hx hb dX5_length_66 (by decide) (fun c66 => ?_) (fun c66 => ?_)
        · have hres := (itl hres).2 c66
          refine lv_iload_n hx hb dX5_length_71 rfl (lv_at hl 4 rfl) ?_
          refine lv_iconst (v := 1) hx hb dX5_length_72 (by decide) ?_
          refine lv_icmp_ne (tgt := 81) hx hb dX5_length_73 (by decide) (fun c73 => ?_) (fun c73 => ?_)
          · have hres := (itl hres).2 c73
            refine lv_aload_n hx hb dX5_length_81 rfl (lv_at hl 2 rfl) ?_
            refine gX_this5_sayings hx hb hown hw5 hK hP u3 dX5_length_82 ?_
            refine lv_iload_n hx hb dX5_length_85 rfl (lv_at hl 1 rfl) ?_
            refine lv_iload hx hb dX5_length_86 (lv_at hl 0 rfl) ?_
            obtain ⟨q88, e88, hres⟩ := obd hres
            refine cvI (q0 := 17) (ci := 1) hx hb hml hown hts hEo hE hK hP hS (kX1_gapsBetween l D a cI cJ cS hd hEo par kin lea mos wrt tal siz tol hrs ags yea kpar kkin klea kmos kwrt ktal ksiz ktol khrs kags kyea isk tly gai bes q32.1 q32.2.1 q32.2.2 byt hld sta beh sor num fnd sbi she snu q39 q47 q88 e88) gX5_length_X1_gapsBetween rfl hdX1_gapsBetween rfl rfl rfl ⟨rfl, rfl⟩ ⟨Nat.le_of_ble_eq_true rfl, Nat.le_of_ble_eq_true rfl⟩ ⟨Nat.zero_le _, Nat.zero_le _⟩ rfl hl.1 rfl (Nat.le_of_ble_eq_true rfl) dX5_length_88 (fun H locs hP hS => ?_)
            exact hQ ▸ rtI (v := q88)  hx hb hr hlk hP hS (by rw [← (Option.some.inj hres)]) (by rw [← (Option.some.inj hres)]) dX5_length_91
          · have hres := (itl hres).1 c73
            refine lv_iload hx hb dX5_length_76 (lv_at hl 0 rfl) ?_
            refine lv_goto (tgt := 91) hx hb dX5_length_78 (by decide) ?_
            exact hQ ▸ rtI (v := q47)  hx hb hr hlk hP hS (by rw [← (Option.some.inj hres)]) (by rw [← (Option.some.inj hres)]) dX5_length_91
        · have hres := (itl hres).1 c66
          refine lv_iload_n hx hb dX5_length_69 rfl (lv_at hl 1 rfl) ?_
          exact hQ ▸ rtI (v := q39)  hx hb hr hlk hP hS (by rw [← (Option.some.inj hres)]) (by rw [← (Option.some.inj hres)]) dX5_length_70
      · have hres := (itl hres).2 c55
        refine lv_aload_n hx hb dX5_length_58 rfl (lv_at hl 2 rfl) ?_
        refine lv_ldc hx hb hown u4 dX5_length_59 ?_
        obtain ⟨q61, e61, hres⟩ := obd hres
        refine cvI (q0 := 0) (ci := 5) hx hb hml hown hts hEo hE hK hP hS (kX5_found l D a cI cJ cS hd hEo par kin lea mos wrt tal siz tol hrs ags yea kpar kkin klea kmos kwrt ktal ksiz ktol khrs kags kyea isk tly gai bes q32.1 q32.2.1 q32.2.2 byt hld sta beh sor num fnd sbi she snu (-1000000004 : Int32) q61 e61) gX5_length_X5_found rfl hdX5_found rfl rfl rfl ⟨rfl, rfl⟩ ⟨Nat.le_of_ble_eq_true rfl, Nat.le_of_ble_eq_true rfl⟩ ⟨Nat.zero_le _, Nat.zero_le _⟩ rfl hl.1 rfl (Nat.le_of_ble_eq_true rfl) dX5_length_61 (fun H locs hP hS => ?_)
        exact hQ ▸ rtI (v := q61.1)  hx hb hr hlk hP hS (by rw [← (Option.some.inj hres)]) (by rw [← (Option.some.inj hres)]) dX5_length_64
    · have hres := (itl hres).1 c17
      exact b20 low hig spn fnd hres _ _ _ hP hS (lv_sub hl [0] rfl)
def fX5_best_b31 (gai : Nat → Int32) (bes : Nat → Int32) (fnd : Nat → Int32) : Option (Int32 × (Nat → Int32) × (Nat → Int32) × (Nat → Int32)) :=
 (fX5_found fnd (-1000000001 : Int32)).bind fun q34 => some (q34.1, gai, bes, q34.2)
def fX5_best_b69 (gai : Nat → Int32) (bes : Nat → Int32) (fnd : Nat → Int32) : Option (Int32 × (Nat → Int32) × (Nat → Int32) × (Nat → Int32)) :=
 (fX5_found fnd (-1000000004 : Int32)).bind fun q72 => some (q72.1, gai, bes, q72.2)
def fX5_best (kin : Nat → Int32) (lea : Nat → Int32) (mos : Nat → Int32) (wrt : Nat → Int32) (tal : Int32) (siz : Nat → Int32) (tol : Nat → Int32) (gai : Nat → Int32) (bes : Nat → Int32) (fnd : Nat → Int32) (x1 : Int32) (x2 : Int32) (x3 : Int32) : Option (Int32 × (Nat → Int32) × (Nat → Int32) × (Nat → Int32)) :=
  if (bI (fX3_hasTale tal x1)) = 0 then fX5_best_b31 gai bes fnd else if (bI (fX5_isIn x2 (0 : Int32) (120 : Int32))) = 0 then fX5_best_b31 gai bes fnd else if (bI (fX5_isIn x3 (-1 : Int32) (9 : Int32))) = 0 then fX5_best_b31 gai bes fnd else (fX1_findBest kin lea mos wrt siz tol gai bes x1 x2).bind fun q44 => if q44.1 = (-1000000000 : Int32) then fX5_best_b69 q44.2.1 q44.2.2 fnd else gd (ib x1 8) (if x3 < (siz x1.toNatClampNeg) then if 0 ≤ x3 then gd (ib x3 10) (some (q44.2.2 x3.toNatClampNeg, q44.2.1, q44.2.2, fnd)) else some (q44.1, q44.2.1, q44.2.2, fnd) else fX5_best_b69 q44.2.1 q44.2.2 fnd)
theorem hdX1_findBest : yX1_findBest.cls = RX1 ∧ yX1_findBest.cls ≠ "java/lang/invoke/MethodHandle" ∧ yX1_findBest.cls ≠ "java/lang/invoke/VarHandle" ∧ (parseMethodDescriptor yX1_findBest.desc).map (fun d => d.parameters.length) = some 2 := by decide +kernel
abbrev rX5_best : Room := { frames := 4, cells := 0, slots := 0, locals := 96 }
set_option maxHeartbeats 4000000 in
set_option maxRecDepth 100000 in
theorem kX5_best (l : Launch) (D : va_G) (a : Nat → Nat) (cI cJ cS : ClassId) (hd : aok a 36) {Env : (Nat → Prop) → State → Heap → Prop} (hEo : envOK Env) (par : Int32) (kin lea mos wrt : Nat → Int32) (tal : Int32) (siz tol : Nat → Int32) (hrs : Int32) (ags : Nat → Int32) (yea kpar : Int32) (kkin klea kmos kwrt : Nat → Int32) (ktal : Int32) (ksiz ktol : Nat → Int32) (khrs : Int32) (kags : Nat → Int32) (kyea isk : Int32) (tly : Nat → Int64) (gai bes : Nat → Int32) (low hig : Nat → Int64) (spn : Int32) (byt : Nat → Int32) (hld sta beh sor num : Int32) (fnd sbi she : Nat → Int32) (snu : Nat → Nat → Int64) (x1 : Int32) (x2 : Int32) (x3 : Int32) (res : Int32 × (Nat → Int32) × (Nat → Int32) × (Nat → Int32)) (hres : fX5_best kin lea mos wrt tal siz tol gai bes fnd x1 x2 x3 = some res) : CtI l D (tyL cI cJ cS) 36 a Env yX5_best wsX5_best rX5_best [.ref (a 0), .int x1, .int x2, .int x3] (wX a cI cJ cS par kin lea mos wrt tal siz tol hrs ags yea kpar kkin klea kmos kwrt ktal ksiz ktol khrs kags kyea isk tly gai bes low hig spn byt hld sta beh sor num fnd sbi she snu) (wX a cI cJ cS par kin lea mos wrt tal siz tol hrs ags yea kpar kkin klea kmos kwrt ktal ksiz ktol khrs kags kyea isk tly res.2.1 res.2.2.1 low hig spn byt hld sta beh sor num res.2.2.2 sbi she snu) res.1 := by
  refine CtI_mk (cc := cX5_best) (maxL := 5) (ret := (some .int)) (by decide) rfl (Nat.le_of_ble_eq_true rfl) ?_
  intro p e s m args below meth c ls hx hb hr hlk hml hown hts hP hK hE hl
  have hS : va_S (adA a 36 s.heap.size) s.heap s.heap [] := va_S.rf
  have hl : lv_has ls 5 [(0, .ref (a 0)), (1, .int x1), (2, .int x2), (3, .int x3)] := hl
  have hown : s.vm.findClass RX5 = some m.cls := hown
  have hw1 : ∀ w ∈ wsX10, w.before args s = true := fun w h => hts w (List.mem_cons_of_mem _ (List.mem_append_right _ h))
  have hw3 : ∀ w ∈ wsX30, w.before args s = true := fun w h => hts w (List.mem_cons_of_mem _ (List.mem_append_left _ (List.mem_append_right _ h)))
  have hw5 : ∀ w ∈ wsX50, w.before args s = true := fun w h => hts w (List.mem_cons_of_mem _ (List.mem_append_left _ (List.mem_append_left _ (List.mem_append_right _ h))))
  have u1 : (Cond.fieldLink RX5 12 "YearWords" "now" "LYearWords$Stock;").before args s = true := hts _ (List.mem_of_getElem? (i := 1) (by decide +kernel))
  have u2 : (Cond.constant RX5 63 (-1000000001)).before args s = true := hts _ (List.mem_of_getElem? (i := 2) (by decide +kernel))
  have u3 : (Cond.fieldLink RX5 28 "YearWords" "sayings" "LYearWords$Sayings;").before args s = true := hts _ (List.mem_of_getElem? (i := 3) (by decide +kernel))
  have u4 : (Cond.constant RX5 160 (-1000000000)).before args s = true := hts _ (List.mem_of_getElem? (i := 4) (by decide +kernel))
  have u5 : (Cond.fieldLink RX5 123 "YearWords$Stock" "sizes" "[I").before args s = true := hts _ (List.mem_of_getElem? (i := 5) (by decide +kernel))
  have u6 : (Cond.constant RX5 129 (-1000000004)).before args s = true := hts _ (List.mem_of_getElem? (i := 6) (by decide +kernel))
  have u7 : (Cond.fieldLink RX5 161 "YearWords$Sayings" "bestLengths" "[I").before args s = true := hts _ (List.mem_of_getElem? (i := 7) (by decide +kernel))
  obtain ⟨Q, hQ⟩ : ∃ Q, Q = mqI below D 36 a args s (wX a cI cJ cS par kin lea mos wrt tal siz tol hrs ags yea kpar kkin klea kmos kwrt ktal ksiz ktol khrs kags kyea isk tly res.2.1 res.2.2.1 low hig spn byt hld sta beh sor num res.2.2.2 sbi she snu) res.1 := ⟨_, rfl⟩
  rw [← hQ]
  have b31 : ∀ (gai : Nat → Int32) (bes : Nat → Int32) (fnd : Nat → Int32), fX5_best_b31 gai bes fnd = some res → ∀ (H : Heap) (locs : List Loc) (ls : Array Slot), va_P D vwCl (wX a cI cJ cS par kin lea mos wrt tal siz tol hrs ags yea kpar kkin klea kmos kwrt ktal ksiz ktol khrs kags kyea isk tly gai bes low hig spn byt hld sta beh sor num fnd sbi she snu) H → va_S (adA a 36 s.heap.size) s.heap H locs → lv_has ls 5 [(0, .ref (a 0))] → W p l e rX5_best s m args below meth c H locs 0 0 Q (F0 m 31 ls []) := by
    intro gai bes fnd hres H locs ls hP hS hl
    unfold fX5_best_b31 at hres
    refine lv_aload_n hx hb dX5_best_31 rfl (lv_at hl 0 rfl) ?_
    refine lv_ldc hx hb hown u2 dX5_best_32 ?_
    obtain ⟨q34, e34, hres⟩ := obd hres
    refine cvI (q0 := 0) (ci := 5) hx hb hml hown hts hEo hE hK hP hS (kX5_found l D a cI cJ cS hd hEo par kin lea mos wrt tal siz tol hrs ags yea kpar kkin klea kmos kwrt ktal ksiz ktol khrs kags kyea isk tly gai bes low hig spn byt hld sta beh sor num fnd sbi she snu (-1000000001 : Int32) q34 e34) gX5_best_X5_found rfl hdX5_found rfl rfl rfl ⟨rfl, rfl⟩ ⟨Nat.le_of_ble_eq_true rfl, Nat.le_of_ble_eq_true rfl⟩ ⟨Nat.zero_le _, Nat.zero_le _⟩ rfl hl.1 rfl (Nat.le_of_ble_eq_true rfl) dX5_best_34 (fun H locs hP hS => ?_)
    exact hQ ▸ rtI (v := q34.1)  hx hb hr hlk hP hS (by rw [← (Option.some.inj hres)]) (by rw [← (Option.some.inj hres)]) dX5_best_37
  have b69 : ∀ (gai : Nat → Int32) (bes : Nat → Int32) (fnd : Nat → Int32), fX5_best_b69 gai bes fnd = some res → ∀ (H : Heap) (locs : List Loc) (ls : Array Slot), va_P D vwCl (wX a cI cJ cS par kin lea mos wrt tal siz tol hrs ags yea kpar kkin klea kmos kwrt ktal ksiz ktol khrs kags kyea isk tly gai bes low hig spn byt hld sta beh sor num fnd sbi she snu) H → va_S (adA a 36 s.heap.size) s.heap H locs → lv_has ls 5 [(0, .ref (a 0))] → W p l e rX5_best s m args below meth c H locs 0 0 Q (F0 m 69 ls []) := by
    intro gai bes fnd hres H locs ls hP hS hl
    unfold fX5_best_b69 at hres
    refine lv_aload_n hx hb dX5_best_69 rfl (lv_at hl 0 rfl) ?_
    refine lv_ldc hx hb hown u6 dX5_best_70 ?_
    obtain ⟨q72, e72, hres⟩ := obd hres
    refine cvI (q0 := 0) (ci := 5) hx hb hml hown hts hEo hE hK hP hS (kX5_found l D a cI cJ cS hd hEo par kin lea mos wrt tal siz tol hrs ags yea kpar kkin klea kmos kwrt ktal ksiz ktol khrs kags kyea isk tly gai bes low hig spn byt hld sta beh sor num fnd sbi she snu (-1000000004 : Int32) q72 e72) gX5_best_X5_found rfl hdX5_found rfl rfl rfl ⟨rfl, rfl⟩ ⟨Nat.le_of_ble_eq_true rfl, Nat.le_of_ble_eq_true rfl⟩ ⟨Nat.zero_le _, Nat.zero_le _⟩ rfl hl.1 rfl (Nat.le_of_ble_eq_true rfl) dX5_best_72 (fun H locs hP hS => ?_)
    exact hQ ▸ rtI (v := q72.1)  hx hb hr hlk hP hS (by rw [← (Option.some.inj hres)]) (by rw [← (Option.some.inj hres)]) dX5_best_75
  unfold fX5_best at hres
  refine lv_aload_n hx hb dX5_best_0 rfl (lv_at hl 0 rfl) ?_
  refine gX_this5_now hx hb hown hw5 hK hP u1 dX5_best_1 ?_
  refine lv_iload_n hx hb dX5_best_4 rfl (lv_at hl 1 rfl) ?_
  refine cvI (q0 := 1) (ci := 3) hx hb hml hown hts hEo hE hK hP hS (kX3_hasTale l D a cI cJ cS hd hEo par kin lea mos wrt tal siz tol hrs ags yea kpar kkin klea kmos kwrt ktal ksiz ktol khrs kags kyea isk tly gai bes low hig spn byt hld sta beh sor num fnd sbi she snu x1) gX5_best_X3_hasTale rfl hdX3_hasTale rfl rfl rfl ⟨rfl, rfl⟩ ⟨Nat.le_of_ble_eq_true rfl, Nat.le_of_ble_eq_true rfl⟩ ⟨Nat.zero_le _, Nat.zero_le _⟩ rfl hl.1 rfl (Nat.le_of_ble_eq_true rfl) dX5_best_5 (fun H locs hP hS => ?_)
  refine lv_if_eq (tgt := 31) hx hb dX5_best_8 (by decide) (fun c8 => ?_) (fun c8 => ?_)
  · have hres := (itl hres).1 c8
    exact b31 gai bes fnd hres _ _ _ hP hS (lv_sub hl [0] rfl)
  · have hres := (itl hres).2 c8
    refine lv_iload_n hx hb dX5_best_11 rfl (lv_at hl 2 rfl) ?_
    refine lv_iconst (v := 0) hx hb dX5_best_12 (by decide) ?_
    refine lv_bipush (v := 120) hx hb dX5_best_13 (by decide) ?_
    refine csI hx hb hml hown hts hEo hE hK hP hS (kX5_isIn l D a cI cJ cS hd hEo par kin lea mos wrt tal siz tol hrs ags yea kpar kkin klea kmos kwrt ktal ksiz ktol khrs kags kyea isk tly gai bes low hig spn byt hld sta beh sor num fnd sbi she snu x2 (0 : Int32) (120 : Int32)) gX5_best_X5_isIn rfl hdX5_isIn ⟨rfl, rfl⟩ ⟨Nat.le_of_ble_eq_true rfl, Nat.le_of_ble_eq_true rfl⟩ ⟨Nat.zero_le _, Nat.zero_le _⟩ rfl hl.1 rfl (Nat.le_of_ble_eq_true rfl) dX5_best_15 (fun H locs hP hS => ?_)
    refine lv_if_eq (tgt := 31) hx hb dX5_best_18 (by decide) (fun c18 => ?_) (fun c18 => ?_)
    · have hres := (itl hres).1 c18
      exact b31 gai bes fnd hres _ _ _ hP hS (lv_sub hl [0] rfl)
    · have hres := (itl hres).2 c18
      refine lv_iload_n hx hb dX5_best_21 rfl (lv_at hl 3 rfl) ?_
      refine lv_iconst (v := (-1)) hx hb dX5_best_22 (by decide) ?_
      refine lv_bipush (v := 9) hx hb dX5_best_23 (by decide) ?_
      refine csI hx hb hml hown hts hEo hE hK hP hS (kX5_isIn l D a cI cJ cS hd hEo par kin lea mos wrt tal siz tol hrs ags yea kpar kkin klea kmos kwrt ktal ksiz ktol khrs kags kyea isk tly gai bes low hig spn byt hld sta beh sor num fnd sbi she snu x3 (-1 : Int32) (9 : Int32)) gX5_best_X5_isIn rfl hdX5_isIn ⟨rfl, rfl⟩ ⟨Nat.le_of_ble_eq_true rfl, Nat.le_of_ble_eq_true rfl⟩ ⟨Nat.zero_le _, Nat.zero_le _⟩ rfl hl.1 rfl (Nat.le_of_ble_eq_true rfl) dX5_best_25 (fun H locs hP hS => ?_)
      refine lv_if_ne (tgt := 38) hx hb dX5_best_28 (by decide) (fun c28 => ?_) (fun c28 => ?_)
      · have hres := (itl hres).2 c28
        refine lv_aload_n hx hb dX5_best_38 rfl (lv_at hl 0 rfl) ?_
        refine gX_this5_sayings hx hb hown hw5 hK hP u3 dX5_best_39 ?_
        refine lv_iload_n hx hb dX5_best_42 rfl (lv_at hl 1 rfl) ?_
        refine lv_iload_n hx hb dX5_best_43 rfl (lv_at hl 2 rfl) ?_
        obtain ⟨q44, e44, hres⟩ := obd hres
        refine cvI (q0 := 17) (ci := 1) hx hb hml hown hts hEo hE hK hP hS (kX1_findBest l D a cI cJ cS hd hEo par kin lea mos wrt tal siz tol hrs ags yea kpar kkin klea kmos kwrt ktal ksiz ktol khrs kags kyea isk tly gai bes low hig spn byt hld sta beh sor num fnd sbi she snu x1 x2 q44 e44) gX5_best_X1_findBest rfl hdX1_findBest rfl rfl rfl ⟨rfl, rfl⟩ ⟨Nat.le_of_ble_eq_true rfl, Nat.le_of_ble_eq_true rfl⟩ ⟨Nat.zero_le _, Nat.zero_le _⟩ rfl hl.1 rfl (Nat.le_of_ble_eq_true rfl) dX5_best_44 (fun H locs hP hS => ?_)
        refine lv_istore (lv' := [(4, .int q44.1), (0, .ref (a 0)), (1, .int x1), (2, .int x2), (3, .int x3)]) hx hb dX5_best_47 hl (by decide) rfl (fun ls hl => ?_)
        refine lv_iload hx hb dX5_best_49 (lv_at hl 0 rfl) ?_
        refine lv_ldc hx hb hown u4 dX5_best_51 ?_
        refine lv_icmp_eq (tgt := 69) hx hb dX5_best_53 (by decide) (fun c53 => ?_) (fun c53 => ?_)
        · have hres := (itl hres).1 c53
          exact b69 q44.2.1 q44.2.2 fnd hres _ _ _ hP hS (lv_sub hl [1] rfl)
        · have hres := (itl hres).2 c53
          refine lv_iload_n hx hb dX5_best_56 rfl (lv_at hl 4 rfl) ?_
          refine lv_aload_n hx hb dX5_best_57 rfl (lv_at hl 1 rfl) ?_
          refine gX_this5_now hx hb hown hw5 hK hP u1 dX5_best_58 ?_
          refine gX_now_sizes hx hb hown hw3 hK hP u5 dX5_best_61 ?_
          refine lv_iload_n hx hb dX5_best_64 rfl (lv_at hl 2 rfl) ?_
          obtain ⟨i65, hres⟩ := gdi hres
          refine lX_siz hx hb hK hP i65 dX5_best_65 ?_
          refine lv_icmp_lt (tgt := 76) hx hb dX5_best_66 (by decide) (fun c66 => ?_) (fun c66 => ?_)
          · have hres := (itl hres).1 c66
            refine lv_iload_n hx hb dX5_best_76 rfl (lv_at hl 4 rfl) ?_
            refine lv_if_ge (tgt := 85) hx hb dX5_best_77 (by decide) (fun c77 => ?_) (fun c77 => ?_)
            · have hres := (itl hres).1 c77
              refine lv_aload_n hx hb dX5_best_85 rfl (lv_at hl 1 rfl) ?_
              refine gX_this5_sayings hx hb hown hw5 hK hP u3 dX5_best_86 ?_
              refine gX_sayo_bestLengths hx hb hown hw1 hK hP u7 dX5_best_89 ?_
              refine lv_iload_n hx hb dX5_best_92 rfl (lv_at hl 4 rfl) ?_
              obtain ⟨i93, hres⟩ := gdi hres
              refine lX_bes hx hb hK hP i93 dX5_best_93 ?_
              exact hQ ▸ rtI (v := q44.2.2 x3.toNatClampNeg)  hx hb hr hlk hP hS (by rw [← (Option.some.inj hres)]) (by rw [← (Option.some.inj hres)]) dX5_best_94
            · have hres := (itl hres).2 c77
              refine lv_iload hx hb dX5_best_80 (lv_at hl 0 rfl) ?_
              refine lv_goto (tgt := 94) hx hb dX5_best_82 (by decide) ?_
              exact hQ ▸ rtI (v := q44.1)  hx hb hr hlk hP hS (by rw [← (Option.some.inj hres)]) (by rw [← (Option.some.inj hres)]) dX5_best_94
          · have hres := (itl hres).2 c66
            exact b69 q44.2.1 q44.2.2 fnd hres _ _ _ hP hS (lv_sub hl [1] rfl)
      · have hres := (itl hres).1 c28
        exact b31 gai bes fnd hres _ _ _ hP hS (lv_sub hl [0] rfl)
def fX5_richest (kin : Nat → Int32) (lea : Nat → Int32) (mos : Nat → Int32) (wrt : Nat → Int32) (tal : Int32) (siz : Nat → Int32) (tol : Nat → Int32) (gai : Nat → Int32) (fnd : Nat → Int32) (x1 : Int32) : Option (Int32 × (Nat → Int32) × (Nat → Int32)) :=
  if (bI (fX3_hasTale tal x1)) = 0 then (fX5_found fnd (-1000000001 : Int32)).bind fun q14 => some (q14.1, gai, q14.2) else (fX1_richestWords kin lea mos wrt siz tol gai x1).bind fun q23 => if 0 ≤ q23.1 then some (q23.1, q23.2, fnd) else (fX5_found fnd (-1000000004 : Int32)).bind fun q34 => some (q34.1, q23.2, q34.2)
theorem hdX1_richestWords : yX1_richestWords.cls = RX1 ∧ yX1_richestWords.cls ≠ "java/lang/invoke/MethodHandle" ∧ yX1_richestWords.cls ≠ "java/lang/invoke/VarHandle" ∧ (parseMethodDescriptor yX1_richestWords.desc).map (fun d => d.parameters.length) = some 1 := by decide +kernel
abbrev rX5_richest : Room := { frames := 4, cells := 0, slots := 0, locals := 94 }
set_option maxHeartbeats 4000000 in
set_option maxRecDepth 100000 in
theorem kX5_richest (l : Launch) (D : va_G) (a : Nat → Nat) (cI cJ cS : ClassId) (hd : aok a 36) {Env : (Nat → Prop) → State → Heap → Prop} (hEo : envOK Env) (par : Int32) (kin lea mos wrt : Nat → Int32) (tal : Int32) (siz tol : Nat → Int32) (hrs : Int32) (ags : Nat → Int32) (yea kpar : Int32) (kkin klea kmos kwrt : Nat → Int32) (ktal : Int32) (ksiz ktol : Nat → Int32) (khrs : Int32) (kags : Nat → Int32) (kyea isk : Int32) (tly : Nat → Int64) (gai bes : Nat → Int32) (low hig : Nat → Int64) (spn : Int32) (byt : Nat → Int32) (hld sta beh sor num : Int32) (fnd sbi she : Nat → Int32) (snu : Nat → Nat → Int64) (x1 : Int32) (res : Int32 × (Nat → Int32) × (Nat → Int32)) (hres : fX5_richest kin lea mos wrt tal siz tol gai fnd x1 = some res) : CtI l D (tyL cI cJ cS) 36 a Env yX5_richest wsX5_richest rX5_richest [.ref (a 0), .int x1] (wX a cI cJ cS par kin lea mos wrt tal siz tol hrs ags yea kpar kkin klea kmos kwrt ktal ksiz ktol khrs kags kyea isk tly gai bes low hig spn byt hld sta beh sor num fnd sbi she snu) (wX a cI cJ cS par kin lea mos wrt tal siz tol hrs ags yea kpar kkin klea kmos kwrt ktal ksiz ktol khrs kags kyea isk tly res.2.1 bes low hig spn byt hld sta beh sor num res.2.2 sbi she snu) res.1 := by
  refine CtI_mk (cc := cX5_richest) (maxL := 3) (ret := (some .int)) (by decide) rfl (Nat.le_of_ble_eq_true rfl) ?_
  intro p e s m args below meth c ls hx hb hr hlk hml hown hts hP hK hE hl
  have hS : va_S (adA a 36 s.heap.size) s.heap s.heap [] := va_S.rf
  have hl : lv_has ls 3 [(0, .ref (a 0)), (1, .int x1)] := hl
  have hown : s.vm.findClass RX5 = some m.cls := hown
  have hw5 : ∀ w ∈ wsX50, w.before args s = true := fun w h => hts w (List.mem_cons_of_mem _ (List.mem_append_left _ (List.mem_append_left _ (List.mem_append_right _ h))))
  have u1 : (Cond.fieldLink RX5 12 "YearWords" "now" "LYearWords$Stock;").before args s = true := hts _ (List.mem_of_getElem? (i := 1) (by decide +kernel))
  have u2 : (Cond.constant RX5 63 (-1000000001)).before args s = true := hts _ (List.mem_of_getElem? (i := 2) (by decide +kernel))
  have u3 : (Cond.fieldLink RX5 28 "YearWords" "sayings" "LYearWords$Sayings;").before args s = true := hts _ (List.mem_of_getElem? (i := 3) (by decide +kernel))
  have u4 : (Cond.constant RX5 129 (-1000000004)).before args s = true := hts _ (List.mem_of_getElem? (i := 4) (by decide +kernel))
  obtain ⟨Q, hQ⟩ : ∃ Q, Q = mqI below D 36 a args s (wX a cI cJ cS par kin lea mos wrt tal siz tol hrs ags yea kpar kkin klea kmos kwrt ktal ksiz ktol khrs kags kyea isk tly res.2.1 bes low hig spn byt hld sta beh sor num res.2.2 sbi she snu) res.1 := ⟨_, rfl⟩
  rw [← hQ]
  unfold fX5_richest at hres
  refine lv_aload_n hx hb dX5_richest_0 rfl (lv_at hl 0 rfl) ?_
  refine gX_this5_now hx hb hown hw5 hK hP u1 dX5_richest_1 ?_
  refine lv_iload_n hx hb dX5_richest_4 rfl (lv_at hl 1 rfl) ?_
  refine cvI (q0 := 1) (ci := 3) hx hb hml hown hts hEo hE hK hP hS (kX3_hasTale l D a cI cJ cS hd hEo par kin lea mos wrt tal siz tol hrs ags yea kpar kkin klea kmos kwrt ktal ksiz ktol khrs kags kyea isk tly gai bes low hig spn byt hld sta beh sor num fnd sbi she snu x1) gX5_richest_X3_hasTale rfl hdX3_hasTale rfl rfl rfl ⟨rfl, rfl⟩ ⟨Nat.le_of_ble_eq_true rfl, Nat.le_of_ble_eq_true rfl⟩ ⟨Nat.zero_le _, Nat.zero_le _⟩ rfl hl.1 rfl (Nat.le_of_ble_eq_true rfl) dX5_richest_5 (fun H locs hP hS => ?_)
  refine lv_if_ne (tgt := 18) hx hb dX5_richest_8 (by decide) (fun c8 => ?_) (fun c8 => ?_)
  · have hres := (itl hres).2 c8
    refine lv_aload_n hx hb dX5_richest_18 rfl (lv_at hl 0 rfl) ?_
    refine gX_this5_sayings hx hb hown hw5 hK hP u3 dX5_richest_19 ?_
    refine lv_iload_n hx hb dX5_richest_22 rfl (lv_at hl 1 rfl) ?_
    obtain ⟨q23, e23, hres⟩ := obd hres
    refine cvI (q0 := 17) (ci := 1) hx hb hml hown hts hEo hE hK hP hS (kX1_richestWords l D a cI cJ cS hd hEo par kin lea mos wrt tal siz tol hrs ags yea kpar kkin klea kmos kwrt ktal ksiz ktol khrs kags kyea isk tly gai bes low hig spn byt hld sta beh sor num fnd sbi she snu x1 q23 e23) gX5_richest_X1_richestWords rfl hdX1_richestWords rfl rfl rfl ⟨rfl, rfl⟩ ⟨Nat.le_of_ble_eq_true rfl, Nat.le_of_ble_eq_true rfl⟩ ⟨Nat.zero_le _, Nat.zero_le _⟩ rfl hl.1 rfl (Nat.le_of_ble_eq_true rfl) dX5_richest_23 (fun H locs hP hS => ?_)
    refine lv_istore_n (lv' := [(2, .int q23.1), (0, .ref (a 0)), (1, .int x1)]) hx hb dX5_richest_26 rfl hl (by decide) rfl (fun ls hl => ?_)
    refine lv_iload_n hx hb dX5_richest_27 rfl (lv_at hl 0 rfl) ?_
    refine lv_if_ge (tgt := 40) hx hb dX5_richest_28 (by decide) (fun c28 => ?_) (fun c28 => ?_)
    · have hres := (itl hres).1 c28
      refine lv_iload_n hx hb dX5_richest_40 rfl (lv_at hl 0 rfl) ?_
      exact hQ ▸ rtI (v := q23.1)  hx hb hr hlk hP hS (by rw [← (Option.some.inj hres)]) (by rw [← (Option.some.inj hres)]) dX5_richest_41
    · have hres := (itl hres).2 c28
      refine lv_aload_n hx hb dX5_richest_31 rfl (lv_at hl 1 rfl) ?_
      refine lv_ldc hx hb hown u4 dX5_richest_32 ?_
      obtain ⟨q34, e34, hres⟩ := obd hres
      refine cvI (q0 := 0) (ci := 5) hx hb hml hown hts hEo hE hK hP hS (kX5_found l D a cI cJ cS hd hEo par kin lea mos wrt tal siz tol hrs ags yea kpar kkin klea kmos kwrt ktal ksiz ktol khrs kags kyea isk tly q23.2 bes low hig spn byt hld sta beh sor num fnd sbi she snu (-1000000004 : Int32) q34 e34) gX5_richest_X5_found rfl hdX5_found rfl rfl rfl ⟨rfl, rfl⟩ ⟨Nat.le_of_ble_eq_true rfl, Nat.le_of_ble_eq_true rfl⟩ ⟨Nat.zero_le _, Nat.zero_le _⟩ rfl hl.1 rfl (Nat.le_of_ble_eq_true rfl) dX5_richest_34 (fun H locs hP hS => ?_)
      refine lv_goto (tgt := 41) hx hb dX5_richest_37 (by decide) ?_
      exact hQ ▸ rtI (v := q34.1)  hx hb hr hlk hP hS (by rw [← (Option.some.inj hres)]) (by rw [← (Option.some.inj hres)]) dX5_richest_41
  · have hres := (itl hres).1 c8
    refine lv_aload_n hx hb dX5_richest_11 rfl (lv_at hl 0 rfl) ?_
    refine lv_ldc hx hb hown u2 dX5_richest_12 ?_
    obtain ⟨q14, e14, hres⟩ := obd hres
    refine cvI (q0 := 0) (ci := 5) hx hb hml hown hts hEo hE hK hP hS (kX5_found l D a cI cJ cS hd hEo par kin lea mos wrt tal siz tol hrs ags yea kpar kkin klea kmos kwrt ktal ksiz ktol khrs kags kyea isk tly gai bes low hig spn byt hld sta beh sor num fnd sbi she snu (-1000000001 : Int32) q14 e14) gX5_richest_X5_found rfl hdX5_found rfl rfl rfl ⟨rfl, rfl⟩ ⟨Nat.le_of_ble_eq_true rfl, Nat.le_of_ble_eq_true rfl⟩ ⟨Nat.zero_le _, Nat.zero_le _⟩ rfl hl.1 rfl (Nat.le_of_ble_eq_true rfl) dX5_richest_14 (fun H locs hP hS => ?_)
    exact hQ ▸ rtI (v := q14.1)  hx hb hr hlk hP hS (by rw [← (Option.some.inj hres)]) (by rw [← (Option.some.inj hres)]) dX5_richest_17
def fX5_fills_b21 (low : Nat → Int64) (hig : Nat → Int64) (spn : Int32) (fnd : Nat → Int32) : Option (Int32 × (Nat → Int64) × (Nat → Int64) × Int32 × (Nat → Int32)) :=
 (fX5_found fnd (-1000000001 : Int32)).bind fun q24 => some (q24.1, low, hig, spn, q24.2)
def fX5_fills_b115 (low : Nat → Int64) (hig : Nat → Int64) (spn : Int32) (fnd : Nat → Int32) : Option (Int32 × (Nat → Int64) × (Nat → Int64) × Int32 × (Nat → Int32)) :=
 (fX5_found fnd (-1000000004 : Int32)).bind fun q118 => some (q118.1, low, hig, spn, q118.2)
def fX5_fills_l77 (par : Int32) (kin : Nat → Int32) (lea : Nat → Int32) (mos : Nat → Int32) (low : Nat → Int64) (hig : Nat → Int64) (spn : Int32) (fnd : Nat → Int32) (x2 : Int32) (K77 : Int32 → Option (Int32 × (Nat → Int64) × (Nat → Int64) × Int32 × (Nat → Int32))) (x3 : Int32) : Option (Int32 × (Nat → Int64) × (Nat → Int64) × Int32 × (Nat → Int32)) :=
  if par ≤ x3 then fX5_fills_b115 low hig spn fnd else (fX3_lengthsOf kin lea mos x3).bind fun q97 => (fX1_isFilledBy low hig spn q97 x2).bind fun q101 => if (bI q101) = 0 then K77 (x3 + 1) else some (x3, low, hig, spn, fnd)
def fX5_fills (par : Int32) (kin : Nat → Int32) (lea : Nat → Int32) (mos : Nat → Int32) (tal : Int32) (siz : Nat → Int32) (tol : Nat → Int32) (low : Nat → Int64) (hig : Nat → Int64) (spn : Int32) (fnd : Nat → Int32) (x1 : Int32) (x2 : Int32) : Option (Int32 × (Nat → Int64) × (Nat → Int64) × Int32 × (Nat → Int32)) :=
  if (bI (fX3_hasTale tal x1)) = 0 then fX5_fills_b21 low hig spn fnd else if (bI (fX5_isIn x2 (0 : Int32) (120 : Int32))) = 0 then fX5_fills_b21 low hig spn fnd else gd (ib x1 8) (if (siz x1.toNatClampNeg) < (10 : Int32) then (fX1_spanWords kin lea mos siz tol low hig spn x1).bind fun q54 => (fX1_canBeIn q54.1 q54.2.1 q54.2.2 x2).bind fun q62 => if (bI q62) = 0 then fix1 (fX5_fills_l77 par kin lea mos q54.1 q54.2.1 q54.2.2 fnd x2) 2000 (0 : Int32) else (fX5_found fnd (-1000000005 : Int32)).bind fun q71 => some (q71.1, q54.1, q54.2.1, q54.2.2, q71.2) else (fX5_found fnd (-1000000002 : Int32)).bind fun q45 => some (q45.1, low, hig, spn, q45.2))
theorem hdX1_isFilledBy : yX1_isFilledBy.cls = RX1 ∧ yX1_isFilledBy.cls ≠ "java/lang/invoke/MethodHandle" ∧ yX1_isFilledBy.cls ≠ "java/lang/invoke/VarHandle" ∧ (parseMethodDescriptor yX1_isFilledBy.desc).map (fun d => d.parameters.length) = some 2 := by decide +kernel
abbrev rX5_fills : Room := { frames := 3, cells := 0, slots := 0, locals := 66 }
set_option maxHeartbeats 4000000 in
set_option maxRecDepth 100000 in
theorem kX5_fills (l : Launch) (D : va_G) (a : Nat → Nat) (cI cJ cS : ClassId) (hd : aok a 36) {Env : (Nat → Prop) → State → Heap → Prop} (hEo : envOK Env) (par : Int32) (kin lea mos wrt : Nat → Int32) (tal : Int32) (siz tol : Nat → Int32) (hrs : Int32) (ags : Nat → Int32) (yea kpar : Int32) (kkin klea kmos kwrt : Nat → Int32) (ktal : Int32) (ksiz ktol : Nat → Int32) (khrs : Int32) (kags : Nat → Int32) (kyea isk : Int32) (tly : Nat → Int64) (gai bes : Nat → Int32) (low hig : Nat → Int64) (spn : Int32) (byt : Nat → Int32) (hld sta beh sor num : Int32) (fnd sbi she : Nat → Int32) (snu : Nat → Nat → Int64) (x1 : Int32) (x2 : Int32) (res : Int32 × (Nat → Int64) × (Nat → Int64) × Int32 × (Nat → Int32)) (hres : fX5_fills par kin lea mos tal siz tol low hig spn fnd x1 x2 = some res) : CtI l D (tyL cI cJ cS) 36 a Env yX5_fills wsX5_fills rX5_fills [.ref (a 0), .int x1, .int x2] (wX a cI cJ cS par kin lea mos wrt tal siz tol hrs ags yea kpar kkin klea kmos kwrt ktal ksiz ktol khrs kags kyea isk tly gai bes low hig spn byt hld sta beh sor num fnd sbi she snu) (wX a cI cJ cS par kin lea mos wrt tal siz tol hrs ags yea kpar kkin klea kmos kwrt ktal ksiz ktol khrs kags kyea isk tly gai bes res.2.1 res.2.2.1 res.2.2.2.1 byt hld sta beh sor num res.2.2.2.2 sbi she snu) res.1 := by
  refine CtI_mk (cc := cX5_fills) (maxL := 4) (ret := (some .int)) (by decide) rfl (Nat.le_of_ble_eq_true rfl) ?_
  intro p e s m args below meth c ls hx hb hr hlk hml hown hts hP hK hE hl
  have hS : va_S (adA a 36 s.heap.size) s.heap s.heap [] := va_S.rf
  have hl : lv_has ls 4 [(0, .ref (a 0)), (1, .int x1), (2, .int x2)] := hl
  have hown : s.vm.findClass RX5 = some m.cls := hown
  have hw3 : ∀ w ∈ wsX30, w.before args s = true := fun w h => hts w (List.mem_cons_of_mem _ (List.mem_append_left _ (List.mem_append_right _ h)))
  have hw5 : ∀ w ∈ wsX50, w.before args s = true := fun w h => hts w (List.mem_cons_of_mem _ (List.mem_append_left _ (List.mem_append_left _ (List.mem_append_right _ h))))
  have u1 : (Cond.fieldLink RX5 12 "YearWords" "now" "LYearWords$Stock;").before args s = true := hts _ (List.mem_of_getElem? (i := 1) (by decide +kernel))
  have u2 : (Cond.constant RX5 63 (-1000000001)).before args s = true := hts _ (List.mem_of_getElem? (i := 2) (by decide +kernel))
  have u3 : (Cond.fieldLink RX5 123 "YearWords$Stock" "sizes" "[I").before args s = true := hts _ (List.mem_of_getElem? (i := 3) (by decide +kernel))
  have u4 : (Cond.constant RX5 72 (-1000000002)).before args s = true := hts _ (List.mem_of_getElem? (i := 4) (by decide +kernel))
  have u5 : (Cond.fieldLink RX5 28 "YearWords" "sayings" "LYearWords$Sayings;").before args s = true := hts _ (List.mem_of_getElem? (i := 5) (by decide +kernel))
  have u6 : (Cond.constant RX5 170 (-1000000005)).before args s = true := hts _ (List.mem_of_getElem? (i := 6) (by decide +kernel))
  have u7 : (Cond.fieldLink RX5 68 "YearWords$Stock" "parts" "I").before args s = true := hts _ (List.mem_of_getElem? (i := 7) (by decide +kernel))
  have u8 : (Cond.constant RX5 129 (-1000000004)).before args s = true := hts _ (List.mem_of_getElem? (i := 8) (by decide +kernel))
  obtain ⟨Q, hQ⟩ : ∃ Q, Q = mqI below D 36 a args s (wX a cI cJ cS par kin lea mos wrt tal siz tol hrs ags yea kpar kkin klea kmos kwrt ktal ksiz ktol khrs kags kyea isk tly gai bes res.2.1 res.2.2.1 res.2.2.2.1 byt hld sta beh sor num res.2.2.2.2 sbi she snu) res.1 := ⟨_, rfl⟩
  rw [← hQ]
  have b21 : ∀ (low : Nat → Int64) (hig : Nat → Int64) (spn : Int32) (fnd : Nat → Int32), fX5_fills_b21 low hig spn fnd = some res → ∀ (H : Heap) (locs : List Loc) (ls : Array Slot), va_P D vwCl (wX a cI cJ cS par kin lea mos wrt tal siz tol hrs ags yea kpar kkin klea kmos kwrt ktal ksiz ktol khrs kags kyea isk tly gai bes low hig spn byt hld sta beh sor num fnd sbi she snu) H → va_S (adA a 36 s.heap.size) s.heap H locs → lv_has ls 4 [(0, .ref (a 0))] → W p l e rX5_fills s m args below meth c H locs 0 0 Q (F0 m 21 ls []) := by
    intro low hig spn fnd hres H locs ls hP hS hl
    unfold fX5_fills_b21 at hres
    refine lv_aload_n hx hb dX5_fills_21 rfl (lv_at hl 0 rfl) ?_
    refine lv_ldc hx hb hown u2 dX5_fills_22 ?_
    obtain ⟨q24, e24, hres⟩ := obd hres
    refine cvI (q0 := 0) (ci := 5) hx hb hml hown hts hEo hE hK hP hS (kX5_found l D a cI cJ cS hd hEo par kin lea mos wrt tal siz tol hrs ags yea kpar kkin klea kmos kwrt ktal ksiz ktol khrs kags kyea isk tly gai bes low hig spn byt hld sta beh sor num fnd sbi she snu (-1000000001 : Int32) q24 e24) gX5_fills_X5_found rfl hdX5_found rfl rfl rfl ⟨rfl, rfl⟩ ⟨Nat.le_of_ble_eq_true rfl, Nat.le_of_ble_eq_true rfl⟩ ⟨Nat.zero_le _, Nat.zero_le _⟩ rfl hl.1 rfl (Nat.le_of_ble_eq_true rfl) dX5_fills_24 (fun H locs hP hS => ?_)
    exact hQ ▸ rtI (v := q24.1)  hx hb hr hlk hP hS (by rw [← (Option.some.inj hres)]) (by rw [← (Option.some.inj hres)]) dX5_fills_27
  have b115 : ∀ (low : Nat → Int64) (hig : Nat → Int64) (spn : Int32) (fnd : Nat → Int32), fX5_fills_b115 low hig spn fnd = some res → ∀ (H : Heap) (locs : List Loc) (ls : Array Slot), va_P D vwCl (wX a cI cJ cS par kin lea mos wrt tal siz tol hrs ags yea kpar kkin klea kmos kwrt ktal ksiz ktol khrs kags kyea isk tly gai bes low hig spn byt hld sta beh sor num fnd sbi she snu) H → va_S (adA a 36 s.heap.size) s.heap H locs → lv_has ls 4 [(0, .ref (a 0))] → W p l e rX5_fills s m args below meth c H locs 0 0 Q (F0 m 115 ls []) := by
    intro low hig spn fnd hres H locs ls hP hS hl
    unfold fX5_fills_b115 at hres
    refine lv_aload_n hx hb dX5_fills_115 rfl (lv_at hl 0 rfl) ?_
    refine lv_ldc hx hb hown u8 dX5_fills_116 ?_
    obtain ⟨q118, e118, hres⟩ := obd hres
    refine cvI (q0 := 0) (ci := 5) hx hb hml hown hts hEo hE hK hP hS (kX5_found l D a cI cJ cS hd hEo par kin lea mos wrt tal siz tol hrs ags yea kpar kkin klea kmos kwrt ktal ksiz ktol khrs kags kyea isk tly gai bes low hig spn byt hld sta beh sor num fnd sbi she snu (-1000000004 : Int32) q118 e118) gX5_fills_X5_found rfl hdX5_found rfl rfl rfl ⟨rfl, rfl⟩ ⟨Nat.le_of_ble_eq_true rfl, Nat.le_of_ble_eq_true rfl⟩ ⟨Nat.zero_le _, Nat.zero_le _⟩ rfl hl.1 rfl (Nat.le_of_ble_eq_true rfl) dX5_fills_118 (fun H locs hP hS => ?_)
    exact hQ ▸ rtI (v := q118.1)  hx hb hr hlk hP hS (by rw [← (Option.some.inj hres)]) (by rw [← (Option.some.inj hres)]) dX5_fills_121
  have b77 : ∀ (low : Nat → Int64) (hig : Nat → Int64) (spn : Int32) (fnd : Nat → Int32) (n : Nat) (x3 : Int32), fix1 (fX5_fills_l77 par kin lea mos low hig spn fnd x2) n x3 = some res → ∀ (H : Heap) (locs : List Loc) (ls : Array Slot), va_P D vwCl (wX a cI cJ cS par kin lea mos wrt tal siz tol hrs ags yea kpar kkin klea kmos kwrt ktal ksiz ktol khrs kags kyea isk tly gai bes low hig spn byt hld sta beh sor num fnd sbi she snu) H → va_S (adA a 36 s.heap.size) s.heap H locs → lv_has ls 4 [(0, .ref (a 0)), (2, .int x2), (3, .int x3)] → W p l e rX5_fills s m args below meth c H locs 0 0 Q (F0 m 77 ls []) := by
    intro low hig spn fnd
    refine fix1_r ?_
    intro K77 hK77 x3 hres H locs ls hP hS hl
    unfold fX5_fills_l77 at hres
    refine lv_iload_n hx hb dX5_fills_77 rfl (lv_at hl 2 rfl) ?_
    refine lv_aload_n hx hb dX5_fills_78 rfl (lv_at hl 0 rfl) ?_
    refine gX_this5_now hx hb hown hw5 hK hP u1 dX5_fills_79 ?_
    refine gX_now_parts hx hb hown hw3 hK hP u7 dX5_fills_82 ?_
    refine lv_icmp_ge (tgt := 115) hx hb dX5_fills_85 (by decide) (fun c85 => ?_) (fun c85 => ?_)
    · have hres := (itl hres).1 c85
      exact b115 low hig spn fnd hres _ _ _ hP hS (lv_sub hl [0] rfl)
    · have hres := (itl hres).2 c85
      refine lv_aload_n hx hb dX5_fills_88 rfl (lv_at hl 0 rfl) ?_
      refine gX_this5_sayings hx hb hown hw5 hK hP u5 dX5_fills_89 ?_
      refine lv_aload_n hx hb dX5_fills_92 rfl (lv_at hl 0 rfl) ?_
      refine gX_this5_now hx hb hown hw5 hK hP u1 dX5_fills_93 ?_
      refine lv_iload_n hx hb dX5_fills_96 rfl (lv_at hl 2 rfl) ?_
      obtain ⟨q97, e97, hres⟩ := obd hres
      refine cvI (q0 := 1) (ci := 3) hx hb hml hown hts hEo hE hK hP hS (kX3_lengthsOf l D a cI cJ cS hd hEo par kin lea mos wrt tal siz tol hrs ags yea kpar kkin klea kmos kwrt ktal ksiz ktol khrs kags kyea isk tly gai bes low hig spn byt hld sta beh sor num fnd sbi she snu x3 q97 e97) gX5_fills_X3_lengthsOf rfl hdX3_lengthsOf rfl rfl rfl ⟨rfl, rfl⟩ ⟨Nat.le_of_ble_eq_true rfl, Nat.le_of_ble_eq_true rfl⟩ ⟨Nat.zero_le _, Nat.zero_le _⟩ rfl hl.1 rfl (Nat.le_of_ble_eq_true rfl) dX5_fills_97 (fun H locs hP hS => ?_)
      refine lv_iload_n hx hb dX5_fills_100 rfl (lv_at hl 1 rfl) ?_
      obtain ⟨q101, e101, hres⟩ := obd hres
      refine cvI (q0 := 17) (ci := 1) hx hb hml hown hts hEo hE hK hP hS (kX1_isFilledBy l D a cI cJ cS hd hEo par kin lea mos wrt tal siz tol hrs ags yea kpar kkin klea kmos kwrt ktal ksiz ktol khrs kags kyea isk tly gai bes low hig spn byt hld sta beh sor num fnd sbi she snu q97 x2 q101 e101) gX5_fills_X1_isFilledBy rfl hdX1_isFilledBy rfl rfl rfl ⟨rfl, rfl⟩ ⟨Nat.le_of_ble_eq_true rfl, Nat.le_of_ble_eq_true rfl⟩ ⟨Nat.zero_le _, Nat.zero_le _⟩ rfl hl.1 rfl (Nat.le_of_ble_eq_true rfl) dX5_fills_101 (fun H locs hP hS => ?_)
      refine lv_if_eq (tgt := 109) hx hb dX5_fills_104 (by decide) (fun c104 => ?_) (fun c104 => ?_)
      · have hres := (itl hres).1 c104
        refine lv_iinc (v := x3 + 1) (lv' := [(3, .int (x3 + 1)), (0, .ref (a 0)), (2, .int x2)]) hx hb dX5_fills_109 hl (k := 2) rfl (congrArg (fun z => x3 + z) (by decide)) (by decide) rfl (fun ls hl => ?_)
        refine lv_goto (tgt := 77) hx hb dX5_fills_112 (by decide) ?_
        exact hK77 (x3 + 1) hres _ _ _ hP hS (lv_sub hl [1, 2, 0] rfl)
      · have hres := (itl hres).2 c104
        refine lv_iload_n hx hb dX5_fills_107 rfl (lv_at hl 2 rfl) ?_
        exact hQ ▸ rtI (v := x3)  hx hb hr hlk hP hS (by rw [← (Option.some.inj hres)]) (by rw [← (Option.some.inj hres)]) dX5_fills_108
  unfold fX5_fills at hres
  refine lv_aload_n hx hb dX5_fills_0 rfl (lv_at hl 0 rfl) ?_
  refine gX_this5_now hx hb hown hw5 hK hP u1 dX5_fills_1 ?_
  refine lv_iload_n hx hb dX5_fills_4 rfl (lv_at hl 1 rfl) ?_
  refine cvI (q0 := 1) (ci := 3) hx hb hml hown hts hEo hE hK hP hS (kX3_hasTale l D a cI cJ cS hd hEo par kin lea mos wrt tal siz tol hrs ags yea kpar kkin klea kmos kwrt ktal ksiz ktol khrs kags kyea isk tly gai bes low hig spn byt hld sta beh sor num fnd sbi she snu x1) gX5_fills_X3_hasTale rfl hdX3_hasTale rfl rfl rfl ⟨rfl, rfl⟩ ⟨Nat.le_of_ble_eq_true rfl, Nat.le_of_ble_eq_true rfl⟩ ⟨Nat.zero_le _, Nat.zero_le _⟩ rfl hl.1 rfl (Nat.le_of_ble_eq_true rfl) dX5_fills_5 (fun H locs hP hS => ?_)
  refine lv_if_eq (tgt := 21) hx hb dX5_fills_8 (by decide) (fun c8 => ?_) (fun c8 => ?_)
  · have hres := (itl hres).1 c8
    exact b21 low hig spn fnd hres _ _ _ hP hS (lv_sub hl [0] rfl)
  · have hres := (itl hres).2 c8
    refine lv_iload_n hx hb dX5_fills_11 rfl (lv_at hl 2 rfl) ?_
    refine lv_iconst (v := 0) hx hb dX5_fills_12 (by decide) ?_
    refine lv_bipush (v := 120) hx hb dX5_fills_13 (by decide) ?_
    refine csI hx hb hml hown hts hEo hE hK hP hS (kX5_isIn l D a cI cJ cS hd hEo par kin lea mos wrt tal siz tol hrs ags yea kpar kkin klea kmos kwrt ktal ksiz ktol khrs kags kyea isk tly gai bes low hig spn byt hld sta beh sor num fnd sbi she snu x2 (0 : Int32) (120 : Int32)) gX5_fills_X5_isIn rfl hdX5_isIn ⟨rfl, rfl⟩ ⟨Nat.le_of_ble_eq_true rfl, Nat.le_of_ble_eq_true rfl⟩ ⟨Nat.zero_le _, Nat.zero_le _⟩ rfl hl.1 rfl (Nat.le_of_ble_eq_true rfl) dX5_fills_15 (fun H locs hP hS => ?_)
    refine lv_if_ne (tgt := 28) hx hb dX5_fills_18 (by decide) (fun c18 => ?_) (fun c18 => ?_)
    · have hres := (itl hres).2 c18
      refine lv_aload_n hx hb dX5_fills_28 rfl (lv_at hl 0 rfl) ?_
      refine gX_this5_now hx hb hown hw5 hK hP u1 dX5_fills_29 ?_
      refine gX_now_sizes hx hb hown hw3 hK hP u3 dX5_fills_32 ?_
      refine lv_iload_n hx hb dX5_fills_35 rfl (lv_at hl 1 rfl) ?_
      obtain ⟨i36, hres⟩ := gdi hres
      refine lX_siz hx hb hK hP i36 dX5_fills_36 ?_
      refine lv_bipush (v := 10) hx hb dX5_fills_37 (by decide) ?_
      refine lv_icmp_lt (tgt := 49) hx hb dX5_fills_39 (by decide) (fun c39 => ?_) (fun c39 => ?_)
      · have hres := (itl hres).1 c39
        refine lv_aload_n hx hb dX5_fills_49 rfl (lv_at hl 0 rfl) ?_
        refine gX_this5_sayings hx hb hown hw5 hK hP u5 dX5_fills_50 ?_
        refine lv_iload_n hx hb dX5_fills_53 rfl (lv_at hl 1 rfl) ?_
        obtain ⟨q54, e54, hres⟩ := obd hres
        refine cvV (q0 := 17) (ci := 1) hx hb hml hown hts hEo hE hK hP hS (kX1_spanWords l D a cI cJ cS hd hEo par kin lea mos wrt tal siz tol hrs ags yea kpar kkin klea kmos kwrt ktal ksiz ktol khrs kags kyea isk tly gai bes low hig spn byt hld sta beh sor num fnd sbi she snu x1 q54 e54) gX5_fills_X1_spanWords rfl hdX1_spanWords rfl rfl rfl ⟨rfl, rfl⟩ ⟨Nat.le_of_ble_eq_true rfl, Nat.le_of_ble_eq_true rfl⟩ ⟨Nat.zero_le _, Nat.zero_le _⟩ rfl hl.1 rfl (Nat.le_of_ble_eq_true rfl) dX5_fills_54 (fun H locs hP hS => ?_)
        refine lv_aload_n hx hb dX5_fills_57 rfl (lv_at hl 0 rfl) ?_
        refine gX_this5_sayings hx hb hown hw5 hK hP u5 dX5_fills_58 ?_
        refine lv_iload_n hx hb dX5_fills_61 rfl (lv_at hl 2 rfl) ?_
        obtain ⟨q62, e62, hres⟩ := obd hres
        refine cvI (q0 := 17) (ci := 1) hx hb hml hown hts hEo hE hK hP hS (kX1_canBeIn l D a cI cJ cS hd hEo par kin lea mos wrt tal siz tol hrs ags yea kpar kkin klea kmos kwrt ktal ksiz ktol khrs kags kyea isk tly gai bes q54.1 q54.2.1 q54.2.2 byt hld sta beh sor num fnd sbi she snu x2 q62 e62) gX5_fills_X1_canBeIn rfl hdX1_canBeIn rfl rfl rfl ⟨rfl, rfl⟩ ⟨Nat.le_of_ble_eq_true rfl, Nat.le_of_ble_eq_true rfl⟩ ⟨Nat.zero_le _, Nat.zero_le _⟩ rfl hl.1 rfl (Nat.le_of_ble_eq_true rfl) dX5_fills_62 (fun H locs hP hS => ?_)
        refine lv_if_eq (tgt := 75) hx hb dX5_fills_65 (by decide) (fun c65 => ?_) (fun c65 => ?_)
        · have hres := (itl hres).1 c65
          refine lv_iconst (v := 0) hx hb dX5_fills_75 (by decide) ?_
          refine lv_istore_n (lv' := [(3, .int (0 : Int32)), (0, .ref (a 0)), (1, .int x1), (2, .int x2)]) hx hb dX5_fills_76 rfl hl (by decide) rfl (fun ls hl => ?_)
          exact b77 q54.1 q54.2.1 q54.2.2 fnd 2000 (0 : Int32) hres _ _ _ hP hS (lv_sub hl [1, 3, 0] rfl)
        · have hres := (itl hres).2 c65
          refine lv_aload_n hx hb dX5_fills_68 rfl (lv_at hl 0 rfl) ?_
          refine lv_ldc hx hb hown u6 dX5_fills_69 ?_
          obtain ⟨q71, e71, hres⟩ := obd hres
          refine cvI (q0 := 0) (ci := 5) hx hb hml hown hts hEo hE hK hP hS (kX5_found l D a cI cJ cS hd hEo par kin lea mos wrt tal siz tol hrs ags yea kpar kkin klea kmos kwrt ktal ksiz ktol khrs kags kyea isk tly gai bes q54.1 q54.2.1 q54.2.2 byt hld sta beh sor num fnd sbi she snu (-1000000005 : Int32) q71 e71) gX5_fills_X5_found rfl hdX5_found rfl rfl rfl ⟨rfl, rfl⟩ ⟨Nat.le_of_ble_eq_true rfl, Nat.le_of_ble_eq_true rfl⟩ ⟨Nat.zero_le _, Nat.zero_le _⟩ rfl hl.1 rfl (Nat.le_of_ble_eq_true rfl) dX5_fills_71 (fun H locs hP hS => ?_)
          exact hQ ▸ rtI (v := q71.1)  hx hb hr hlk hP hS (by rw [← (Option.some.inj hres)]) (by rw [← (Option.some.inj hres)]) dX5_fills_74
      · have hres := (itl hres).2 c39
        refine lv_aload_n hx hb dX5_fills_42 rfl (lv_at hl 0 rfl) ?_
        refine lv_ldc hx hb hown u4 dX5_fills_43 ?_
        obtain ⟨q45, e45, hres⟩ := obd hres
        refine cvI (q0 := 0) (ci := 5) hx hb hml hown hts hEo hE hK hP hS (kX5_found l D a cI cJ cS hd hEo par kin lea mos wrt tal siz tol hrs ags yea kpar kkin klea kmos kwrt ktal ksiz ktol khrs kags kyea isk tly gai bes low hig spn byt hld sta beh sor num fnd sbi she snu (-1000000002 : Int32) q45 e45) gX5_fills_X5_found rfl hdX5_found rfl rfl rfl ⟨rfl, rfl⟩ ⟨Nat.le_of_ble_eq_true rfl, Nat.le_of_ble_eq_true rfl⟩ ⟨Nat.zero_le _, Nat.zero_le _⟩ rfl hl.1 rfl (Nat.le_of_ble_eq_true rfl) dX5_fills_45 (fun H locs hP hS => ?_)
        exact hQ ▸ rtI (v := q45.1)  hx hb hr hlk hP hS (by rw [← (Option.some.inj hres)]) (by rw [← (Option.some.inj hres)]) dX5_fills_48
    · have hres := (itl hres).1 c18
      exact b21 low hig spn fnd hres _ _ _ hP hS (lv_sub hl [0] rfl)
def fX5_hearer (hrs : Int32) (ags : Nat → Int32) (fnd : Nat → Int32) (x1 : Int32) : Option (Int32 × Int32 × (Nat → Int32) × (Nat → Int32)) :=
  if (bI (fX5_isIn x1 (0 : Int32) (99 : Int32))) = 0 then (fX5_found fnd (-1000000001 : Int32)).bind fun q13 => some (q13.1, hrs, ags, q13.2) else if hrs < (10 : Int32) then (fX3_addHearer hrs ags x1).bind fun q43 => some (q43.1, q43.2.1, q43.2.2, fnd) else (fX5_found fnd (-1000000002 : Int32)).bind fun q32 => some (q32.1, hrs, ags, q32.2)
abbrev rX5_hearer : Room := { frames := 2, cells := 0, slots := 0, locals := 44 }
set_option maxHeartbeats 4000000 in
set_option maxRecDepth 100000 in
theorem kX5_hearer (l : Launch) (D : va_G) (a : Nat → Nat) (cI cJ cS : ClassId) (hd : aok a 36) {Env : (Nat → Prop) → State → Heap → Prop} (hEo : envOK Env) (par : Int32) (kin lea mos wrt : Nat → Int32) (tal : Int32) (siz tol : Nat → Int32) (hrs : Int32) (ags : Nat → Int32) (yea kpar : Int32) (kkin klea kmos kwrt : Nat → Int32) (ktal : Int32) (ksiz ktol : Nat → Int32) (khrs : Int32) (kags : Nat → Int32) (kyea isk : Int32) (tly : Nat → Int64) (gai bes : Nat → Int32) (low hig : Nat → Int64) (spn : Int32) (byt : Nat → Int32) (hld sta beh sor num : Int32) (fnd sbi she : Nat → Int32) (snu : Nat → Nat → Int64) (x1 : Int32) (res : Int32 × Int32 × (Nat → Int32) × (Nat → Int32)) (hres : fX5_hearer hrs ags fnd x1 = some res) : CtI l D (tyL cI cJ cS) 36 a Env yX5_hearer wsX5_hearer rX5_hearer [.ref (a 0), .int x1] (wX a cI cJ cS par kin lea mos wrt tal siz tol hrs ags yea kpar kkin klea kmos kwrt ktal ksiz ktol khrs kags kyea isk tly gai bes low hig spn byt hld sta beh sor num fnd sbi she snu) (wX a cI cJ cS par kin lea mos wrt tal siz tol res.2.1 res.2.2.1 yea kpar kkin klea kmos kwrt ktal ksiz ktol khrs kags kyea isk tly gai bes low hig spn byt hld sta beh sor num res.2.2.2 sbi she snu) res.1 := by
  refine CtI_mk (cc := cX5_hearer) (maxL := 2) (ret := (some .int)) (by decide) rfl (Nat.le_of_ble_eq_true rfl) ?_
  intro p e s m args below meth c ls hx hb hr hlk hml hown hts hP hK hE hl
  have hS : va_S (adA a 36 s.heap.size) s.heap s.heap [] := va_S.rf
  have hl : lv_has ls 2 [(0, .ref (a 0)), (1, .int x1)] := hl
  have hown : s.vm.findClass RX5 = some m.cls := hown
  have hw3 : ∀ w ∈ wsX30, w.before args s = true := fun w h => hts w (List.mem_cons_of_mem _ (List.mem_append_right _ h))
  have hw5 : ∀ w ∈ wsX50, w.before args s = true := fun w h => hts w (List.mem_cons_of_mem _ (List.mem_append_left _ (List.mem_append_right _ h)))
  have u1 : (Cond.constant RX5 63 (-1000000001)).before args s = true := hts _ (List.mem_of_getElem? (i := 1) (by decide +kernel))
  have u2 : (Cond.fieldLink RX5 12 "YearWords" "now" "LYearWords$Stock;").before args s = true := hts _ (List.mem_of_getElem? (i := 2) (by decide +kernel))
  have u3 : (Cond.fieldLink RX5 174 "YearWords$Stock" "hearers" "I").before args s = true := hts _ (List.mem_of_getElem? (i := 3) (by decide +kernel))
  have u4 : (Cond.constant RX5 72 (-1000000002)).before args s = true := hts _ (List.mem_of_getElem? (i := 4) (by decide +kernel))
  obtain ⟨Q, hQ⟩ : ∃ Q, Q = mqI below D 36 a args s (wX a cI cJ cS par kin lea mos wrt tal siz tol res.2.1 res.2.2.1 yea kpar kkin klea kmos kwrt ktal ksiz ktol khrs kags kyea isk tly gai bes low hig spn byt hld sta beh sor num res.2.2.2 sbi she snu) res.1 := ⟨_, rfl⟩
  rw [← hQ]
  unfold fX5_hearer at hres
  refine lv_iload_n hx hb dX5_hearer_0 rfl (lv_at hl 1 rfl) ?_
  refine lv_iconst (v := 0) hx hb dX5_hearer_1 (by decide) ?_
  refine lv_bipush (v := 99) hx hb dX5_hearer_2 (by decide) ?_
  refine csI hx hb hml hown hts hEo hE hK hP hS (kX5_isIn l D a cI cJ cS hd hEo par kin lea mos wrt tal siz tol hrs ags yea kpar kkin klea kmos kwrt ktal ksiz ktol khrs kags kyea isk tly gai bes low hig spn byt hld sta beh sor num fnd sbi she snu x1 (0 : Int32) (99 : Int32)) gX5_hearer_X5_isIn rfl hdX5_isIn ⟨rfl, rfl⟩ ⟨Nat.le_of_ble_eq_true rfl, Nat.le_of_ble_eq_true rfl⟩ ⟨Nat.zero_le _, Nat.zero_le _⟩ rfl hl.1 rfl (Nat.le_of_ble_eq_true rfl) dX5_hearer_4 (fun H locs hP hS => ?_)
  refine lv_if_ne (tgt := 17) hx hb dX5_hearer_7 (by decide) (fun c7 => ?_) (fun c7 => ?_)
  · have hres := (itl hres).2 c7
    refine lv_aload_n hx hb dX5_hearer_17 rfl (lv_at hl 0 rfl) ?_
    refine gX_this5_now hx hb hown hw5 hK hP u2 dX5_hearer_18 ?_
    refine gX_now_hearers hx hb hown hw3 hK hP u3 dX5_hearer_21 ?_
    refine lv_bipush (v := 10) hx hb dX5_hearer_24 (by decide) ?_
    refine lv_icmp_lt (tgt := 38) hx hb dX5_hearer_26 (by decide) (fun c26 => ?_) (fun c26 => ?_)
    · have hres := (itl hres).1 c26
      refine lv_aload_n hx hb dX5_hearer_38 rfl (lv_at hl 0 rfl) ?_
      refine gX_this5_now hx hb hown hw5 hK hP u2 dX5_hearer_39 ?_
      refine lv_iload_n hx hb dX5_hearer_42 rfl (lv_at hl 1 rfl) ?_
      obtain ⟨q43, e43, hres⟩ := obd hres
      refine cvI (q0 := 1) (ci := 3) hx hb hml hown hts hEo hE hK hP hS (kX3_addHearer l D a cI cJ cS hd hEo par kin lea mos wrt tal siz tol hrs ags yea kpar kkin klea kmos kwrt ktal ksiz ktol khrs kags kyea isk tly gai bes low hig spn byt hld sta beh sor num fnd sbi she snu x1 q43 e43) gX5_hearer_X3_addHearer rfl hdX3_addHearer rfl rfl rfl ⟨rfl, rfl⟩ ⟨Nat.le_of_ble_eq_true rfl, Nat.le_of_ble_eq_true rfl⟩ ⟨Nat.zero_le _, Nat.zero_le _⟩ rfl hl.1 rfl (Nat.le_of_ble_eq_true rfl) dX5_hearer_43 (fun H locs hP hS => ?_)
      exact hQ ▸ rtI (v := q43.1)  hx hb hr hlk hP hS (by rw [← (Option.some.inj hres)]) (by rw [← (Option.some.inj hres)]) dX5_hearer_46
    · have hres := (itl hres).2 c26
      refine lv_aload_n hx hb dX5_hearer_29 rfl (lv_at hl 0 rfl) ?_
      refine lv_ldc hx hb hown u4 dX5_hearer_30 ?_
      obtain ⟨q32, e32, hres⟩ := obd hres
      refine cvI (q0 := 0) (ci := 5) hx hb hml hown hts hEo hE hK hP hS (kX5_found l D a cI cJ cS hd hEo par kin lea mos wrt tal siz tol hrs ags yea kpar kkin klea kmos kwrt ktal ksiz ktol khrs kags kyea isk tly gai bes low hig spn byt hld sta beh sor num fnd sbi she snu (-1000000002 : Int32) q32 e32) gX5_hearer_X5_found rfl hdX5_found rfl rfl rfl ⟨rfl, rfl⟩ ⟨Nat.le_of_ble_eq_true rfl, Nat.le_of_ble_eq_true rfl⟩ ⟨Nat.zero_le _, Nat.zero_le _⟩ rfl hl.1 rfl (Nat.le_of_ble_eq_true rfl) dX5_hearer_32 (fun H locs hP hS => ?_)
      refine lv_goto (tgt := 46) hx hb dX5_hearer_35 (by decide) ?_
      exact hQ ▸ rtI (v := q32.1)  hx hb hr hlk hP hS (by rw [← (Option.some.inj hres)]) (by rw [← (Option.some.inj hres)]) dX5_hearer_46
  · have hres := (itl hres).1 c7
    refine lv_aload_n hx hb dX5_hearer_10 rfl (lv_at hl 0 rfl) ?_
    refine lv_ldc hx hb hown u1 dX5_hearer_11 ?_
    obtain ⟨q13, e13, hres⟩ := obd hres
    refine cvI (q0 := 0) (ci := 5) hx hb hml hown hts hEo hE hK hP hS (kX5_found l D a cI cJ cS hd hEo par kin lea mos wrt tal siz tol hrs ags yea kpar kkin klea kmos kwrt ktal ksiz ktol khrs kags kyea isk tly gai bes low hig spn byt hld sta beh sor num fnd sbi she snu (-1000000001 : Int32) q13 e13) gX5_hearer_X5_found rfl hdX5_found rfl rfl rfl ⟨rfl, rfl⟩ ⟨Nat.le_of_ble_eq_true rfl, Nat.le_of_ble_eq_true rfl⟩ ⟨Nat.zero_le _, Nat.zero_le _⟩ rfl hl.1 rfl (Nat.le_of_ble_eq_true rfl) dX5_hearer_13 (fun H locs hP hS => ?_)
    exact hQ ▸ rtI (v := q13.1)  hx hb hr hlk hP hS (by rw [← (Option.some.inj hres)]) (by rw [← (Option.some.inj hres)]) dX5_hearer_16
def fX5_swap_ags (ags : Nat → Int32) (x1 : Int32) (x2 : Int32) : Option (Int32 × (Nat → Int32)) :=
  gd (ib x1 10) (gd (ib x1 10) (some (ags x1.toNatClampNeg, upd ags x1.toNatClampNeg x2)))
abbrev rX5_swap_ags : Room := { frames := 0, cells := 0, slots := 0, locals := 0 }
set_option maxHeartbeats 4000000 in
set_option maxRecDepth 100000 in
theorem kX5_swap_ags (l : Launch) (D : va_G) (a : Nat → Nat) (cI cJ cS : ClassId) (hd : aok a 36) {Env : (Nat → Prop) → State → Heap → Prop} (hEo : envOK Env) (par : Int32) (kin lea mos wrt : Nat → Int32) (tal : Int32) (siz tol : Nat → Int32) (hrs : Int32) (ags : Nat → Int32) (yea kpar : Int32) (kkin klea kmos kwrt : Nat → Int32) (ktal : Int32) (ksiz ktol : Nat → Int32) (khrs : Int32) (kags : Nat → Int32) (kyea isk : Int32) (tly : Nat → Int64) (gai bes : Nat → Int32) (low hig : Nat → Int64) (spn : Int32) (byt : Nat → Int32) (hld sta beh sor num : Int32) (fnd sbi she : Nat → Int32) (snu : Nat → Nat → Int64) (x1 : Int32) (x2 : Int32) (res : Int32 × (Nat → Int32)) (hres : fX5_swap_ags ags x1 x2 = some res) : CtI l D (tyL cI cJ cS) 36 a Env yX5_swap wsX5_swap rX5_swap_ags [.ref (a 8), .int x1, .int x2] (wX a cI cJ cS par kin lea mos wrt tal siz tol hrs ags yea kpar kkin klea kmos kwrt ktal ksiz ktol khrs kags kyea isk tly gai bes low hig spn byt hld sta beh sor num fnd sbi she snu) (wX a cI cJ cS par kin lea mos wrt tal siz tol hrs res.2 yea kpar kkin klea kmos kwrt ktal ksiz ktol khrs kags kyea isk tly gai bes low hig spn byt hld sta beh sor num fnd sbi she snu) res.1 := by
  refine CtI_mk (cc := cX5_swap) (maxL := 4) (ret := (some .int)) (by decide) rfl (Nat.le_of_ble_eq_true rfl) ?_
  intro p e s m args below meth c ls hx hb hr hlk hml hown hts hP hK hE hl
  have hS : va_S (adA a 36 s.heap.size) s.heap s.heap [] := va_S.rf
  have hl : lv_has ls 4 [(0, .ref (a 8)), (1, .int x1), (2, .int x2)] := hl
  have hown : s.vm.findClass RX5 = some m.cls := hown
  obtain ⟨Q, hQ⟩ : ∃ Q, Q = mqI below D 36 a args s (wX a cI cJ cS par kin lea mos wrt tal siz tol hrs res.2 yea kpar kkin klea kmos kwrt ktal ksiz ktol khrs kags kyea isk tly gai bes low hig spn byt hld sta beh sor num fnd sbi she snu) res.1 := ⟨_, rfl⟩
  rw [← hQ]
  unfold fX5_swap_ags at hres
  refine lv_aload_n hx hb dX5_swap_0 rfl (lv_at hl 0 rfl) ?_
  refine lv_iload_n hx hb dX5_swap_1 rfl (lv_at hl 1 rfl) ?_
  obtain ⟨i2, hres⟩ := gdi hres
  refine lX_ags hx hb hK hP i2 dX5_swap_2 ?_
  refine lv_istore_n (lv' := [(3, .int (ags x1.toNatClampNeg)), (0, .ref (a 8)), (1, .int x1), (2, .int x2)]) hx hb dX5_swap_3 rfl hl (by decide) rfl (fun ls hl => ?_)
  refine lv_aload_n hx hb dX5_swap_4 rfl (lv_at hl 1 rfl) ?_
  refine lv_iload_n hx hb dX5_swap_5 rfl (lv_at hl 2 rfl) ?_
  refine lv_iload_n hx hb dX5_swap_6 rfl (lv_at hl 3 rfl) ?_
  obtain ⟨i7, hres⟩ := gdi hres
  refine sX_ags hx hb hK hP hd hS i7 dX5_swap_7 (fun H locs hP hS => ?_)
  refine lv_iload_n hx hb dX5_swap_8 rfl (lv_at hl 0 rfl) ?_
  exact hQ ▸ rtI (v := ags x1.toNatClampNeg)  hx hb hr hlk hP hS (by rw [← (Option.some.inj hres)]) (by rw [← (Option.some.inj hres)]) dX5_swap_9
def fX5_age_b21 (ags : Nat → Int32) (fnd : Nat → Int32) : Option (Int32 × (Nat → Int32) × (Nat → Int32)) :=
 (fX5_found fnd (-1000000001 : Int32)).bind fun q24 => some (q24.1, ags, q24.2)
def fX5_age (hrs : Int32) (ags : Nat → Int32) (fnd : Nat → Int32) (x1 : Int32) (x2 : Int32) : Option (Int32 × (Nat → Int32) × (Nat → Int32)) :=
  if (bI (fX3_hasHearer hrs x1)) = 0 then fX5_age_b21 ags fnd else if (bI (fX5_isIn x2 (0 : Int32) (99 : Int32))) = 0 then fX5_age_b21 ags fnd else (fX5_swap_ags ags x1 x2).bind fun q37 => some (q37.1, q37.2, fnd)
theorem hdX3_hasHearer : yX3_hasHearer.cls = RX3 ∧ yX3_hasHearer.cls ≠ "java/lang/invoke/MethodHandle" ∧ yX3_hasHearer.cls ≠ "java/lang/invoke/VarHandle" ∧ (parseMethodDescriptor yX3_hasHearer.desc).map (fun d => d.parameters.length) = some 1 := by decide +kernel
abbrev rX5_age : Room := { frames := 2, cells := 0, slots := 0, locals := 44 }
set_option maxHeartbeats 4000000 in
set_option maxRecDepth 100000 in
theorem kX5_age (l : Launch) (D : va_G) (a : Nat → Nat) (cI cJ cS : ClassId) (hd : aok a 36) {Env : (Nat → Prop) → State → Heap → Prop} (hEo : envOK Env) (par : Int32) (kin lea mos wrt : Nat → Int32) (tal : Int32) (siz tol : Nat → Int32) (hrs : Int32) (ags : Nat → Int32) (yea kpar : Int32) (kkin klea kmos kwrt : Nat → Int32) (ktal : Int32) (ksiz ktol : Nat → Int32) (khrs : Int32) (kags : Nat → Int32) (kyea isk : Int32) (tly : Nat → Int64) (gai bes : Nat → Int32) (low hig : Nat → Int64) (spn : Int32) (byt : Nat → Int32) (hld sta beh sor num : Int32) (fnd sbi she : Nat → Int32) (snu : Nat → Nat → Int64) (x1 : Int32) (x2 : Int32) (res : Int32 × (Nat → Int32) × (Nat → Int32)) (hres : fX5_age hrs ags fnd x1 x2 = some res) : CtI l D (tyL cI cJ cS) 36 a Env yX5_age wsX5_age rX5_age [.ref (a 0), .int x1, .int x2] (wX a cI cJ cS par kin lea mos wrt tal siz tol hrs ags yea kpar kkin klea kmos kwrt ktal ksiz ktol khrs kags kyea isk tly gai bes low hig spn byt hld sta beh sor num fnd sbi she snu) (wX a cI cJ cS par kin lea mos wrt tal siz tol hrs res.2.1 yea kpar kkin klea kmos kwrt ktal ksiz ktol khrs kags kyea isk tly gai bes low hig spn byt hld sta beh sor num res.2.2 sbi she snu) res.1 := by
  refine CtI_mk (cc := cX5_age) (maxL := 3) (ret := (some .int)) (by decide) rfl (Nat.le_of_ble_eq_true rfl) ?_
  intro p e s m args below meth c ls hx hb hr hlk hml hown hts hP hK hE hl
  have hS : va_S (adA a 36 s.heap.size) s.heap s.heap [] := va_S.rf
  have hl : lv_has ls 3 [(0, .ref (a 0)), (1, .int x1), (2, .int x2)] := hl
  have hown : s.vm.findClass RX5 = some m.cls := hown
  have hw3 : ∀ w ∈ wsX30, w.before args s = true := fun w h => hts w (List.mem_cons_of_mem _ (List.mem_append_right _ h))
  have hw5 : ∀ w ∈ wsX50, w.before args s = true := fun w h => hts w (List.mem_cons_of_mem _ (List.mem_append_left _ (List.mem_append_right _ h)))
  have u1 : (Cond.fieldLink RX5 12 "YearWords" "now" "LYearWords$Stock;").before args s = true := hts _ (List.mem_of_getElem? (i := 1) (by decide +kernel))
  have u2 : (Cond.constant RX5 63 (-1000000001)).before args s = true := hts _ (List.mem_of_getElem? (i := 2) (by decide +kernel))
  have u3 : (Cond.fieldLink RX5 183 "YearWords$Stock" "ages" "[I").before args s = true := hts _ (List.mem_of_getElem? (i := 3) (by decide +kernel))
  obtain ⟨Q, hQ⟩ : ∃ Q, Q = mqI below D 36 a args s (wX a cI cJ cS par kin lea mos wrt tal siz tol hrs res.2.1 yea kpar kkin klea kmos kwrt ktal ksiz ktol khrs kags kyea isk tly gai bes low hig spn byt hld sta beh sor num res.2.2 sbi she snu) res.1 := ⟨_, rfl⟩
  rw [← hQ]
  have b21 : ∀ (ags : Nat → Int32) (fnd : Nat → Int32), fX5_age_b21 ags fnd = some res → ∀ (H : Heap) (locs : List Loc) (ls : Array Slot), va_P D vwCl (wX a cI cJ cS par kin lea mos wrt tal siz tol hrs ags yea kpar kkin klea kmos kwrt ktal ksiz ktol khrs kags kyea isk tly gai bes low hig spn byt hld sta beh sor num fnd sbi she snu) H → va_S (adA a 36 s.heap.size) s.heap H locs → lv_has ls 3 [(0, .ref (a 0))] → W p l e rX5_age s m args below meth c H locs 0 0 Q (F0 m 21 ls []) := by
    intro ags fnd hres H locs ls hP hS hl
    unfold fX5_age_b21 at hres
    refine lv_aload_n hx hb dX5_age_21 rfl (lv_at hl 0 rfl) ?_
    refine lv_ldc hx hb hown u2 dX5_age_22 ?_
    obtain ⟨q24, e24, hres⟩ := obd hres
    refine cvI (q0 := 0) (ci := 5) hx hb hml hown hts hEo hE hK hP hS (kX5_found l D a cI cJ cS hd hEo par kin lea mos wrt tal siz tol hrs ags yea kpar kkin klea kmos kwrt ktal ksiz ktol khrs kags kyea isk tly gai bes low hig spn byt hld sta beh sor num fnd sbi she snu (-1000000001 : Int32) q24 e24) gX5_age_X5_found rfl hdX5_found rfl rfl rfl ⟨rfl, rfl⟩ ⟨Nat.le_of_ble_eq_true rfl, Nat.le_of_ble_eq_true rfl⟩ ⟨Nat.zero_le _, Nat.zero_le _⟩ rfl hl.1 rfl (Nat.le_of_ble_eq_true rfl) dX5_age_24 (fun H locs hP hS => ?_)
    exact hQ ▸ rtI (v := q24.1)  hx hb hr hlk hP hS (by rw [← (Option.some.inj hres)]) (by rw [← (Option.some.inj hres)]) dX5_age_27
  unfold fX5_age at hres
  refine lv_aload_n hx hb dX5_age_0 rfl (lv_at hl 0 rfl) ?_
  refine gX_this5_now hx hb hown hw5 hK hP u1 dX5_age_1 ?_
  refine lv_iload_n hx hb dX5_age_4 rfl (lv_at hl 1 rfl) ?_
  refine cvI (q0 := 1) (ci := 3) hx hb hml hown hts hEo hE hK hP hS (kX3_hasHearer l D a cI cJ cS hd hEo par kin lea mos wrt tal siz tol hrs ags yea kpar kkin klea kmos kwrt ktal ksiz ktol khrs kags kyea isk tly gai bes low hig spn byt hld sta beh sor num fnd sbi she snu x1) gX5_age_X3_hasHearer rfl hdX3_hasHearer rfl rfl rfl ⟨rfl, rfl⟩ ⟨Nat.le_of_ble_eq_true rfl, Nat.le_of_ble_eq_true rfl⟩ ⟨Nat.zero_le _, Nat.zero_le _⟩ rfl hl.1 rfl (Nat.le_of_ble_eq_true rfl) dX5_age_5 (fun H locs hP hS => ?_)
  refine lv_if_eq (tgt := 21) hx hb dX5_age_8 (by decide) (fun c8 => ?_) (fun c8 => ?_)
  · have hres := (itl hres).1 c8
    exact b21 ags fnd hres _ _ _ hP hS (lv_sub hl [0] rfl)
  · have hres := (itl hres).2 c8
    refine lv_iload_n hx hb dX5_age_11 rfl (lv_at hl 2 rfl) ?_
    refine lv_iconst (v := 0) hx hb dX5_age_12 (by decide) ?_
    refine lv_bipush (v := 99) hx hb dX5_age_13 (by decide) ?_
    refine csI hx hb hml hown hts hEo hE hK hP hS (kX5_isIn l D a cI cJ cS hd hEo par kin lea mos wrt tal siz tol hrs ags yea kpar kkin klea kmos kwrt ktal ksiz ktol khrs kags kyea isk tly gai bes low hig spn byt hld sta beh sor num fnd sbi she snu x2 (0 : Int32) (99 : Int32)) gX5_age_X5_isIn rfl hdX5_isIn ⟨rfl, rfl⟩ ⟨Nat.le_of_ble_eq_true rfl, Nat.le_of_ble_eq_true rfl⟩ ⟨Nat.zero_le _, Nat.zero_le _⟩ rfl hl.1 rfl (Nat.le_of_ble_eq_true rfl) dX5_age_15 (fun H locs hP hS => ?_)
    refine lv_if_ne (tgt := 28) hx hb dX5_age_18 (by decide) (fun c18 => ?_) (fun c18 => ?_)
    · have hres := (itl hres).2 c18
      refine lv_aload_n hx hb dX5_age_28 rfl (lv_at hl 0 rfl) ?_
      refine gX_this5_now hx hb hown hw5 hK hP u1 dX5_age_29 ?_
      refine gX_now_ages hx hb hown hw3 hK hP u3 dX5_age_32 ?_
      refine lv_iload_n hx hb dX5_age_35 rfl (lv_at hl 1 rfl) ?_
      refine lv_iload_n hx hb dX5_age_36 rfl (lv_at hl 2 rfl) ?_
      obtain ⟨q37, e37, hres⟩ := obd hres
      refine csI hx hb hml hown hts hEo hE hK hP hS (kX5_swap_ags l D a cI cJ cS hd hEo par kin lea mos wrt tal siz tol hrs ags yea kpar kkin klea kmos kwrt ktal ksiz ktol khrs kags kyea isk tly gai bes low hig spn byt hld sta beh sor num fnd sbi she snu x1 x2 q37 e37) gX5_age_X5_swap rfl hdX5_swap ⟨rfl, rfl⟩ ⟨Nat.le_of_ble_eq_true rfl, Nat.le_of_ble_eq_true rfl⟩ ⟨Nat.zero_le _, Nat.zero_le _⟩ rfl hl.1 rfl (Nat.le_of_ble_eq_true rfl) dX5_age_37 (fun H locs hP hS => ?_)
      exact hQ ▸ rtI (v := q37.1)  hx hb hr hlk hP hS (by rw [← (Option.some.inj hres)]) (by rw [← (Option.some.inj hres)]) dX5_age_40
    · have hres := (itl hres).1 c18
      exact b21 ags fnd hres _ _ _ hP hS (lv_sub hl [0] rfl)
def fX5_ageOf (hrs : Int32) (ags : Nat → Int32) (fnd : Nat → Int32) (x1 : Int32) : Option (Int32 × (Nat → Int32)) :=
  if (bI (fX3_hasHearer hrs x1)) = 0 then (fX5_found fnd (-1000000001 : Int32)).bind fun q26 => some (q26.1, q26.2) else gd (ib x1 10) (some (ags x1.toNatClampNeg, fnd))
abbrev rX5_ageOf : Room := { frames := 2, cells := 0, slots := 0, locals := 44 }
set_option maxHeartbeats 4000000 in
set_option maxRecDepth 100000 in
theorem kX5_ageOf (l : Launch) (D : va_G) (a : Nat → Nat) (cI cJ cS : ClassId) (hd : aok a 36) {Env : (Nat → Prop) → State → Heap → Prop} (hEo : envOK Env) (par : Int32) (kin lea mos wrt : Nat → Int32) (tal : Int32) (siz tol : Nat → Int32) (hrs : Int32) (ags : Nat → Int32) (yea kpar : Int32) (kkin klea kmos kwrt : Nat → Int32) (ktal : Int32) (ksiz ktol : Nat → Int32) (khrs : Int32) (kags : Nat → Int32) (kyea isk : Int32) (tly : Nat → Int64) (gai bes : Nat → Int32) (low hig : Nat → Int64) (spn : Int32) (byt : Nat → Int32) (hld sta beh sor num : Int32) (fnd sbi she : Nat → Int32) (snu : Nat → Nat → Int64) (x1 : Int32) (res : Int32 × (Nat → Int32)) (hres : fX5_ageOf hrs ags fnd x1 = some res) : CtI l D (tyL cI cJ cS) 36 a Env yX5_ageOf wsX5_ageOf rX5_ageOf [.ref (a 0), .int x1] (wX a cI cJ cS par kin lea mos wrt tal siz tol hrs ags yea kpar kkin klea kmos kwrt ktal ksiz ktol khrs kags kyea isk tly gai bes low hig spn byt hld sta beh sor num fnd sbi she snu) (wX a cI cJ cS par kin lea mos wrt tal siz tol hrs ags yea kpar kkin klea kmos kwrt ktal ksiz ktol khrs kags kyea isk tly gai bes low hig spn byt hld sta beh sor num res.2 sbi she snu) res.1 := by
  refine CtI_mk (cc := cX5_ageOf) (maxL := 2) (ret := (some .int)) (by decide) rfl (Nat.le_of_ble_eq_true rfl) ?_
  intro p e s m args below meth c ls hx hb hr hlk hml hown hts hP hK hE hl
  have hS : va_S (adA a 36 s.heap.size) s.heap s.heap [] := va_S.rf
  have hl : lv_has ls 2 [(0, .ref (a 0)), (1, .int x1)] := hl
  have hown : s.vm.findClass RX5 = some m.cls := hown
  have hw3 : ∀ w ∈ wsX30, w.before args s = true := fun w h => hts w (List.mem_cons_of_mem _ (List.mem_append_right _ h))
  have hw5 : ∀ w ∈ wsX50, w.before args s = true := fun w h => hts w (List.mem_cons_of_mem _ (List.mem_append_left _ (List.mem_append_right _ h)))
  have u1 : (Cond.fieldLink RX5 12 "YearWords" "now" "LYearWords$Stock;").before args s = true := hts _ (List.mem_of_getElem? (i := 1) (by decide +kernel))
  have u2 : (Cond.fieldLink RX5 183 "YearWords$Stock" "ages" "[I").before args s = true := hts _ (List.mem_of_getElem? (i := 2) (by decide +kernel))
  have u3 : (Cond.constant RX5 63 (-1000000001)).before args s = true := hts _ (List.mem_of_getElem? (i := 3) (by decide +kernel))
  obtain ⟨Q, hQ⟩ : ∃ Q, Q = mqI below D 36 a args s (wX a cI cJ cS par kin lea mos wrt tal siz tol hrs ags yea kpar kkin klea kmos kwrt ktal ksiz ktol khrs kags kyea isk tly gai bes low hig spn byt hld sta beh sor num res.2 sbi she snu) res.1 := ⟨_, rfl⟩
  rw [← hQ]
  unfold fX5_ageOf at hres
  refine lv_aload_n hx hb dX5_ageOf_0 rfl (lv_at hl 0 rfl) ?_
  refine gX_this5_now hx hb hown hw5 hK hP u1 dX5_ageOf_1 ?_
  refine lv_iload_n hx hb dX5_ageOf_4 rfl (lv_at hl 1 rfl) ?_
  refine cvI (q0 := 1) (ci := 3) hx hb hml hown hts hEo hE hK hP hS (kX3_hasHearer l D a cI cJ cS hd hEo par kin lea mos wrt tal siz tol hrs ags yea kpar kkin klea kmos kwrt ktal ksiz ktol khrs kags kyea isk tly gai bes low hig spn byt hld sta beh sor num fnd sbi she snu x1) gX5_ageOf_X3_hasHearer rfl hdX3_hasHearer rfl rfl rfl ⟨rfl, rfl⟩ ⟨Nat.le_of_ble_eq_true rfl, Nat.le_of_ble_eq_true rfl⟩ ⟨Nat.zero_le _, Nat.zero_le _⟩ rfl hl.1 rfl (Nat.le_of_ble_eq_true rfl) dX5_ageOf_5 (fun H locs hP hS => ?_)
  refine lv_if_eq (tgt := 23) hx hb dX5_ageOf_8 (by decide) (fun c8 => ?_) (fun c8 => ?_)
  · have hres := (itl hres).1 c8
    refine lv_aload_n hx hb dX5_ageOf_23 rfl (lv_at hl 0 rfl) ?_
    refine lv_ldc hx hb hown u3 dX5_ageOf_24 ?_
    obtain ⟨q26, e26, hres⟩ := obd hres
    refine cvI (q0 := 0) (ci := 5) hx hb hml hown hts hEo hE hK hP hS (kX5_found l D a cI cJ cS hd hEo par kin lea mos wrt tal siz tol hrs ags yea kpar kkin klea kmos kwrt ktal ksiz ktol khrs kags kyea isk tly gai bes low hig spn byt hld sta beh sor num fnd sbi she snu (-1000000001 : Int32) q26 e26) gX5_ageOf_X5_found rfl hdX5_found rfl rfl rfl ⟨rfl, rfl⟩ ⟨Nat.le_of_ble_eq_true rfl, Nat.le_of_ble_eq_true rfl⟩ ⟨Nat.zero_le _, Nat.zero_le _⟩ rfl hl.1 rfl (Nat.le_of_ble_eq_true rfl) dX5_ageOf_26 (fun H locs hP hS => ?_)
    exact hQ ▸ rtI (v := q26.1)  hx hb hr hlk hP hS (by rw [← (Option.some.inj hres)]) (by rw [← (Option.some.inj hres)]) dX5_ageOf_29
  · have hres := (itl hres).2 c8
    refine lv_aload_n hx hb dX5_ageOf_11 rfl (lv_at hl 0 rfl) ?_
    refine gX_this5_now hx hb hown hw5 hK hP u1 dX5_ageOf_12 ?_
    refine gX_now_ages hx hb hown hw3 hK hP u2 dX5_ageOf_15 ?_
    refine lv_iload_n hx hb dX5_ageOf_18 rfl (lv_at hl 1 rfl) ?_
    obtain ⟨i19, hres⟩ := gdi hres
    refine lX_ags hx hb hK hP i19 dX5_ageOf_19 ?_
    refine lv_goto (tgt := 29) hx hb dX5_ageOf_20 (by decide) ?_
    exact hQ ▸ rtI (v := ags x1.toNatClampNeg)  hx hb hr hlk hP hS (by rw [← (Option.some.inj hres)]) (by rw [← (Option.some.inj hres)]) dX5_ageOf_29
def fX5_to (kin : Nat → Int32) (lea : Nat → Int32) (mos : Nat → Int32) (tal : Int32) (siz : Nat → Int32) (tol : Nat → Int32) (hrs : Int32) (ags : Nat → Int32) (low : Nat → Int64) (hig : Nat → Int64) (spn : Int32) (fnd : Nat → Int32) (x1 : Int32) : Option (Int32 × (Nat → Int64) × (Nat → Int64) × Int32 × (Nat → Int32)) :=
  if (bI (fX3_hasTale tal x1)) = 0 then (fX5_found fnd (-1000000001 : Int32)).bind fun q14 => some (q14.1, low, hig, spn, q14.2) else (fX1_spanWords kin lea mos siz tol low hig spn x1).bind fun q23 => (fX1_sayableTo hrs ags q23.1 q23.2.1 q23.2.2).bind fun q30 => some (q30, q23.1, q23.2.1, q23.2.2, fnd)
theorem hdX1_sayableTo : yX1_sayableTo.cls = RX1 ∧ yX1_sayableTo.cls ≠ "java/lang/invoke/MethodHandle" ∧ yX1_sayableTo.cls ≠ "java/lang/invoke/VarHandle" ∧ (parseMethodDescriptor yX1_sayableTo.desc).map (fun d => d.parameters.length) = some 0 := by decide +kernel
abbrev rX5_to : Room := { frames := 3, cells := 0, slots := 0, locals := 66 }
set_option maxHeartbeats 4000000 in
set_option maxRecDepth 100000 in
theorem kX5_to (l : Launch) (D : va_G) (a : Nat → Nat) (cI cJ cS : ClassId) (hd : aok a 36) {Env : (Nat → Prop) → State → Heap → Prop} (hEo : envOK Env) (par : Int32) (kin lea mos wrt : Nat → Int32) (tal : Int32) (siz tol : Nat → Int32) (hrs : Int32) (ags : Nat → Int32) (yea kpar : Int32) (kkin klea kmos kwrt : Nat → Int32) (ktal : Int32) (ksiz ktol : Nat → Int32) (khrs : Int32) (kags : Nat → Int32) (kyea isk : Int32) (tly : Nat → Int64) (gai bes : Nat → Int32) (low hig : Nat → Int64) (spn : Int32) (byt : Nat → Int32) (hld sta beh sor num : Int32) (fnd sbi she : Nat → Int32) (snu : Nat → Nat → Int64) (x1 : Int32) (res : Int32 × (Nat → Int64) × (Nat → Int64) × Int32 × (Nat → Int32)) (hres : fX5_to kin lea mos tal siz tol hrs ags low hig spn fnd x1 = some res) : CtI l D (tyL cI cJ cS) 36 a Env yX5_to wsX5_to rX5_to [.ref (a 0), .int x1] (wX a cI cJ cS par kin lea mos wrt tal siz tol hrs ags yea kpar kkin klea kmos kwrt ktal ksiz ktol khrs kags kyea isk tly gai bes low hig spn byt hld sta beh sor num fnd sbi she snu) (wX a cI cJ cS par kin lea mos wrt tal siz tol hrs ags yea kpar kkin klea kmos kwrt ktal ksiz ktol khrs kags kyea isk tly gai bes res.2.1 res.2.2.1 res.2.2.2.1 byt hld sta beh sor num res.2.2.2.2 sbi she snu) res.1 := by
  refine CtI_mk (cc := cX5_to) (maxL := 2) (ret := (some .int)) (by decide) rfl (Nat.le_of_ble_eq_true rfl) ?_
  intro p e s m args below meth c ls hx hb hr hlk hml hown hts hP hK hE hl
  have hS : va_S (adA a 36 s.heap.size) s.heap s.heap [] := va_S.rf
  have hl : lv_has ls 2 [(0, .ref (a 0)), (1, .int x1)] := hl
  have hown : s.vm.findClass RX5 = some m.cls := hown
  have hw5 : ∀ w ∈ wsX50, w.before args s = true := fun w h => hts w (List.mem_cons_of_mem _ (List.mem_append_left _ (List.mem_append_left _ (List.mem_append_right _ h))))
  have u1 : (Cond.fieldLink RX5 12 "YearWords" "now" "LYearWords$Stock;").before args s = true := hts _ (List.mem_of_getElem? (i := 1) (by decide +kernel))
  have u2 : (Cond.constant RX5 63 (-1000000001)).before args s = true := hts _ (List.mem_of_getElem? (i := 2) (by decide +kernel))
  have u3 : (Cond.fieldLink RX5 28 "YearWords" "sayings" "LYearWords$Sayings;").before args s = true := hts _ (List.mem_of_getElem? (i := 3) (by decide +kernel))
  obtain ⟨Q, hQ⟩ : ∃ Q, Q = mqI below D 36 a args s (wX a cI cJ cS par kin lea mos wrt tal siz tol hrs ags yea kpar kkin klea kmos kwrt ktal ksiz ktol khrs kags kyea isk tly gai bes res.2.1 res.2.2.1 res.2.2.2.1 byt hld sta beh sor num res.2.2.2.2 sbi she snu) res.1 := ⟨_, rfl⟩
  rw [← hQ]
  unfold fX5_to at hres
  refine lv_aload_n hx hb dX5_to_0 rfl (lv_at hl 0 rfl) ?_
  refine gX_this5_now hx hb hown hw5 hK hP u1 dX5_to_1 ?_
  refine lv_iload_n hx hb dX5_to_4 rfl (lv_at hl 1 rfl) ?_
  refine cvI (q0 := 1) (ci := 3) hx hb hml hown hts hEo hE hK hP hS (kX3_hasTale l D a cI cJ cS hd hEo par kin lea mos wrt tal siz tol hrs ags yea kpar kkin klea kmos kwrt ktal ksiz ktol khrs kags kyea isk tly gai bes low hig spn byt hld sta beh sor num fnd sbi she snu x1) gX5_to_X3_hasTale rfl hdX3_hasTale rfl rfl rfl ⟨rfl, rfl⟩ ⟨Nat.le_of_ble_eq_true rfl, Nat.le_of_ble_eq_true rfl⟩ ⟨Nat.zero_le _, Nat.zero_le _⟩ rfl hl.1 rfl (Nat.le_of_ble_eq_true rfl) dX5_to_5 (fun H locs hP hS => ?_)
  refine lv_if_ne (tgt := 18) hx hb dX5_to_8 (by decide) (fun c8 => ?_) (fun c8 => ?_)
  · have hres := (itl hres).2 c8
    refine lv_aload_n hx hb dX5_to_18 rfl (lv_at hl 0 rfl) ?_
    refine gX_this5_sayings hx hb hown hw5 hK hP u3 dX5_to_19 ?_
    refine lv_iload_n hx hb dX5_to_22 rfl (lv_at hl 1 rfl) ?_
    obtain ⟨q23, e23, hres⟩ := obd hres
    refine cvV (q0 := 17) (ci := 1) hx hb hml hown hts hEo hE hK hP hS (kX1_spanWords l D a cI cJ cS hd hEo par kin lea mos wrt tal siz tol hrs ags yea kpar kkin klea kmos kwrt ktal ksiz ktol khrs kags kyea isk tly gai bes low hig spn byt hld sta beh sor num fnd sbi she snu x1 q23 e23) gX5_to_X1_spanWords rfl hdX1_spanWords rfl rfl rfl ⟨rfl, rfl⟩ ⟨Nat.le_of_ble_eq_true rfl, Nat.le_of_ble_eq_true rfl⟩ ⟨Nat.zero_le _, Nat.zero_le _⟩ rfl hl.1 rfl (Nat.le_of_ble_eq_true rfl) dX5_to_23 (fun H locs hP hS => ?_)
    refine lv_aload_n hx hb dX5_to_26 rfl (lv_at hl 0 rfl) ?_
    refine gX_this5_sayings hx hb hown hw5 hK hP u3 dX5_to_27 ?_
    obtain ⟨q30, e30, hres⟩ := obd hres
    refine cvI (q0 := 17) (ci := 1) hx hb hml hown hts hEo hE hK hP hS (kX1_sayableTo l D a cI cJ cS hd hEo par kin lea mos wrt tal siz tol hrs ags yea kpar kkin klea kmos kwrt ktal ksiz ktol khrs kags kyea isk tly gai bes q23.1 q23.2.1 q23.2.2 byt hld sta beh sor num fnd sbi she snu  q30 e30) gX5_to_X1_sayableTo rfl hdX1_sayableTo rfl rfl rfl ⟨rfl, rfl⟩ ⟨Nat.le_of_ble_eq_true rfl, Nat.le_of_ble_eq_true rfl⟩ ⟨Nat.zero_le _, Nat.zero_le _⟩ rfl hl.1 rfl (Nat.le_of_ble_eq_true rfl) dX5_to_30 (fun H locs hP hS => ?_)
    exact hQ ▸ rtI (v := q30)  hx hb hr hlk hP hS (by rw [← (Option.some.inj hres)]) (by rw [← (Option.some.inj hres)]) dX5_to_33
  · have hres := (itl hres).1 c8
    refine lv_aload_n hx hb dX5_to_11 rfl (lv_at hl 0 rfl) ?_
    refine lv_ldc hx hb hown u2 dX5_to_12 ?_
    obtain ⟨q14, e14, hres⟩ := obd hres
    refine cvI (q0 := 0) (ci := 5) hx hb hml hown hts hEo hE hK hP hS (kX5_found l D a cI cJ cS hd hEo par kin lea mos wrt tal siz tol hrs ags yea kpar kkin klea kmos kwrt ktal ksiz ktol khrs kags kyea isk tly gai bes low hig spn byt hld sta beh sor num fnd sbi she snu (-1000000001 : Int32) q14 e14) gX5_to_X5_found rfl hdX5_found rfl rfl rfl ⟨rfl, rfl⟩ ⟨Nat.le_of_ble_eq_true rfl, Nat.le_of_ble_eq_true rfl⟩ ⟨Nat.zero_le _, Nat.zero_le _⟩ rfl hl.1 rfl (Nat.le_of_ble_eq_true rfl) dX5_to_14 (fun H locs hP hS => ?_)
    exact hQ ▸ rtI (v := q14.1)  hx hb hr hlk hP hS (by rw [← (Option.some.inj hres)]) (by rw [← (Option.some.inj hres)]) dX5_to_17
def fX5_tales_b66 (K22 : Int32 → Int32 → (Nat → Int64) → (Nat → Int64) → Int32 → Option (Int32 × (Nat → Int64) × (Nat → Int64) × Int32 × (Nat → Int32))) (low : Nat → Int64) (hig : Nat → Int64) (spn : Int32) (x2 : Int32) (x3 : Int32) : Option (Int32 × (Nat → Int64) × (Nat → Int64) × Int32 × (Nat → Int32)) :=
  K22 x2 (x3 + 1) low hig spn
def fX5_tales_l22 (kin : Nat → Int32) (lea : Nat → Int32) (mos : Nat → Int32) (tal : Int32) (siz : Nat → Int32) (tol : Nat → Int32) (ags : Nat → Int32) (fnd : Nat → Int32) (x1 : Int32) (K22 : Int32 → Int32 → (Nat → Int64) → (Nat → Int64) → Int32 → Option (Int32 × (Nat → Int64) × (Nat → Int64) × Int32 × (Nat → Int32))) (x2 : Int32) (x3 : Int32) (low : Nat → Int64) (hig : Nat → Int64) (spn : Int32) : Option (Int32 × (Nat → Int64) × (Nat → Int64) × Int32 × (Nat → Int32)) :=
  if tal ≤ x3 then some (x2, low, hig, spn, fnd) else (fX1_spanWords kin lea mos siz tol low hig spn x3).bind fun q38 => gd (ib x1 10) ((fX1_canBeIn q38.1 q38.2.1 q38.2.2 (ags x1.toNatClampNeg)).bind fun q54 => if (bI q54) = 0 then fX5_tales_b66 K22 q38.1 q38.2.1 q38.2.2 x2 x3 else fX5_tales_b66 K22 q38.1 q38.2.1 q38.2.2 (x2 ||| ((1 : Int32) <<< (x3 &&& 31))) x3)
def fX5_tales (kin : Nat → Int32) (lea : Nat → Int32) (mos : Nat → Int32) (tal : Int32) (siz : Nat → Int32) (tol : Nat → Int32) (hrs : Int32) (ags : Nat → Int32) (low : Nat → Int64) (hig : Nat → Int64) (spn : Int32) (fnd : Nat → Int32) (x1 : Int32) : Option (Int32 × (Nat → Int64) × (Nat → Int64) × Int32 × (Nat → Int32)) :=
  if (bI (fX3_hasHearer hrs x1)) = 0 then (fX5_found fnd (-1000000001 : Int32)).bind fun q14 => some (q14.1, low, hig, spn, q14.2) else fix5 (fX5_tales_l22 kin lea mos tal siz tol ags fnd x1) 2000 (0 : Int32) (0 : Int32) low hig spn
abbrev rX5_tales : Room := { frames := 3, cells := 0, slots := 0, locals := 66 }
set_option maxHeartbeats 4000000 in
set_option maxRecDepth 100000 in
theorem kX5_tales (l : Launch) (D : va_G) (a : Nat → Nat) (cI cJ cS : ClassId) (hd : aok a 36) {Env : (Nat → Prop) → State → Heap → Prop} (hEo : envOK Env) (par : Int32) (kin lea mos wrt : Nat → Int32) (tal : Int32) (siz tol : Nat → Int32) (hrs : Int32) (ags : Nat → Int32) (yea kpar : Int32) (kkin klea kmos kwrt : Nat → Int32) (ktal : Int32) (ksiz ktol : Nat → Int32) (khrs : Int32) (kags : Nat → Int32) (kyea isk : Int32) (tly : Nat → Int64) (gai bes : Nat → Int32) (low hig : Nat → Int64) (spn : Int32) (byt : Nat → Int32) (hld sta beh sor num : Int32) (fnd sbi she : Nat → Int32) (snu : Nat → Nat → Int64) (x1 : Int32) (res : Int32 × (Nat → Int64) × (Nat → Int64) × Int32 × (Nat → Int32)) (hres : fX5_tales kin lea mos tal siz tol hrs ags low hig spn fnd x1 = some res) : CtI l D (tyL cI cJ cS) 36 a Env yX5_tales wsX5_tales rX5_tales [.ref (a 0), .int x1] (wX a cI cJ cS par kin lea mos wrt tal siz tol hrs ags yea kpar kkin klea kmos kwrt ktal ksiz ktol khrs kags kyea isk tly gai bes low hig spn byt hld sta beh sor num fnd sbi she snu) (wX a cI cJ cS par kin lea mos wrt tal siz tol hrs ags yea kpar kkin klea kmos kwrt ktal ksiz ktol khrs kags kyea isk tly gai bes res.2.1 res.2.2.1 res.2.2.2.1 byt hld sta beh sor num res.2.2.2.2 sbi she snu) res.1 := by
  refine CtI_mk (cc := cX5_tales) (maxL := 4) (ret := (some .int)) (by decide) rfl (Nat.le_of_ble_eq_true rfl) ?_
  intro p e s m args below meth c ls hx hb hr hlk hml hown hts hP hK hE hl
  have hS : va_S (adA a 36 s.heap.size) s.heap s.heap [] := va_S.rf
  have hl : lv_has ls 4 [(0, .ref (a 0)), (1, .int x1)] := hl
  have hown : s.vm.findClass RX5 = some m.cls := hown
  have hw3 : ∀ w ∈ wsX30, w.before args s = true := fun w h => hts w (List.mem_cons_of_mem _ (List.mem_append_left _ (List.mem_append_right _ h)))
  have hw5 : ∀ w ∈ wsX50, w.before args s = true := fun w h => hts w (List.mem_cons_of_mem _ (List.mem_append_left _ (List.mem_append_left _ (List.mem_append_right _ h))))
  have u1 : (Cond.fieldLink RX5 12 "YearWords" "now" "LYearWords$Stock;").before args s = true := hts _ (List.mem_of_getElem? (i := 1) (by decide +kernel))
  have u2 : (Cond.constant RX5 63 (-1000000001)).before args s = true := hts _ (List.mem_of_getElem? (i := 2) (by decide +kernel))
  have u3 : (Cond.fieldLink RX5 113 "YearWords$Stock" "tales" "I").before args s = true := hts _ (List.mem_of_getElem? (i := 3) (by decide +kernel))
  have u4 : (Cond.fieldLink RX5 28 "YearWords" "sayings" "LYearWords$Sayings;").before args s = true := hts _ (List.mem_of_getElem? (i := 4) (by decide +kernel))
  have u5 : (Cond.fieldLink RX5 183 "YearWords$Stock" "ages" "[I").before args s = true := hts _ (List.mem_of_getElem? (i := 5) (by decide +kernel))
  obtain ⟨Q, hQ⟩ : ∃ Q, Q = mqI below D 36 a args s (wX a cI cJ cS par kin lea mos wrt tal siz tol hrs ags yea kpar kkin klea kmos kwrt ktal ksiz ktol khrs kags kyea isk tly gai bes res.2.1 res.2.2.1 res.2.2.2.1 byt hld sta beh sor num res.2.2.2.2 sbi she snu) res.1 := ⟨_, rfl⟩
  rw [← hQ]
  have b22 : ∀ (fnd : Nat → Int32) (n : Nat) (x2 : Int32) (x3 : Int32) (low : Nat → Int64) (hig : Nat → Int64) (spn : Int32), fix5 (fX5_tales_l22 kin lea mos tal siz tol ags fnd x1) n x2 x3 low hig spn = some res → ∀ (H : Heap) (locs : List Loc) (ls : Array Slot), va_P D vwCl (wX a cI cJ cS par kin lea mos wrt tal siz tol hrs ags yea kpar kkin klea kmos kwrt ktal ksiz ktol khrs kags kyea isk tly gai bes low hig spn byt hld sta beh sor num fnd sbi she snu) H → va_S (adA a 36 s.heap.size) s.heap H locs → lv_has ls 4 [(0, .ref (a 0)), (1, .int x1), (2, .int x2), (3, .int x3)] → W p l e rX5_tales s m args below meth c H locs 0 0 Q (F0 m 22 ls []) := by
    intro fnd
    refine fix5_r ?_
    intro K22 hK22 x2 x3 low hig spn hres H locs ls hP hS hl
    have b66 : ∀ (low : Nat → Int64) (hig : Nat → Int64) (spn : Int32) (x2 : Int32) (x3 : Int32), fX5_tales_b66 K22 low hig spn x2 x3 = some res → ∀ (H : Heap) (locs : List Loc) (ls : Array Slot), va_P D vwCl (wX a cI cJ cS par kin lea mos wrt tal siz tol hrs ags yea kpar kkin klea kmos kwrt ktal ksiz ktol khrs kags kyea isk tly gai bes low hig spn byt hld sta beh sor num fnd sbi she snu) H → va_S (adA a 36 s.heap.size) s.heap H locs → lv_has ls 4 [(0, .ref (a 0)), (1, .int x1), (2, .int x2), (3, .int x3)] → W p l e rX5_tales s m args below meth c H locs 0 0 Q (F0 m 66 ls []) := by
      intro low hig spn x2 x3 hres H locs ls hP hS hl
      unfold fX5_tales_b66 at hres
      refine lv_iinc (v := x3 + 1) (lv' := [(3, .int (x3 + 1)), (0, .ref (a 0)), (1, .int x1), (2, .int x2)]) hx hb dX5_tales_66 hl (k := 3) rfl (congrArg (fun z => x3 + z) (by decide)) (by decide) rfl (fun ls hl => ?_)
      refine lv_goto (tgt := 22) hx hb dX5_tales_69 (by decide) ?_
      exact hK22 x2 (x3 + 1) low hig spn hres _ _ _ hP hS (lv_sub hl [1, 2, 3, 0] rfl)
    unfold fX5_tales_l22 at hres
    refine lv_iload_n hx hb dX5_tales_22 rfl (lv_at hl 3 rfl) ?_
    refine lv_aload_n hx hb dX5_tales_23 rfl (lv_at hl 0 rfl) ?_
    refine gX_this5_now hx hb hown hw5 hK hP u1 dX5_tales_24 ?_
    refine gX_now_tales hx hb hown hw3 hK hP u3 dX5_tales_27 ?_
    refine lv_icmp_ge (tgt := 72) hx hb dX5_tales_30 (by decide) (fun c30 => ?_) (fun c30 => ?_)
    · have hres := (itl hres).1 c30
      refine lv_iload_n hx hb dX5_tales_72 rfl (lv_at hl 2 rfl) ?_
      exact hQ ▸ rtI (v := x2)  hx hb hr hlk hP hS (by rw [← (Option.some.inj hres)]) (by rw [← (Option.some.inj hres)]) dX5_tales_73
    · have hres := (itl hres).2 c30
      refine lv_aload_n hx hb dX5_tales_33 rfl (lv_at hl 0 rfl) ?_
      refine gX_this5_sayings hx hb hown hw5 hK hP u4 dX5_tales_34 ?_
      refine lv_iload_n hx hb dX5_tales_37 rfl (lv_at hl 3 rfl) ?_
      obtain ⟨q38, e38, hres⟩ := obd hres
      refine cvV (q0 := 17) (ci := 1) hx hb hml hown hts hEo hE hK hP hS (kX1_spanWords l D a cI cJ cS hd hEo par kin lea mos wrt tal siz tol hrs ags yea kpar kkin klea kmos kwrt ktal ksiz ktol khrs kags kyea isk tly gai bes low hig spn byt hld sta beh sor num fnd sbi she snu x3 q38 e38) gX5_tales_X1_spanWords rfl hdX1_spanWords rfl rfl rfl ⟨rfl, rfl⟩ ⟨Nat.le_of_ble_eq_true rfl, Nat.le_of_ble_eq_true rfl⟩ ⟨Nat.zero_le _, Nat.zero_le _⟩ rfl hl.1 rfl (Nat.le_of_ble_eq_true rfl) dX5_tales_38 (fun H locs hP hS => ?_)
      refine lv_aload_n hx hb dX5_tales_41 rfl (lv_at hl 0 rfl) ?_
      refine gX_this5_sayings hx hb hown hw5 hK hP u4 dX5_tales_42 ?_
      refine lv_aload_n hx hb dX5_tales_45 rfl (lv_at hl 0 rfl) ?_
      refine gX_this5_now hx hb hown hw5 hK hP u1 dX5_tales_46 ?_
      refine gX_now_ages hx hb hown hw3 hK hP u5 dX5_tales_49 ?_
      refine lv_iload_n hx hb dX5_tales_52 rfl (lv_at hl 1 rfl) ?_
      obtain ⟨i53, hres⟩ := gdi hres
      refine lX_ags hx hb hK hP i53 dX5_tales_53 ?_
      obtain ⟨q54, e54, hres⟩ := obd hres
      refine cvI (q0 := 17) (ci := 1) hx hb hml hown hts hEo hE hK hP hS (kX1_canBeIn l D a cI cJ cS hd hEo par kin lea mos wrt tal siz tol hrs ags yea kpar kkin klea kmos kwrt ktal ksiz ktol khrs kags kyea isk tly gai bes q38.1 q38.2.1 q38.2.2 byt hld sta beh sor num fnd sbi she snu (ags x1.toNatClampNeg) q54 e54) gX5_tales_X1_canBeIn rfl hdX1_canBeIn rfl rfl rfl ⟨rfl, rfl⟩ ⟨Nat.le_of_ble_eq_true rfl, Nat.le_of_ble_eq_true rfl⟩ ⟨Nat.zero_le _, Nat.zero_le _⟩ rfl hl.1 rfl (Nat.le_of_ble_eq_true rfl) dX5_tales_54 (fun H locs hP hS => ?_)
      refine lv_if_eq (tgt := 66) hx hb dX5_tales_57 (by decide) (fun c57 => ?_) (fun c57 => ?_)
      · have hres := (itl hres).1 c57
        exact b66 q38.1 q38.2.1 q38.2.2 x2 x3 hres _ _ _ hP hS (lv_sub hl [0, 1, 2, 3] rfl)
      · have hres := (itl hres).2 c57
        refine lv_iload_n hx hb dX5_tales_60 rfl (lv_at hl 2 rfl) ?_
        refine lv_iconst (v := 1) hx hb dX5_tales_61 (by decide) ?_
        refine lv_iload_n hx hb dX5_tales_62 rfl (lv_at hl 3 rfl) ?_
        refine lv_ishl hx hb dX5_tales_63 ?_
        refine lv_ior hx hb dX5_tales_64 ?_
        refine lv_istore_n (lv' := [(2, .int (x2 ||| ((1 : Int32) <<< (x3 &&& 31)))), (0, .ref (a 0)), (1, .int x1), (3, .int x3)]) hx hb dX5_tales_65 rfl hl (by decide) rfl (fun ls hl => ?_)
        exact b66 q38.1 q38.2.1 q38.2.2 (x2 ||| ((1 : Int32) <<< (x3 &&& 31))) x3 hres _ _ _ hP hS (lv_sub hl [1, 2, 0, 3] rfl)
  unfold fX5_tales at hres
  refine lv_aload_n hx hb dX5_tales_0 rfl (lv_at hl 0 rfl) ?_
  refine gX_this5_now hx hb hown hw5 hK hP u1 dX5_tales_1 ?_
  refine lv_iload_n hx hb dX5_tales_4 rfl (lv_at hl 1 rfl) ?_
  refine cvI (q0 := 1) (ci := 3) hx hb hml hown hts hEo hE hK hP hS (kX3_hasHearer l D a cI cJ cS hd hEo par kin lea mos wrt tal siz tol hrs ags yea kpar kkin klea kmos kwrt ktal ksiz ktol khrs kags kyea isk tly gai bes low hig spn byt hld sta beh sor num fnd sbi she snu x1) gX5_tales_X3_hasHearer rfl hdX3_hasHearer rfl rfl rfl ⟨rfl, rfl⟩ ⟨Nat.le_of_ble_eq_true rfl, Nat.le_of_ble_eq_true rfl⟩ ⟨Nat.zero_le _, Nat.zero_le _⟩ rfl hl.1 rfl (Nat.le_of_ble_eq_true rfl) dX5_tales_5 (fun H locs hP hS => ?_)
  refine lv_if_ne (tgt := 18) hx hb dX5_tales_8 (by decide) (fun c8 => ?_) (fun c8 => ?_)
  · have hres := (itl hres).2 c8
    refine lv_iconst (v := 0) hx hb dX5_tales_18 (by decide) ?_
    refine lv_istore_n (lv' := [(2, .int (0 : Int32)), (0, .ref (a 0)), (1, .int x1)]) hx hb dX5_tales_19 rfl hl (by decide) rfl (fun ls hl => ?_)
    refine lv_iconst (v := 0) hx hb dX5_tales_20 (by decide) ?_
    refine lv_istore_n (lv' := [(3, .int (0 : Int32)), (2, .int (0 : Int32)), (0, .ref (a 0)), (1, .int x1)]) hx hb dX5_tales_21 rfl hl (by decide) rfl (fun ls hl => ?_)
    exact b22 fnd 2000 (0 : Int32) (0 : Int32) low hig spn hres _ _ _ hP hS (lv_sub hl [2, 3, 1, 0] rfl)
  · have hres := (itl hres).1 c8
    refine lv_aload_n hx hb dX5_tales_11 rfl (lv_at hl 0 rfl) ?_
    refine lv_ldc hx hb hown u2 dX5_tales_12 ?_
    obtain ⟨q14, e14, hres⟩ := obd hres
    refine cvI (q0 := 0) (ci := 5) hx hb hml hown hts hEo hE hK hP hS (kX5_found l D a cI cJ cS hd hEo par kin lea mos wrt tal siz tol hrs ags yea kpar kkin klea kmos kwrt ktal ksiz ktol khrs kags kyea isk tly gai bes low hig spn byt hld sta beh sor num fnd sbi she snu (-1000000001 : Int32) q14 e14) gX5_tales_X5_found rfl hdX5_found rfl rfl rfl ⟨rfl, rfl⟩ ⟨Nat.le_of_ble_eq_true rfl, Nat.le_of_ble_eq_true rfl⟩ ⟨Nat.zero_le _, Nat.zero_le _⟩ rfl hl.1 rfl (Nat.le_of_ble_eq_true rfl) dX5_tales_14 (fun H locs hP hS => ?_)
    exact hQ ▸ rtI (v := q14.1)  hx hb hr hlk hP hS (by rw [← (Option.some.inj hres)]) (by rw [← (Option.some.inj hres)]) dX5_tales_17
def fX5_years_b120 (K65 : Int32 → Int32 → Option (Int32 × (Nat → Int32) × Int32 × (Nat → Int64) × (Nat → Int64) × Int32 × (Nat → Int32))) (x2 : Int32) (x4 : Int32) : Option (Int32 × (Nat → Int32) × Int32 × (Nat → Int64) × (Nat → Int64) × Int32 × (Nat → Int32)) :=
  K65 x2 (x4 + 1)
def fX5_years_b126 (K43 : Int32 → Int32 → (Nat → Int64) → (Nat → Int64) → Int32 → Option (Int32 × (Nat → Int32) × Int32 × (Nat → Int64) × (Nat → Int64) × Int32 × (Nat → Int32))) (low : Nat → Int64) (hig : Nat → Int64) (spn : Int32) (x2 : Int32) (x3 : Int32) : Option (Int32 × (Nat → Int32) × Int32 × (Nat → Int64) × (Nat → Int64) × Int32 × (Nat → Int32)) :=
  K43 x2 (x3 + 1) low hig spn
def fX5_years_l65 (K43 : Int32 → Int32 → (Nat → Int64) → (Nat → Int64) → Int32 → Option (Int32 × (Nat → Int32) × Int32 × (Nat → Int64) × (Nat → Int64) × Int32 × (Nat → Int32))) (hrs : Int32) (ags : Nat → Int32) (low : Nat → Int64) (hig : Nat → Int64) (spn : Int32) (x1 : Int32) (x3 : Int32) (K65 : Int32 → Int32 → Option (Int32 × (Nat → Int32) × Int32 × (Nat → Int64) × (Nat → Int64) × Int32 × (Nat → Int32))) (x2 : Int32) (x4 : Int32) : Option (Int32 × (Nat → Int32) × Int32 × (Nat → Int64) × (Nat → Int64) × Int32 × (Nat → Int32)) :=
  if hrs ≤ x4 then fX5_years_b126 K43 low hig spn x2 x3 else gd (ib x4 10) ((fX1_canBeIn low hig spn (ags x4.toNatClampNeg)).bind fun q91 => if (bI q91) = 0 then fX5_years_b120 K65 x2 x4 else (fX3_ageIn ags x4 x1).bind fun q108 => (fX1_canBeIn low hig spn q108).bind fun q111 => if (bI q111) = 0 then fX5_years_b120 K65 (x2 + 1) x4 else fX5_years_b120 K65 x2 x4)
def fX5_years_b132 (hrs : Int32) (ags : Nat → Int32) (yea : Int32) (low : Nat → Int64) (hig : Nat → Int64) (spn : Int32) (fnd : Nat → Int32) (x1 : Int32) (x2 : Int32) : Option (Int32 × (Nat → Int32) × Int32 × (Nat → Int64) × (Nat → Int64) × Int32 × (Nat → Int32)) :=
 (fX3_growOlder hrs ags yea x1).bind fun q137 => some (x2, q137.1, q137.2, low, hig, spn, fnd)
def fX5_years_l43 (kin : Nat → Int32) (lea : Nat → Int32) (mos : Nat → Int32) (tal : Int32) (siz : Nat → Int32) (tol : Nat → Int32) (hrs : Int32) (ags : Nat → Int32) (yea : Int32) (fnd : Nat → Int32) (x1 : Int32) (K43 : Int32 → Int32 → (Nat → Int64) → (Nat → Int64) → Int32 → Option (Int32 × (Nat → Int32) × Int32 × (Nat → Int64) × (Nat → Int64) × Int32 × (Nat → Int32))) (x2 : Int32) (x3 : Int32) (low : Nat → Int64) (hig : Nat → Int64) (spn : Int32) : Option (Int32 × (Nat → Int32) × Int32 × (Nat → Int64) × (Nat → Int64) × Int32 × (Nat → Int32)) :=
  if tal ≤ x3 then fX5_years_b132 hrs ags yea low hig spn fnd x1 x2 else (fX1_spanWords kin lea mos siz tol low hig spn x3).bind fun q59 => fix2 (fX5_years_l65 K43 hrs ags q59.1 q59.2.1 q59.2.2 x1 x3) 2000 x2 (0 : Int32)
def fX5_years (kin : Nat → Int32) (lea : Nat → Int32) (mos : Nat → Int32) (tal : Int32) (siz : Nat → Int32) (tol : Nat → Int32) (hrs : Int32) (ags : Nat → Int32) (yea : Int32) (low : Nat → Int64) (hig : Nat → Int64) (spn : Int32) (fnd : Nat → Int32) (x1 : Int32) : Option (Int32 × (Nat → Int32) × Int32 × (Nat → Int64) × (Nat → Int64) × Int32 × (Nat → Int32)) :=
  if (bI (fX5_isIn x1 (1 : Int32) (60 : Int32))) = 0 then (fX5_found fnd (-1000000001 : Int32)).bind fun q13 => some (q13.1, ags, yea, low, hig, spn, q13.2) else if (yea + x1) ≤ (999 : Int32) then fix5 (fX5_years_l43 kin lea mos tal siz tol hrs ags yea fnd x1) 2000 (0 : Int32) (0 : Int32) low hig spn else (fX5_found fnd (-1000000005 : Int32)).bind fun q35 => some (q35.1, ags, yea, low, hig, spn, q35.2)
theorem hdX3_growOlder : yX3_growOlder.cls = RX3 ∧ yX3_growOlder.cls ≠ "java/lang/invoke/MethodHandle" ∧ yX3_growOlder.cls ≠ "java/lang/invoke/VarHandle" ∧ (parseMethodDescriptor yX3_growOlder.desc).map (fun d => d.parameters.length) = some 1 := by decide +kernel
abbrev rX5_years : Room := { frames := 3, cells := 0, slots := 0, locals := 67 }
set_option maxHeartbeats 4000000 in
set_option maxRecDepth 100000 in
theorem kX5_years (l : Launch) (D : va_G) (a : Nat → Nat) (cI cJ cS : ClassId) (hd : aok a 36) {Env : (Nat → Prop) → State → Heap → Prop} (hEo : envOK Env) (par : Int32) (kin lea mos wrt : Nat → Int32) (tal : Int32) (siz tol : Nat → Int32) (hrs : Int32) (ags : Nat → Int32) (yea kpar : Int32) (kkin klea kmos kwrt : Nat → Int32) (ktal : Int32) (ksiz ktol : Nat → Int32) (khrs : Int32) (kags : Nat → Int32) (kyea isk : Int32) (tly : Nat → Int64) (gai bes : Nat → Int32) (low hig : Nat → Int64) (spn : Int32) (byt : Nat → Int32) (hld sta beh sor num : Int32) (fnd sbi she : Nat → Int32) (snu : Nat → Nat → Int64) (x1 : Int32) (res : Int32 × (Nat → Int32) × Int32 × (Nat → Int64) × (Nat → Int64) × Int32 × (Nat → Int32)) (hres : fX5_years kin lea mos tal siz tol hrs ags yea low hig spn fnd x1 = some res) : CtI l D (tyL cI cJ cS) 36 a Env yX5_years wsX5_years rX5_years [.ref (a 0), .int x1] (wX a cI cJ cS par kin lea mos wrt tal siz tol hrs ags yea kpar kkin klea kmos kwrt ktal ksiz ktol khrs kags kyea isk tly gai bes low hig spn byt hld sta beh sor num fnd sbi she snu) (wX a cI cJ cS par kin lea mos wrt tal siz tol hrs res.2.1 res.2.2.1 kpar kkin klea kmos kwrt ktal ksiz ktol khrs kags kyea isk tly gai bes res.2.2.2.1 res.2.2.2.2.1 res.2.2.2.2.2.1 byt hld sta beh sor num res.2.2.2.2.2.2 sbi she snu) res.1 := by
  refine CtI_mk (cc := cX5_years) (maxL := 5) (ret := (some .int)) (by decide) rfl (Nat.le_of_ble_eq_true rfl) ?_
  intro p e s m args below meth c ls hx hb hr hlk hml hown hts hP hK hE hl
  have hS : va_S (adA a 36 s.heap.size) s.heap s.heap [] := va_S.rf
  have hl : lv_has ls 5 [(0, .ref (a 0)), (1, .int x1)] := hl
  have hown : s.vm.findClass RX5 = some m.cls := hown
  have hw3 : ∀ w ∈ wsX30, w.before args s = true := fun w h => hts w (List.mem_cons_of_mem _ (List.mem_append_left _ (List.mem_append_right _ h)))
  have hw5 : ∀ w ∈ wsX50, w.before args s = true := fun w h => hts w (List.mem_cons_of_mem _ (List.mem_append_left _ (List.mem_append_left _ (List.mem_append_right _ h))))
  have u1 : (Cond.constant RX5 63 (-1000000001)).before args s = true := hts _ (List.mem_of_getElem? (i := 1) (by decide +kernel))
  have u2 : (Cond.fieldLink RX5 12 "YearWords" "now" "LYearWords$Stock;").before args s = true := hts _ (List.mem_of_getElem? (i := 2) (by decide +kernel))
  have u3 : (Cond.fieldLink RX5 189 "YearWords$Stock" "year" "I").before args s = true := hts _ (List.mem_of_getElem? (i := 3) (by decide +kernel))
  have u4 : (Cond.constant RX5 170 (-1000000005)).before args s = true := hts _ (List.mem_of_getElem? (i := 4) (by decide +kernel))
  have u5 : (Cond.fieldLink RX5 113 "YearWords$Stock" "tales" "I").before args s = true := hts _ (List.mem_of_getElem? (i := 5) (by decide +kernel))
  have u6 : (Cond.fieldLink RX5 28 "YearWords" "sayings" "LYearWords$Sayings;").before args s = true := hts _ (List.mem_of_getElem? (i := 6) (by decide +kernel))
  have u7 : (Cond.fieldLink RX5 174 "YearWords$Stock" "hearers" "I").before args s = true := hts _ (List.mem_of_getElem? (i := 7) (by decide +kernel))
  have u8 : (Cond.fieldLink RX5 183 "YearWords$Stock" "ages" "[I").before args s = true := hts _ (List.mem_of_getElem? (i := 8) (by decide +kernel))
  obtain ⟨Q, hQ⟩ : ∃ Q, Q = mqI below D 36 a args s (wX a cI cJ cS par kin lea mos wrt tal siz tol hrs res.2.1 res.2.2.1 kpar kkin klea kmos kwrt ktal ksiz ktol khrs kags kyea isk tly gai bes res.2.2.2.1 res.2.2.2.2.1 res.2.2.2.2.2.1 byt hld sta beh sor num res.2.2.2.2.2.2 sbi she snu) res.1 := ⟨_, rfl⟩
  rw [← hQ]
  have b132 : ∀ (ags : Nat → Int32) (yea : Int32) (low : Nat → Int64) (hig : Nat → Int64) (spn : Int32) (fnd : Nat → Int32) (x2 : Int32), fX5_years_b132 hrs ags yea low hig spn fnd x1 x2 = some res → ∀ (H : Heap) (locs : List Loc) (ls : Array Slot), va_P D vwCl (wX a cI cJ cS par kin lea mos wrt tal siz tol hrs ags yea kpar kkin klea kmos kwrt ktal ksiz ktol khrs kags kyea isk tly gai bes low hig spn byt hld sta beh sor num fnd sbi she snu) H → va_S (adA a 36 s.heap.size) s.heap H locs → lv_has ls 5 [(0, .ref (a 0)), (1, .int x1), (2, .int x2)] → W p l e rX5_years s m args below meth c H locs 0 0 Q (F0 m 132 ls []) := by
    intro ags yea low hig spn fnd x2 hres H locs ls hP hS hl
    unfold fX5_years_b132 at hres
    refine lv_aload_n hx hb dX5_years_132 rfl (lv_at hl 0 rfl) ?_
    refine gX_this5_now hx hb hown hw5 hK hP u2 dX5_years_133 ?_
    refine lv_iload_n hx hb dX5_years_136 rfl (lv_at hl 1 rfl) ?_
    obtain ⟨q137, e137, hres⟩ := obd hres
    refine cvV (q0 := 1) (ci := 3) hx hb hml hown hts hEo hE hK hP hS (kX3_growOlder l D a cI cJ cS hd hEo par kin lea mos wrt tal siz tol hrs ags yea kpar kkin klea kmos kwrt ktal ksiz ktol khrs kags kyea isk tly gai bes low hig spn byt hld sta beh sor num fnd sbi she snu x1 q137 e137) gX5_years_X3_growOlder rfl hdX3_growOlder rfl rfl rfl ⟨rfl, rfl⟩ ⟨Nat.le_of_ble_eq_true rfl, Nat.le_of_ble_eq_true rfl⟩ ⟨Nat.zero_le _, Nat.zero_le _⟩ rfl hl.1 rfl (Nat.le_of_ble_eq_true rfl) dX5_years_137 (fun H locs hP hS => ?_)
    refine lv_iload_n hx hb dX5_years_140 rfl (lv_at hl 2 rfl) ?_
    exact hQ ▸ rtI (v := x2)  hx hb hr hlk hP hS (by rw [← (Option.some.inj hres)]) (by rw [← (Option.some.inj hres)]) dX5_years_141
  have b43 : ∀ (ags : Nat → Int32) (yea : Int32) (fnd : Nat → Int32) (n : Nat) (x2 : Int32) (x3 : Int32) (low : Nat → Int64) (hig : Nat → Int64) (spn : Int32), fix5 (fX5_years_l43 kin lea mos tal siz tol hrs ags yea fnd x1) n x2 x3 low hig spn = some res → ∀ (H : Heap) (locs : List Loc) (ls : Array Slot), va_P D vwCl (wX a cI cJ cS par kin lea mos wrt tal siz tol hrs ags yea kpar kkin klea kmos kwrt ktal ksiz ktol khrs kags kyea isk tly gai bes low hig spn byt hld sta beh sor num fnd sbi she snu) H → va_S (adA a 36 s.heap.size) s.heap H locs → lv_has ls 5 [(0, .ref (a 0)), (1, .int x1), (2, .int x2), (3, .int x3)] → W p l e rX5_years s m args below meth c H locs 0 0 Q (F0 m 43 ls []) := by
    intro ags yea fnd
    refine fix5_r ?_
    intro K43 hK43 x2 x3 low hig spn hres H locs ls hP hS hl
    have b126 : ∀ (low : Nat → Int64) (hig : Nat → Int64) (spn : Int32) (x2 : Int32) (x3 : Int32), fX5_years_b126 K43 low hig spn x2 x3 = some res → ∀ (H : Heap) (locs : List Loc) (ls : Array Slot), va_P D vwCl (wX a cI cJ cS par kin lea mos wrt tal siz tol hrs ags yea kpar kkin klea kmos kwrt ktal ksiz ktol khrs kags kyea isk tly gai bes low hig spn byt hld sta beh sor num fnd sbi she snu) H → va_S (adA a 36 s.heap.size) s.heap H locs → lv_has ls 5 [(0, .ref (a 0)), (1, .int x1), (2, .int x2), (3, .int x3)] → W p l e rX5_years s m args below meth c H locs 0 0 Q (F0 m 126 ls []) := by
      intro low hig spn x2 x3 hres H locs ls hP hS hl
      unfold fX5_years_b126 at hres
      refine lv_iinc (v := x3 + 1) (lv' := [(3, .int (x3 + 1)), (0, .ref (a 0)), (1, .int x1), (2, .int x2)]) hx hb dX5_years_126 hl (k := 3) rfl (congrArg (fun z => x3 + z) (by decide)) (by decide) rfl (fun ls hl => ?_)
      refine lv_goto (tgt := 43) hx hb dX5_years_129 (by decide) ?_
      exact hK43 x2 (x3 + 1) low hig spn hres _ _ _ hP hS (lv_sub hl [1, 2, 3, 0] rfl)
    have b65 : ∀ (low : Nat → Int64) (hig : Nat → Int64) (spn : Int32) (x3 : Int32) (n : Nat) (x2 : Int32) (x4 : Int32), fix2 (fX5_years_l65 K43 hrs ags low hig spn x1 x3) n x2 x4 = some res → ∀ (H : Heap) (locs : List Loc) (ls : Array Slot), va_P D vwCl (wX a cI cJ cS par kin lea mos wrt tal siz tol hrs ags yea kpar kkin klea kmos kwrt ktal ksiz ktol khrs kags kyea isk tly gai bes low hig spn byt hld sta beh sor num fnd sbi she snu) H → va_S (adA a 36 s.heap.size) s.heap H locs → lv_has ls 5 [(0, .ref (a 0)), (1, .int x1), (2, .int x2), (3, .int x3), (4, .int x4)] → W p l e rX5_years s m args below meth c H locs 0 0 Q (F0 m 65 ls []) := by
      intro low hig spn x3
      refine fix2_r ?_
      intro K65 hK65 x2 x4 hres H locs ls hP hS hl
      have b120 : ∀ (x2 : Int32) (x4 : Int32), fX5_years_b120 K65 x2 x4 = some res → ∀ (H : Heap) (locs : List Loc) (ls : Array Slot), va_P D vwCl (wX a cI cJ cS par kin lea mos wrt tal siz tol hrs ags yea kpar kkin klea kmos kwrt ktal ksiz ktol khrs kags kyea isk tly gai bes low hig spn byt hld sta beh sor num fnd sbi she snu) H → va_S (adA a 36 s.heap.size) s.heap H locs → lv_has ls 5 [(0, .ref (a 0)), (1, .int x1), (2, .int x2), (3, .int x3), (4, .int x4)] → W p l e rX5_years s m args below meth c H locs 0 0 Q (F0 m 120 ls []) := by
        intro x2 x4 hres H locs ls hP hS hl
        unfold fX5_years_b120 at hres
        refine lv_iinc (v := x4 + 1) (lv' := [(4, .int (x4 + 1)), (0, .ref (a 0)), (1, .int x1), (2, .int x2), (3, .int x3)]) hx hb dX5_years_120 hl (k := 4) rfl (congrArg (fun z => x4 + z) (by decide)) (by decide) rfl (fun ls hl => ?_)
        refine lv_goto (tgt := 65) hx hb dX5_years_123 (by decide) ?_
        exact hK65 x2 (x4 + 1) hres _ _ _ hP hS (lv_sub hl [1, 2, 3, 4, 0] rfl)
      unfold fX5_years_l65 at hres
      refine lv_iload hx hb dX5_years_65 (lv_at hl 4 rfl) ?_
      refine lv_aload_n hx hb dX5_years_67 rfl (lv_at hl 0 rfl) ?_
      refine gX_this5_now hx hb hown hw5 hK hP u2 dX5_years_68 ?_
      refine gX_now_hearers hx hb hown hw3 hK hP u7 dX5_years_71 ?_
      refine lv_icmp_ge (tgt := 126) hx hb dX5_years_74 (by decide) (fun c74 => ?_) (fun c74 => ?_)
      · have hres := (itl hres).1 c74
        exact b126 low hig spn x2 x3 hres _ _ _ hP hS (lv_sub hl [0, 1, 2, 3] rfl)
      · have hres := (itl hres).2 c74
        refine lv_aload_n hx hb dX5_years_77 rfl (lv_at hl 0 rfl) ?_
        refine gX_this5_sayings hx hb hown hw5 hK hP u6 dX5_years_78 ?_
        refine lv_aload_n hx hb dX5_years_81 rfl (lv_at hl 0 rfl) ?_
        refine gX_this5_now hx hb hown hw5 hK hP u2 dX5_years_82 ?_
        refine gX_now_ages hx hb hown hw3 hK hP u8 dX5_years_85 ?_
        refine lv_iload hx hb dX5_years_88 (lv_at hl 4 rfl) ?_
        obtain ⟨i90, hres⟩ := gdi hres
        refine lX_ags hx hb hK hP i90 dX5_years_90 ?_
        obtain ⟨q91, e91, hres⟩ := obd hres
        refine cvI (q0 := 17) (ci := 1) hx hb hml hown hts hEo hE hK hP hS (kX1_canBeIn l D a cI cJ cS hd hEo par kin lea mos wrt tal siz tol hrs ags yea kpar kkin klea kmos kwrt ktal ksiz ktol khrs kags kyea isk tly gai bes low hig spn byt hld sta beh sor num fnd sbi she snu (ags x4.toNatClampNeg) q91 e91) gX5_years_X1_canBeIn rfl hdX1_canBeIn rfl rfl rfl ⟨rfl, rfl⟩ ⟨Nat.le_of_ble_eq_true rfl, Nat.le_of_ble_eq_true rfl⟩ ⟨Nat.zero_le _, Nat.zero_le _⟩ rfl hl.1 rfl (Nat.le_of_ble_eq_true rfl) dX5_years_91 (fun H locs hP hS => ?_)
        refine lv_if_eq (tgt := 120) hx hb dX5_years_94 (by decide) (fun c94 => ?_) (fun c94 => ?_)
        · have hres := (itl hres).1 c94
          exact b120 x2 x4 hres _ _ _ hP hS (lv_sub hl [0, 1, 2, 3, 4] rfl)
        · have hres := (itl hres).2 c94
          refine lv_aload_n hx hb dX5_years_97 rfl (lv_at hl 0 rfl) ?_
          refine gX_this5_sayings hx hb hown hw5 hK hP u6 dX5_years_98 ?_
          refine lv_aload_n hx hb dX5_years_101 rfl (lv_at hl 0 rfl) ?_
          refine gX_this5_now hx hb hown hw5 hK hP u2 dX5_years_102 ?_
          refine lv_iload hx hb dX5_years_105 (lv_at hl 4 rfl) ?_
          refine lv_iload_n hx hb dX5_years_107 rfl (lv_at hl 1 rfl) ?_
          obtain ⟨q108, e108, hres⟩ := obd hres
          refine cvI (q0 := 1) (ci := 3) hx hb hml hown hts hEo hE hK hP hS (kX3_ageIn l D a cI cJ cS hd hEo par kin lea mos wrt tal siz tol hrs ags yea kpar kkin klea kmos kwrt ktal ksiz ktol khrs kags kyea isk tly gai bes low hig spn byt hld sta beh sor num fnd sbi she snu x4 x1 q108 e108) gX5_years_X3_ageIn rfl hdX3_ageIn rfl rfl rfl ⟨rfl, rfl⟩ ⟨Nat.le_of_ble_eq_true rfl, Nat.le_of_ble_eq_true rfl⟩ ⟨Nat.zero_le _, Nat.zero_le _⟩ rfl hl.1 rfl (Nat.le_of_ble_eq_true rfl) dX5_years_108 (fun H locs hP hS => ?_)
          obtain ⟨q111, e111, hres⟩ := obd hres
          refine cvI (q0 := 17) (ci := 1) hx hb hml hown hts hEo hE hK hP hS (kX1_canBeIn l D a cI cJ cS hd hEo par kin lea mos wrt tal siz tol hrs ags yea kpar kkin klea kmos kwrt ktal ksiz ktol khrs kags kyea isk tly gai bes low hig spn byt hld sta beh sor num fnd sbi she snu q108 q111 e111) gX5_years_X1_canBeIn rfl hdX1_canBeIn rfl rfl rfl ⟨rfl, rfl⟩ ⟨Nat.le_of_ble_eq_true rfl, Nat.le_of_ble_eq_true rfl⟩ ⟨Nat.zero_le _, Nat.zero_le _⟩ rfl hl.1 rfl (Nat.le_of_ble_eq_true rfl) dX5_years_111 (fun H locs hP hS => ?_)
          refine lv_if_ne (tgt := 120) hx hb dX5_years_114 (by decide) (fun c114 => ?_) (fun c114 => ?_)
          · have hres := (itl hres).2 c114
            exact b120 x2 x4 hres _ _ _ hP hS (lv_sub hl [0, 1, 2, 3, 4] rfl)
          · have hres := (itl hres).1 c114
            refine lv_iinc (v := x2 + 1) (lv' := [(2, .int (x2 + 1)), (0, .ref (a 0)), (1, .int x1), (3, .int x3), (4, .int x4)]) hx hb dX5_years_117 hl (k := 2) rfl (congrArg (fun z => x2 + z) (by decide)) (by decide) rfl (fun ls hl => ?_)
            exact b120 (x2 + 1) x4 hres _ _ _ hP hS (lv_sub hl [1, 2, 0, 3, 4] rfl)
    unfold fX5_years_l43 at hres
    refine lv_iload_n hx hb dX5_years_43 rfl (lv_at hl 3 rfl) ?_
    refine lv_aload_n hx hb dX5_years_44 rfl (lv_at hl 0 rfl) ?_
    refine gX_this5_now hx hb hown hw5 hK hP u2 dX5_years_45 ?_
    refine gX_now_tales hx hb hown hw3 hK hP u5 dX5_years_48 ?_
    refine lv_icmp_ge (tgt := 132) hx hb dX5_years_51 (by decide) (fun c51 => ?_) (fun c51 => ?_)
    · have hres := (itl hres).1 c51
      exact b132 ags yea low hig spn fnd x2 hres _ _ _ hP hS (lv_sub hl [0, 1, 2] rfl)
    · have hres := (itl hres).2 c51
      refine lv_aload_n hx hb dX5_years_54 rfl (lv_at hl 0 rfl) ?_
      refine gX_this5_sayings hx hb hown hw5 hK hP u6 dX5_years_55 ?_
      refine lv_iload_n hx hb dX5_years_58 rfl (lv_at hl 3 rfl) ?_
      obtain ⟨q59, e59, hres⟩ := obd hres
      refine cvV (q0 := 17) (ci := 1) hx hb hml hown hts hEo hE hK hP hS (kX1_spanWords l D a cI cJ cS hd hEo par kin lea mos wrt tal siz tol hrs ags yea kpar kkin klea kmos kwrt ktal ksiz ktol khrs kags kyea isk tly gai bes low hig spn byt hld sta beh sor num fnd sbi she snu x3 q59 e59) gX5_years_X1_spanWords rfl hdX1_spanWords rfl rfl rfl ⟨rfl, rfl⟩ ⟨Nat.le_of_ble_eq_true rfl, Nat.le_of_ble_eq_true rfl⟩ ⟨Nat.zero_le _, Nat.zero_le _⟩ rfl hl.1 rfl (Nat.le_of_ble_eq_true rfl) dX5_years_59 (fun H locs hP hS => ?_)
      refine lv_iconst (v := 0) hx hb dX5_years_62 (by decide) ?_
      refine lv_istore (lv' := [(4, .int (0 : Int32)), (0, .ref (a 0)), (1, .int x1), (2, .int x2), (3, .int x3)]) hx hb dX5_years_63 hl (by decide) rfl (fun ls hl => ?_)
      exact b65 q59.1 q59.2.1 q59.2.2 x3 2000 x2 (0 : Int32) hres _ _ _ hP hS (lv_sub hl [1, 2, 3, 4, 0] rfl)
  unfold fX5_years at hres
  refine lv_iload_n hx hb dX5_years_0 rfl (lv_at hl 1 rfl) ?_
  refine lv_iconst (v := 1) hx hb dX5_years_1 (by decide) ?_
  refine lv_bipush (v := 60) hx hb dX5_years_2 (by decide) ?_
  refine csI hx hb hml hown hts hEo hE hK hP hS (kX5_isIn l D a cI cJ cS hd hEo par kin lea mos wrt tal siz tol hrs ags yea kpar kkin klea kmos kwrt ktal ksiz ktol khrs kags kyea isk tly gai bes low hig spn byt hld sta beh sor num fnd sbi she snu x1 (1 : Int32) (60 : Int32)) gX5_years_X5_isIn rfl hdX5_isIn ⟨rfl, rfl⟩ ⟨Nat.le_of_ble_eq_true rfl, Nat.le_of_ble_eq_true rfl⟩ ⟨Nat.zero_le _, Nat.zero_le _⟩ rfl hl.1 rfl (Nat.le_of_ble_eq_true rfl) dX5_years_4 (fun H locs hP hS => ?_)
  refine lv_if_ne (tgt := 17) hx hb dX5_years_7 (by decide) (fun c7 => ?_) (fun c7 => ?_)
  · have hres := (itl hres).2 c7
    refine lv_aload_n hx hb dX5_years_17 rfl (lv_at hl 0 rfl) ?_
    refine gX_this5_now hx hb hown hw5 hK hP u2 dX5_years_18 ?_
    refine gX_now_year hx hb hown hw3 hK hP u3 dX5_years_21 ?_
    refine lv_iload_n hx hb dX5_years_24 rfl (lv_at hl 1 rfl) ?_
    refine lv_iadd hx hb dX5_years_25 ?_
    refine lv_sipush (v := 999) hx hb dX5_years_26 (by decide) ?_
    refine lv_icmp_le (tgt := 39) hx hb dX5_years_29 (by decide) (fun c29 => ?_) (fun c29 => ?_)
    · have hres := (itl hres).1 c29
      refine lv_iconst (v := 0) hx hb dX5_years_39 (by decide) ?_
      refine lv_istore_n (lv' := [(2, .int (0 : Int32)), (0, .ref (a 0)), (1, .int x1)]) hx hb dX5_years_40 rfl hl (by decide) rfl (fun ls hl => ?_)
      refine lv_iconst (v := 0) hx hb dX5_years_41 (by decide) ?_
      refine lv_istore_n (lv' := [(3, .int (0 : Int32)), (2, .int (0 : Int32)), (0, .ref (a 0)), (1, .int x1)]) hx hb dX5_years_42 rfl hl (by decide) rfl (fun ls hl => ?_)
      exact b43 ags yea fnd 2000 (0 : Int32) (0 : Int32) low hig spn hres _ _ _ hP hS (lv_sub hl [2, 3, 1, 0] rfl)
    · have hres := (itl hres).2 c29
      refine lv_aload_n hx hb dX5_years_32 rfl (lv_at hl 0 rfl) ?_
      refine lv_ldc hx hb hown u4 dX5_years_33 ?_
      obtain ⟨q35, e35, hres⟩ := obd hres
      refine cvI (q0 := 0) (ci := 5) hx hb hml hown hts hEo hE hK hP hS (kX5_found l D a cI cJ cS hd hEo par kin lea mos wrt tal siz tol hrs ags yea kpar kkin klea kmos kwrt ktal ksiz ktol khrs kags kyea isk tly gai bes low hig spn byt hld sta beh sor num fnd sbi she snu (-1000000005 : Int32) q35 e35) gX5_years_X5_found rfl hdX5_found rfl rfl rfl ⟨rfl, rfl⟩ ⟨Nat.le_of_ble_eq_true rfl, Nat.le_of_ble_eq_true rfl⟩ ⟨Nat.zero_le _, Nat.zero_le _⟩ rfl hl.1 rfl (Nat.le_of_ble_eq_true rfl) dX5_years_35 (fun H locs hP hS => ?_)
      exact hQ ▸ rtI (v := q35.1)  hx hb hr hlk hP hS (by rw [← (Option.some.inj hres)]) (by rw [← (Option.some.inj hres)]) dX5_years_38
  · have hres := (itl hres).1 c7
    refine lv_aload_n hx hb dX5_years_10 rfl (lv_at hl 0 rfl) ?_
    refine lv_ldc hx hb hown u1 dX5_years_11 ?_
    obtain ⟨q13, e13, hres⟩ := obd hres
    refine cvI (q0 := 0) (ci := 5) hx hb hml hown hts hEo hE hK hP hS (kX5_found l D a cI cJ cS hd hEo par kin lea mos wrt tal siz tol hrs ags yea kpar kkin klea kmos kwrt ktal ksiz ktol khrs kags kyea isk tly gai bes low hig spn byt hld sta beh sor num fnd sbi she snu (-1000000001 : Int32) q13 e13) gX5_years_X5_found rfl hdX5_found rfl rfl rfl ⟨rfl, rfl⟩ ⟨Nat.le_of_ble_eq_true rfl, Nat.le_of_ble_eq_true rfl⟩ ⟨Nat.zero_le _, Nat.zero_le _⟩ rfl hl.1 rfl (Nat.le_of_ble_eq_true rfl) dX5_years_13 (fun H locs hP hS => ?_)
    exact hQ ▸ rtI (v := q13.1)  hx hb hr hlk hP hS (by rw [← (Option.some.inj hres)]) (by rw [← (Option.some.inj hres)]) dX5_years_16
def fX5_firstYear_l11 (ags : Nat → Int32) (low : Nat → Int64) (hig : Nat → Int64) (spn : Int32) (x2 : Int32) (x3 : Bool) (K11 : Int32 → Option (Int32 × (Nat → Int64) × (Nat → Int64) × Int32)) (x4 : Int32) : Option (Int32 × (Nat → Int64) × (Nat → Int64) × Int32) :=
  if (99 : Int32) < x4 then some ((100 : Int32), low, hig, spn) else (fX3_ageIn ags x2 x4).bind fun q29 => (fX1_canBeIn low hig spn q29).bind fun q32 => if (bI q32) = (bI x3) then some (x4, low, hig, spn) else K11 (x4 + 1)
def fX5_firstYear (kin : Nat → Int32) (lea : Nat → Int32) (mos : Nat → Int32) (siz : Nat → Int32) (tol : Nat → Int32) (ags : Nat → Int32) (low : Nat → Int64) (hig : Nat → Int64) (spn : Int32) (x1 : Int32) (x2 : Int32) (x3 : Bool) : Option (Int32 × (Nat → Int64) × (Nat → Int64) × Int32) :=
 (fX1_spanWords kin lea mos siz tol low hig spn x1).bind fun q5 => fix1 (fX5_firstYear_l11 ags q5.1 q5.2.1 q5.2.2 x2 x3) 2000 (0 : Int32)
abbrev rX5_firstYear : Room := { frames := 3, cells := 0, slots := 0, locals := 66 }
set_option maxHeartbeats 4000000 in
set_option maxRecDepth 100000 in
theorem kX5_firstYear (l : Launch) (D : va_G) (a : Nat → Nat) (cI cJ cS : ClassId) (hd : aok a 36) {Env : (Nat → Prop) → State → Heap → Prop} (hEo : envOK Env) (par : Int32) (kin lea mos wrt : Nat → Int32) (tal : Int32) (siz tol : Nat → Int32) (hrs : Int32) (ags : Nat → Int32) (yea kpar : Int32) (kkin klea kmos kwrt : Nat → Int32) (ktal : Int32) (ksiz ktol : Nat → Int32) (khrs : Int32) (kags : Nat → Int32) (kyea isk : Int32) (tly : Nat → Int64) (gai bes : Nat → Int32) (low hig : Nat → Int64) (spn : Int32) (byt : Nat → Int32) (hld sta beh sor num : Int32) (fnd sbi she : Nat → Int32) (snu : Nat → Nat → Int64) (x1 : Int32) (x2 : Int32) (x3 : Bool) (res : Int32 × (Nat → Int64) × (Nat → Int64) × Int32) (hres : fX5_firstYear kin lea mos siz tol ags low hig spn x1 x2 x3 = some res) : CtI l D (tyL cI cJ cS) 36 a Env yX5_firstYear wsX5_firstYear rX5_firstYear [.ref (a 0), .int x1, .int x2, .int (bI x3)] (wX a cI cJ cS par kin lea mos wrt tal siz tol hrs ags yea kpar kkin klea kmos kwrt ktal ksiz ktol khrs kags kyea isk tly gai bes low hig spn byt hld sta beh sor num fnd sbi she snu) (wX a cI cJ cS par kin lea mos wrt tal siz tol hrs ags yea kpar kkin klea kmos kwrt ktal ksiz ktol khrs kags kyea isk tly gai bes res.2.1 res.2.2.1 res.2.2.2 byt hld sta beh sor num fnd sbi she snu) res.1 := by
  refine CtI_mk (cc := cX5_firstYear) (maxL := 5) (ret := (some .int)) (by decide) rfl (Nat.le_of_ble_eq_true rfl) ?_
  intro p e s m args below meth c ls hx hb hr hlk hml hown hts hP hK hE hl
  have hS : va_S (adA a 36 s.heap.size) s.heap s.heap [] := va_S.rf
  have hl : lv_has ls 5 [(0, .ref (a 0)), (1, .int x1), (2, .int x2), (3, .int (bI x3))] := hl
  have hown : s.vm.findClass RX5 = some m.cls := hown
  have hw5 : ∀ w ∈ wsX50, w.before args s = true := fun w h => hts w (List.mem_cons_of_mem _ (List.mem_append_left _ (List.mem_append_left _ (List.mem_append_right _ h))))
  have u1 : (Cond.fieldLink RX5 28 "YearWords" "sayings" "LYearWords$Sayings;").before args s = true := hts _ (List.mem_of_getElem? (i := 1) (by decide +kernel))
  have u2 : (Cond.fieldLink RX5 12 "YearWords" "now" "LYearWords$Stock;").before args s = true := hts _ (List.mem_of_getElem? (i := 2) (by decide +kernel))
  obtain ⟨Q, hQ⟩ : ∃ Q, Q = mqI below D 36 a args s (wX a cI cJ cS par kin lea mos wrt tal siz tol hrs ags yea kpar kkin klea kmos kwrt ktal ksiz ktol khrs kags kyea isk tly gai bes res.2.1 res.2.2.1 res.2.2.2 byt hld sta beh sor num fnd sbi she snu) res.1 := ⟨_, rfl⟩
  rw [← hQ]
  have b11 : ∀ (low : Nat → Int64) (hig : Nat → Int64) (spn : Int32) (n : Nat) (x4 : Int32), fix1 (fX5_firstYear_l11 ags low hig spn x2 x3) n x4 = some res → ∀ (H : Heap) (locs : List Loc) (ls : Array Slot), va_P D vwCl (wX a cI cJ cS par kin lea mos wrt tal siz tol hrs ags yea kpar kkin klea kmos kwrt ktal ksiz ktol khrs kags kyea isk tly gai bes low hig spn byt hld sta beh sor num fnd sbi she snu) H → va_S (adA a 36 s.heap.size) s.heap H locs → lv_has ls 5 [(0, .ref (a 0)), (2, .int x2), (3, .int (bI x3)), (4, .int x4)] → W p l e rX5_firstYear s m args below meth c H locs 0 0 Q (F0 m 11 ls []) := by
    intro low hig spn
    refine fix1_r ?_
    intro K11 hK11 x4 hres H locs ls hP hS hl
    unfold fX5_firstYear_l11 at hres
    refine lv_iload hx hb dX5_firstYear_11 (lv_at hl 3 rfl) ?_
    refine lv_bipush (v := 99) hx hb dX5_firstYear_13 (by decide) ?_
    refine lv_icmp_gt (tgt := 48) hx hb dX5_firstYear_15 (by decide) (fun c15 => ?_) (fun c15 => ?_)
    · have hres := (itl hres).1 c15
      refine lv_bipush (v := 100) hx hb dX5_firstYear_48 (by decide) ?_
      exact hQ ▸ rtI (v := (100 : Int32))  hx hb hr hlk hP hS (by rw [← (Option.some.inj hres)]) (by rw [← (Option.some.inj hres)]) dX5_firstYear_50
    · have hres := (itl hres).2 c15
      refine lv_aload_n hx hb dX5_firstYear_18 rfl (lv_at hl 0 rfl) ?_
      refine gX_this5_sayings hx hb hown hw5 hK hP u1 dX5_firstYear_19 ?_
      refine lv_aload_n hx hb dX5_firstYear_22 rfl (lv_at hl 0 rfl) ?_
      refine gX_this5_now hx hb hown hw5 hK hP u2 dX5_firstYear_23 ?_
      refine lv_iload_n hx hb dX5_firstYear_26 rfl (lv_at hl 1 rfl) ?_
      refine lv_iload hx hb dX5_firstYear_27 (lv_at hl 3 rfl) ?_
      obtain ⟨q29, e29, hres⟩ := obd hres
      refine cvI (q0 := 1) (ci := 3) hx hb hml hown hts hEo hE hK hP hS (kX3_ageIn l D a cI cJ cS hd hEo par kin lea mos wrt tal siz tol hrs ags yea kpar kkin klea kmos kwrt ktal ksiz ktol khrs kags kyea isk tly gai bes low hig spn byt hld sta beh sor num fnd sbi she snu x2 x4 q29 e29) gX5_firstYear_X3_ageIn rfl hdX3_ageIn rfl rfl rfl ⟨rfl, rfl⟩ ⟨Nat.le_of_ble_eq_true rfl, Nat.le_of_ble_eq_true rfl⟩ ⟨Nat.zero_le _, Nat.zero_le _⟩ rfl hl.1 rfl (Nat.le_of_ble_eq_true rfl) dX5_firstYear_29 (fun H locs hP hS => ?_)
      obtain ⟨q32, e32, hres⟩ := obd hres
      refine cvI (q0 := 17) (ci := 1) hx hb hml hown hts hEo hE hK hP hS (kX1_canBeIn l D a cI cJ cS hd hEo par kin lea mos wrt tal siz tol hrs ags yea kpar kkin klea kmos kwrt ktal ksiz ktol khrs kags kyea isk tly gai bes low hig spn byt hld sta beh sor num fnd sbi she snu q29 q32 e32) gX5_firstYear_X1_canBeIn rfl hdX1_canBeIn rfl rfl rfl ⟨rfl, rfl⟩ ⟨Nat.le_of_ble_eq_true rfl, Nat.le_of_ble_eq_true rfl⟩ ⟨Nat.zero_le _, Nat.zero_le _⟩ rfl hl.1 rfl (Nat.le_of_ble_eq_true rfl) dX5_firstYear_32 (fun H locs hP hS => ?_)
      refine lv_iload_n hx hb dX5_firstYear_35 rfl (lv_at hl 2 rfl) ?_
      refine lv_icmp_ne (tgt := 42) hx hb dX5_firstYear_36 (by decide) (fun c36 => ?_) (fun c36 => ?_)
      · have hres := (itl hres).2 c36
        refine lv_iinc (v := x4 + 1) (lv' := [(4, .int (x4 + 1)), (0, .ref (a 0)), (2, .int x2), (3, .int (bI x3))]) hx hb dX5_firstYear_42 hl (k := 3) rfl (congrArg (fun z => x4 + z) (by decide)) (by decide) rfl (fun ls hl => ?_)
        refine lv_goto (tgt := 11) hx hb dX5_firstYear_45 (by decide) ?_
        exact hK11 (x4 + 1) hres _ _ _ hP hS (lv_sub hl [1, 2, 3, 0] rfl)
      · have hres := (itl hres).1 c36
        refine lv_iload hx hb dX5_firstYear_39 (lv_at hl 3 rfl) ?_
        exact hQ ▸ rtI (v := x4)  hx hb hr hlk hP hS (by rw [← (Option.some.inj hres)]) (by rw [← (Option.some.inj hres)]) dX5_firstYear_41
  unfold fX5_firstYear at hres
  refine lv_aload_n hx hb dX5_firstYear_0 rfl (lv_at hl 0 rfl) ?_
  refine gX_this5_sayings hx hb hown hw5 hK hP u1 dX5_firstYear_1 ?_
  refine lv_iload_n hx hb dX5_firstYear_4 rfl (lv_at hl 1 rfl) ?_
  obtain ⟨q5, e5, hres⟩ := obd hres
  refine cvV (q0 := 17) (ci := 1) hx hb hml hown hts hEo hE hK hP hS (kX1_spanWords l D a cI cJ cS hd hEo par kin lea mos wrt tal siz tol hrs ags yea kpar kkin klea kmos kwrt ktal ksiz ktol khrs kags kyea isk tly gai bes low hig spn byt hld sta beh sor num fnd sbi she snu x1 q5 e5) gX5_firstYear_X1_spanWords rfl hdX1_spanWords rfl rfl rfl ⟨rfl, rfl⟩ ⟨Nat.le_of_ble_eq_true rfl, Nat.le_of_ble_eq_true rfl⟩ ⟨Nat.zero_le _, Nat.zero_le _⟩ rfl hl.1 rfl (Nat.le_of_ble_eq_true rfl) dX5_firstYear_5 (fun H locs hP hS => ?_)
  refine lv_iconst (v := 0) hx hb dX5_firstYear_8 (by decide) ?_
  refine lv_istore (lv' := [(4, .int (0 : Int32)), (0, .ref (a 0)), (1, .int x1), (2, .int x2), (3, .int (bI x3))]) hx hb dX5_firstYear_9 hl (by decide) rfl (fun ls hl => ?_)
  exact b11 q5.1 q5.2.1 q5.2.2 2000 (0 : Int32) hres _ _ _ hP hS (lv_sub hl [1, 3, 4, 0] rfl)
def fX5_when_b22 (low : Nat → Int64) (hig : Nat → Int64) (spn : Int32) (fnd : Nat → Int32) : Option (Int32 × (Nat → Int64) × (Nat → Int64) × Int32 × (Nat → Int32)) :=
 (fX5_found fnd (-1000000001 : Int32)).bind fun q25 => some (q25.1, low, hig, spn, q25.2)
def fX5_when (kin : Nat → Int32) (lea : Nat → Int32) (mos : Nat → Int32) (tal : Int32) (siz : Nat → Int32) (tol : Nat → Int32) (hrs : Int32) (ags : Nat → Int32) (low : Nat → Int64) (hig : Nat → Int64) (spn : Int32) (fnd : Nat → Int32) (x1 : Int32) (x2 : Int32) : Option (Int32 × (Nat → Int64) × (Nat → Int64) × Int32 × (Nat → Int32)) :=
  if (bI (fX3_hasTale tal x1)) = 0 then fX5_when_b22 low hig spn fnd else if (bI (fX3_hasHearer hrs x2)) = 0 then fX5_when_b22 low hig spn fnd else (fX5_firstYear kin lea mos siz tol ags low hig spn x1 x2 true).bind fun q33 => if q33.1 ≤ (99 : Int32) then some (q33.1, q33.2.1, q33.2.2.1, q33.2.2.2, fnd) else (fX5_found fnd (-1000000004 : Int32)).bind fun q46 => some (q46.1, q33.2.1, q33.2.2.1, q33.2.2.2, q46.2)
theorem hdX5_firstYear : yX5_firstYear.cls = RX5 ∧ yX5_firstYear.cls ≠ "java/lang/invoke/MethodHandle" ∧ yX5_firstYear.cls ≠ "java/lang/invoke/VarHandle" ∧ (parseMethodDescriptor yX5_firstYear.desc).map (fun d => d.parameters.length) = some 3 := by decide +kernel
abbrev rX5_when : Room := { frames := 4, cells := 0, slots := 0, locals := 90 }
set_option maxHeartbeats 4000000 in
set_option maxRecDepth 100000 in
theorem kX5_when (l : Launch) (D : va_G) (a : Nat → Nat) (cI cJ cS : ClassId) (hd : aok a 36) {Env : (Nat → Prop) → State → Heap → Prop} (hEo : envOK Env) (par : Int32) (kin lea mos wrt : Nat → Int32) (tal : Int32) (siz tol : Nat → Int32) (hrs : Int32) (ags : Nat → Int32) (yea kpar : Int32) (kkin klea kmos kwrt : Nat → Int32) (ktal : Int32) (ksiz ktol : Nat → Int32) (khrs : Int32) (kags : Nat → Int32) (kyea isk : Int32) (tly : Nat → Int64) (gai bes : Nat → Int32) (low hig : Nat → Int64) (spn : Int32) (byt : Nat → Int32) (hld sta beh sor num : Int32) (fnd sbi she : Nat → Int32) (snu : Nat → Nat → Int64) (x1 : Int32) (x2 : Int32) (res : Int32 × (Nat → Int64) × (Nat → Int64) × Int32 × (Nat → Int32)) (hres : fX5_when kin lea mos tal siz tol hrs ags low hig spn fnd x1 x2 = some res) : CtI l D (tyL cI cJ cS) 36 a Env yX5_when wsX5_when rX5_when [.ref (a 0), .int x1, .int x2] (wX a cI cJ cS par kin lea mos wrt tal siz tol hrs ags yea kpar kkin klea kmos kwrt ktal ksiz ktol khrs kags kyea isk tly gai bes low hig spn byt hld sta beh sor num fnd sbi she snu) (wX a cI cJ cS par kin lea mos wrt tal siz tol hrs ags yea kpar kkin klea kmos kwrt ktal ksiz ktol khrs kags kyea isk tly gai bes res.2.1 res.2.2.1 res.2.2.2.1 byt hld sta beh sor num res.2.2.2.2 sbi she snu) res.1 := by
  refine CtI_mk (cc := cX5_when) (maxL := 4) (ret := (some .int)) (by decide) rfl (Nat.le_of_ble_eq_true rfl) ?_
  intro p e s m args below meth c ls hx hb hr hlk hml hown hts hP hK hE hl
  have hS : va_S (adA a 36 s.heap.size) s.heap s.heap [] := va_S.rf
  have hl : lv_has ls 4 [(0, .ref (a 0)), (1, .int x1), (2, .int x2)] := hl
  have hown : s.vm.findClass RX5 = some m.cls := hown
  have hw5 : ∀ w ∈ wsX50, w.before args s = true := fun w h => hts w (List.mem_cons_of_mem _ (List.mem_append_left _ (List.mem_append_left _ (List.mem_append_right _ h))))
  have u1 : (Cond.fieldLink RX5 12 "YearWords" "now" "LYearWords$Stock;").before args s = true := hts _ (List.mem_of_getElem? (i := 1) (by decide +kernel))
  have u2 : (Cond.constant RX5 63 (-1000000001)).before args s = true := hts _ (List.mem_of_getElem? (i := 2) (by decide +kernel))
  have u3 : (Cond.constant RX5 129 (-1000000004)).before args s = true := hts _ (List.mem_of_getElem? (i := 3) (by decide +kernel))
  obtain ⟨Q, hQ⟩ : ∃ Q, Q = mqI below D 36 a args s (wX a cI cJ cS par kin lea mos wrt tal siz tol hrs ags yea kpar kkin klea kmos kwrt ktal ksiz ktol khrs kags kyea isk tly gai bes res.2.1 res.2.2.1 res.2.2.2.1 byt hld sta beh sor num res.2.2.2.2 sbi she snu) res.1 := ⟨_, rfl⟩
  rw [← hQ]
  have b22 : ∀ (low : Nat → Int64) (hig : Nat → Int64) (spn : Int32) (fnd : Nat → Int32), fX5_when_b22 low hig spn fnd = some res → ∀ (H : Heap) (locs : List Loc) (ls : Array Slot), va_P D vwCl (wX a cI cJ cS par kin lea mos wrt tal siz tol hrs ags yea kpar kkin klea kmos kwrt ktal ksiz ktol khrs kags kyea isk tly gai bes low hig spn byt hld sta beh sor num fnd sbi she snu) H → va_S (adA a 36 s.heap.size) s.heap H locs → lv_has ls 4 [(0, .ref (a 0))] → W p l e rX5_when s m args below meth c H locs 0 0 Q (F0 m 22 ls []) := by
    intro low hig spn fnd hres H locs ls hP hS hl
    unfold fX5_when_b22 at hres
    refine lv_aload_n hx hb dX5_when_22 rfl (lv_at hl 0 rfl) ?_
    refine lv_ldc hx hb hown u2 dX5_when_23 ?_
    obtain ⟨q25, e25, hres⟩ := obd hres
    refine cvI (q0 := 0) (ci := 5) hx hb hml hown hts hEo hE hK hP hS (kX5_found l D a cI cJ cS hd hEo par kin lea mos wrt tal siz tol hrs ags yea kpar kkin klea kmos kwrt ktal ksiz ktol khrs kags kyea isk tly gai bes low hig spn byt hld sta beh sor num fnd sbi she snu (-1000000001 : Int32) q25 e25) gX5_when_X5_found rfl hdX5_found rfl rfl rfl ⟨rfl, rfl⟩ ⟨Nat.le_of_ble_eq_true rfl, Nat.le_of_ble_eq_true rfl⟩ ⟨Nat.zero_le _, Nat.zero_le _⟩ rfl hl.1 rfl (Nat.le_of_ble_eq_true rfl) dX5_when_25 (fun H locs hP hS => ?_)
    exact hQ ▸ rtI (v := q25.1)  hx hb hr hlk hP hS (by rw [← (Option.some.inj hres)]) (by rw [← (Option.some.inj hres)]) dX5_when_28
  unfold fX5_when at hres
  refine lv_aload_n hx hb dX5_when_0 rfl (lv_at hl 0 rfl) ?_
  refine gX_this5_now hx hb hown hw5 hK hP u1 dX5_when_1 ?_
  refine lv_iload_n hx hb dX5_when_4 rfl (lv_at hl 1 rfl) ?_
  refine cvI (q0 := 1) (ci := 3) hx hb hml hown hts hEo hE hK hP hS (kX3_hasTale l D a cI cJ cS hd hEo par kin lea mos wrt tal siz tol hrs ags yea kpar kkin klea kmos kwrt ktal ksiz ktol khrs kags kyea isk tly gai bes low hig spn byt hld sta beh sor num fnd sbi she snu x1) gX5_when_X3_hasTale rfl hdX3_hasTale rfl rfl rfl ⟨rfl, rfl⟩ ⟨Nat.le_of_ble_eq_true rfl, Nat.le_of_ble_eq_true rfl⟩ ⟨Nat.zero_le _, Nat.zero_le _⟩ rfl hl.1 rfl (Nat.le_of_ble_eq_true rfl) dX5_when_5 (fun H locs hP hS => ?_)
  refine lv_if_eq (tgt := 22) hx hb dX5_when_8 (by decide) (fun c8 => ?_) (fun c8 => ?_)
  · have hres := (itl hres).1 c8
    exact b22 low hig spn fnd hres _ _ _ hP hS (lv_sub hl [0] rfl)
  · have hres := (itl hres).2 c8
    refine lv_aload_n hx hb dX5_when_11 rfl (lv_at hl 0 rfl) ?_
    refine gX_this5_now hx hb hown hw5 hK hP u1 dX5_when_12 ?_
    refine lv_iload_n hx hb dX5_when_15 rfl (lv_at hl 2 rfl) ?_
    refine cvI (q0 := 1) (ci := 3) hx hb hml hown hts hEo hE hK hP hS (kX3_hasHearer l D a cI cJ cS hd hEo par kin lea mos wrt tal siz tol hrs ags yea kpar kkin klea kmos kwrt ktal ksiz ktol khrs kags kyea isk tly gai bes low hig spn byt hld sta beh sor num fnd sbi she snu x2) gX5_when_X3_hasHearer rfl hdX3_hasHearer rfl rfl rfl ⟨rfl, rfl⟩ ⟨Nat.le_of_ble_eq_true rfl, Nat.le_of_ble_eq_true rfl⟩ ⟨Nat.zero_le _, Nat.zero_le _⟩ rfl hl.1 rfl (Nat.le_of_ble_eq_true rfl) dX5_when_16 (fun H locs hP hS => ?_)
    refine lv_if_ne (tgt := 29) hx hb dX5_when_19 (by decide) (fun c19 => ?_) (fun c19 => ?_)
    · have hres := (itl hres).2 c19
      refine lv_aload_n hx hb dX5_when_29 rfl (lv_at hl 0 rfl) ?_
      refine lv_iload_n hx hb dX5_when_30 rfl (lv_at hl 1 rfl) ?_
      refine lv_iload_n hx hb dX5_when_31 rfl (lv_at hl 2 rfl) ?_
      refine lv_iconst (v := 1) hx hb dX5_when_32 (by decide) ?_
      obtain ⟨q33, e33, hres⟩ := obd hres
      refine cvI (q0 := 0) (ci := 5) hx hb hml hown hts hEo hE hK hP hS (kX5_firstYear l D a cI cJ cS hd hEo par kin lea mos wrt tal siz tol hrs ags yea kpar kkin klea kmos kwrt ktal ksiz ktol khrs kags kyea isk tly gai bes low hig spn byt hld sta beh sor num fnd sbi she snu x1 x2 true q33 e33) gX5_when_X5_firstYear rfl hdX5_firstYear rfl rfl rfl ⟨rfl, rfl⟩ ⟨Nat.le_of_ble_eq_true rfl, Nat.le_of_ble_eq_true rfl⟩ ⟨Nat.zero_le _, Nat.zero_le _⟩ rfl hl.1 rfl (Nat.le_of_ble_eq_true rfl) dX5_when_33 (fun H locs hP hS => ?_)
      refine lv_istore_n (lv' := [(3, .int q33.1), (0, .ref (a 0)), (1, .int x1), (2, .int x2)]) hx hb dX5_when_36 rfl hl (by decide) rfl (fun ls hl => ?_)
      refine lv_iload_n hx hb dX5_when_37 rfl (lv_at hl 0 rfl) ?_
      refine lv_bipush (v := 99) hx hb dX5_when_38 (by decide) ?_
      refine lv_icmp_le (tgt := 52) hx hb dX5_when_40 (by decide) (fun c40 => ?_) (fun c40 => ?_)
      · have hres := (itl hres).1 c40
        refine lv_iload_n hx hb dX5_when_52 rfl (lv_at hl 0 rfl) ?_
        exact hQ ▸ rtI (v := q33.1)  hx hb hr hlk hP hS (by rw [← (Option.some.inj hres)]) (by rw [← (Option.some.inj hres)]) dX5_when_53
      · have hres := (itl hres).2 c40
        refine lv_aload_n hx hb dX5_when_43 rfl (lv_at hl 1 rfl) ?_
        refine lv_ldc hx hb hown u3 dX5_when_44 ?_
        obtain ⟨q46, e46, hres⟩ := obd hres
        refine cvI (q0 := 0) (ci := 5) hx hb hml hown hts hEo hE hK hP hS (kX5_found l D a cI cJ cS hd hEo par kin lea mos wrt tal siz tol hrs ags yea kpar kkin klea kmos kwrt ktal ksiz ktol khrs kags kyea isk tly gai bes q33.2.1 q33.2.2.1 q33.2.2.2 byt hld sta beh sor num fnd sbi she snu (-1000000004 : Int32) q46 e46) gX5_when_X5_found rfl hdX5_found rfl rfl rfl ⟨rfl, rfl⟩ ⟨Nat.le_of_ble_eq_true rfl, Nat.le_of_ble_eq_true rfl⟩ ⟨Nat.zero_le _, Nat.zero_le _⟩ rfl hl.1 rfl (Nat.le_of_ble_eq_true rfl) dX5_when_46 (fun H locs hP hS => ?_)
        refine lv_goto (tgt := 53) hx hb dX5_when_49 (by decide) ?_
        exact hQ ▸ rtI (v := q46.1)  hx hb hr hlk hP hS (by rw [← (Option.some.inj hres)]) (by rw [← (Option.some.inj hres)]) dX5_when_53
    · have hres := (itl hres).1 c19
      exact b22 low hig spn fnd hres _ _ _ hP hS (lv_sub hl [0] rfl)
