def fX5_judge_b67 (x6 : Int32) : Option (Int32) :=
  some ((1 : Int32) + x6)
def fX5_judge_b86 (she : Nat → Int32) (x1 : Int32) (x3 : Int32) (x4 : Int32) (x5 : Int32) : Option (Int32) :=
  if x4 ≤ (she x1.toNatClampNeg) then if x5 = x3 then some (0 : Int32) else some (41 : Int32) else some ((1 : Int32) + (she x1.toNatClampNeg))
def fX5_judge_l17 (kin : Nat → Int32) (lea : Nat → Int32) (mos : Nat → Int32) (tol : Nat → Int32) (she : Nat → Int32) (snu : Nat → Nat → Int64) (x1 : Int32) (x2 : Int32) (x3 : Int32) (x4 : Int32) (K17 : Int32 → Int32 → Option (Int32)) (x5 : Int32) (x6 : Int32) : Option (Int32) :=
  if (she x1.toNatClampNeg) ≤ x6 then fX5_judge_b86 she x1 x3 x4 x5 else gd (ib x6 40) (if x4 ≤ x6 then fX5_judge_b67 x6 else (fX3_toldAt tol x2 x6).bind fun q53 => (fX3_lengthsOf kin lea mos q53).bind fun q56 => if (bI (fX5_isLength q56 (snu x1.toNatClampNeg x6.toNatClampNeg))) = 0 then fX5_judge_b67 x6 else K17 (x5 + ((snu x1.toNatClampNeg x6.toNatClampNeg).toInt32)) (x6 + 1))
def fX5_judge (kin : Nat → Int32) (lea : Nat → Int32) (mos : Nat → Int32) (siz : Nat → Int32) (tol : Nat → Int32) (she : Nat → Int32) (snu : Nat → Nat → Int64) (x1 : Int32) (x2 : Int32) (x3 : Int32) : Option (Int32) :=
  gd (ib x2 8) (fix2 (fX5_judge_l17 kin lea mos tol she snu x1 x2 x3 (siz x2.toNatClampNeg)) 2000 (0 : Int32) (0 : Int32))
abbrev rX5_judge : Room := { frames := 2, cells := 0, slots := 0, locals := 44 }
set_option maxHeartbeats 4000000 in
set_option maxRecDepth 100000 in
theorem kX5_judge (l : Launch) (D : va_G) (a : Nat → Nat) (cI cJ cS : ClassId) (hd : aok a 36) {Env : (Nat → Prop) → State → Heap → Prop} (hEo : envOK Env) (par : Int32) (kin lea mos wrt : Nat → Int32) (tal : Int32) (siz tol : Nat → Int32) (hrs : Int32) (ags : Nat → Int32) (yea kpar : Int32) (kkin klea kmos kwrt : Nat → Int32) (ktal : Int32) (ksiz ktol : Nat → Int32) (khrs : Int32) (kags : Nat → Int32) (kyea isk : Int32) (tly : Nat → Int64) (gai bes : Nat → Int32) (low hig : Nat → Int64) (spn : Int32) (byt : Nat → Int32) (hld sta beh sor num : Int32) (fnd sbi she : Nat → Int32) (snu : Nat → Nat → Int64) (x1 : Int32) (x2 : Int32) (x3 : Int32) (hi1 : vp_in x1 4) (res : Int32) (hres : fX5_judge kin lea mos siz tol she snu x1 x2 x3 = some res) : CtI l D (tyL cI cJ cS) 36 a Env yX5_judge wsX5_judge rX5_judge [.ref (a 0), .ref (a (28 + 2 * x1.toNatClampNeg)), .int x2, .int x3] (wX a cI cJ cS par kin lea mos wrt tal siz tol hrs ags yea kpar kkin klea kmos kwrt ktal ksiz ktol khrs kags kyea isk tly gai bes low hig spn byt hld sta beh sor num fnd sbi she snu) (wX a cI cJ cS par kin lea mos wrt tal siz tol hrs ags yea kpar kkin klea kmos kwrt ktal ksiz ktol khrs kags kyea isk tly gai bes low hig spn byt hld sta beh sor num fnd sbi she snu) res := by
  refine CtI_mk (cc := cX5_judge) (maxL := 9) (ret := (some .int)) (by decide) rfl (Nat.le_of_ble_eq_true rfl) ?_
  intro p e s m args below meth c ls hx hb hr hlk hml hown hts hP hK hE hl
  have hS : va_S (adA a 36 s.heap.size) s.heap s.heap [] := va_S.rf
  have hl : lv_has ls 9 [(0, .ref (a 0)), (1, .ref (a (28 + 2 * x1.toNatClampNeg))), (2, .int x2), (3, .int x3)] := hl
  have hown : s.vm.findClass RX5 = some m.cls := hown
  have hw2 : ∀ w ∈ wsX20, w.before args s = true := fun w h => hts w (List.mem_cons_of_mem _ (List.mem_append_right _ h))
  have hw3 : ∀ w ∈ wsX30, w.before args s = true := fun w h => hts w (List.mem_cons_of_mem _ (List.mem_append_left _ (List.mem_append_right _ h)))
  have hw5 : ∀ w ∈ wsX50, w.before args s = true := fun w h => hts w (List.mem_cons_of_mem _ (List.mem_append_left _ (List.mem_append_left _ (List.mem_append_right _ h))))
  have u1 : (Cond.fieldLink RX5 12 "YearWords" "now" "LYearWords$Stock;").before args s = true := hts _ (List.mem_of_getElem? (i := 1) (by decide +kernel))
  have u2 : (Cond.fieldLink RX5 123 "YearWords$Stock" "sizes" "[I").before args s = true := hts _ (List.mem_of_getElem? (i := 2) (by decide +kernel))
  have u3 : (Cond.fieldLink RX5 240 "YearWords$Sheet" "held" "I").before args s = true := hts _ (List.mem_of_getElem? (i := 3) (by decide +kernel))
  have u4 : (Cond.fieldLink RX5 250 "YearWords$Sheet" "numbers" "[J").before args s = true := hts _ (List.mem_of_getElem? (i := 4) (by decide +kernel))
  obtain ⟨Q, hQ⟩ : ∃ Q, Q = mqI below D 36 a args s (wX a cI cJ cS par kin lea mos wrt tal siz tol hrs ags yea kpar kkin klea kmos kwrt ktal ksiz ktol khrs kags kyea isk tly gai bes low hig spn byt hld sta beh sor num fnd sbi she snu) res := ⟨_, rfl⟩
  rw [← hQ]
  have b67 : ∀ (x6 : Int32), fX5_judge_b67 x6 = some res → ∀ (H : Heap) (locs : List Loc) (ls : Array Slot), va_P D vwCl (wX a cI cJ cS par kin lea mos wrt tal siz tol hrs ags yea kpar kkin klea kmos kwrt ktal ksiz ktol khrs kags kyea isk tly gai bes low hig spn byt hld sta beh sor num fnd sbi she snu) H → va_S (adA a 36 s.heap.size) s.heap H locs → lv_has ls 9 [(0, .ref (a 0)), (6, .int x6)] → W p l e rX5_judge s m args below meth c H locs 0 0 Q (F0 m 67 ls []) := by
    intro x6 hres H locs ls hP hS hl
    unfold fX5_judge_b67 at hres
    refine lv_iconst (v := 1) hx hb dX5_judge_67 (by decide) ?_
    refine lv_iload hx hb dX5_judge_68 (lv_at hl 1 rfl) ?_
    refine lv_iadd hx hb dX5_judge_70 ?_
    exact hQ ▸ rtI (v := (1 : Int32) + x6)  hx hb hr hlk hP hS (by rw [← (Option.some.inj hres)]) rfl dX5_judge_71
  have b86 : ∀ (x4 : Int32) (x5 : Int32), fX5_judge_b86 she x1 x3 x4 x5 = some res → vp_in x1 4 → ∀ (H : Heap) (locs : List Loc) (ls : Array Slot), va_P D vwCl (wX a cI cJ cS par kin lea mos wrt tal siz tol hrs ags yea kpar kkin klea kmos kwrt ktal ksiz ktol khrs kags kyea isk tly gai bes low hig spn byt hld sta beh sor num fnd sbi she snu) H → va_S (adA a 36 s.heap.size) s.heap H locs → lv_has ls 9 [(0, .ref (a 0)), (1, .ref (a (28 + 2 * x1.toNatClampNeg))), (3, .int x3), (4, .int x4), (5, .int x5)] → W p l e rX5_judge s m args below meth c H locs 0 0 Q (F0 m 86 ls []) := by
    intro x4 x5 hres hi1 H locs ls hP hS hl
    unfold fX5_judge_b86 at hres
    refine lv_aload_n hx hb dX5_judge_86 rfl (lv_at hl 1 rfl) ?_
    refine gX_sheet_held hx hb hown hw2 hK hP hi1 u3 dX5_judge_87 ?_
    refine lv_iload hx hb dX5_judge_90 (lv_at hl 3 rfl) ?_
    refine lv_icmp_ge (tgt := 102) hx hb dX5_judge_92 (by decide) (fun c92 => ?_) (fun c92 => ?_)
    · have hres := (itl hres).1 c92
      refine lv_iload hx hb dX5_judge_102 (lv_at hl 4 rfl) ?_
      refine lv_iload_n hx hb dX5_judge_104 rfl (lv_at hl 2 rfl) ?_
      refine lv_icmp_ne (tgt := 112) hx hb dX5_judge_105 (by decide) (fun c105 => ?_) (fun c105 => ?_)
      · have hres := (itl hres).2 c105
        refine lv_bipush (v := 41) hx hb dX5_judge_112 (by decide) ?_
        exact hQ ▸ rtI (v := (41 : Int32))  hx hb hr hlk hP hS (by rw [← (Option.some.inj hres)]) rfl dX5_judge_114
      · have hres := (itl hres).1 c105
        refine lv_iconst (v := 0) hx hb dX5_judge_108 (by decide) ?_
        refine lv_goto (tgt := 114) hx hb dX5_judge_109 (by decide) ?_
        exact hQ ▸ rtI (v := (0 : Int32))  hx hb hr hlk hP hS (by rw [← (Option.some.inj hres)]) rfl dX5_judge_114
    · have hres := (itl hres).2 c92
      refine lv_iconst (v := 1) hx hb dX5_judge_95 (by decide) ?_
      refine lv_aload_n hx hb dX5_judge_96 rfl (lv_at hl 1 rfl) ?_
      refine gX_sheet_held hx hb hown hw2 hK hP hi1 u3 dX5_judge_97 ?_
      refine lv_iadd hx hb dX5_judge_100 ?_
      exact hQ ▸ rtI (v := (1 : Int32) + (she x1.toNatClampNeg))  hx hb hr hlk hP hS (by rw [← (Option.some.inj hres)]) rfl dX5_judge_101
  have b17 : ∀ (x4 : Int32) (n : Nat) (x5 : Int32) (x6 : Int32), fix2 (fX5_judge_l17 kin lea mos tol she snu x1 x2 x3 x4) n x5 x6 = some res → vp_in x1 4 → ∀ (H : Heap) (locs : List Loc) (ls : Array Slot), va_P D vwCl (wX a cI cJ cS par kin lea mos wrt tal siz tol hrs ags yea kpar kkin klea kmos kwrt ktal ksiz ktol khrs kags kyea isk tly gai bes low hig spn byt hld sta beh sor num fnd sbi she snu) H → va_S (adA a 36 s.heap.size) s.heap H locs → lv_has ls 9 [(0, .ref (a 0)), (1, .ref (a (28 + 2 * x1.toNatClampNeg))), (2, .int x2), (3, .int x3), (4, .int x4), (5, .int x5), (6, .int x6)] → W p l e rX5_judge s m args below meth c H locs 0 0 Q (F0 m 17 ls []) := by
    intro x4
    refine fix2_r ?_
    intro K17 hK17 x5 x6 hres hi1 H locs ls hP hS hl
    unfold fX5_judge_l17 at hres
    refine lv_iload hx hb dX5_judge_17 (lv_at hl 6 rfl) ?_
    refine lv_aload_n hx hb dX5_judge_19 rfl (lv_at hl 1 rfl) ?_
    refine gX_sheet_held hx hb hown hw2 hK hP hi1 u3 dX5_judge_20 ?_
    refine lv_icmp_ge (tgt := 86) hx hb dX5_judge_23 (by decide) (fun c23 => ?_) (fun c23 => ?_)
    · have hres := (itl hres).1 c23
      exact b86 x4 x5 hres hi1 _ _ _ hP hS (lv_sub hl [0, 1, 3, 4, 5] rfl)
    · have hres := (itl hres).2 c23
      refine lv_aload_n hx hb dX5_judge_26 rfl (lv_at hl 1 rfl) ?_
      refine gX_sheet_numbers hx hb hown hw2 hK hP hi1 u4 dX5_judge_27 ?_
      refine lv_iload hx hb dX5_judge_30 (lv_at hl 6 rfl) ?_
      obtain ⟨i32, hres⟩ := gdi hres
      refine lX_sheet hx hb hK hP hi1 i32 dX5_judge_32 ?_
      refine lv_lstore (lv' := [(7, .long (snu x1.toNatClampNeg x6.toNatClampNeg)), (0, .ref (a 0)), (1, .ref (a (28 + 2 * x1.toNatClampNeg))), (2, .int x2), (3, .int x3), (4, .int x4), (5, .int x5), (6, .int x6)]) hx hb dX5_judge_33 hl (by decide) rfl (fun ls hl => ?_)
      refine lv_iload hx hb dX5_judge_35 (lv_at hl 7 rfl) ?_
      refine lv_iload hx hb dX5_judge_37 (lv_at hl 5 rfl) ?_
      refine lv_icmp_ge (tgt := 67) hx hb dX5_judge_39 (by decide) (fun c39 => ?_) (fun c39 => ?_)
      · have hres := (itl hres).1 c39
        exact b67 x6 hres _ _ _ hP hS (lv_sub hl [1, 7] rfl)
      · have hres := (itl hres).2 c39
        refine lv_aload_n hx hb dX5_judge_42 rfl (lv_at hl 1 rfl) ?_
        refine gX_this5_now hx hb hown hw5 hK hP u1 dX5_judge_43 ?_
        refine lv_aload_n hx hb dX5_judge_46 rfl (lv_at hl 1 rfl) ?_
        refine gX_this5_now hx hb hown hw5 hK hP u1 dX5_judge_47 ?_
        refine lv_iload_n hx hb dX5_judge_50 rfl (lv_at hl 3 rfl) ?_
        refine lv_iload hx hb dX5_judge_51 (lv_at hl 7 rfl) ?_
        obtain ⟨q53, e53, hres⟩ := obd hres
        refine cvI (q0 := 1) (ci := 3) hx hb hml hown hts hEo hE hK hP hS (kX3_toldAt l D a cI cJ cS hd hEo par kin lea mos wrt tal siz tol hrs ags yea kpar kkin klea kmos kwrt ktal ksiz ktol khrs kags kyea isk tly gai bes low hig spn byt hld sta beh sor num fnd sbi she snu x2 x6 q53 e53) gX5_judge_X3_toldAt rfl hdX3_toldAt rfl rfl rfl ⟨rfl, rfl⟩ ⟨Nat.le_of_ble_eq_true rfl, Nat.le_of_ble_eq_true rfl⟩ ⟨Nat.zero_le _, Nat.zero_le _⟩ rfl hl.1 rfl (Nat.le_of_ble_eq_true rfl) dX5_judge_53 (fun H locs hP hS => ?_)
        obtain ⟨q56, e56, hres⟩ := obd hres
        refine cvI (q0 := 1) (ci := 3) hx hb hml hown hts hEo hE hK hP hS (kX3_lengthsOf l D a cI cJ cS hd hEo par kin lea mos wrt tal siz tol hrs ags yea kpar kkin klea kmos kwrt ktal ksiz ktol khrs kags kyea isk tly gai bes low hig spn byt hld sta beh sor num fnd sbi she snu q53 q56 e56) gX5_judge_X3_lengthsOf rfl hdX3_lengthsOf rfl rfl rfl ⟨rfl, rfl⟩ ⟨Nat.le_of_ble_eq_true rfl, Nat.le_of_ble_eq_true rfl⟩ ⟨Nat.zero_le _, Nat.zero_le _⟩ rfl hl.1 rfl (Nat.le_of_ble_eq_true rfl) dX5_judge_56 (fun H locs hP hS => ?_)
        refine lv_lload hx hb dX5_judge_59 (lv_at hl 0 rfl) ?_
        refine csI hx hb hml hown hts hEo hE hK hP hS (kX5_isLength l D a cI cJ cS hd hEo par kin lea mos wrt tal siz tol hrs ags yea kpar kkin klea kmos kwrt ktal ksiz ktol khrs kags kyea isk tly gai bes low hig spn byt hld sta beh sor num fnd sbi she snu q56 (snu x1.toNatClampNeg x6.toNatClampNeg)) gX5_judge_X5_isLength rfl hdX5_isLength ⟨rfl, rfl⟩ ⟨Nat.le_of_ble_eq_true rfl, Nat.le_of_ble_eq_true rfl⟩ ⟨Nat.zero_le _, Nat.zero_le _⟩ rfl hl.1 rfl (Nat.le_of_ble_eq_true rfl) dX5_judge_61 (fun H locs hP hS => ?_)
        refine lv_if_ne (tgt := 72) hx hb dX5_judge_64 (by decide) (fun c64 => ?_) (fun c64 => ?_)
        · have hres := (itl hres).2 c64
          refine lv_iload hx hb dX5_judge_72 (lv_at hl 6 rfl) ?_
          refine lv_lload hx hb dX5_judge_74 (lv_at hl 0 rfl) ?_
          refine lv_l2i hx hb dX5_judge_76 rfl ?_
          refine lv_iadd hx hb dX5_judge_77 ?_
          refine lv_istore (lv' := [(5, .int (x5 + ((snu x1.toNatClampNeg x6.toNatClampNeg).toInt32))), (7, .long (snu x1.toNatClampNeg x6.toNatClampNeg)), (0, .ref (a 0)), (1, .ref (a (28 + 2 * x1.toNatClampNeg))), (2, .int x2), (3, .int x3), (4, .int x4), (6, .int x6)]) hx hb dX5_judge_78 hl (by decide) rfl (fun ls hl => ?_)
          refine lv_iinc (v := x6 + 1) (lv' := [(6, .int (x6 + 1)), (5, .int (x5 + ((snu x1.toNatClampNeg x6.toNatClampNeg).toInt32))), (7, .long (snu x1.toNatClampNeg x6.toNatClampNeg)), (0, .ref (a 0)), (1, .ref (a (28 + 2 * x1.toNatClampNeg))), (2, .int x2), (3, .int x3), (4, .int x4)]) hx hb dX5_judge_80 hl (k := 7) rfl (congrArg (fun z => x6 + z) (by decide)) (by decide) rfl (fun ls hl => ?_)
          refine lv_goto (tgt := 17) hx hb dX5_judge_83 (by decide) ?_
          exact hK17 (x5 + ((snu x1.toNatClampNeg x6.toNatClampNeg).toInt32)) (x6 + 1) hres hi1 _ _ _ hP hS (lv_sub hl [3, 4, 5, 6, 7, 1, 0] rfl)
        · have hres := (itl hres).1 c64
          exact b67 x6 hres _ _ _ hP hS (lv_sub hl [1, 7] rfl)
  unfold fX5_judge at hres
  refine lv_aload_n hx hb dX5_judge_0 rfl (lv_at hl 0 rfl) ?_
  refine gX_this5_now hx hb hown hw5 hK hP u1 dX5_judge_1 ?_
  refine gX_now_sizes hx hb hown hw3 hK hP u2 dX5_judge_4 ?_
  refine lv_iload_n hx hb dX5_judge_7 rfl (lv_at hl 2 rfl) ?_
  obtain ⟨i8, hres⟩ := gdi hres
  refine lX_siz hx hb hK hP i8 dX5_judge_8 ?_
  refine lv_istore (lv' := [(4, .int (siz x2.toNatClampNeg)), (0, .ref (a 0)), (1, .ref (a (28 + 2 * x1.toNatClampNeg))), (2, .int x2), (3, .int x3)]) hx hb dX5_judge_9 hl (by decide) rfl (fun ls hl => ?_)
  refine lv_iconst (v := 0) hx hb dX5_judge_11 (by decide) ?_
  refine lv_istore (lv' := [(5, .int (0 : Int32)), (4, .int (siz x2.toNatClampNeg)), (0, .ref (a 0)), (1, .ref (a (28 + 2 * x1.toNatClampNeg))), (2, .int x2), (3, .int x3)]) hx hb dX5_judge_12 hl (by decide) rfl (fun ls hl => ?_)
  refine lv_iconst (v := 0) hx hb dX5_judge_14 (by decide) ?_
  refine lv_istore (lv' := [(6, .int (0 : Int32)), (5, .int (0 : Int32)), (4, .int (siz x2.toNatClampNeg)), (0, .ref (a 0)), (1, .ref (a (28 + 2 * x1.toNatClampNeg))), (2, .int x2), (3, .int x3)]) hx hb dX5_judge_15 hl (by decide) rfl (fun ls hl => ?_)
  exact b17 (siz x2.toNatClampNeg) 2000 (0 : Int32) (0 : Int32) hres hi1 _ _ _ hP hS (lv_sub hl [3, 4, 5, 6, 2, 1, 0] rfl)
def fX5_read_b61 (fnd : Nat → Int32) : Option (Int32 × (Nat → Int32)) :=
 (fX5_found fnd (-1000000001 : Int32)).bind fun q64 => some (q64.1, q64.2)
def fX5_read (kin : Nat → Int32) (lea : Nat → Int32) (mos : Nat → Int32) (tal : Int32) (siz : Nat → Int32) (tol : Nat → Int32) (hrs : Int32) (ags : Nat → Int32) (fnd : Nat → Int32) (sbi : Nat → Int32) (she : Nat → Int32) (snu : Nat → Nat → Int64) (x1 : Int32) (x2 : Int32) (x3 : Int32) : Option (Int32 × (Nat → Int32)) :=
  if (bI (fX5_isIn x1 (0 : Int32) (3 : Int32))) = 0 then (fX5_found fnd (-1000000001 : Int32)).bind fun q12 => some (q12.1, q12.2) else gd (ib x1 4) (if (bI (fX2_isMissing sbi x1)) = 0 then if (bI (fX3_hasTale tal x2)) = 0 then fX5_read_b61 fnd else if (bI (fX3_hasHearer hrs x3)) = 0 then fX5_read_b61 fnd else gd (ib x3 10) ((fX5_judge kin lea mos siz tol she snu x1 x2 (ags x3.toNatClampNeg)).bind fun q81 => some (q81, fnd)) else (fX5_found fnd (-1000000006 : Int32)).bind fun q35 => some (q35.1, q35.2))
theorem hdX5_judge : yX5_judge.cls = RX5 ∧ yX5_judge.cls ≠ "java/lang/invoke/MethodHandle" ∧ yX5_judge.cls ≠ "java/lang/invoke/VarHandle" ∧ (parseMethodDescriptor yX5_judge.desc).map (fun d => d.parameters.length) = some 3 := by decide +kernel
abbrev rX5_read : Room := { frames := 3, cells := 0, slots := 0, locals := 72 }
set_option maxHeartbeats 4000000 in
set_option maxRecDepth 100000 in
theorem kX5_read (l : Launch) (D : va_G) (a : Nat → Nat) (cI cJ cS : ClassId) (hd : aok a 36) {Env : (Nat → Prop) → State → Heap → Prop} (hEo : envOK Env) (par : Int32) (kin lea mos wrt : Nat → Int32) (tal : Int32) (siz tol : Nat → Int32) (hrs : Int32) (ags : Nat → Int32) (yea kpar : Int32) (kkin klea kmos kwrt : Nat → Int32) (ktal : Int32) (ksiz ktol : Nat → Int32) (khrs : Int32) (kags : Nat → Int32) (kyea isk : Int32) (tly : Nat → Int64) (gai bes : Nat → Int32) (low hig : Nat → Int64) (spn : Int32) (byt : Nat → Int32) (hld sta beh sor num : Int32) (fnd sbi she : Nat → Int32) (snu : Nat → Nat → Int64) (x1 : Int32) (x2 : Int32) (x3 : Int32) (res : Int32 × (Nat → Int32)) (hres : fX5_read kin lea mos tal siz tol hrs ags fnd sbi she snu x1 x2 x3 = some res) : CtI l D (tyL cI cJ cS) 36 a Env yX5_read wsX5_read rX5_read [.ref (a 0), .int x1, .int x2, .int x3] (wX a cI cJ cS par kin lea mos wrt tal siz tol hrs ags yea kpar kkin klea kmos kwrt ktal ksiz ktol khrs kags kyea isk tly gai bes low hig spn byt hld sta beh sor num fnd sbi she snu) (wX a cI cJ cS par kin lea mos wrt tal siz tol hrs ags yea kpar kkin klea kmos kwrt ktal ksiz ktol khrs kags kyea isk tly gai bes low hig spn byt hld sta beh sor num res.2 sbi she snu) res.1 := by
  refine CtI_mk (cc := cX5_read) (maxL := 5) (ret := (some .int)) (by decide) rfl (Nat.le_of_ble_eq_true rfl) ?_
  intro p e s m args below meth c ls hx hb hr hlk hml hown hts hP hK hE hl
  have hS : va_S (adA a 36 s.heap.size) s.heap s.heap [] := va_S.rf
  have hl : lv_has ls 5 [(0, .ref (a 0)), (1, .int x1), (2, .int x2), (3, .int x3)] := hl
  have hown : s.vm.findClass RX5 = some m.cls := hown
  have hw3 : ∀ w ∈ wsX30, w.before args s = true := fun w h => hts w (List.mem_cons_of_mem _ (List.mem_append_left _ (List.mem_append_right _ h)))
  have hw5 : ∀ w ∈ wsX50, w.before args s = true := fun w h => hts w (List.mem_cons_of_mem _ (List.mem_append_left _ (List.mem_append_left _ (List.mem_append_right _ h))))
  have u1 : (Cond.constant RX5 63 (-1000000001)).before args s = true := hts _ (List.mem_of_getElem? (i := 1) (by decide +kernel))
  have u2 : (Cond.fieldLink RX5 50 "YearWords" "sheets" "[LYearWords$Sheet;").before args s = true := hts _ (List.mem_of_getElem? (i := 2) (by decide +kernel))
  have u3 : (Cond.constant RX5 239 (-1000000006)).before args s = true := hts _ (List.mem_of_getElem? (i := 3) (by decide +kernel))
  have u4 : (Cond.fieldLink RX5 12 "YearWords" "now" "LYearWords$Stock;").before args s = true := hts _ (List.mem_of_getElem? (i := 4) (by decide +kernel))
  have u5 : (Cond.fieldLink RX5 183 "YearWords$Stock" "ages" "[I").before args s = true := hts _ (List.mem_of_getElem? (i := 5) (by decide +kernel))
  obtain ⟨Q, hQ⟩ : ∃ Q, Q = mqI below D 36 a args s (wX a cI cJ cS par kin lea mos wrt tal siz tol hrs ags yea kpar kkin klea kmos kwrt ktal ksiz ktol khrs kags kyea isk tly gai bes low hig spn byt hld sta beh sor num res.2 sbi she snu) res.1 := ⟨_, rfl⟩
  rw [← hQ]
  have b61 : ∀ (fnd : Nat → Int32), fX5_read_b61 fnd = some res → ∀ (H : Heap) (locs : List Loc) (ls : Array Slot), va_P D vwCl (wX a cI cJ cS par kin lea mos wrt tal siz tol hrs ags yea kpar kkin klea kmos kwrt ktal ksiz ktol khrs kags kyea isk tly gai bes low hig spn byt hld sta beh sor num fnd sbi she snu) H → va_S (adA a 36 s.heap.size) s.heap H locs → lv_has ls 5 [(0, .ref (a 0))] → W p l e rX5_read s m args below meth c H locs 0 0 Q (F0 m 61 ls []) := by
    intro fnd hres H locs ls hP hS hl
    unfold fX5_read_b61 at hres
    refine lv_aload_n hx hb dX5_read_61 rfl (lv_at hl 0 rfl) ?_
    refine lv_ldc hx hb hown u1 dX5_read_62 ?_
    obtain ⟨q64, e64, hres⟩ := obd hres
    refine cvI (q0 := 0) (ci := 5) hx hb hml hown hts hEo hE hK hP hS (kX5_found l D a cI cJ cS hd hEo par kin lea mos wrt tal siz tol hrs ags yea kpar kkin klea kmos kwrt ktal ksiz ktol khrs kags kyea isk tly gai bes low hig spn byt hld sta beh sor num fnd sbi she snu (-1000000001 : Int32) q64 e64) gX5_read_X5_found rfl hdX5_found rfl rfl rfl ⟨rfl, rfl⟩ ⟨Nat.le_of_ble_eq_true rfl, Nat.le_of_ble_eq_true rfl⟩ ⟨Nat.zero_le _, Nat.zero_le _⟩ rfl hl.1 rfl (Nat.le_of_ble_eq_true rfl) dX5_read_64 (fun H locs hP hS => ?_)
    exact hQ ▸ rtI (v := q64.1)  hx hb hr hlk hP hS (by rw [← (Option.some.inj hres)]) (by rw [← (Option.some.inj hres)]) dX5_read_67
  unfold fX5_read at hres
  refine lv_iload_n hx hb dX5_read_0 rfl (lv_at hl 1 rfl) ?_
  refine lv_iconst (v := 0) hx hb dX5_read_1 (by decide) ?_
  refine lv_iconst (v := 3) hx hb dX5_read_2 (by decide) ?_
  refine csI hx hb hml hown hts hEo hE hK hP hS (kX5_isIn l D a cI cJ cS hd hEo par kin lea mos wrt tal siz tol hrs ags yea kpar kkin klea kmos kwrt ktal ksiz ktol khrs kags kyea isk tly gai bes low hig spn byt hld sta beh sor num fnd sbi she snu x1 (0 : Int32) (3 : Int32)) gX5_read_X5_isIn rfl hdX5_isIn ⟨rfl, rfl⟩ ⟨Nat.le_of_ble_eq_true rfl, Nat.le_of_ble_eq_true rfl⟩ ⟨Nat.zero_le _, Nat.zero_le _⟩ rfl hl.1 rfl (Nat.le_of_ble_eq_true rfl) dX5_read_3 (fun H locs hP hS => ?_)
  refine lv_if_ne (tgt := 16) hx hb dX5_read_6 (by decide) (fun c6 => ?_) (fun c6 => ?_)
  · have hres := (itl hres).2 c6
    refine lv_aload_n hx hb dX5_read_16 rfl (lv_at hl 0 rfl) ?_
    refine gX_this5_sheets hx hb hown hw5 hK hP u2 dX5_read_17 ?_
    refine lv_iload_n hx hb dX5_read_20 rfl (lv_at hl 1 rfl) ?_
    obtain ⟨i21, hres⟩ := gdi hres
    refine lX_sheets hx hb hK hP i21 dX5_read_21 ?_
    refine lv_astore (lv' := [(4, .ref (a (28 + 2 * x1.toNatClampNeg))), (0, .ref (a 0)), (1, .int x1), (2, .int x2), (3, .int x3)]) hx hb dX5_read_22 hl (by decide) rfl (fun ls hl => ?_)
    refine lv_aload hx hb dX5_read_24 (lv_at hl 0 rfl) ?_
    refine cvI (q0 := (28 + 2 * x1.toNatClampNeg)) (ci := 2) hx hb hml hown hts hEo hE hK hP hS (kX2_isMissing l D a cI cJ cS hd hEo par kin lea mos wrt tal siz tol hrs ags yea kpar kkin klea kmos kwrt ktal ksiz ktol khrs kags kyea isk tly gai bes low hig spn byt hld sta beh sor num fnd sbi she snu x1 i21) gX5_read_X2_isMissing rfl hdX2_isMissing rfl rfl (wX_sh_at (sh_lt i21)) ⟨rfl, rfl⟩ ⟨Nat.le_of_ble_eq_true rfl, Nat.le_of_ble_eq_true rfl⟩ ⟨Nat.zero_le _, Nat.zero_le _⟩ rfl hl.1 rfl (Nat.le_of_ble_eq_true rfl) dX5_read_26 (fun H locs hP hS => ?_)
    refine lv_if_eq (tgt := 39) hx hb dX5_read_29 (by decide) (fun c29 => ?_) (fun c29 => ?_)
    · have hres := (itl hres).1 c29
      refine lv_aload_n hx hb dX5_read_39 rfl (lv_at hl 1 rfl) ?_
      refine gX_this5_now hx hb hown hw5 hK hP u4 dX5_read_40 ?_
      refine lv_iload_n hx hb dX5_read_43 rfl (lv_at hl 3 rfl) ?_
      refine cvI (q0 := 1) (ci := 3) hx hb hml hown hts hEo hE hK hP hS (kX3_hasTale l D a cI cJ cS hd hEo par kin lea mos wrt tal siz tol hrs ags yea kpar kkin klea kmos kwrt ktal ksiz ktol khrs kags kyea isk tly gai bes low hig spn byt hld sta beh sor num fnd sbi she snu x2) gX5_read_X3_hasTale rfl hdX3_hasTale rfl rfl rfl ⟨rfl, rfl⟩ ⟨Nat.le_of_ble_eq_true rfl, Nat.le_of_ble_eq_true rfl⟩ ⟨Nat.zero_le _, Nat.zero_le _⟩ rfl hl.1 rfl (Nat.le_of_ble_eq_true rfl) dX5_read_44 (fun H locs hP hS => ?_)
      refine lv_if_eq (tgt := 61) hx hb dX5_read_47 (by decide) (fun c47 => ?_) (fun c47 => ?_)
      · have hres := (itl hres).1 c47
        exact b61 fnd hres _ _ _ hP hS (lv_sub hl [1] rfl)
      · have hres := (itl hres).2 c47
        refine lv_aload_n hx hb dX5_read_50 rfl (lv_at hl 1 rfl) ?_
        refine gX_this5_now hx hb hown hw5 hK hP u4 dX5_read_51 ?_
        refine lv_iload_n hx hb dX5_read_54 rfl (lv_at hl 4 rfl) ?_
        refine cvI (q0 := 1) (ci := 3) hx hb hml hown hts hEo hE hK hP hS (kX3_hasHearer l D a cI cJ cS hd hEo par kin lea mos wrt tal siz tol hrs ags yea kpar kkin klea kmos kwrt ktal ksiz ktol khrs kags kyea isk tly gai bes low hig spn byt hld sta beh sor num fnd sbi she snu x3) gX5_read_X3_hasHearer rfl hdX3_hasHearer rfl rfl rfl ⟨rfl, rfl⟩ ⟨Nat.le_of_ble_eq_true rfl, Nat.le_of_ble_eq_true rfl⟩ ⟨Nat.zero_le _, Nat.zero_le _⟩ rfl hl.1 rfl (Nat.le_of_ble_eq_true rfl) dX5_read_55 (fun H locs hP hS => ?_)
        refine lv_if_ne (tgt := 68) hx hb dX5_read_58 (by decide) (fun c58 => ?_) (fun c58 => ?_)
        · have hres := (itl hres).2 c58
          refine lv_aload_n hx hb dX5_read_68 rfl (lv_at hl 1 rfl) ?_
          refine lv_aload hx hb dX5_read_69 (lv_at hl 0 rfl) ?_
          refine lv_iload_n hx hb dX5_read_71 rfl (lv_at hl 3 rfl) ?_
          refine lv_aload_n hx hb dX5_read_72 rfl (lv_at hl 1 rfl) ?_
          refine gX_this5_now hx hb hown hw5 hK hP u4 dX5_read_73 ?_
          refine gX_now_ages hx hb hown hw3 hK hP u5 dX5_read_76 ?_
          refine lv_iload_n hx hb dX5_read_79 rfl (lv_at hl 4 rfl) ?_
          obtain ⟨i80, hres⟩ := gdi hres
          refine lX_ags hx hb hK hP i80 dX5_read_80 ?_
          obtain ⟨q81, e81, hres⟩ := obd hres
          refine cvI (q0 := 0) (ci := 5) hx hb hml hown hts hEo hE hK hP hS (kX5_judge l D a cI cJ cS hd hEo par kin lea mos wrt tal siz tol hrs ags yea kpar kkin klea kmos kwrt ktal ksiz ktol khrs kags kyea isk tly gai bes low hig spn byt hld sta beh sor num fnd sbi she snu x1 x2 (ags x3.toNatClampNeg) i21 q81 e81) gX5_read_X5_judge rfl hdX5_judge rfl rfl rfl ⟨rfl, rfl⟩ ⟨Nat.le_of_ble_eq_true rfl, Nat.le_of_ble_eq_true rfl⟩ ⟨Nat.zero_le _, Nat.zero_le _⟩ rfl hl.1 rfl (Nat.le_of_ble_eq_true rfl) dX5_read_81 (fun H locs hP hS => ?_)
          exact hQ ▸ rtI (v := q81)  hx hb hr hlk hP hS (by rw [← (Option.some.inj hres)]) (by rw [← (Option.some.inj hres)]) dX5_read_84
        · have hres := (itl hres).1 c58
          exact b61 fnd hres _ _ _ hP hS (lv_sub hl [1] rfl)
    · have hres := (itl hres).2 c29
      refine lv_aload_n hx hb dX5_read_32 rfl (lv_at hl 1 rfl) ?_
      refine lv_ldc hx hb hown u3 dX5_read_33 ?_
      obtain ⟨q35, e35, hres⟩ := obd hres
      refine cvI (q0 := 0) (ci := 5) hx hb hml hown hts hEo hE hK hP hS (kX5_found l D a cI cJ cS hd hEo par kin lea mos wrt tal siz tol hrs ags yea kpar kkin klea kmos kwrt ktal ksiz ktol khrs kags kyea isk tly gai bes low hig spn byt hld sta beh sor num fnd sbi she snu (-1000000006 : Int32) q35 e35) gX5_read_X5_found rfl hdX5_found rfl rfl rfl ⟨rfl, rfl⟩ ⟨Nat.le_of_ble_eq_true rfl, Nat.le_of_ble_eq_true rfl⟩ ⟨Nat.zero_le _, Nat.zero_le _⟩ rfl hl.1 rfl (Nat.le_of_ble_eq_true rfl) dX5_read_35 (fun H locs hP hS => ?_)
      exact hQ ▸ rtI (v := q35.1)  hx hb hr hlk hP hS (by rw [← (Option.some.inj hres)]) (by rw [← (Option.some.inj hres)]) dX5_read_38
  · have hres := (itl hres).1 c6
    refine lv_aload_n hx hb dX5_read_9 rfl (lv_at hl 0 rfl) ?_
    refine lv_ldc hx hb hown u1 dX5_read_10 ?_
    obtain ⟨q12, e12, hres⟩ := obd hres
    refine cvI (q0 := 0) (ci := 5) hx hb hml hown hts hEo hE hK hP hS (kX5_found l D a cI cJ cS hd hEo par kin lea mos wrt tal siz tol hrs ags yea kpar kkin klea kmos kwrt ktal ksiz ktol khrs kags kyea isk tly gai bes low hig spn byt hld sta beh sor num fnd sbi she snu (-1000000001 : Int32) q12 e12) gX5_read_X5_found rfl hdX5_found rfl rfl rfl ⟨rfl, rfl⟩ ⟨Nat.le_of_ble_eq_true rfl, Nat.le_of_ble_eq_true rfl⟩ ⟨Nat.zero_le _, Nat.zero_le _⟩ rfl hl.1 rfl (Nat.le_of_ble_eq_true rfl) dX5_read_12 (fun H locs hP hS => ?_)
    exact hQ ▸ rtI (v := q12.1)  hx hb hr hlk hP hS (by rw [← (Option.some.inj hres)]) (by rw [← (Option.some.inj hres)]) dX5_read_15
def fX5_image (par : Int32) (kin : Nat → Int32) (lea : Nat → Int32) (mos : Nat → Int32) (wrt : Nat → Int32) (tal : Int32) (siz : Nat → Int32) (tol : Nat → Int32) (hrs : Int32) (ags : Nat → Int32) (yea : Int32) (kpar : Int32) (kkin : Nat → Int32) (klea : Nat → Int32) (kmos : Nat → Int32) (kwrt : Nat → Int32) (ktal : Int32) (ksiz : Nat → Int32) (ktol : Nat → Int32) (khrs : Int32) (kags : Nat → Int32) (kyea : Int32) (isk : Int32) : Option (Int32 × Int32 × (Nat → Int32) × (Nat → Int32) × (Nat → Int32) × (Nat → Int32) × Int32 × (Nat → Int32) × (Nat → Int32) × Int32 × (Nat → Int32) × Int32 × Int32) :=
 (fX3_become_kst_now par kin lea mos wrt tal siz tol hrs ags yea kpar kkin klea kmos kwrt ktal ksiz ktol khrs kags kyea).bind fun q8 => some ((1 : Int32), q8.1, q8.2.1, q8.2.2.1, q8.2.2.2.1, q8.2.2.2.2.1, q8.2.2.2.2.2.1, q8.2.2.2.2.2.2.1, q8.2.2.2.2.2.2.2.1, q8.2.2.2.2.2.2.2.2.1, q8.2.2.2.2.2.2.2.2.2.1, q8.2.2.2.2.2.2.2.2.2.2, (1 : Int32))
theorem hdX3_become : yX3_become.cls = RX3 ∧ yX3_become.cls ≠ "java/lang/invoke/MethodHandle" ∧ yX3_become.cls ≠ "java/lang/invoke/VarHandle" ∧ (parseMethodDescriptor yX3_become.desc).map (fun d => d.parameters.length) = some 1 := by decide +kernel
abbrev rX5_image : Room := { frames := 2, cells := 0, slots := 0, locals := 61 }
set_option maxHeartbeats 4000000 in
set_option maxRecDepth 100000 in
theorem kX5_image (l : Launch) (D : va_G) (a : Nat → Nat) (cI cJ cS : ClassId) (hd : aok a 36) {Env : (Nat → Prop) → State → Heap → Prop} (hEo : envOK Env) (par : Int32) (kin lea mos wrt : Nat → Int32) (tal : Int32) (siz tol : Nat → Int32) (hrs : Int32) (ags : Nat → Int32) (yea kpar : Int32) (kkin klea kmos kwrt : Nat → Int32) (ktal : Int32) (ksiz ktol : Nat → Int32) (khrs : Int32) (kags : Nat → Int32) (kyea isk : Int32) (tly : Nat → Int64) (gai bes : Nat → Int32) (low hig : Nat → Int64) (spn : Int32) (byt : Nat → Int32) (hld sta beh sor num : Int32) (fnd sbi she : Nat → Int32) (snu : Nat → Nat → Int64)  (res : Int32 × Int32 × (Nat → Int32) × (Nat → Int32) × (Nat → Int32) × (Nat → Int32) × Int32 × (Nat → Int32) × (Nat → Int32) × Int32 × (Nat → Int32) × Int32 × Int32) (hres : fX5_image par kin lea mos wrt tal siz tol hrs ags yea kpar kkin klea kmos kwrt ktal ksiz ktol khrs kags kyea isk = some res) : CtI l D (tyL cI cJ cS) 36 a Env yX5_image wsX5_image rX5_image [.ref (a 0)] (wX a cI cJ cS par kin lea mos wrt tal siz tol hrs ags yea kpar kkin klea kmos kwrt ktal ksiz ktol khrs kags kyea isk tly gai bes low hig spn byt hld sta beh sor num fnd sbi she snu) (wX a cI cJ cS par kin lea mos wrt tal siz tol hrs ags yea res.2.1 res.2.2.1 res.2.2.2.1 res.2.2.2.2.1 res.2.2.2.2.2.1 res.2.2.2.2.2.2.1 res.2.2.2.2.2.2.2.1 res.2.2.2.2.2.2.2.2.1 res.2.2.2.2.2.2.2.2.2.1 res.2.2.2.2.2.2.2.2.2.2.1 res.2.2.2.2.2.2.2.2.2.2.2.1 res.2.2.2.2.2.2.2.2.2.2.2.2 tly gai bes low hig spn byt hld sta beh sor num fnd sbi she snu) res.1 := by
  refine CtI_mk (cc := cX5_image) (maxL := 1) (ret := (some .int)) (by decide) rfl (Nat.le_of_ble_eq_true rfl) ?_
  intro p e s m args below meth c ls hx hb hr hlk hml hown hts hP hK hE hl
  have hS : va_S (adA a 36 s.heap.size) s.heap s.heap [] := va_S.rf
  have hl : lv_has ls 1 [(0, .ref (a 0))] := hl
  have hown : s.vm.findClass RX5 = some m.cls := hown
  have hw5 : ∀ w ∈ wsX50, w.before args s = true := fun w h => hts w (List.mem_cons_of_mem _ (List.mem_append_left _ (List.mem_append_right _ h)))
  have u1 : (Cond.fieldLink RX5 16 "YearWords" "kept" "LYearWords$Stock;").before args s = true := hts _ (List.mem_of_getElem? (i := 1) (by decide +kernel))
  have u2 : (Cond.fieldLink RX5 12 "YearWords" "now" "LYearWords$Stock;").before args s = true := hts _ (List.mem_of_getElem? (i := 2) (by decide +kernel))
  have u3 : (Cond.fieldLink RX5 19 "YearWords" "isKept" "Z").before args s = true := hts _ (List.mem_of_getElem? (i := 3) (by decide +kernel))
  obtain ⟨Q, hQ⟩ : ∃ Q, Q = mqI below D 36 a args s (wX a cI cJ cS par kin lea mos wrt tal siz tol hrs ags yea res.2.1 res.2.2.1 res.2.2.2.1 res.2.2.2.2.1 res.2.2.2.2.2.1 res.2.2.2.2.2.2.1 res.2.2.2.2.2.2.2.1 res.2.2.2.2.2.2.2.2.1 res.2.2.2.2.2.2.2.2.2.1 res.2.2.2.2.2.2.2.2.2.2.1 res.2.2.2.2.2.2.2.2.2.2.2.1 res.2.2.2.2.2.2.2.2.2.2.2.2 tly gai bes low hig spn byt hld sta beh sor num fnd sbi she snu) res.1 := ⟨_, rfl⟩
  rw [← hQ]
  unfold fX5_image at hres
  refine lv_aload_n hx hb dX5_image_0 rfl (lv_at hl 0 rfl) ?_
  refine gX_this5_kept hx hb hown hw5 hK hP u1 dX5_image_1 ?_
  refine lv_aload_n hx hb dX5_image_4 rfl (lv_at hl 0 rfl) ?_
  refine gX_this5_now hx hb hown hw5 hK hP u2 dX5_image_5 ?_
  obtain ⟨q8, e8, hres⟩ := obd hres
  refine cvV (q0 := 9) (ci := 3) hx hb hml hown hts hEo hE hK hP hS (kX3_become_kst_now l D a cI cJ cS hd hEo par kin lea mos wrt tal siz tol hrs ags yea kpar kkin klea kmos kwrt ktal ksiz ktol khrs kags kyea isk tly gai bes low hig spn byt hld sta beh sor num fnd sbi she snu  q8 e8) gX5_image_X3_become rfl hdX3_become rfl rfl rfl ⟨rfl, rfl⟩ ⟨Nat.le_of_ble_eq_true rfl, Nat.le_of_ble_eq_true rfl⟩ ⟨Nat.zero_le _, Nat.zero_le _⟩ rfl hl.1 rfl (Nat.le_of_ble_eq_true rfl) dX5_image_8 (fun H locs hP hS => ?_)
  refine lv_aload_n hx hb dX5_image_11 rfl (lv_at hl 0 rfl) ?_
  refine lv_iconst (v := 1) hx hb dX5_image_12 (by decide) ?_
  refine pX_this5_isKept hx hb hown hw5 hK hP hd hS u3 rfl rfl dX5_image_13 (fun H locs hP hS => ?_)
  refine lv_iconst (v := 1) hx hb dX5_image_16 (by decide) ?_
  exact hQ ▸ rtI (v := (1 : Int32))  hx hb hr hlk hP hS (by rw [← (Option.some.inj hres)]) (by rw [← (Option.some.inj hres)]) dX5_image_17
def fX5_undo (par : Int32) (kin : Nat → Int32) (lea : Nat → Int32) (mos : Nat → Int32) (wrt : Nat → Int32) (tal : Int32) (siz : Nat → Int32) (tol : Nat → Int32) (hrs : Int32) (ags : Nat → Int32) (yea : Int32) (kpar : Int32) (kkin : Nat → Int32) (klea : Nat → Int32) (kmos : Nat → Int32) (kwrt : Nat → Int32) (ktal : Int32) (ksiz : Nat → Int32) (ktol : Nat → Int32) (khrs : Int32) (kags : Nat → Int32) (kyea : Int32) (isk : Int32) (fnd : Nat → Int32) : Option (Int32 × Int32 × (Nat → Int32) × (Nat → Int32) × (Nat → Int32) × (Nat → Int32) × Int32 × (Nat → Int32) × (Nat → Int32) × Int32 × (Nat → Int32) × Int32 × (Nat → Int32)) :=
  if isk = 0 then (fX5_found fnd (-1000000004 : Int32)).bind fun q10 => some (q10.1, par, kin, lea, mos, wrt, tal, siz, tol, hrs, ags, yea, q10.2) else (fX3_become_kst par kin lea mos wrt tal siz tol hrs ags yea kpar kkin klea kmos kwrt ktal ksiz ktol khrs kags kyea).bind fun q22 => some (q22.1, q22.1, q22.2.1, q22.2.2.1, q22.2.2.2.1, q22.2.2.2.2.1, q22.2.2.2.2.2.1, q22.2.2.2.2.2.2.1, q22.2.2.2.2.2.2.2.1, q22.2.2.2.2.2.2.2.2.1, q22.2.2.2.2.2.2.2.2.2.1, q22.2.2.2.2.2.2.2.2.2.2, fnd)
abbrev rX5_undo : Room := { frames := 2, cells := 0, slots := 0, locals := 61 }
set_option maxHeartbeats 4000000 in
set_option maxRecDepth 100000 in
theorem kX5_undo (l : Launch) (D : va_G) (a : Nat → Nat) (cI cJ cS : ClassId) (hd : aok a 36) {Env : (Nat → Prop) → State → Heap → Prop} (hEo : envOK Env) (par : Int32) (kin lea mos wrt : Nat → Int32) (tal : Int32) (siz tol : Nat → Int32) (hrs : Int32) (ags : Nat → Int32) (yea kpar : Int32) (kkin klea kmos kwrt : Nat → Int32) (ktal : Int32) (ksiz ktol : Nat → Int32) (khrs : Int32) (kags : Nat → Int32) (kyea isk : Int32) (tly : Nat → Int64) (gai bes : Nat → Int32) (low hig : Nat → Int64) (spn : Int32) (byt : Nat → Int32) (hld sta beh sor num : Int32) (fnd sbi she : Nat → Int32) (snu : Nat → Nat → Int64)  (res : Int32 × Int32 × (Nat → Int32) × (Nat → Int32) × (Nat → Int32) × (Nat → Int32) × Int32 × (Nat → Int32) × (Nat → Int32) × Int32 × (Nat → Int32) × Int32 × (Nat → Int32)) (hres : fX5_undo par kin lea mos wrt tal siz tol hrs ags yea kpar kkin klea kmos kwrt ktal ksiz ktol khrs kags kyea isk fnd = some res) : CtI l D (tyL cI cJ cS) 36 a Env yX5_undo wsX5_undo rX5_undo [.ref (a 0)] (wX a cI cJ cS par kin lea mos wrt tal siz tol hrs ags yea kpar kkin klea kmos kwrt ktal ksiz ktol khrs kags kyea isk tly gai bes low hig spn byt hld sta beh sor num fnd sbi she snu) (wX a cI cJ cS res.2.1 res.2.2.1 res.2.2.2.1 res.2.2.2.2.1 res.2.2.2.2.2.1 res.2.2.2.2.2.2.1 res.2.2.2.2.2.2.2.1 res.2.2.2.2.2.2.2.2.1 res.2.2.2.2.2.2.2.2.2.1 res.2.2.2.2.2.2.2.2.2.2.1 res.2.2.2.2.2.2.2.2.2.2.2.1 kpar kkin klea kmos kwrt ktal ksiz ktol khrs kags kyea isk tly gai bes low hig spn byt hld sta beh sor num res.2.2.2.2.2.2.2.2.2.2.2.2 sbi she snu) res.1 := by
  refine CtI_mk (cc := cX5_undo) (maxL := 1) (ret := (some .int)) (by decide) rfl (Nat.le_of_ble_eq_true rfl) ?_
  intro p e s m args below meth c ls hx hb hr hlk hml hown hts hP hK hE hl
  have hS : va_S (adA a 36 s.heap.size) s.heap s.heap [] := va_S.rf
  have hl : lv_has ls 1 [(0, .ref (a 0))] := hl
  have hown : s.vm.findClass RX5 = some m.cls := hown
  have hw3 : ∀ w ∈ wsX30, w.before args s = true := fun w h => hts w (List.mem_cons_of_mem _ (List.mem_append_right _ h))
  have hw5 : ∀ w ∈ wsX50, w.before args s = true := fun w h => hts w (List.mem_cons_of_mem _ (List.mem_append_left _ (List.mem_append_right _ h)))
  have u1 : (Cond.fieldLink RX5 19 "YearWords" "isKept" "Z").before args s = true := hts _ (List.mem_of_getElem? (i := 1) (by decide +kernel))
  have u2 : (Cond.constant RX5 129 (-1000000004)).before args s = true := hts _ (List.mem_of_getElem? (i := 2) (by decide +kernel))
  have u3 : (Cond.fieldLink RX5 12 "YearWords" "now" "LYearWords$Stock;").before args s = true := hts _ (List.mem_of_getElem? (i := 3) (by decide +kernel))
  have u4 : (Cond.fieldLink RX5 16 "YearWords" "kept" "LYearWords$Stock;").before args s = true := hts _ (List.mem_of_getElem? (i := 4) (by decide +kernel))
  have u5 : (Cond.fieldLink RX5 68 "YearWords$Stock" "parts" "I").before args s = true := hts _ (List.mem_of_getElem? (i := 5) (by decide +kernel))
  obtain ⟨Q, hQ⟩ : ∃ Q, Q = mqI below D 36 a args s (wX a cI cJ cS res.2.1 res.2.2.1 res.2.2.2.1 res.2.2.2.2.1 res.2.2.2.2.2.1 res.2.2.2.2.2.2.1 res.2.2.2.2.2.2.2.1 res.2.2.2.2.2.2.2.2.1 res.2.2.2.2.2.2.2.2.2.1 res.2.2.2.2.2.2.2.2.2.2.1 res.2.2.2.2.2.2.2.2.2.2.2.1 kpar kkin klea kmos kwrt ktal ksiz ktol khrs kags kyea isk tly gai bes low hig spn byt hld sta beh sor num res.2.2.2.2.2.2.2.2.2.2.2.2 sbi she snu) res.1 := ⟨_, rfl⟩
  rw [← hQ]
  unfold fX5_undo at hres
  refine lv_aload_n hx hb dX5_undo_0 rfl (lv_at hl 0 rfl) ?_
  refine gX_this5_isKept hx hb hown hw5 hK hP u1 dX5_undo_1 ?_
  refine lv_if_ne (tgt := 14) hx hb dX5_undo_4 (by decide) (fun c4 => ?_) (fun c4 => ?_)
  · have hres := (itl hres).2 c4
    refine lv_aload_n hx hb dX5_undo_14 rfl (lv_at hl 0 rfl) ?_
    refine gX_this5_now hx hb hown hw5 hK hP u3 dX5_undo_15 ?_
    refine lv_aload_n hx hb dX5_undo_18 rfl (lv_at hl 0 rfl) ?_
    refine gX_this5_kept hx hb hown hw5 hK hP u4 dX5_undo_19 ?_
    obtain ⟨q22, e22, hres⟩ := obd hres
    refine cvV (q0 := 1) (ci := 3) hx hb hml hown hts hEo hE hK hP hS (kX3_become_kst l D a cI cJ cS hd hEo par kin lea mos wrt tal siz tol hrs ags yea kpar kkin klea kmos kwrt ktal ksiz ktol khrs kags kyea isk tly gai bes low hig spn byt hld sta beh sor num fnd sbi she snu  q22 e22) gX5_undo_X3_become rfl hdX3_become rfl rfl rfl ⟨rfl, rfl⟩ ⟨Nat.le_of_ble_eq_true rfl, Nat.le_of_ble_eq_true rfl⟩ ⟨Nat.zero_le _, Nat.zero_le _⟩ rfl hl.1 rfl (Nat.le_of_ble_eq_true rfl) dX5_undo_22 (fun H locs hP hS => ?_)
    refine lv_aload_n hx hb dX5_undo_25 rfl (lv_at hl 0 rfl) ?_
    refine gX_this5_now hx hb hown hw5 hK hP u3 dX5_undo_26 ?_
    refine gX_now_parts hx hb hown hw3 hK hP u5 dX5_undo_29 ?_
    exact hQ ▸ rtI (v := q22.1)  hx hb hr hlk hP hS (by rw [← (Option.some.inj hres)]) (by rw [← (Option.some.inj hres)]) dX5_undo_32
  · have hres := (itl hres).1 c4
    refine lv_aload_n hx hb dX5_undo_7 rfl (lv_at hl 0 rfl) ?_
    refine lv_ldc hx hb hown u2 dX5_undo_8 ?_
    obtain ⟨q10, e10, hres⟩ := obd hres
    refine cvI (q0 := 0) (ci := 5) hx hb hml hown hts hEo hE hK hP hS (kX5_found l D a cI cJ cS hd hEo par kin lea mos wrt tal siz tol hrs ags yea kpar kkin klea kmos kwrt ktal ksiz ktol khrs kags kyea isk tly gai bes low hig spn byt hld sta beh sor num fnd sbi she snu (-1000000004 : Int32) q10 e10) gX5_undo_X5_found rfl hdX5_found rfl rfl rfl ⟨rfl, rfl⟩ ⟨Nat.le_of_ble_eq_true rfl, Nat.le_of_ble_eq_true rfl⟩ ⟨Nat.zero_le _, Nat.zero_le _⟩ rfl hl.1 rfl (Nat.le_of_ble_eq_true rfl) dX5_undo_10 (fun H locs hP hS => ?_)
    exact hQ ▸ rtI (v := q10.1)  hx hb hr hlk hP hS (by rw [← (Option.some.inj hres)]) (by rw [← (Option.some.inj hres)]) dX5_undo_13
def fX5_tear_b12 (isk : Int32) (z0 : Bool) : Int32 × Int32 :=
 (bI z0, (0 : Int32))
def fX5_tear (isk : Int32) : Int32 × Int32 :=
  if isk = 0 then fX5_tear_b12 isk false else fX5_tear_b12 isk true
abbrev rX5_tear : Room := { frames := 0, cells := 0, slots := 0, locals := 0 }
set_option maxHeartbeats 4000000 in
set_option maxRecDepth 100000 in
theorem kX5_tear (l : Launch) (D : va_G) (a : Nat → Nat) (cI cJ cS : ClassId) (hd : aok a 36) {Env : (Nat → Prop) → State → Heap → Prop} (hEo : envOK Env) (par : Int32) (kin lea mos wrt : Nat → Int32) (tal : Int32) (siz tol : Nat → Int32) (hrs : Int32) (ags : Nat → Int32) (yea kpar : Int32) (kkin klea kmos kwrt : Nat → Int32) (ktal : Int32) (ksiz ktol : Nat → Int32) (khrs : Int32) (kags : Nat → Int32) (kyea isk : Int32) (tly : Nat → Int64) (gai bes : Nat → Int32) (low hig : Nat → Int64) (spn : Int32) (byt : Nat → Int32) (hld sta beh sor num : Int32) (fnd sbi she : Nat → Int32) (snu : Nat → Nat → Int64)  : CtI l D (tyL cI cJ cS) 36 a Env yX5_tear wsX5_tear rX5_tear [.ref (a 0)] (wX a cI cJ cS par kin lea mos wrt tal siz tol hrs ags yea kpar kkin klea kmos kwrt ktal ksiz ktol khrs kags kyea isk tly gai bes low hig spn byt hld sta beh sor num fnd sbi she snu) (wX a cI cJ cS par kin lea mos wrt tal siz tol hrs ags yea kpar kkin klea kmos kwrt ktal ksiz ktol khrs kags kyea (fX5_tear isk).2 tly gai bes low hig spn byt hld sta beh sor num fnd sbi she snu) (fX5_tear isk).1 := by
  generalize hres : fX5_tear isk = res
  refine CtI_mk (cc := cX5_tear) (maxL := 2) (ret := (some .int)) (by decide) rfl (Nat.le_of_ble_eq_true rfl) ?_
  intro p e s m args below meth c ls hx hb hr hlk hml hown hts hP hK hE hl
  have hS : va_S (adA a 36 s.heap.size) s.heap s.heap [] := va_S.rf
  have hl : lv_has ls 2 [(0, .ref (a 0))] := hl
  have hown : s.vm.findClass RX5 = some m.cls := hown
  have hw5 : ∀ w ∈ wsX50, w.before args s = true := fun w h => hts w (List.mem_cons_of_mem _ (List.mem_append_right _ h))
  have u1 : (Cond.fieldLink RX5 19 "YearWords" "isKept" "Z").before args s = true := hts _ (List.mem_of_getElem? (i := 1) (by decide +kernel))
  obtain ⟨Q, hQ⟩ : ∃ Q, Q = mqI below D 36 a args s (wX a cI cJ cS par kin lea mos wrt tal siz tol hrs ags yea kpar kkin klea kmos kwrt ktal ksiz ktol khrs kags kyea res.2 tly gai bes low hig spn byt hld sta beh sor num fnd sbi she snu) res.1 := ⟨_, rfl⟩
  rw [← hQ]
  have b12 : ∀ (isk : Int32) (z0 : Bool), fX5_tear_b12 isk z0 = res → ∀ (H : Heap) (locs : List Loc) (ls : Array Slot), va_P D vwCl (wX a cI cJ cS par kin lea mos wrt tal siz tol hrs ags yea kpar kkin klea kmos kwrt ktal ksiz ktol khrs kags kyea isk tly gai bes low hig spn byt hld sta beh sor num fnd sbi she snu) H → va_S (adA a 36 s.heap.size) s.heap H locs → lv_has ls 2 [(0, .ref (a 0))] → W p l e rX5_tear s m args below meth c H locs 0 0 Q (F0 m 12 ls [.int (bI z0)]) := by
    intro isk z0 hres H locs ls hP hS hl
    unfold fX5_tear_b12 at hres
    refine lv_istore_n (lv' := [(1, .int (bI z0)), (0, .ref (a 0))]) hx hb dX5_tear_12 rfl hl (by decide) rfl (fun ls hl => ?_)
    refine lv_aload_n hx hb dX5_tear_13 rfl (lv_at hl 1 rfl) ?_
    refine lv_iconst (v := 0) hx hb dX5_tear_14 (by decide) ?_
    refine pX_this5_isKept hx hb hown hw5 hK hP hd hS u1 rfl rfl dX5_tear_15 (fun H locs hP hS => ?_)
    refine lv_iload_n hx hb dX5_tear_18 rfl (lv_at hl 0 rfl) ?_
    exact hQ ▸ rtI (v := bI z0)  hx hb hr hlk hP hS (by rw [← hres]) (by rw [← hres]) dX5_tear_19
  unfold fX5_tear at hres
  refine lv_aload_n hx hb dX5_tear_0 rfl (lv_at hl 0 rfl) ?_
  refine gX_this5_isKept hx hb hown hw5 hK hP u1 dX5_tear_1 ?_
  refine lv_if_eq (tgt := 11) hx hb dX5_tear_4 (by decide) (fun c4 => ?_) (fun c4 => ?_)
  · have hres := (itl hres).1 c4
    refine lv_iconst (v := 0) hx hb dX5_tear_11 (by decide) ?_
    exact b12 isk false hres _ _ _ hP hS (lv_sub hl [0] rfl)
  · have hres := (itl hres).2 c4
    refine lv_iconst (v := 1) hx hb dX5_tear_7 (by decide) ?_
    refine lv_goto (tgt := 12) hx hb dX5_tear_8 (by decide) ?_
    exact b12 isk true hres _ _ _ hP hS (lv_sub hl [0] rfl)
def fX5_count (par : Int32) (tal : Int32) (hrs : Int32) (yea : Int32) (hld : Int32) (fnd : Nat → Int32) (x1 : Int32) : Option (Int32 × (Nat → Int32)) :=
  if x1 = 0 then some (par, fnd) else if x1 = 1 then some (tal, fnd) else if x1 = 2 then some (hrs, fnd) else if x1 = 3 then some (hld, fnd) else if x1 = 4 then some (yea, fnd) else (fX5_found fnd (-1000000001 : Int32)).bind fun q79 => some (q79.1, q79.2)
abbrev rX5_count : Room := { frames := 2, cells := 0, slots := 0, locals := 44 }
set_option maxHeartbeats 4000000 in
set_option maxRecDepth 100000 in
theorem kX5_count (l : Launch) (D : va_G) (a : Nat → Nat) (cI cJ cS : ClassId) (hd : aok a 36) {Env : (Nat → Prop) → State → Heap → Prop} (hEo : envOK Env) (par : Int32) (kin lea mos wrt : Nat → Int32) (tal : Int32) (siz tol : Nat → Int32) (hrs : Int32) (ags : Nat → Int32) (yea kpar : Int32) (kkin klea kmos kwrt : Nat → Int32) (ktal : Int32) (ksiz ktol : Nat → Int32) (khrs : Int32) (kags : Nat → Int32) (kyea isk : Int32) (tly : Nat → Int64) (gai bes : Nat → Int32) (low hig : Nat → Int64) (spn : Int32) (byt : Nat → Int32) (hld sta beh sor num : Int32) (fnd sbi she : Nat → Int32) (snu : Nat → Nat → Int64) (x1 : Int32) (res : Int32 × (Nat → Int32)) (hres : fX5_count par tal hrs yea hld fnd x1 = some res) : CtI l D (tyL cI cJ cS) 36 a Env yX5_count wsX5_count rX5_count [.ref (a 0), .int x1] (wX a cI cJ cS par kin lea mos wrt tal siz tol hrs ags yea kpar kkin klea kmos kwrt ktal ksiz ktol khrs kags kyea isk tly gai bes low hig spn byt hld sta beh sor num fnd sbi she snu) (wX a cI cJ cS par kin lea mos wrt tal siz tol hrs ags yea kpar kkin klea kmos kwrt ktal ksiz ktol khrs kags kyea isk tly gai bes low hig spn byt hld sta beh sor num res.2 sbi she snu) res.1 := by
  refine CtI_mk (cc := cX5_count) (maxL := 2) (ret := (some .int)) (by decide) rfl (Nat.le_of_ble_eq_true rfl) ?_
  intro p e s m args below meth c ls hx hb hr hlk hml hown hts hP hK hE hl
  have hS : va_S (adA a 36 s.heap.size) s.heap s.heap [] := va_S.rf
  have hl : lv_has ls 2 [(0, .ref (a 0)), (1, .int x1)] := hl
  have hown : s.vm.findClass RX5 = some m.cls := hown
  have hw3 : ∀ w ∈ wsX30, w.before args s = true := fun w h => hts w (List.mem_cons_of_mem _ (List.mem_append_left _ (List.mem_append_right _ h)))
  have hw4 : ∀ w ∈ wsX40, w.before args s = true := fun w h => hts w (List.mem_cons_of_mem _ (List.mem_append_right _ h))
  have hw5 : ∀ w ∈ wsX50, w.before args s = true := fun w h => hts w (List.mem_cons_of_mem _ (List.mem_append_left _ (List.mem_append_left _ (List.mem_append_right _ h))))
  have u1 : (Cond.fieldLink RX5 12 "YearWords" "now" "LYearWords$Stock;").before args s = true := hts _ (List.mem_of_getElem? (i := 1) (by decide +kernel))
  have u2 : (Cond.fieldLink RX5 68 "YearWords$Stock" "parts" "I").before args s = true := hts _ (List.mem_of_getElem? (i := 2) (by decide +kernel))
  have u3 : (Cond.fieldLink RX5 113 "YearWords$Stock" "tales" "I").before args s = true := hts _ (List.mem_of_getElem? (i := 3) (by decide +kernel))
  have u4 : (Cond.fieldLink RX5 174 "YearWords$Stock" "hearers" "I").before args s = true := hts _ (List.mem_of_getElem? (i := 4) (by decide +kernel))
  have u5 : (Cond.fieldLink RX5 35 "YearWords" "tape" "LYearWords$Tape;").before args s = true := hts _ (List.mem_of_getElem? (i := 5) (by decide +kernel))
  have u6 : (Cond.fieldLink RX5 215 "YearWords$Tape" "held" "I").before args s = true := hts _ (List.mem_of_getElem? (i := 6) (by decide +kernel))
  have u7 : (Cond.fieldLink RX5 189 "YearWords$Stock" "year" "I").before args s = true := hts _ (List.mem_of_getElem? (i := 7) (by decide +kernel))
  have u8 : (Cond.constant RX5 63 (-1000000001)).before args s = true := hts _ (List.mem_of_getElem? (i := 8) (by decide +kernel))
  obtain ⟨Q, hQ⟩ : ∃ Q, Q = mqI below D 36 a args s (wX a cI cJ cS par kin lea mos wrt tal siz tol hrs ags yea kpar kkin klea kmos kwrt ktal ksiz ktol khrs kags kyea isk tly gai bes low hig spn byt hld sta beh sor num res.2 sbi she snu) res.1 := ⟨_, rfl⟩
  rw [← hQ]
  unfold fX5_count at hres
  refine lv_iload_n hx hb dX5_count_0 rfl (lv_at hl 1 rfl) ?_
  by_cases v1_0 : x1 = 0
  · have hres := (itl hres).1 v1_0
    refine lv_tableIn (off := 35) (tgt := 36) hx hb dX5_count_1 (by rw [v1_0]; decide) (by rw [v1_0]; decide) (by rw [v1_0]; rfl) (by decide) ?_
    refine lv_aload_n hx hb dX5_count_36 rfl (lv_at hl 0 rfl) ?_
    refine gX_this5_now hx hb hown hw5 hK hP u1 dX5_count_37 ?_
    refine gX_now_parts hx hb hown hw3 hK hP u2 dX5_count_40 ?_
    exact hQ ▸ rtI (v := par)  hx hb hr hlk hP hS (by rw [← (Option.some.inj hres)]) (by rw [← (Option.some.inj hres)]) dX5_count_43
  · have hres := (itl hres).2 v1_0
    by_cases v1_1 : x1 = 1
    · have hres := (itl hres).1 v1_1
      refine lv_tableIn (off := 43) (tgt := 44) hx hb dX5_count_1 (by rw [v1_1]; decide) (by rw [v1_1]; decide) (by rw [v1_1]; rfl) (by decide) ?_
      refine lv_aload_n hx hb dX5_count_44 rfl (lv_at hl 0 rfl) ?_
      refine gX_this5_now hx hb hown hw5 hK hP u1 dX5_count_45 ?_
      refine gX_now_tales hx hb hown hw3 hK hP u3 dX5_count_48 ?_
      exact hQ ▸ rtI (v := tal)  hx hb hr hlk hP hS (by rw [← (Option.some.inj hres)]) (by rw [← (Option.some.inj hres)]) dX5_count_51
    · have hres := (itl hres).2 v1_1
      by_cases v1_2 : x1 = 2
      · have hres := (itl hres).1 v1_2
        refine lv_tableIn (off := 51) (tgt := 52) hx hb dX5_count_1 (by rw [v1_2]; decide) (by rw [v1_2]; decide) (by rw [v1_2]; rfl) (by decide) ?_
        refine lv_aload_n hx hb dX5_count_52 rfl (lv_at hl 0 rfl) ?_
        refine gX_this5_now hx hb hown hw5 hK hP u1 dX5_count_53 ?_
        refine gX_now_hearers hx hb hown hw3 hK hP u4 dX5_count_56 ?_
        exact hQ ▸ rtI (v := hrs)  hx hb hr hlk hP hS (by rw [← (Option.some.inj hres)]) (by rw [← (Option.some.inj hres)]) dX5_count_59
      · have hres := (itl hres).2 v1_2
        by_cases v1_3 : x1 = 3
        · have hres := (itl hres).1 v1_3
          refine lv_tableIn (off := 59) (tgt := 60) hx hb dX5_count_1 (by rw [v1_3]; decide) (by rw [v1_3]; decide) (by rw [v1_3]; rfl) (by decide) ?_
          refine lv_aload_n hx hb dX5_count_60 rfl (lv_at hl 0 rfl) ?_
          refine gX_this5_tape hx hb hown hw5 hK hP u5 dX5_count_61 ?_
          refine gX_tapo_held hx hb hown hw4 hK hP u6 dX5_count_64 ?_
          exact hQ ▸ rtI (v := hld)  hx hb hr hlk hP hS (by rw [← (Option.some.inj hres)]) (by rw [← (Option.some.inj hres)]) dX5_count_67
        · have hres := (itl hres).2 v1_3
          by_cases v1_4 : x1 = 4
          · have hres := (itl hres).1 v1_4
            refine lv_tableIn (off := 67) (tgt := 68) hx hb dX5_count_1 (by rw [v1_4]; decide) (by rw [v1_4]; decide) (by rw [v1_4]; rfl) (by decide) ?_
            refine lv_aload_n hx hb dX5_count_68 rfl (lv_at hl 0 rfl) ?_
            refine gX_this5_now hx hb hown hw5 hK hP u1 dX5_count_69 ?_
            refine gX_now_year hx hb hown hw3 hK hP u7 dX5_count_72 ?_
            exact hQ ▸ rtI (v := yea)  hx hb hr hlk hP hS (by rw [← (Option.some.inj hres)]) (by rw [← (Option.some.inj hres)]) dX5_count_75
          · have hres := (itl hres).2 v1_4
            refine lv_tableOut (tgt := 76) hx hb dX5_count_1 (sw04 v1_0 v1_1 v1_2 v1_3 v1_4) (by decide) ?_
            refine lv_aload_n hx hb dX5_count_76 rfl (lv_at hl 0 rfl) ?_
            refine lv_ldc hx hb hown u8 dX5_count_77 ?_
            obtain ⟨q79, e79, hres⟩ := obd hres
            refine cvI (q0 := 0) (ci := 5) hx hb hml hown hts hEo hE hK hP hS (kX5_found l D a cI cJ cS hd hEo par kin lea mos wrt tal siz tol hrs ags yea kpar kkin klea kmos kwrt ktal ksiz ktol khrs kags kyea isk tly gai bes low hig spn byt hld sta beh sor num fnd sbi she snu (-1000000001 : Int32) q79 e79) gX5_count_X5_found rfl hdX5_found rfl rfl rfl ⟨rfl, rfl⟩ ⟨Nat.le_of_ble_eq_true rfl, Nat.le_of_ble_eq_true rfl⟩ ⟨Nat.zero_le _, Nat.zero_le _⟩ rfl hl.1 rfl (Nat.le_of_ble_eq_true rfl) dX5_count_79 (fun H locs hP hS => ?_)
            exact hQ ▸ rtI (v := q79.1)  hx hb hr hlk hP hS (by rw [← (Option.some.inj hres)]) (by rw [← (Option.some.inj hres)]) dX5_count_82
def fX5_status_l32 (fnd : Nat → Int32) (K32 : Int32 → Int32 → Option (Int32 × (Nat → Int32))) (x2 : Int32) (x3 : Int32) : Option (Int32 × (Nat → Int32)) :=
  if (7 : Int32) ≤ x3 then some (x2, fnd) else gd (ib x3 7) (K32 (x2 + (fnd x3.toNatClampNeg)) (x3 + 1))
def fX5_status (fnd : Nat → Int32) (x1 : Int32) : Option (Int32 × (Nat → Int32)) :=
  if (bI (fX5_isIn x1 (-1 : Int32) (6 : Int32))) = 0 then (fX5_found fnd (-1000000001 : Int32)).bind fun q13 => some (q13.1, q13.2) else if x1 < 0 then fix2 (fX5_status_l32 fnd) 2000 (0 : Int32) (0 : Int32) else gd (ib x1 7) (some (fnd x1.toNatClampNeg, fnd))
abbrev rX5_status : Room := { frames := 2, cells := 0, slots := 0, locals := 44 }
set_option maxHeartbeats 4000000 in
set_option maxRecDepth 100000 in
theorem kX5_status (l : Launch) (D : va_G) (a : Nat → Nat) (cI cJ cS : ClassId) (hd : aok a 36) {Env : (Nat → Prop) → State → Heap → Prop} (hEo : envOK Env) (par : Int32) (kin lea mos wrt : Nat → Int32) (tal : Int32) (siz tol : Nat → Int32) (hrs : Int32) (ags : Nat → Int32) (yea kpar : Int32) (kkin klea kmos kwrt : Nat → Int32) (ktal : Int32) (ksiz ktol : Nat → Int32) (khrs : Int32) (kags : Nat → Int32) (kyea isk : Int32) (tly : Nat → Int64) (gai bes : Nat → Int32) (low hig : Nat → Int64) (spn : Int32) (byt : Nat → Int32) (hld sta beh sor num : Int32) (fnd sbi she : Nat → Int32) (snu : Nat → Nat → Int64) (x1 : Int32) (res : Int32 × (Nat → Int32)) (hres : fX5_status fnd x1 = some res) : CtI l D (tyL cI cJ cS) 36 a Env yX5_status wsX5_status rX5_status [.ref (a 0), .int x1] (wX a cI cJ cS par kin lea mos wrt tal siz tol hrs ags yea kpar kkin klea kmos kwrt ktal ksiz ktol khrs kags kyea isk tly gai bes low hig spn byt hld sta beh sor num fnd sbi she snu) (wX a cI cJ cS par kin lea mos wrt tal siz tol hrs ags yea kpar kkin klea kmos kwrt ktal ksiz ktol khrs kags kyea isk tly gai bes low hig spn byt hld sta beh sor num res.2 sbi she snu) res.1 := by
  refine CtI_mk (cc := cX5_status) (maxL := 4) (ret := (some .int)) (by decide) rfl (Nat.le_of_ble_eq_true rfl) ?_
  intro p e s m args below meth c ls hx hb hr hlk hml hown hts hP hK hE hl
  have hS : va_S (adA a 36 s.heap.size) s.heap s.heap [] := va_S.rf
  have hl : lv_has ls 4 [(0, .ref (a 0)), (1, .int x1)] := hl
  have hown : s.vm.findClass RX5 = some m.cls := hown
  have hw5 : ∀ w ∈ wsX50, w.before args s = true := fun w h => hts w (List.mem_cons_of_mem _ (List.mem_append_right _ h))
  have u1 : (Cond.constant RX5 63 (-1000000001)).before args s = true := hts _ (List.mem_of_getElem? (i := 1) (by decide +kernel))
  have u2 : (Cond.fieldLink RX5 55 "YearWords" "findings" "[I").before args s = true := hts _ (List.mem_of_getElem? (i := 2) (by decide +kernel))
  obtain ⟨Q, hQ⟩ : ∃ Q, Q = mqI below D 36 a args s (wX a cI cJ cS par kin lea mos wrt tal siz tol hrs ags yea kpar kkin klea kmos kwrt ktal ksiz ktol khrs kags kyea isk tly gai bes low hig spn byt hld sta beh sor num res.2 sbi she snu) res.1 := ⟨_, rfl⟩
  rw [← hQ]
  have b32 : ∀ (fnd : Nat → Int32) (n : Nat) (x2 : Int32) (x3 : Int32), fix2 (fX5_status_l32 fnd) n x2 x3 = some res → ∀ (H : Heap) (locs : List Loc) (ls : Array Slot), va_P D vwCl (wX a cI cJ cS par kin lea mos wrt tal siz tol hrs ags yea kpar kkin klea kmos kwrt ktal ksiz ktol khrs kags kyea isk tly gai bes low hig spn byt hld sta beh sor num fnd sbi she snu) H → va_S (adA a 36 s.heap.size) s.heap H locs → lv_has ls 4 [(0, .ref (a 0)), (2, .int x2), (3, .int x3)] → W p l e rX5_status s m args below meth c H locs 0 0 Q (F0 m 32 ls []) := by
    intro fnd
    refine fix2_r ?_
    intro K32 hK32 x2 x3 hres H locs ls hP hS hl
    unfold fX5_status_l32 at hres
    refine lv_iload_n hx hb dX5_status_32 rfl (lv_at hl 2 rfl) ?_
    refine lv_bipush (v := 7) hx hb dX5_status_33 (by decide) ?_
    refine lv_icmp_ge (tgt := 53) hx hb dX5_status_35 (by decide) (fun c35 => ?_) (fun c35 => ?_)
    · have hres := (itl hres).1 c35
      refine lv_iload_n hx hb dX5_status_53 rfl (lv_at hl 1 rfl) ?_
      exact hQ ▸ rtI (v := x2)  hx hb hr hlk hP hS (by rw [← (Option.some.inj hres)]) (by rw [← (Option.some.inj hres)]) dX5_status_54
    · have hres := (itl hres).2 c35
      refine lv_iload_n hx hb dX5_status_38 rfl (lv_at hl 1 rfl) ?_
      refine lv_aload_n hx hb dX5_status_39 rfl (lv_at hl 0 rfl) ?_
      refine gX_this5_findings hx hb hown hw5 hK hP u2 dX5_status_40 ?_
      refine lv_iload_n hx hb dX5_status_43 rfl (lv_at hl 2 rfl) ?_
      obtain ⟨i44, hres⟩ := gdi hres
      refine lX_fnd hx hb hK hP i44 dX5_status_44 ?_
      refine lv_iadd hx hb dX5_status_45 ?_
      refine lv_istore_n (lv' := [(2, .int (x2 + (fnd x3.toNatClampNeg))), (0, .ref (a 0)), (3, .int x3)]) hx hb dX5_status_46 rfl hl (by decide) rfl (fun ls hl => ?_)
      refine lv_iinc (v := x3 + 1) (lv' := [(3, .int (x3 + 1)), (2, .int (x2 + (fnd x3.toNatClampNeg))), (0, .ref (a 0))]) hx hb dX5_status_47 hl (k := 2) rfl (congrArg (fun z => x3 + z) (by decide)) (by decide) rfl (fun ls hl => ?_)
      refine lv_goto (tgt := 32) hx hb dX5_status_50 (by decide) ?_
      exact hK32 (x2 + (fnd x3.toNatClampNeg)) (x3 + 1) hres _ _ _ hP hS (lv_sub hl [2, 1, 0] rfl)
  unfold fX5_status at hres
  refine lv_iload_n hx hb dX5_status_0 rfl (lv_at hl 1 rfl) ?_
  refine lv_iconst (v := (-1)) hx hb dX5_status_1 (by decide) ?_
  refine lv_bipush (v := 6) hx hb dX5_status_2 (by decide) ?_
  refine csI hx hb hml hown hts hEo hE hK hP hS (kX5_isIn l D a cI cJ cS hd hEo par kin lea mos wrt tal siz tol hrs ags yea kpar kkin klea kmos kwrt ktal ksiz ktol khrs kags kyea isk tly gai bes low hig spn byt hld sta beh sor num fnd sbi she snu x1 (-1 : Int32) (6 : Int32)) gX5_status_X5_isIn rfl hdX5_isIn ⟨rfl, rfl⟩ ⟨Nat.le_of_ble_eq_true rfl, Nat.le_of_ble_eq_true rfl⟩ ⟨Nat.zero_le _, Nat.zero_le _⟩ rfl hl.1 rfl (Nat.le_of_ble_eq_true rfl) dX5_status_4 (fun H locs hP hS => ?_)
  refine lv_if_ne (tgt := 17) hx hb dX5_status_7 (by decide) (fun c7 => ?_) (fun c7 => ?_)
  · have hres := (itl hres).2 c7
    refine lv_iload_n hx hb dX5_status_17 rfl (lv_at hl 1 rfl) ?_
    refine lv_if_lt (tgt := 28) hx hb dX5_status_18 (by decide) (fun c18 => ?_) (fun c18 => ?_)
    · have hres := (itl hres).1 c18
      refine lv_iconst (v := 0) hx hb dX5_status_28 (by decide) ?_
      refine lv_istore_n (lv' := [(2, .int (0 : Int32)), (0, .ref (a 0)), (1, .int x1)]) hx hb dX5_status_29 rfl hl (by decide) rfl (fun ls hl => ?_)
      refine lv_iconst (v := 0) hx hb dX5_status_30 (by decide) ?_
      refine lv_istore_n (lv' := [(3, .int (0 : Int32)), (2, .int (0 : Int32)), (0, .ref (a 0)), (1, .int x1)]) hx hb dX5_status_31 rfl hl (by decide) rfl (fun ls hl => ?_)
      exact b32 fnd 2000 (0 : Int32) (0 : Int32) hres _ _ _ hP hS (lv_sub hl [2, 1, 0] rfl)
    · have hres := (itl hres).2 c18
      refine lv_aload_n hx hb dX5_status_21 rfl (lv_at hl 0 rfl) ?_
      refine gX_this5_findings hx hb hown hw5 hK hP u2 dX5_status_22 ?_
      refine lv_iload_n hx hb dX5_status_25 rfl (lv_at hl 1 rfl) ?_
      obtain ⟨i26, hres⟩ := gdi hres
      refine lX_fnd hx hb hK hP i26 dX5_status_26 ?_
      exact hQ ▸ rtI (v := fnd x1.toNatClampNeg)  hx hb hr hlk hP hS (by rw [← (Option.some.inj hres)]) (by rw [← (Option.some.inj hres)]) dX5_status_27
  · have hres := (itl hres).1 c7
    refine lv_aload_n hx hb dX5_status_10 rfl (lv_at hl 0 rfl) ?_
    refine lv_ldc hx hb hown u1 dX5_status_11 ?_
    obtain ⟨q13, e13, hres⟩ := obd hres
    refine cvI (q0 := 0) (ci := 5) hx hb hml hown hts hEo hE hK hP hS (kX5_found l D a cI cJ cS hd hEo par kin lea mos wrt tal siz tol hrs ags yea kpar kkin klea kmos kwrt ktal ksiz ktol khrs kags kyea isk tly gai bes low hig spn byt hld sta beh sor num fnd sbi she snu (-1000000001 : Int32) q13 e13) gX5_status_X5_found rfl hdX5_found rfl rfl rfl ⟨rfl, rfl⟩ ⟨Nat.le_of_ble_eq_true rfl, Nat.le_of_ble_eq_true rfl⟩ ⟨Nat.zero_le _, Nat.zero_le _⟩ rfl hl.1 rfl (Nat.le_of_ble_eq_true rfl) dX5_status_13 (fun H locs hP hS => ?_)
    exact hQ ▸ rtI (v := q13.1)  hx hb hr hlk hP hS (by rw [← (Option.some.inj hres)]) (by rw [← (Option.some.inj hres)]) dX5_status_16
