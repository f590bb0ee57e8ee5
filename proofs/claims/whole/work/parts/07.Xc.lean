def fX1_mostUnderstood_b26 (K3 : Int32 → (Nat → Int32) → Option (Int32 × (Nat → Int32))) (gai : Nat → Int32) (x4 : Int32) (z1 : Int32) (z2 : Int32) : Option (Int32 × (Nat → Int32)) :=
  gd (ib z1 1331) (K3 (x4 + 1) (upd gai z1.toNatClampNeg z2))
def fX1_mostUnderstood_b115 (K72 : Int32 → (Nat → Int32) → Option (Int32 × (Nat → Int32))) (gai : Nat → Int32) (x6 : Int32) (z1 : Int32) (z2 : Int32) : Option (Int32 × (Nat → Int32)) :=
  gd (ib z1 1331) (K72 (x6 + (-1)) (upd gai z1.toNatClampNeg z2))
def fX1_mostUnderstood_b122 (K36 : Int32 → (Nat → Int32) → Option (Int32 × (Nat → Int32))) (gai : Nat → Int32) (x4 : Int32) : Option (Int32 × (Nat → Int32)) :=
  K36 (x4 + 1) gai
def fX1_mostUnderstood_l72 (K36 : Int32 → (Nat → Int32) → Option (Int32 × (Nat → Int32))) (hrs : Int32) (ags : Nat → Int32) (x3 : Int32) (x4 : Int32) (x5 : Int32) (K72 : Int32 → (Nat → Int32) → Option (Int32 × (Nat → Int32))) (x6 : Int32) (gai : Nat → Int32) : Option (Int32 × (Nat → Int32)) :=
  if x6 < 0 then fX1_mostUnderstood_b122 K36 gai x4 else (fX1_mostAhead gai x5 x6).bind fun q82 => if q82 = (-1000000000 : Int32) then fX1_mostUnderstood_b115 K72 gai x6 x6 (-1000000000 : Int32) else (fX1_hearing hrs ags x3 x6).bind fun q111 => fX1_mostUnderstood_b115 K72 gai x6 x6 (q82 + q111)
def fX1_mostUnderstood_b128 (gai : Nat → Int32) (x2 : Int32) : Option (Int32 × (Nat → Int32)) :=
  gd (ib x2 1331) (some (gai x2.toNatClampNeg, gai))
def fX1_mostUnderstood_l36 (kin : Nat → Int32) (lea : Nat → Int32) (mos : Nat → Int32) (siz : Nat → Int32) (tol : Nat → Int32) (hrs : Int32) (ags : Nat → Int32) (x1 : Int32) (x2 : Int32) (x3 : Int32) (K36 : Int32 → (Nat → Int32) → Option (Int32 × (Nat → Int32))) (x4 : Int32) (gai : Nat → Int32) : Option (Int32 × (Nat → Int32)) :=
  gd (ib x1 8) (if (siz x1.toNatClampNeg) ≤ x4 then fX1_mostUnderstood_b128 gai x2 else (fX3_toldAt tol x1 x4).bind fun q61 => (fX3_lengthsOf kin lea mos q61).bind fun q64 => fix2 (fX1_mostUnderstood_l72 K36 hrs ags x3 x4 q64) 2000 x2 gai)
def fX1_mostUnderstood_b33 (kin : Nat → Int32) (lea : Nat → Int32) (mos : Nat → Int32) (siz : Nat → Int32) (tol : Nat → Int32) (hrs : Int32) (ags : Nat → Int32) (gai : Nat → Int32) (x1 : Int32) (x2 : Int32) (x3 : Int32) : Option (Int32 × (Nat → Int32)) :=
  fix2 (fX1_mostUnderstood_l36 kin lea mos siz tol hrs ags x1 x2 x3) 2000 (0 : Int32) gai
def fX1_mostUnderstood_l3 (kin : Nat → Int32) (lea : Nat → Int32) (mos : Nat → Int32) (siz : Nat → Int32) (tol : Nat → Int32) (hrs : Int32) (ags : Nat → Int32) (x1 : Int32) (x2 : Int32) (x3 : Int32) (K3 : Int32 → (Nat → Int32) → Option (Int32 × (Nat → Int32))) (x4 : Int32) (gai : Nat → Int32) : Option (Int32 × (Nat → Int32)) :=
  if x2 < x4 then fX1_mostUnderstood_b33 kin lea mos siz tol hrs ags gai x1 x2 x3 else if x4 = 0 then fX1_mostUnderstood_b26 K3 gai x4 x4 (0 : Int32) else fX1_mostUnderstood_b26 K3 gai x4 x4 (-1000000000 : Int32)
def fX1_mostUnderstood (kin : Nat → Int32) (lea : Nat → Int32) (mos : Nat → Int32) (siz : Nat → Int32) (tol : Nat → Int32) (hrs : Int32) (ags : Nat → Int32) (gai : Nat → Int32) (x1 : Int32) (x2 : Int32) (x3 : Int32) : Option (Int32 × (Nat → Int32)) :=
  fix2 (fX1_mostUnderstood_l3 kin lea mos siz tol hrs ags x1 x2 x3) 2000 (0 : Int32) gai
theorem hdX1_hearing : yX1_hearing.cls = RX1 ∧ yX1_hearing.cls ≠ "java/lang/invoke/MethodHandle" ∧ yX1_hearing.cls ≠ "java/lang/invoke/VarHandle" ∧ (parseMethodDescriptor yX1_hearing.desc).map (fun d => d.parameters.length) = some 2 := by decide +kernel
theorem hdX1_mostAhead : yX1_mostAhead.cls = RX1 ∧ yX1_mostAhead.cls ≠ "java/lang/invoke/MethodHandle" ∧ yX1_mostAhead.cls ≠ "java/lang/invoke/VarHandle" ∧ (parseMethodDescriptor yX1_mostAhead.desc).map (fun d => d.parameters.length) = some 2 := by decide +kernel
abbrev rX1_mostUnderstood : Room := { frames := 2, cells := 0, slots := 0, locals := 47 }
set_option maxHeartbeats 4000000 in
set_option maxRecDepth 100000 in
theorem kX1_mostUnderstood (l : Launch) (D : va_G) (a : Nat → Nat) (cI cJ cS : ClassId) (hd : aok a 36) {Env : (Nat → Prop) → State → Heap → Prop} (hEo : envOK Env) (par : Int32) (kin lea mos wrt : Nat → Int32) (tal : Int32) (siz tol : Nat → Int32) (hrs : Int32) (ags : Nat → Int32) (yea kpar : Int32) (kkin klea kmos kwrt : Nat → Int32) (ktal : Int32) (ksiz ktol : Nat → Int32) (khrs : Int32) (kags : Nat → Int32) (kyea isk : Int32) (tly : Nat → Int64) (gai bes : Nat → Int32) (low hig : Nat → Int64) (spn : Int32) (byt : Nat → Int32) (hld sta beh sor num : Int32) (fnd sbi she : Nat → Int32) (snu : Nat → Nat → Int64) (x1 : Int32) (x2 : Int32) (x3 : Int32) (res : Int32 × (Nat → Int32)) (hres : fX1_mostUnderstood kin lea mos siz tol hrs ags gai x1 x2 x3 = some res) : CtI l D (tyL cI cJ cS) 36 a Env yX1_mostUnderstood wsX1_mostUnderstood rX1_mostUnderstood [.ref (a 17), .int x1, .int x2, .int x3] (wX a cI cJ cS par kin lea mos wrt tal siz tol hrs ags yea kpar kkin klea kmos kwrt ktal ksiz ktol khrs kags kyea isk tly gai bes low hig spn byt hld sta beh sor num fnd sbi she snu) (wX a cI cJ cS par kin lea mos wrt tal siz tol hrs ags yea kpar kkin klea kmos kwrt ktal ksiz ktol khrs kags kyea isk tly res.2 bes low hig spn byt hld sta beh sor num fnd sbi she snu) res.1 := by
  refine CtI_mk (cc := cX1_mostUnderstood) (maxL := 8) (ret := (some .int)) (by decide) rfl (Nat.le_of_ble_eq_true rfl) ?_
  intro p e s m args below meth c ls hx hb hr hlk hml hown hts hP hK hE hl
  have hS : va_S (adA a 36 s.heap.size) s.heap s.heap [] := va_S.rf
  have hl : lv_has ls 8 [(0, .ref (a 17)), (1, .int x1), (2, .int x2), (3, .int x3)] := hl
  have hown : s.vm.findClass RX1 = some m.cls := hown
  have hw1 : ∀ w ∈ wsX10, w.before args s = true := fun w h => hts w (List.mem_cons_of_mem _ (List.mem_append_left _ (List.mem_append_right _ h)))
  have hw3 : ∀ w ∈ wsX30, w.before args s = true := fun w h => hts w (List.mem_cons_of_mem _ (List.mem_append_right _ h))
  have u1 : (Cond.fieldLink RX1 15 "YearWords$Sayings" "gains" "[I").before args s = true := hts _ (List.mem_of_getElem? (i := 1) (by decide +kernel))
  have u2 : (Cond.constant RX1 79 (-1000000000)).before args s = true := hts _ (List.mem_of_getElem? (i := 2) (by decide +kernel))
  have u3 : (Cond.fieldLink RX1 32 "YearWords$Sayings" "stock" "LYearWords$Stock;").before args s = true := hts _ (List.mem_of_getElem? (i := 3) (by decide +kernel))
  have u4 : (Cond.fieldLink RX1 36 "YearWords$Stock" "sizes" "[I").before args s = true := hts _ (List.mem_of_getElem? (i := 4) (by decide +kernel))
  obtain ⟨Q, hQ⟩ : ∃ Q, Q = mqI below D 36 a args s (wX a cI cJ cS par kin lea mos wrt tal siz tol hrs ags yea kpar kkin klea kmos kwrt ktal ksiz ktol khrs kags kyea isk tly res.2 bes low hig spn byt hld sta beh sor num fnd sbi she snu) res.1 := ⟨_, rfl⟩
  rw [← hQ]
  have b128 : ∀ (gai : Nat → Int32), fX1_mostUnderstood_b128 gai x2 = some res → ∀ (H : Heap) (locs : List Loc) (ls : Array Slot), va_P D vwCl (wX a cI cJ cS par kin lea mos wrt tal siz tol hrs ags yea kpar kkin klea kmos kwrt ktal ksiz ktol khrs kags kyea isk tly gai bes low hig spn byt hld sta beh sor num fnd sbi she snu) H → va_S (adA a 36 s.heap.size) s.heap H locs → lv_has ls 8 [(0, .ref (a 17)), (2, .int x2)] → W p l e rX1_mostUnderstood s m args below meth c H locs 0 0 Q (F0 m 128 ls []) := by
    intro gai hres H locs ls hP hS hl
    unfold fX1_mostUnderstood_b128 at hres
    refine lv_aload_n hx hb dX1_mostUnderstood_128 rfl (lv_at hl 0 rfl) ?_
    refine gX_sayo_gains hx hb hown hw1 hK hP u1 dX1_mostUnderstood_129 ?_
    refine lv_iload_n hx hb dX1_mostUnderstood_132 rfl (lv_at hl 1 rfl) ?_
    obtain ⟨i133, hres⟩ := gdi hres
    refine lX_gai hx hb hK hP i133 dX1_mostUnderstood_133 ?_
    exact hQ ▸ rtI (v := gai x2.toNatClampNeg)  hx hb hr hlk hP hS (by rw [← (Option.some.inj hres)]) (by rw [← (Option.some.inj hres)]) dX1_mostUnderstood_134
  have b36 : ∀  (n : Nat) (x4 : Int32) (gai : Nat → Int32), fix2 (fX1_mostUnderstood_l36 kin lea mos siz tol hrs ags x1 x2 x3) n x4 gai = some res → ∀ (H : Heap) (locs : List Loc) (ls : Array Slot), va_P D vwCl (wX a cI cJ cS par kin lea mos wrt tal siz tol hrs ags yea kpar kkin klea kmos kwrt ktal ksiz ktol khrs kags kyea isk tly gai bes low hig spn byt hld sta beh sor num fnd sbi she snu) H → va_S (adA a 36 s.heap.size) s.heap H locs → lv_has ls 8 [(0, .ref (a 17)), (1, .int x1), (2, .int x2), (3, .int x3), (4, .int x4)] → W p l e rX1_mostUnderstood s m args below meth c H locs 0 0 Q (F0 m 36 ls []) := by
    refine fix2_r ?_
    intro K36 hK36 x4 gai hres H locs ls hP hS hl
    have b122 : ∀ (gai : Nat → Int32) (x4 : Int32), fX1_mostUnderstood_b122 K36 gai x4 = some res → ∀ (H : Heap) (locs : List Loc) (ls : Array Slot), va_P D vwCl (wX a cI cJ cS par kin lea mos wrt tal siz tol hrs ags yea kpar kkin klea kmos kwrt ktal ksiz ktol khrs kags kyea isk tly gai bes low hig spn byt hld sta beh sor num fnd sbi she snu) H → va_S (adA a 36 s.heap.size) s.heap H locs → lv_has ls 8 [(0, .ref (a 17)), (1, .int x1), (2, .int x2), (3, .int x3), (4, .int x4)] → W p l e rX1_mostUnderstood s m args below meth c H locs 0 0 Q (F0 m 122 ls []) := by
      intro gai x4 hres H locs ls hP hS hl
      unfold fX1_mostUnderstood_b122 at hres
      refine lv_iinc (v := x4 + 1) (lv' := [(4, .int (x4 + 1)), (0, .ref (a 17)), (1, .int x1), (2, .int x2), (3, .int x3)]) hx hb dX1_mostUnderstood_122 hl (k := 4) rfl (congrArg (fun z => x4 + z) (by decide)) (by decide) rfl (fun ls hl => ?_)
      refine lv_goto (tgt := 36) hx hb dX1_mostUnderstood_125 (by decide) ?_
      exact hK36 (x4 + 1) gai hres _ _ _ hP hS (lv_sub hl [1, 2, 3, 4, 0] rfl)
    have b72 : ∀ (x4 : Int32) (x5 : Int32) (n : Nat) (x6 : Int32) (gai : Nat → Int32), fix2 (fX1_mostUnderstood_l72 K36 hrs ags x3 x4 x5) n x6 gai = some res → ∀ (H : Heap) (locs : List Loc) (ls : Array Slot), va_P D vwCl (wX a cI cJ cS par kin lea mos wrt tal siz tol hrs ags yea kpar kkin klea kmos kwrt ktal ksiz ktol khrs kags kyea isk tly gai bes low hig spn byt hld sta beh sor num fnd sbi she snu) H → va_S (adA a 36 s.heap.size) s.heap H locs → lv_has ls 8 [(0, .ref (a 17)), (1, .int x1), (2, .int x2), (3, .int x3), (4, .int x4), (5, .int x5), (6, .int x6)] → W p l e rX1_mostUnderstood s m args below meth c H locs 0 0 Q (F0 m 72 ls []) := by
      intro x4 x5
      refine fix2_r ?_
      intro K72 hK72 x6 gai hres H locs ls hP hS hl
      have b115 : ∀ (gai : Nat → Int32) (x6 : Int32) (z1 : Int32) (z2 : Int32), fX1_mostUnderstood_b115 K72 gai x6 z1 z2 = some res → ∀ (H : Heap) (locs : List Loc) (ls : Array Slot), va_P D vwCl (wX a cI cJ cS par kin lea mos wrt tal siz tol hrs ags yea kpar kkin klea kmos kwrt ktal ksiz ktol khrs kags kyea isk tly gai bes low hig spn byt hld sta beh sor num fnd sbi she snu) H → va_S (adA a 36 s.heap.size) s.heap H locs → lv_has ls 8 [(0, .ref (a 17)), (1, .int x1), (2, .int x2), (3, .int x3), (4, .int x4), (5, .int x5), (6, .int x6)] → W p l e rX1_mostUnderstood s m args below meth c H locs 0 0 Q (F0 m 115 ls [.int z2, .int z1, .ref (a 19)]) := by
        intro gai x6 z1 z2 hres H locs ls hP hS hl
        unfold fX1_mostUnderstood_b115 at hres
        obtain ⟨i115, hres⟩ := gdi hres
        refine sX_gai hx hb hK hP hd hS i115 dX1_mostUnderstood_115 (fun H locs hP hS => ?_)
        refine lv_iinc (v := x6 + (-1)) (lv' := [(6, .int (x6 + (-1))), (0, .ref (a 17)), (1, .int x1), (2, .int x2), (3, .int x3), (4, .int x4), (5, .int x5)]) hx hb dX1_mostUnderstood_116 hl (k := 6) rfl (congrArg (fun z => x6 + z) (by decide)) (by decide) rfl (fun ls hl => ?_)
        refine lv_goto (tgt := 72) hx hb dX1_mostUnderstood_119 (by decide) ?_
        exact hK72 (x6 + (-1)) (upd gai z1.toNatClampNeg z2) hres _ _ _ hP hS (lv_sub hl [1, 2, 3, 4, 5, 6, 0] rfl)
      unfold fX1_mostUnderstood_l72 at hres
      refine lv_iload hx hb dX1_mostUnderstood_72 (lv_at hl 6 rfl) ?_
      refine lv_if_lt (tgt := 122) hx hb dX1_mostUnderstood_74 (by decide) (fun c74 => ?_) (fun c74 => ?_)
      · have hres := (itl hres).1 c74
        exact b122 gai x4 hres _ _ _ hP hS (lv_sub hl [0, 1, 2, 3, 4] rfl)
      · have hres := (itl hres).2 c74
        refine lv_aload_n hx hb dX1_mostUnderstood_77 rfl (lv_at hl 0 rfl) ?_
        refine lv_iload hx hb dX1_mostUnderstood_78 (lv_at hl 5 rfl) ?_
        refine lv_iload hx hb dX1_mostUnderstood_80 (lv_at hl 6 rfl) ?_
        obtain ⟨q82, e82, hres⟩ := obd hres
        refine cvI (q0 := 17) (ci := 1) hx hb hml hown hts hEo hE hK hP hS (kX1_mostAhead l D a cI cJ cS hd hEo par kin lea mos wrt tal siz tol hrs ags yea kpar kkin klea kmos kwrt ktal ksiz ktol khrs kags kyea isk tly gai bes low hig spn byt hld sta beh sor num fnd sbi she snu x5 x6 q82 e82) gX1_mostUnderstood_X1_mostAhead rfl hdX1_mostAhead rfl rfl rfl ⟨rfl, rfl⟩ ⟨Nat.le_of_ble_eq_true rfl, Nat.le_of_ble_eq_true rfl⟩ ⟨Nat.zero_le _, Nat.zero_le _⟩ rfl hl.1 rfl (Nat.le_of_ble_eq_true rfl) dX1_mostUnderstood_82 (fun H locs hP hS => ?_)
        refine lv_istore (lv' := [(7, .int q82), (0, .ref (a 17)), (1, .int x1), (2, .int x2), (3, .int x3), (4, .int x4), (5, .int x5), (6, .int x6)]) hx hb dX1_mostUnderstood_85 hl (by decide) rfl (fun ls hl => ?_)
        refine lv_aload_n hx hb dX1_mostUnderstood_87 rfl (lv_at hl 1 rfl) ?_
        refine gX_sayo_gains hx hb hown hw1 hK hP u1 dX1_mostUnderstood_88 ?_
        refine lv_iload hx hb dX1_mostUnderstood_91 (lv_at hl 7 rfl) ?_
        refine lv_iload hx hb dX1_mostUnderstood_93 (lv_at hl 0 rfl) ?_
        refine lv_ldc hx hb hown u2 dX1_mostUnderstood_95 ?_
        refine lv_icmp_ne (tgt := 105) hx hb dX1_mostUnderstood_97 (by decide) (fun c97 => ?_) (fun c97 => ?_)
        · have hres := (itl hres).2 c97
          refine lv_iload hx hb dX1_mostUnderstood_105 (lv_at hl 0 rfl) ?_
          refine lv_aload_n hx hb dX1_mostUnderstood_107 rfl (lv_at hl 1 rfl) ?_
          refine lv_iload_n hx hb dX1_mostUnderstood_108 rfl (lv_at hl 4 rfl) ?_
          refine lv_iload hx hb dX1_mostUnderstood_109 (lv_at hl 7 rfl) ?_
          obtain ⟨q111, e111, hres⟩ := obd hres
          refine cvI (q0 := 17) (ci := 1) hx hb hml hown hts hEo hE hK hP hS (kX1_hearing l D a cI cJ cS hd hEo par kin lea mos wrt tal siz tol hrs ags yea kpar kkin klea kmos kwrt ktal ksiz ktol khrs kags kyea isk tly gai bes low hig spn byt hld sta beh sor num fnd sbi she snu x3 x6 q111 e111) gX1_mostUnderstood_X1_hearing rfl hdX1_hearing rfl rfl rfl ⟨rfl, rfl⟩ ⟨Nat.le_of_ble_eq_true rfl, Nat.le_of_ble_eq_true rfl⟩ ⟨Nat.zero_le _, Nat.zero_le _⟩ rfl hl.1 rfl (Nat.le_of_ble_eq_true rfl) dX1_mostUnderstood_111 (fun H locs hP hS => ?_)
          refine lv_iadd hx hb dX1_mostUnderstood_114 ?_
          exact b115 gai x6 x6 (q82 + q111) hres _ _ _ hP hS (lv_sub hl [1, 2, 3, 4, 5, 6, 7] rfl)
        · have hres := (itl hres).1 c97
          refine lv_ldc hx hb hown u2 dX1_mostUnderstood_100 ?_
          refine lv_goto (tgt := 115) hx hb dX1_mostUnderstood_102 (by decide) ?_
          exact b115 gai x6 x6 (-1000000000 : Int32) hres _ _ _ hP hS (lv_sub hl [1, 2, 3, 4, 5, 6, 7] rfl)
    unfold fX1_mostUnderstood_l36 at hres
    refine lv_iload hx hb dX1_mostUnderstood_36 (lv_at hl 4 rfl) ?_
    refine lv_aload_n hx hb dX1_mostUnderstood_38 rfl (lv_at hl 0 rfl) ?_
    refine gX_sayo_stock hx hb hown hw1 hK hP u3 dX1_mostUnderstood_39 ?_
    refine gX_now_sizes hx hb hown hw3 hK hP u4 dX1_mostUnderstood_42 ?_
    refine lv_iload_n hx hb dX1_mostUnderstood_45 rfl (lv_at hl 1 rfl) ?_
    obtain ⟨i46, hres⟩ := gdi hres
    refine lX_siz hx hb hK hP i46 dX1_mostUnderstood_46 ?_
    refine lv_icmp_ge (tgt := 128) hx hb dX1_mostUnderstood_47 (by decide) (fun c47 => ?_) (fun c47 => ?_)
    · have hres := (itl hres).1 c47
      exact b128 gai hres _ _ _ hP hS (lv_sub hl [0, 2] rfl)
    · have hres := (itl hres).2 c47
      refine lv_aload_n hx hb dX1_mostUnderstood_50 rfl (lv_at hl 0 rfl) ?_
      refine gX_sayo_stock hx hb hown hw1 hK hP u3 dX1_mostUnderstood_51 ?_
      refine lv_aload_n hx hb dX1_mostUnderstood_54 rfl (lv_at hl 0 rfl) ?_
      refine gX_sayo_stock hx hb hown hw1 hK hP u3 dX1_mostUnderstood_55 ?_
      refine lv_iload_n hx hb dX1_mostUnderstood_58 rfl (lv_at hl 1 rfl) ?_
      refine lv_iload hx hb dX1_mostUnderstood_59 (lv_at hl 4 rfl) ?_
      obtain ⟨q61, e61, hres⟩ := obd hres
      refine cvI (q0 := 1) (ci := 3) hx hb hml hown hts hEo hE hK hP hS (kX3_toldAt l D a cI cJ cS hd hEo par kin lea mos wrt tal siz tol hrs ags yea kpar kkin klea kmos kwrt ktal ksiz ktol khrs kags kyea isk tly gai bes low hig spn byt hld sta beh sor num fnd sbi she snu x1 x4 q61 e61) gX1_mostUnderstood_X3_toldAt rfl hdX3_toldAt rfl rfl rfl ⟨rfl, rfl⟩ ⟨Nat.le_of_ble_eq_true rfl, Nat.le_of_ble_eq_true rfl⟩ ⟨Nat.zero_le _, Nat.zero_le _⟩ rfl hl.1 rfl (Nat.le_of_ble_eq_true rfl) dX1_mostUnderstood_61 (fun H locs hP hS => ?_)
      obtain ⟨q64, e64, hres⟩ := obd hres
      refine cvI (q0 := 1) (ci := 3) hx hb hml hown hts hEo hE hK hP hS (kX3_lengthsOf l D a cI cJ cS hd hEo par kin lea mos wrt tal siz tol hrs ags yea kpar kkin klea kmos kwrt ktal ksiz ktol khrs kags kyea isk tly gai bes low hig spn byt hld sta beh sor num fnd sbi she snu q61 q64 e64) gX1_mostUnderstood_X3_lengthsOf rfl hdX3_lengthsOf rfl rfl rfl ⟨rfl, rfl⟩ ⟨Nat.le_of_ble_eq_true rfl, Nat.le_of_ble_eq_true rfl⟩ ⟨Nat.zero_le _, Nat.zero_le _⟩ rfl hl.1 rfl (Nat.le_of_ble_eq_true rfl) dX1_mostUnderstood_64 (fun H locs hP hS => ?_)
      refine lv_istore (lv' := [(5, .int q64), (0, .ref (a 17)), (1, .int x1), (2, .int x2), (3, .int x3), (4, .int x4)]) hx hb dX1_mostUnderstood_67 hl (by decide) rfl (fun ls hl => ?_)
      refine lv_iload_n hx hb dX1_mostUnderstood_69 rfl (lv_at hl 3 rfl) ?_
      refine lv_istore (lv' := [(6, .int x2), (5, .int q64), (0, .ref (a 17)), (1, .int x1), (2, .int x2), (3, .int x3), (4, .int x4)]) hx hb dX1_mostUnderstood_70 hl (by decide) rfl (fun ls hl => ?_)
      exact b72 x4 q64 2000 x2 gai hres _ _ _ hP hS (lv_sub hl [2, 3, 4, 5, 6, 1, 0] rfl)
  have b33 : ∀ (gai : Nat → Int32), fX1_mostUnderstood_b33 kin lea mos siz tol hrs ags gai x1 x2 x3 = some res → ∀ (H : Heap) (locs : List Loc) (ls : Array Slot), va_P D vwCl (wX a cI cJ cS par kin lea mos wrt tal siz tol hrs ags yea kpar kkin klea kmos kwrt ktal ksiz ktol khrs kags kyea isk tly gai bes low hig spn byt hld sta beh sor num fnd sbi she snu) H → va_S (adA a 36 s.heap.size) s.heap H locs → lv_has ls 8 [(0, .ref (a 17)), (1, .int x1), (2, .int x2), (3, .int x3)] → W p l e rX1_mostUnderstood s m args below meth c H locs 0 0 Q (F0 m 33 ls []) := by
    intro gai hres H locs ls hP hS hl
    unfold fX1_mostUnderstood_b33 at hres
    refine lv_iconst (v := 0) hx hb dX1_mostUnderstood_33 (by decide) ?_
    refine lv_istore (lv' := [(4, .int (0 : Int32)), (0, .ref (a 17)), (1, .int x1), (2, .int x2), (3, .int x3)]) hx hb dX1_mostUnderstood_34 hl (by decide) rfl (fun ls hl => ?_)
    exact b36  2000 (0 : Int32) gai hres _ _ _ hP hS (lv_sub hl [1, 2, 3, 4, 0] rfl)
  have b3 : ∀  (n : Nat) (x4 : Int32) (gai : Nat → Int32), fix2 (fX1_mostUnderstood_l3 kin lea mos siz tol hrs ags x1 x2 x3) n x4 gai = some res → ∀ (H : Heap) (locs : List Loc) (ls : Array Slot), va_P D vwCl (wX a cI cJ cS par kin lea mos wrt tal siz tol hrs ags yea kpar kkin klea kmos kwrt ktal ksiz ktol khrs kags kyea isk tly gai bes low hig spn byt hld sta beh sor num fnd sbi she snu) H → va_S (adA a 36 s.heap.size) s.heap H locs → lv_has ls 8 [(0, .ref (a 17)), (1, .int x1), (2, .int x2), (3, .int x3), (4, .int x4)] → W p l e rX1_mostUnderstood s m args below meth c H locs 0 0 Q (F0 m 3 ls []) := by
    refine fix2_r ?_
    intro K3 hK3 x4 gai hres H locs ls hP hS hl
    have b26 : ∀ (gai : Nat → Int32) (x4 : Int32) (z1 : Int32) (z2 : Int32), fX1_mostUnderstood_b26 K3 gai x4 z1 z2 = some res → ∀ (H : Heap) (locs : List Loc) (ls : Array Slot), va_P D vwCl (wX a cI cJ cS par kin lea mos wrt tal siz tol hrs ags yea kpar kkin klea kmos kwrt ktal ksiz ktol khrs kags kyea isk tly gai bes low hig spn byt hld sta beh sor num fnd sbi she snu) H → va_S (adA a 36 s.heap.size) s.heap H locs → lv_has ls 8 [(0, .ref (a 17)), (1, .int x1), (2, .int x2), (3, .int x3), (4, .int x4)] → W p l e rX1_mostUnderstood s m args below meth c H locs 0 0 Q (F0 m 26 ls [.int z2, .int z1, .ref (a 19)]) := by
      intro gai x4 z1 z2 hres H locs ls hP hS hl
      unfold fX1_mostUnderstood_b26 at hres
      obtain ⟨i26, hres⟩ := gdi hres
      refine sX_gai hx hb hK hP hd hS i26 dX1_mostUnderstood_26 (fun H locs hP hS => ?_)
      refine lv_iinc (v := x4 + 1) (lv' := [(4, .int (x4 + 1)), (0, .ref (a 17)), (1, .int x1), (2, .int x2), (3, .int x3)]) hx hb dX1_mostUnderstood_27 hl (k := 4) rfl (congrArg (fun z => x4 + z) (by decide)) (by decide) rfl (fun ls hl => ?_)
      refine lv_goto (tgt := 3) hx hb dX1_mostUnderstood_30 (by decide) ?_
      exact hK3 (x4 + 1) (upd gai z1.toNatClampNeg z2) hres _ _ _ hP hS (lv_sub hl [1, 2, 3, 4, 0] rfl)
    unfold fX1_mostUnderstood_l3 at hres
    refine lv_iload hx hb dX1_mostUnderstood_3 (lv_at hl 4 rfl) ?_
    refine lv_iload_n hx hb dX1_mostUnderstood_5 rfl (lv_at hl 2 rfl) ?_
    refine lv_icmp_gt (tgt := 33) hx hb dX1_mostUnderstood_6 (by decide) (fun c6 => ?_) (fun c6 => ?_)
    · have hres := (itl hres).1 c6
      exact b33 gai hres _ _ _ hP hS (lv_sub hl [0, 1, 2, 3] rfl)
    · have hres := (itl hres).2 c6
      refine lv_aload_n hx hb dX1_mostUnderstood_9 rfl (lv_at hl 0 rfl) ?_
      refine gX_sayo_gains hx hb hown hw1 hK hP u1 dX1_mostUnderstood_10 ?_
      refine lv_iload hx hb dX1_mostUnderstood_13 (lv_at hl 4 rfl) ?_
      refine lv_iload hx hb dX1_mostUnderstood_15 (lv_at hl 4 rfl) ?_
      refine lv_if_ne (tgt := 24) hx hb dX1_mostUnderstood_17 (by decide) (fun c17 => ?_) (fun c17 => ?_)
      · have hres := (itl hres).2 c17
        refine lv_ldc hx hb hown u2 dX1_mostUnderstood_24 ?_
        exact b26 gai x4 x4 (-1000000000 : Int32) hres _ _ _ hP hS (lv_sub hl [0, 1, 2, 3, 4] rfl)
      · have hres := (itl hres).1 c17
        refine lv_iconst (v := 0) hx hb dX1_mostUnderstood_20 (by decide) ?_
        refine lv_goto (tgt := 26) hx hb dX1_mostUnderstood_21 (by decide) ?_
        exact b26 gai x4 x4 (0 : Int32) hres _ _ _ hP hS (lv_sub hl [0, 1, 2, 3, 4] rfl)
  unfold fX1_mostUnderstood at hres
  refine lv_iconst (v := 0) hx hb dX1_mostUnderstood_0 (by decide) ?_
  refine lv_istore (lv' := [(4, .int (0 : Int32)), (0, .ref (a 17)), (1, .int x1), (2, .int x2), (3, .int x3)]) hx hb dX1_mostUnderstood_1 hl (by decide) rfl (fun ls hl => ?_)
  exact b3  2000 (0 : Int32) gai hres _ _ _ hP hS (lv_sub hl [1, 2, 3, 4, 0] rfl)
def fX2_isMissing (sbi : Nat → Int32) (x0 : Int32) : Bool :=
  if (sbi x0.toNatClampNeg) = 0 then true else false
abbrev rX2_isMissing : Room := { frames := 0, cells := 0, slots := 0, locals := 0 }
set_option maxHeartbeats 4000000 in
set_option maxRecDepth 100000 in
theorem kX2_isMissing (l : Launch) (D : va_G) (a : Nat → Nat) (cI cJ cS : ClassId) (hd : aok a 36) {Env : (Nat → Prop) → State → Heap → Prop} (hEo : envOK Env) (par : Int32) (kin lea mos wrt : Nat → Int32) (tal : Int32) (siz tol : Nat → Int32) (hrs : Int32) (ags : Nat → Int32) (yea kpar : Int32) (kkin klea kmos kwrt : Nat → Int32) (ktal : Int32) (ksiz ktol : Nat → Int32) (khrs : Int32) (kags : Nat → Int32) (kyea isk : Int32) (tly : Nat → Int64) (gai bes : Nat → Int32) (low hig : Nat → Int64) (spn : Int32) (byt : Nat → Int32) (hld sta beh sor num : Int32) (fnd sbi she : Nat → Int32) (snu : Nat → Nat → Int64) (x0 : Int32) (hi0 : vp_in x0 4) : CtI l D (tyL cI cJ cS) 36 a Env yX2_isMissing wsX2_isMissing rX2_isMissing [.ref (a (28 + 2 * x0.toNatClampNeg))] (wX a cI cJ cS par kin lea mos wrt tal siz tol hrs ags yea kpar kkin klea kmos kwrt ktal ksiz ktol khrs kags kyea isk tly gai bes low hig spn byt hld sta beh sor num fnd sbi she snu) (wX a cI cJ cS par kin lea mos wrt tal siz tol hrs ags yea kpar kkin klea kmos kwrt ktal ksiz ktol khrs kags kyea isk tly gai bes low hig spn byt hld sta beh sor num fnd sbi she snu) (bI (fX2_isMissing sbi x0)) := by
  generalize hres : fX2_isMissing sbi x0 = res
  refine CtI_mk (cc := cX2_isMissing) (maxL := 1) (ret := (some .boolean)) (by decide) rfl (Nat.le_of_ble_eq_true rfl) ?_
  intro p e s m args below meth c ls hx hb hr hlk hml hown hts hP hK hE hl
  have hS : va_S (adA a 36 s.heap.size) s.heap s.heap [] := va_S.rf
  have hl : lv_has ls 1 [(0, .ref (a (28 + 2 * x0.toNatClampNeg)))] := hl
  have hown : s.vm.findClass RX2 = some m.cls := hown
  have hw2 : ∀ w ∈ wsX20, w.before args s = true := fun w h => hts w (List.mem_cons_of_mem _ (List.mem_append_right _ h))
  have u1 : (Cond.fieldLink RX2 15 "YearWords$Sheet" "bits" "I").before args s = true := hts _ (List.mem_of_getElem? (i := 1) (by decide +kernel))
  obtain ⟨Q, hQ⟩ : ∃ Q, Q = mqI below D 36 a args s (wX a cI cJ cS par kin lea mos wrt tal siz tol hrs ags yea kpar kkin klea kmos kwrt ktal ksiz ktol khrs kags kyea isk tly gai bes low hig spn byt hld sta beh sor num fnd sbi she snu) (bI res) := ⟨_, rfl⟩
  rw [← hQ]
  unfold fX2_isMissing at hres
  refine lv_aload_n hx hb dX2_isMissing_0 rfl (lv_at hl 0 rfl) ?_
  refine gX_sheet_bits hx hb hown hw2 hK hP hi0 u1 dX2_isMissing_1 ?_
  refine lv_if_ne (tgt := 11) hx hb dX2_isMissing_4 (by decide) (fun c4 => ?_) (fun c4 => ?_)
  · have hres := (itl hres).2 c4
    refine lv_iconst (v := 0) hx hb dX2_isMissing_11 (by decide) ?_
    exact hQ ▸ rtZ (v := false)  hx hb hr hlk hP hS (by rw [← hres]) rfl dX2_isMissing_12
  · have hres := (itl hres).1 c4
    refine lv_iconst (v := 1) hx hb dX2_isMissing_7 (by decide) ?_
    refine lv_goto (tgt := 12) hx hb dX2_isMissing_8 (by decide) ?_
    exact hQ ▸ rtZ (v := true)  hx hb hr hlk hP hS (by rw [← hres]) rfl dX2_isMissing_12
def fX2_renew_b39 (sbi : Nat → Int32) (she : Nat → Int32) (snu : Nat → Nat → Int64) (x0 : Int32) : Option (Int32 × (Nat → Int32) × (Nat → Int32) × (Nat → Nat → Int64)) :=
  some (she x0.toNatClampNeg, sbi, she, snu)
def fX2_renew_l20 (sbi : Nat → Int32) (she : Nat → Int32) (x0 : Int32) (K20 : Int32 → (Nat → Nat → Int64) → Option (Int32 × (Nat → Int32) × (Nat → Int32) × (Nat → Nat → Int64))) (x3 : Int32) (snu : Nat → Nat → Int64) : Option (Int32 × (Nat → Int32) × (Nat → Int32) × (Nat → Nat → Int64)) :=
  if (40 : Int32) ≤ x3 then fX2_renew_b39 sbi she snu x0 else gd (ib x3 40) (K20 (x3 + 1) (va_up snu x0.toNatClampNeg (vp_updL (snu x0.toNatClampNeg) x3.toNatClampNeg (0 : Int64))))
def fX2_renew_b15 (sbi : Nat → Int32) (she : Nat → Int32) (snu : Nat → Nat → Int64) (x0 : Int32) (z0 : Int32) (z1 : Int32) : Option (Int32 × (Nat → Int32) × (Nat → Int32) × (Nat → Nat → Int64)) :=
  fix2 (fX2_renew_l20 sbi (upd she z0.toNatClampNeg z1) x0) 2000 (0 : Int32) snu
def fX2_renew (sbi : Nat → Int32) (she : Nat → Int32) (snu : Nat → Nat → Int64) (x0 : Int32) (x1 : Int32) (x2 : Int32) : Option (Int32 × (Nat → Int32) × (Nat → Int32) × (Nat → Nat → Int64)) :=
  if x1 = 0 then fX2_renew_b15 (upd sbi x0.toNatClampNeg x1) she snu x0 x0 (0 : Int32) else fX2_renew_b15 (upd sbi x0.toNatClampNeg x1) she snu x0 x0 x2
abbrev rX2_renew : Room := { frames := 0, cells := 0, slots := 0, locals := 0 }
set_option maxHeartbeats 4000000 in
set_option maxRecDepth 100000 in
theorem kX2_renew (l : Launch) (D : va_G) (a : Nat → Nat) (cI cJ cS : ClassId) (hd : aok a 36) {Env : (Nat → Prop) → State → Heap → Prop} (hEo : envOK Env) (par : Int32) (kin lea mos wrt : Nat → Int32) (tal : Int32) (siz tol : Nat → Int32) (hrs : Int32) (ags : Nat → Int32) (yea kpar : Int32) (kkin klea kmos kwrt : Nat → Int32) (ktal : Int32) (ksiz ktol : Nat → Int32) (khrs : Int32) (kags : Nat → Int32) (kyea isk : Int32) (tly : Nat → Int64) (gai bes : Nat → Int32) (low hig : Nat → Int64) (spn : Int32) (byt : Nat → Int32) (hld sta beh sor num : Int32) (fnd sbi she : Nat → Int32) (snu : Nat → Nat → Int64) (x0 : Int32) (x1 : Int32) (x2 : Int32) (hi0 : vp_in x0 4) (res : Int32 × (Nat → Int32) × (Nat → Int32) × (Nat → Nat → Int64)) (hres : fX2_renew sbi she snu x0 x1 x2 = some res) : CtI l D (tyL cI cJ cS) 36 a Env yX2_renew wsX2_renew rX2_renew [.ref (a (28 + 2 * x0.toNatClampNeg)), .int x1, .int x2] (wX a cI cJ cS par kin lea mos wrt tal siz tol hrs ags yea kpar kkin klea kmos kwrt ktal ksiz ktol khrs kags kyea isk tly gai bes low hig spn byt hld sta beh sor num fnd sbi she snu) (wX a cI cJ cS par kin lea mos wrt tal siz tol hrs ags yea kpar kkin klea kmos kwrt ktal ksiz ktol khrs kags kyea isk tly gai bes low hig spn byt hld sta beh sor num fnd res.2.1 res.2.2.1 res.2.2.2) res.1 := by
  refine CtI_mk (cc := cX2_renew) (maxL := 4) (ret := (some .int)) (by decide) rfl (Nat.le_of_ble_eq_true rfl) ?_
  intro p e s m args below meth c ls hx hb hr hlk hml hown hts hP hK hE hl
  have hS : va_S (adA a 36 s.heap.size) s.heap s.heap [] := va_S.rf
  have hl : lv_has ls 4 [(0, .ref (a (28 + 2 * x0.toNatClampNeg))), (1, .int x1), (2, .int x2)] := hl
  have hown : s.vm.findClass RX2 = some m.cls := hown
  have hw2 : ∀ w ∈ wsX20, w.before args s = true := fun w h => hts w (List.mem_cons_of_mem _ (List.mem_append_right _ h))
  have u1 : (Cond.fieldLink RX2 15 "YearWords$Sheet" "bits" "I").before args s = true := hts _ (List.mem_of_getElem? (i := 1) (by decide +kernel))
  have u2 : (Cond.fieldLink RX2 19 "YearWords$Sheet" "held" "I").before args s = true := hts _ (List.mem_of_getElem? (i := 2) (by decide +kernel))
  have u3 : (Cond.fieldLink RX2 9 "YearWords$Sheet" "numbers" "[J").before args s = true := hts _ (List.mem_of_getElem? (i := 3) (by decide +kernel))
  obtain ⟨Q, hQ⟩ : ∃ Q, Q = mqI below D 36 a args s (wX a cI cJ cS par kin lea mos wrt tal siz tol hrs ags yea kpar kkin klea kmos kwrt ktal ksiz ktol khrs kags kyea isk tly gai bes low hig spn byt hld sta beh sor num fnd res.2.1 res.2.2.1 res.2.2.2) res.1 := ⟨_, rfl⟩
  rw [← hQ]
  have b39 : ∀ (sbi : Nat → Int32) (she : Nat → Int32) (snu : Nat → Nat → Int64), fX2_renew_b39 sbi she snu x0 = some res → vp_in x0 4 → ∀ (H : Heap) (locs : List Loc) (ls : Array Slot), va_P D vwCl (wX a cI cJ cS par kin lea mos wrt tal siz tol hrs ags yea kpar kkin klea kmos kwrt ktal ksiz ktol khrs kags kyea isk tly gai bes low hig spn byt hld sta beh sor num fnd sbi she snu) H → va_S (adA a 36 s.heap.size) s.heap H locs → lv_has ls 4 [(0, .ref (a (28 + 2 * x0.toNatClampNeg)))] → W p l e rX2_renew s m args below meth c H locs 0 0 Q (F0 m 39 ls []) := by
    intro sbi she snu hres hi0 H locs ls hP hS hl
    unfold fX2_renew_b39 at hres
    refine lv_aload_n hx hb dX2_renew_39 rfl (lv_at hl 0 rfl) ?_
    refine gX_sheet_held hx hb hown hw2 hK hP hi0 u2 dX2_renew_40 ?_
    exact hQ ▸ rtI (v := she x0.toNatClampNeg)  hx hb hr hlk hP hS (by rw [← (Option.some.inj hres)]) (by rw [← (Option.some.inj hres)]) dX2_renew_43
  have b20 : ∀ (sbi : Nat → Int32) (she : Nat → Int32) (n : Nat) (x3 : Int32) (snu : Nat → Nat → Int64), fix2 (fX2_renew_l20 sbi she x0) n x3 snu = some res → vp_in x0 4 → ∀ (H : Heap) (locs : List Loc) (ls : Array Slot), va_P D vwCl (wX a cI cJ cS par kin lea mos wrt tal siz tol hrs ags yea kpar kkin klea kmos kwrt ktal ksiz ktol khrs kags kyea isk tly gai bes low hig spn byt hld sta beh sor num fnd sbi she snu) H → va_S (adA a 36 s.heap.size) s.heap H locs → lv_has ls 4 [(0, .ref (a (28 + 2 * x0.toNatClampNeg))), (3, .int x3)] → W p l e rX2_renew s m args below meth c H locs 0 0 Q (F0 m 20 ls []) := by
    intro sbi she
    refine fix2_r ?_
    intro K20 hK20 x3 snu hres hi0 H locs ls hP hS hl
    unfold fX2_renew_l20 at hres
    refine lv_iload_n hx hb dX2_renew_20 rfl (lv_at hl 1 rfl) ?_
    refine lv_bipush (v := 40) hx hb dX2_renew_21 (by decide) ?_
    refine lv_icmp_ge (tgt := 39) hx hb dX2_renew_23 (by decide) (fun c23 => ?_) (fun c23 => ?_)
    · have hres := (itl hres).1 c23
      exact b39 sbi she snu hres hi0 _ _ _ hP hS (lv_sub hl [0] rfl)
    · have hres := (itl hres).2 c23
      refine lv_aload_n hx hb dX2_renew_26 rfl (lv_at hl 0 rfl) ?_
      refine gX_sheet_numbers hx hb hown hw2 hK hP hi0 u3 dX2_renew_27 ?_
      refine lv_iload_n hx hb dX2_renew_30 rfl (lv_at hl 1 rfl) ?_
      refine lv_lconst (v := 0) hx hb dX2_renew_31 (by decide) ?_
      obtain ⟨i32, hres⟩ := gdi hres
      refine sX_sheet hx hb hK hP hd hS hi0 i32 dX2_renew_32 (fun H locs hP hS => ?_)
      refine lv_iinc (v := x3 + 1) (lv' := [(3, .int (x3 + 1)), (0, .ref (a (28 + 2 * x0.toNatClampNeg)))]) hx hb dX2_renew_33 hl (k := 1) rfl (congrArg (fun z => x3 + z) (by decide)) (by decide) rfl (fun ls hl => ?_)
      refine lv_goto (tgt := 20) hx hb dX2_renew_36 (by decide) ?_
      exact hK20 (x3 + 1) (va_up snu x0.toNatClampNeg (vp_updL (snu x0.toNatClampNeg) x3.toNatClampNeg (0 : Int64))) hres hi0 _ _ _ hP hS (lv_sub hl [1, 0] rfl)
  have b15 : ∀ (sbi : Nat → Int32) (she : Nat → Int32) (snu : Nat → Nat → Int64) (z0 : Int32) (z1 : Int32), fX2_renew_b15 sbi she snu x0 z0 z1 = some res → vp_in x0 4 → vp_in z0 4 → ∀ (H : Heap) (locs : List Loc) (ls : Array Slot), va_P D vwCl (wX a cI cJ cS par kin lea mos wrt tal siz tol hrs ags yea kpar kkin klea kmos kwrt ktal ksiz ktol khrs kags kyea isk tly gai bes low hig spn byt hld sta beh sor num fnd sbi she snu) H → va_S (adA a 36 s.heap.size) s.heap H locs → lv_has ls 4 [(0, .ref (a (28 + 2 * x0.toNatClampNeg)))] → W p l e rX2_renew s m args below meth c H locs 0 0 Q (F0 m 15 ls [.int z1, .ref (a (28 + 2 * z0.toNatClampNeg))]) := by
    intro sbi she snu z0 z1 hres hi0 hz0 H locs ls hP hS hl
    unfold fX2_renew_b15 at hres
    refine pX_sheet_held hx hb hown hw2 hK hP hd hS hz0 u2 dX2_renew_15 (fun H locs hP hS => ?_)
    refine lv_iconst (v := 0) hx hb dX2_renew_18 (by decide) ?_
    refine lv_istore_n (lv' := [(3, .int (0 : Int32)), (0, .ref (a (28 + 2 * x0.toNatClampNeg)))]) hx hb dX2_renew_19 rfl hl (by decide) rfl (fun ls hl => ?_)
    exact b20 sbi (upd she z0.toNatClampNeg z1) 2000 (0 : Int32) snu hres hi0 _ _ _ hP hS (lv_sub hl [1, 0] rfl)
  unfold fX2_renew at hres
  refine lv_aload_n hx hb dX2_renew_0 rfl (lv_at hl 0 rfl) ?_
  refine lv_iload_n hx hb dX2_renew_1 rfl (lv_at hl 1 rfl) ?_
  refine pX_sheet_bits hx hb hown hw2 hK hP hd hS hi0 u1 dX2_renew_2 (fun H locs hP hS => ?_)
  refine lv_aload_n hx hb dX2_renew_5 rfl (lv_at hl 0 rfl) ?_
  refine lv_iload_n hx hb dX2_renew_6 rfl (lv_at hl 1 rfl) ?_
  refine lv_if_ne (tgt := 14) hx hb dX2_renew_7 (by decide) (fun c7 => ?_) (fun c7 => ?_)
  · have hres := (itl hres).2 c7
    refine lv_iload_n hx hb dX2_renew_14 rfl (lv_at hl 2 rfl) ?_
    exact b15 (upd sbi x0.toNatClampNeg x1) she snu x0 x2 hres hi0 hi0 _ _ _ hP hS (lv_sub hl [0] rfl)
  · have hres := (itl hres).1 c7
    refine lv_iconst (v := 0) hx hb dX2_renew_10 (by decide) ?_
    refine lv_goto (tgt := 15) hx hb dX2_renew_11 (by decide) ?_
    exact b15 (upd sbi x0.toNatClampNeg x1) she snu x0 (0 : Int32) hres hi0 hi0 _ _ _ hP hS (lv_sub hl [0] rfl)
def fX2_holds (she : Nat → Int32) (x0 : Int32) (x1 : Int32) (x2 : Int32) : Bool :=
  if x2 < 0 then false else if (she x0.toNatClampNeg) < x2 then false else if x1 < 0 then false else if ((she x0.toNatClampNeg) - x2) < x1 then false else true
abbrev rX2_holds : Room := { frames := 0, cells := 0, slots := 0, locals := 0 }
set_option maxHeartbeats 4000000 in
set_option maxRecDepth 100000 in
theorem kX2_holds (l : Launch) (D : va_G) (a : Nat → Nat) (cI cJ cS : ClassId) (hd : aok a 36) {Env : (Nat → Prop) → State → Heap → Prop} (hEo : envOK Env) (par : Int32) (kin lea mos wrt : Nat → Int32) (tal : Int32) (siz tol : Nat → Int32) (hrs : Int32) (ags : Nat → Int32) (yea kpar : Int32) (kkin klea kmos kwrt : Nat → Int32) (ktal : Int32) (ksiz ktol : Nat → Int32) (khrs : Int32) (kags : Nat → Int32) (kyea isk : Int32) (tly : Nat → Int64) (gai bes : Nat → Int32) (low hig : Nat → Int64) (spn : Int32) (byt : Nat → Int32) (hld sta beh sor num : Int32) (fnd sbi she : Nat → Int32) (snu : Nat → Nat → Int64) (x0 : Int32) (x1 : Int32) (x2 : Int32) (hi0 : vp_in x0 4) : CtI l D (tyL cI cJ cS) 36 a Env yX2_holds wsX2_holds rX2_holds [.ref (a (28 + 2 * x0.toNatClampNeg)), .int x1, .int x2] (wX a cI cJ cS par kin lea mos wrt tal siz tol hrs ags yea kpar kkin klea kmos kwrt ktal ksiz ktol khrs kags kyea isk tly gai bes low hig spn byt hld sta beh sor num fnd sbi she snu) (wX a cI cJ cS par kin lea mos wrt tal siz tol hrs ags yea kpar kkin klea kmos kwrt ktal ksiz ktol khrs kags kyea isk tly gai bes low hig spn byt hld sta beh sor num fnd sbi she snu) (bI (fX2_holds she x0 x1 x2)) := by
  generalize hres : fX2_holds she x0 x1 x2 = res
  refine CtI_mk (cc := cX2_holds) (maxL := 3) (ret := (some .boolean)) (by decide) rfl (Nat.le_of_ble_eq_true rfl) ?_
  intro p e s m args below meth c ls hx hb hr hlk hml hown hts hP hK hE hl
  have hS : va_S (adA a 36 s.heap.size) s.heap s.heap [] := va_S.rf
  have hl : lv_has ls 3 [(0, .ref (a (28 + 2 * x0.toNatClampNeg))), (1, .int x1), (2, .int x2)] := hl
  have hown : s.vm.findClass RX2 = some m.cls := hown
  have hw2 : ∀ w ∈ wsX20, w.before args s = true := fun w h => hts w (List.mem_cons_of_mem _ (List.mem_append_right _ h))
  have u1 : (Cond.fieldLink RX2 19 "YearWords$Sheet" "held" "I").before args s = true := hts _ (List.mem_of_getElem? (i := 1) (by decide +kernel))
  obtain ⟨Q, hQ⟩ : ∃ Q, Q = mqI below D 36 a args s (wX a cI cJ cS par kin lea mos wrt tal siz tol hrs ags yea kpar kkin klea kmos kwrt ktal ksiz ktol khrs kags kyea isk tly gai bes low hig spn byt hld sta beh sor num fnd sbi she snu) (bI res) := ⟨_, rfl⟩
  rw [← hQ]
  unfold fX2_holds at hres
  refine lv_iload_n hx hb dX2_holds_0 rfl (lv_at hl 2 rfl) ?_
  refine lv_if_lt (tgt := 30) hx hb dX2_holds_1 (by decide) (fun c1 => ?_) (fun c1 => ?_)
  · have hres := (itl hres).1 c1
    refine lv_iconst (v := 0) hx hb dX2_holds_30 (by decide) ?_
    exact hQ ▸ rtZ (v := false)  hx hb hr hlk hP hS (by rw [← hres]) rfl dX2_holds_31
  · have hres := (itl hres).2 c1
    refine lv_iload_n hx hb dX2_holds_4 rfl (lv_at hl 2 rfl) ?_
    refine lv_aload_n hx hb dX2_holds_5 rfl (lv_at hl 0 rfl) ?_
    refine gX_sheet_held hx hb hown hw2 hK hP hi0 u1 dX2_holds_6 ?_
    refine lv_icmp_gt (tgt := 30) hx hb dX2_holds_9 (by decide) (fun c9 => ?_) (fun c9 => ?_)
    · have hres := (itl hres).1 c9
      refine lv_iconst (v := 0) hx hb dX2_holds_30 (by decide) ?_
      exact hQ ▸ rtZ (v := false)  hx hb hr hlk hP hS (by rw [← hres]) rfl dX2_holds_31
    · have hres := (itl hres).2 c9
      refine lv_iload_n hx hb dX2_holds_12 rfl (lv_at hl 1 rfl) ?_
      refine lv_if_lt (tgt := 30) hx hb dX2_holds_13 (by decide) (fun c13 => ?_) (fun c13 => ?_)
      · have hres := (itl hres).1 c13
        refine lv_iconst (v := 0) hx hb dX2_holds_30 (by decide) ?_
        exact hQ ▸ rtZ (v := false)  hx hb hr hlk hP hS (by rw [← hres]) rfl dX2_holds_31
      · have hres := (itl hres).2 c13
        refine lv_iload_n hx hb dX2_holds_16 rfl (lv_at hl 1 rfl) ?_
        refine lv_aload_n hx hb dX2_holds_17 rfl (lv_at hl 0 rfl) ?_
        refine gX_sheet_held hx hb hown hw2 hK hP hi0 u1 dX2_holds_18 ?_
        refine lv_iload_n hx hb dX2_holds_21 rfl (lv_at hl 2 rfl) ?_
        refine lv_isub hx hb dX2_holds_22 ?_
        refine lv_icmp_gt (tgt := 30) hx hb dX2_holds_23 (by decide) (fun c23 => ?_) (fun c23 => ?_)
        · have hres := (itl hres).1 c23
          refine lv_iconst (v := 0) hx hb dX2_holds_30 (by decide) ?_
          exact hQ ▸ rtZ (v := false)  hx hb hr hlk hP hS (by rw [← hres]) rfl dX2_holds_31
        · have hres := (itl hres).2 c23
          refine lv_iconst (v := 1) hx hb dX2_holds_26 (by decide) ?_
          refine lv_goto (tgt := 31) hx hb dX2_holds_27 (by decide) ?_
          exact hQ ▸ rtZ (v := true)  hx hb hr hlk hP hS (by rw [← hres]) rfl dX2_holds_31
def fX2_lowest (sbi : Nat → Int32) (x0 : Int32) (x1 : Int64) : Int64 :=
  if (sbi x0.toNatClampNeg) = (8 : Int32) then x1.toInt32.toInt8.toInt32.toInt64 else if (sbi x0.toNatClampNeg) = (16 : Int32) then x1.toInt32.toInt16.toInt32.toInt64 else x1
abbrev rX2_lowest : Room := { frames := 0, cells := 0, slots := 0, locals := 0 }
set_option maxHeartbeats 4000000 in
set_option maxRecDepth 100000 in
theorem kX2_lowest (l : Launch) (D : va_G) (a : Nat → Nat) (cI cJ cS : ClassId) (hd : aok a 36) {Env : (Nat → Prop) → State → Heap → Prop} (hEo : envOK Env) (par : Int32) (kin lea mos wrt : Nat → Int32) (tal : Int32) (siz tol : Nat → Int32) (hrs : Int32) (ags : Nat → Int32) (yea kpar : Int32) (kkin klea kmos kwrt : Nat → Int32) (ktal : Int32) (ksiz ktol : Nat → Int32) (khrs : Int32) (kags : Nat → Int32) (kyea isk : Int32) (tly : Nat → Int64) (gai bes : Nat → Int32) (low hig : Nat → Int64) (spn : Int32) (byt : Nat → Int32) (hld sta beh sor num : Int32) (fnd sbi she : Nat → Int32) (snu : Nat → Nat → Int64) (x0 : Int32) (x1 : Int64) (hi0 : vp_in x0 4) : CtL l D (tyL cI cJ cS) 36 a Env yX2_lowest wsX2_lowest rX2_lowest [.ref (a (28 + 2 * x0.toNatClampNeg)), .long x1] (wX a cI cJ cS par kin lea mos wrt tal siz tol hrs ags yea kpar kkin klea kmos kwrt ktal ksiz ktol khrs kags kyea isk tly gai bes low hig spn byt hld sta beh sor num fnd sbi she snu) (wX a cI cJ cS par kin lea mos wrt tal siz tol hrs ags yea kpar kkin klea kmos kwrt ktal ksiz ktol khrs kags kyea isk tly gai bes low hig spn byt hld sta beh sor num fnd sbi she snu) (fX2_lowest sbi x0 x1) := by
  generalize hres : fX2_lowest sbi x0 x1 = res
  refine CtL_mk (cc := cX2_lowest) (maxL := 3) (ret := (some .long)) (by decide) rfl (Nat.le_of_ble_eq_true rfl) ?_
  intro p e s m args below meth c ls hx hb hr hlk hml hown hts hP hK hE hl
  have hS : va_S (adA a 36 s.heap.size) s.heap s.heap [] := va_S.rf
  have hl : lv_has ls 3 [(0, .ref (a (28 + 2 * x0.toNatClampNeg))), (1, .long x1)] := hl
  have hown : s.vm.findClass RX2 = some m.cls := hown
  have hw2 : ∀ w ∈ wsX20, w.before args s = true := fun w h => hts w (List.mem_cons_of_mem _ (List.mem_append_right _ h))
  have u1 : (Cond.fieldLink RX2 15 "YearWords$Sheet" "bits" "I").before args s = true := hts _ (List.mem_of_getElem? (i := 1) (by decide +kernel))
  obtain ⟨Q, hQ⟩ : ∃ Q, Q = mqL below D 36 a args s (wX a cI cJ cS par kin lea mos wrt tal siz tol hrs ags yea kpar kkin klea kmos kwrt ktal ksiz ktol khrs kags kyea isk tly gai bes low hig spn byt hld sta beh sor num fnd sbi she snu) res := ⟨_, rfl⟩
  rw [← hQ]
  unfold fX2_lowest at hres
  refine lv_aload_n hx hb dX2_lowest_0 rfl (lv_at hl 0 rfl) ?_
  refine gX_sheet_bits hx hb hown hw2 hK hP hi0 u1 dX2_lowest_1 ?_
  refine lv_bipush (v := 8) hx hb dX2_lowest_4 (by decide) ?_
  refine lv_icmp_ne (tgt := 14) hx hb dX2_lowest_6 (by decide) (fun c6 => ?_) (fun c6 => ?_)
  · have hres := (itl hres).2 c6
    refine lv_aload_n hx hb dX2_lowest_14 rfl (lv_at hl 0 rfl) ?_
    refine gX_sheet_bits hx hb hown hw2 hK hP hi0 u1 dX2_lowest_15 ?_
    refine lv_bipush (v := 16) hx hb dX2_lowest_18 (by decide) ?_
    refine lv_icmp_ne (tgt := 30) hx hb dX2_lowest_20 (by decide) (fun c20 => ?_) (fun c20 => ?_)
    · have hres := (itl hres).2 c20
      refine lv_lload_n hx hb dX2_lowest_30 rfl (lv_at hl 1 rfl) ?_
      exact hQ ▸ rtL (v := x1)  hx hb hr hlk hP hS (by rw [← hres]) rfl dX2_lowest_31
    · have hres := (itl hres).1 c20
      refine lv_lload_n hx hb dX2_lowest_23 rfl (lv_at hl 1 rfl) ?_
      refine lv_l2i hx hb dX2_lowest_24 rfl ?_
      refine lv_i2s hx hb dX2_lowest_25 rfl ?_
      refine lv_i2l hx hb dX2_lowest_26 rfl ?_
      refine lv_goto (tgt := 31) hx hb dX2_lowest_27 (by decide) ?_
      exact hQ ▸ rtL (v := x1.toInt32.toInt16.toInt32.toInt64)  hx hb hr hlk hP hS (by rw [← hres]) rfl dX2_lowest_31
  · have hres := (itl hres).1 c6
    refine lv_lload_n hx hb dX2_lowest_9 rfl (lv_at hl 1 rfl) ?_
    refine lv_l2i hx hb dX2_lowest_10 rfl ?_
    refine lv_i2b hx hb dX2_lowest_11 rfl ?_
    refine lv_i2l hx hb dX2_lowest_12 rfl ?_
    exact hQ ▸ rtL (v := x1.toInt32.toInt8.toInt32.toInt64)  hx hb hr hlk hP hS (by rw [← hres]) rfl dX2_lowest_13
def fX2_put (sbi : Nat → Int32) (snu : Nat → Nat → Int64) (x0 : Int32) (x1 : Int32) (x2 : Int64) : Option (Int64 × (Nat → Nat → Int64)) :=
  gd (ib x1 40) (gd (ib x1 40) (some (snu x0.toNatClampNeg x1.toNatClampNeg, va_up snu x0.toNatClampNeg (vp_updL (snu x0.toNatClampNeg) x1.toNatClampNeg (fX2_lowest sbi x0 x2)))))
theorem hdX2_lowest : yX2_lowest.cls = RX2 ∧ yX2_lowest.cls ≠ "java/lang/invoke/MethodHandle" ∧ yX2_lowest.cls ≠ "java/lang/invoke/VarHandle" ∧ (parseMethodDescriptor yX2_lowest.desc).map (fun d => d.parameters.length) = some 1 := by decide +kernel
abbrev rX2_put : Room := { frames := 1, cells := 0, slots := 0, locals := 22 }
set_option maxHeartbeats 4000000 in
set_option maxRecDepth 100000 in
theorem kX2_put (l : Launch) (D : va_G) (a : Nat → Nat) (cI cJ cS : ClassId) (hd : aok a 36) {Env : (Nat → Prop) → State → Heap → Prop} (hEo : envOK Env) (par : Int32) (kin lea mos wrt : Nat → Int32) (tal : Int32) (siz tol : Nat → Int32) (hrs : Int32) (ags : Nat → Int32) (yea kpar : Int32) (kkin klea kmos kwrt : Nat → Int32) (ktal : Int32) (ksiz ktol : Nat → Int32) (khrs : Int32) (kags : Nat → Int32) (kyea isk : Int32) (tly : Nat → Int64) (gai bes : Nat → Int32) (low hig : Nat → Int64) (spn : Int32) (byt : Nat → Int32) (hld sta beh sor num : Int32) (fnd sbi she : Nat → Int32) (snu : Nat → Nat → Int64) (x0 : Int32) (x1 : Int32) (x2 : Int64) (hi0 : vp_in x0 4) (res : Int64 × (Nat → Nat → Int64)) (hres : fX2_put sbi snu x0 x1 x2 = some res) : CtL l D (tyL cI cJ cS) 36 a Env yX2_put wsX2_put rX2_put [.ref (a (28 + 2 * x0.toNatClampNeg)), .int x1, .long x2] (wX a cI cJ cS par kin lea mos wrt tal siz tol hrs ags yea kpar kkin klea kmos kwrt ktal ksiz ktol khrs kags kyea isk tly gai bes low hig spn byt hld sta beh sor num fnd sbi she snu) (wX a cI cJ cS par kin lea mos wrt tal siz tol hrs ags yea kpar kkin klea kmos kwrt ktal ksiz ktol khrs kags kyea isk tly gai bes low hig spn byt hld sta beh sor num fnd sbi she res.2) res.1 := by
  refine CtL_mk (cc := cX2_put) (maxL := 6) (ret := (some .long)) (by decide) rfl (Nat.le_of_ble_eq_true rfl) ?_
  intro p e s m args below meth c ls hx hb hr hlk hml hown hts hP hK hE hl
  have hS : va_S (adA a 36 s.heap.size) s.heap s.heap [] := va_S.rf
  have hl : lv_has ls 6 [(0, .ref (a (28 + 2 * x0.toNatClampNeg))), (1, .int x1), (2, .long x2)] := hl
  have hown : s.vm.findClass RX2 = some m.cls := hown
  have hw2 : ∀ w ∈ wsX20, w.before args s = true := fun w h => hts w (List.mem_cons_of_mem _ (List.mem_append_right _ h))
  have u1 : (Cond.fieldLink RX2 9 "YearWords$Sheet" "numbers" "[J").before args s = true := hts _ (List.mem_of_getElem? (i := 1) (by decide +kernel))
  obtain ⟨Q, hQ⟩ : ∃ Q, Q = mqL below D 36 a args s (wX a cI cJ cS par kin lea mos wrt tal siz tol hrs ags yea kpar kkin klea kmos kwrt ktal ksiz ktol khrs kags kyea isk tly gai bes low hig spn byt hld sta beh sor num fnd sbi she res.2) res.1 := ⟨_, rfl⟩
  rw [← hQ]
  unfold fX2_put at hres
  refine lv_aload_n hx hb dX2_put_0 rfl (lv_at hl 0 rfl) ?_
  refine gX_sheet_numbers hx hb hown hw2 hK hP hi0 u1 dX2_put_1 ?_
  refine lv_iload_n hx hb dX2_put_4 rfl (lv_at hl 1 rfl) ?_
  obtain ⟨i5, hres⟩ := gdi hres
  refine lX_sheet hx hb hK hP hi0 i5 dX2_put_5 ?_
  refine lv_lstore (lv' := [(4, .long (snu x0.toNatClampNeg x1.toNatClampNeg)), (0, .ref (a (28 + 2 * x0.toNatClampNeg))), (1, .int x1), (2, .long x2)]) hx hb dX2_put_6 hl (by decide) rfl (fun ls hl => ?_)
  refine lv_aload_n hx hb dX2_put_8 rfl (lv_at hl 1 rfl) ?_
  refine gX_sheet_numbers hx hb hown hw2 hK hP hi0 u1 dX2_put_9 ?_
  refine lv_iload_n hx hb dX2_put_12 rfl (lv_at hl 2 rfl) ?_
  refine lv_aload_n hx hb dX2_put_13 rfl (lv_at hl 1 rfl) ?_
  refine lv_lload_n hx hb dX2_put_14 rfl (lv_at hl 3 rfl) ?_
  refine cvL (q0 := (28 + 2 * x0.toNatClampNeg)) (ci := 2) hx hb hml hown hts hEo hE hK hP hS (kX2_lowest l D a cI cJ cS hd hEo par kin lea mos wrt tal siz tol hrs ags yea kpar kkin klea kmos kwrt ktal ksiz ktol khrs kags kyea isk tly gai bes low hig spn byt hld sta beh sor num fnd sbi she snu x0 x2 hi0) gX2_put_X2_lowest rfl hdX2_lowest rfl rfl (wX_sh_at (sh_lt hi0)) ⟨rfl, rfl⟩ ⟨Nat.le_of_ble_eq_true rfl, Nat.le_of_ble_eq_true rfl⟩ ⟨Nat.zero_le _, Nat.zero_le _⟩ rfl hl.1 rfl (Nat.le_of_ble_eq_true rfl) dX2_put_15 (fun H locs hP hS => ?_)
  obtain ⟨i18, hres⟩ := gdi hres
  refine sX_sheet hx hb hK hP hd hS hi0 i18 dX2_put_18 (fun H locs hP hS => ?_)
  refine lv_lload hx hb dX2_put_19 (lv_at hl 0 rfl) ?_
  exact hQ ▸ rtL (v := snu x0.toNatClampNeg x1.toNatClampNeg)  hx hb hr hlk hP hS (by rw [← (Option.some.inj hres)]) (by rw [← (Option.some.inj hres)]) dX2_put_21
def fX3_hasPart (par : Int32) (x1 : Int32) : Bool :=
  if x1 < 0 then false else if par ≤ x1 then false else true
abbrev rX3_hasPart : Room := { frames := 0, cells := 0, slots := 0, locals := 0 }
set_option maxHeartbeats 4000000 in
set_option maxRecDepth 100000 in
theorem kX3_hasPart (l : Launch) (D : va_G) (a : Nat → Nat) (cI cJ cS : ClassId) (hd : aok a 36) {Env : (Nat → Prop) → State → Heap → Prop} (hEo : envOK Env) (par : Int32) (kin lea mos wrt : Nat → Int32) (tal : Int32) (siz tol : Nat → Int32) (hrs : Int32) (ags : Nat → Int32) (yea kpar : Int32) (kkin klea kmos kwrt : Nat → Int32) (ktal : Int32) (ksiz ktol : Nat → Int32) (khrs : Int32) (kags : Nat → Int32) (kyea isk : Int32) (tly : Nat → Int64) (gai bes : Nat → Int32) (low hig : Nat → Int64) (spn : Int32) (byt : Nat → Int32) (hld sta beh sor num : Int32) (fnd sbi she : Nat → Int32) (snu : Nat → Nat → Int64) (x1 : Int32) : CtI l D (tyL cI cJ cS) 36 a Env yX3_hasPart wsX3_hasPart rX3_hasPart [.ref (a 1), .int x1] (wX a cI cJ cS par kin lea mos wrt tal siz tol hrs ags yea kpar kkin klea kmos kwrt ktal ksiz ktol khrs kags kyea isk tly gai bes low hig spn byt hld sta beh sor num fnd sbi she snu) (wX a cI cJ cS par kin lea mos wrt tal siz tol hrs ags yea kpar kkin klea kmos kwrt ktal ksiz ktol khrs kags kyea isk tly gai bes low hig spn byt hld sta beh sor num fnd sbi she snu) (bI (fX3_hasPart par x1)) := by
  generalize hres : fX3_hasPart par x1 = res
  refine CtI_mk (cc := cX3_hasPart) (maxL := 2) (ret := (some .boolean)) (by decide) rfl (Nat.le_of_ble_eq_true rfl) ?_
  intro p e s m args below meth c ls hx hb hr hlk hml hown hts hP hK hE hl
  have hS : va_S (adA a 36 s.heap.size) s.heap s.heap [] := va_S.rf
  have hl : lv_has ls 2 [(0, .ref (a 1)), (1, .int x1)] := hl
  have hown : s.vm.findClass RX3 = some m.cls := hown
  have hw3 : ∀ w ∈ wsX30, w.before args s = true := fun w h => hts w (List.mem_cons_of_mem _ (List.mem_append_right _ h))
  have u1 : (Cond.fieldLink RX3 9 "YearWords$Stock" "parts" "I").before args s = true := hts _ (List.mem_of_getElem? (i := 1) (by decide +kernel))
  obtain ⟨Q, hQ⟩ : ∃ Q, Q = mqI below D 36 a args s (wX a cI cJ cS par kin lea mos wrt tal siz tol hrs ags yea kpar kkin klea kmos kwrt ktal ksiz ktol khrs kags kyea isk tly gai bes low hig spn byt hld sta beh sor num fnd sbi she snu) (bI res) := ⟨_, rfl⟩
  rw [← hQ]
  unfold fX3_hasPart at hres
  refine lv_iload_n hx hb dX3_hasPart_0 rfl (lv_at hl 1 rfl) ?_
  refine lv_if_lt (tgt := 16) hx hb dX3_hasPart_1 (by decide) (fun c1 => ?_) (fun c1 => ?_)
  · have hres := (itl hres).1 c1
    refine lv_iconst (v := 0) hx hb dX3_hasPart_16 (by decide) ?_
    exact hQ ▸ rtZ (v := false)  hx hb hr hlk hP hS (by rw [← hres]) rfl dX3_hasPart_17
  · have hres := (itl hres).2 c1
    refine lv_iload_n hx hb dX3_hasPart_4 rfl (lv_at hl 1 rfl) ?_
    refine lv_aload_n hx hb dX3_hasPart_5 rfl (lv_at hl 0 rfl) ?_
    refine gX_now_parts hx hb hown hw3 hK hP u1 dX3_hasPart_6 ?_
    refine lv_icmp_ge (tgt := 16) hx hb dX3_hasPart_9 (by decide) (fun c9 => ?_) (fun c9 => ?_)
    · have hres := (itl hres).1 c9
      refine lv_iconst (v := 0) hx hb dX3_hasPart_16 (by decide) ?_
      exact hQ ▸ rtZ (v := false)  hx hb hr hlk hP hS (by rw [← hres]) rfl dX3_hasPart_17
    · have hres := (itl hres).2 c9
      refine lv_iconst (v := 1) hx hb dX3_hasPart_12 (by decide) ?_
      refine lv_goto (tgt := 17) hx hb dX3_hasPart_13 (by decide) ?_
      exact hQ ▸ rtZ (v := true)  hx hb hr hlk hP hS (by rw [← hres]) rfl dX3_hasPart_17
def fX3_hasTale (tal : Int32) (x1 : Int32) : Bool :=
  if x1 < 0 then false else if tal ≤ x1 then false else true
abbrev rX3_hasTale : Room := { frames := 0, cells := 0, slots := 0, locals := 0 }
set_option maxHeartbeats 4000000 in
set_option maxRecDepth 100000 in
theorem kX3_hasTale (l : Launch) (D : va_G) (a : Nat → Nat) (cI cJ cS : ClassId) (hd : aok a 36) {Env : (Nat → Prop) → State → Heap → Prop} (hEo : envOK Env) (par : Int32) (kin lea mos wrt : Nat → Int32) (tal : Int32) (siz tol : Nat → Int32) (hrs : Int32) (ags : Nat → Int32) (yea kpar : Int32) (kkin klea kmos kwrt : Nat → Int32) (ktal : Int32) (ksiz ktol : Nat → Int32) (khrs : Int32) (kags : Nat → Int32) (kyea isk : Int32) (tly : Nat → Int64) (gai bes : Nat → Int32) (low hig : Nat → Int64) (spn : Int32) (byt : Nat → Int32) (hld sta beh sor num : Int32) (fnd sbi she : Nat → Int32) (snu : Nat → Nat → Int64) (x1 : Int32) : CtI l D (tyL cI cJ cS) 36 a Env yX3_hasTale wsX3_hasTale rX3_hasTale [.ref (a 1), .int x1] (wX a cI cJ cS par kin lea mos wrt tal siz tol hrs ags yea kpar kkin klea kmos kwrt ktal ksiz ktol khrs kags kyea isk tly gai bes low hig spn byt hld sta beh sor num fnd sbi she snu) (wX a cI cJ cS par kin lea mos wrt tal siz tol hrs ags yea kpar kkin klea kmos kwrt ktal ksiz ktol khrs kags kyea isk tly gai bes low hig spn byt hld sta beh sor num fnd sbi she snu) (bI (fX3_hasTale tal x1)) := by
  generalize hres : fX3_hasTale tal x1 = res
  refine CtI_mk (cc := cX3_hasTale) (maxL := 2) (ret := (some .boolean)) (by decide) rfl (Nat.le_of_ble_eq_true rfl) ?_
  intro p e s m args below meth c ls hx hb hr hlk hml hown hts hP hK hE hl
  have hS : va_S (adA a 36 s.heap.size) s.heap s.heap [] := va_S.rf
  have hl : lv_has ls 2 [(0, .ref (a 1)), (1, .int x1)] := hl
  have hown : s.vm.findClass RX3 = some m.cls := hown
  have hw3 : ∀ w ∈ wsX30, w.before args s = true := fun w h => hts w (List.mem_cons_of_mem _ (List.mem_append_right _ h))
  have u1 : (Cond.fieldLink RX3 28 "YearWords$Stock" "tales" "I").before args s = true := hts _ (List.mem_of_getElem? (i := 1) (by decide +kernel))
  obtain ⟨Q, hQ⟩ : ∃ Q, Q = mqI below D 36 a args s (wX a cI cJ cS par kin lea mos wrt tal siz tol hrs ags yea kpar kkin klea kmos kwrt ktal ksiz ktol khrs kags kyea isk tly gai bes low hig spn byt hld sta beh sor num fnd sbi she snu) (bI res) := ⟨_, rfl⟩
  rw [← hQ]
  unfold fX3_hasTale at hres
  refine lv_iload_n hx hb dX3_hasTale_0 rfl (lv_at hl 1 rfl) ?_
  refine lv_if_lt (tgt := 16) hx hb dX3_hasTale_1 (by decide) (fun c1 => ?_) (fun c1 => ?_)
  · have hres := (itl hres).1 c1
    refine lv_iconst (v := 0) hx hb dX3_hasTale_16 (by decide) ?_
    exact hQ ▸ rtZ (v := false)  hx hb hr hlk hP hS (by rw [← hres]) rfl dX3_hasTale_17
  · have hres := (itl hres).2 c1
    refine lv_iload_n hx hb dX3_hasTale_4 rfl (lv_at hl 1 rfl) ?_
    refine lv_aload_n hx hb dX3_hasTale_5 rfl (lv_at hl 0 rfl) ?_
    refine gX_now_tales hx hb hown hw3 hK hP u1 dX3_hasTale_6 ?_
    refine lv_icmp_ge (tgt := 16) hx hb dX3_hasTale_9 (by decide) (fun c9 => ?_) (fun c9 => ?_)
    · have hres := (itl hres).1 c9
      refine lv_iconst (v := 0) hx hb dX3_hasTale_16 (by decide) ?_
      exact hQ ▸ rtZ (v := false)  hx hb hr hlk hP hS (by rw [← hres]) rfl dX3_hasTale_17
    · have hres := (itl hres).2 c9
      refine lv_iconst (v := 1) hx hb dX3_hasTale_12 (by decide) ?_
      refine lv_goto (tgt := 17) hx hb dX3_hasTale_13 (by decide) ?_
      exact hQ ▸ rtZ (v := true)  hx hb hr hlk hP hS (by rw [← hres]) rfl dX3_hasTale_17
def fX3_hasHearer (hrs : Int32) (x1 : Int32) : Bool :=
  if x1 < 0 then false else if hrs ≤ x1 then false else true
abbrev rX3_hasHearer : Room := { frames := 0, cells := 0, slots := 0, locals := 0 }
set_option maxHeartbeats 4000000 in
set_option maxRecDepth 100000 in
theorem kX3_hasHearer (l : Launch) (D : va_G) (a : Nat → Nat) (cI cJ cS : ClassId) (hd : aok a 36) {Env : (Nat → Prop) → State → Heap → Prop} (hEo : envOK Env) (par : Int32) (kin lea mos wrt : Nat → Int32) (tal : Int32) (siz tol : Nat → Int32) (hrs : Int32) (ags : Nat → Int32) (yea kpar : Int32) (kkin klea kmos kwrt : Nat → Int32) (ktal : Int32) (ksiz ktol : Nat → Int32) (khrs : Int32) (kags : Nat → Int32) (kyea isk : Int32) (tly : Nat → Int64) (gai bes : Nat → Int32) (low hig : Nat → Int64) (spn : Int32) (byt : Nat → Int32) (hld sta beh sor num : Int32) (fnd sbi she : Nat → Int32) (snu : Nat → Nat → Int64) (x1 : Int32) : CtI l D (tyL cI cJ cS) 36 a Env yX3_hasHearer wsX3_hasHearer rX3_hasHearer [.ref (a 1), .int x1] (wX a cI cJ cS par kin lea mos wrt tal siz tol hrs ags yea kpar kkin klea kmos kwrt ktal ksiz ktol khrs kags kyea isk tly gai bes low hig spn byt hld sta beh sor num fnd sbi she snu) (wX a cI cJ cS par kin lea mos wrt tal siz tol hrs ags yea kpar kkin klea kmos kwrt ktal ksiz ktol khrs kags kyea isk tly gai bes low hig spn byt hld sta beh sor num fnd sbi she snu) (bI (fX3_hasHearer hrs x1)) := by
  generalize hres : fX3_hasHearer hrs x1 = res
  refine CtI_mk (cc := cX3_hasHearer) (maxL := 2) (ret := (some .boolean)) (by decide) rfl (Nat.le_of_ble_eq_true rfl) ?_
  intro p e s m args below meth c ls hx hb hr hlk hml hown hts hP hK hE hl
  have hS : va_S (adA a 36 s.heap.size) s.heap s.heap [] := va_S.rf
  have hl : lv_has ls 2 [(0, .ref (a 1)), (1, .int x1)] := hl
  have hown : s.vm.findClass RX3 = some m.cls := hown
  have hw3 : ∀ w ∈ wsX30, w.before args s = true := fun w h => hts w (List.mem_cons_of_mem _ (List.mem_append_right _ h))
  have u1 : (Cond.fieldLink RX3 37 "YearWords$Stock" "hearers" "I").before args s = true := hts _ (List.mem_of_getElem? (i := 1) (by decide +kernel))
  obtain ⟨Q, hQ⟩ : ∃ Q, Q = mqI below D 36 a args s (wX a cI cJ cS par kin lea mos wrt tal siz tol hrs ags yea kpar kkin klea kmos kwrt ktal ksiz ktol khrs kags kyea isk tly gai bes low hig spn byt hld sta beh sor num fnd sbi she snu) (bI res) := ⟨_, rfl⟩
  rw [← hQ]
  unfold fX3_hasHearer at hres
  refine lv_iload_n hx hb dX3_hasHearer_0 rfl (lv_at hl 1 rfl) ?_
  refine lv_if_lt (tgt := 16) hx hb dX3_hasHearer_1 (by decide) (fun c1 => ?_) (fun c1 => ?_)
  · have hres := (itl hres).1 c1
    refine lv_iconst (v := 0) hx hb dX3_hasHearer_16 (by decide) ?_
    exact hQ ▸ rtZ (v := false)  hx hb hr hlk hP hS (by rw [← hres]) rfl dX3_hasHearer_17
  · have hres := (itl hres).2 c1
    refine lv_iload_n hx hb dX3_hasHearer_4 rfl (lv_at hl 1 rfl) ?_
    refine lv_aload_n hx hb dX3_hasHearer_5 rfl (lv_at hl 0 rfl) ?_
    refine gX_now_hearers hx hb hown hw3 hK hP u1 dX3_hasHearer_6 ?_
    refine lv_icmp_ge (tgt := 16) hx hb dX3_hasHearer_9 (by decide) (fun c9 => ?_) (fun c9 => ?_)
    · have hres := (itl hres).1 c9
      refine lv_iconst (v := 0) hx hb dX3_hasHearer_16 (by decide) ?_
      exact hQ ▸ rtZ (v := false)  hx hb hr hlk hP hS (by rw [← hres]) rfl dX3_hasHearer_17
    · have hres := (itl hres).2 c9
      refine lv_iconst (v := 1) hx hb dX3_hasHearer_12 (by decide) ?_
      refine lv_goto (tgt := 17) hx hb dX3_hasHearer_13 (by decide) ?_
      exact hQ ▸ rtZ (v := true)  hx hb hr hlk hP hS (by rw [← hres]) rfl dX3_hasHearer_17
def fX3_dropTold (siz : Nat → Int32) (tol : Nat → Int32) (x1 : Int32) : Option (Int32 × (Nat → Int32)) :=
  gd (ib x1 8) (gd (ib x1 8) (gd (ib x1 8) ((fX3_toldAt tol x1 ((upd siz x1.toNatClampNeg ((siz x1.toNatClampNeg) - (1 : Int32))) x1.toNatClampNeg)).bind fun q18 => some (q18, upd siz x1.toNatClampNeg ((siz x1.toNatClampNeg) - (1 : Int32))))))
abbrev rX3_dropTold : Room := { frames := 1, cells := 0, slots := 0, locals := 22 }
set_option maxHeartbeats 4000000 in
set_option maxRecDepth 100000 in
theorem kX3_dropTold (l : Launch) (D : va_G) (a : Nat → Nat) (cI cJ cS : ClassId) (hd : aok a 36) {Env : (Nat → Prop) → State → Heap → Prop} (hEo : envOK Env) (par : Int32) (kin lea mos wrt : Nat → Int32) (tal : Int32) (siz tol : Nat → Int32) (hrs : Int32) (ags : Nat → Int32) (yea kpar : Int32) (kkin klea kmos kwrt : Nat → Int32) (ktal : Int32) (ksiz ktol : Nat → Int32) (khrs : Int32) (kags : Nat → Int32) (kyea isk : Int32) (tly : Nat → Int64) (gai bes : Nat → Int32) (low hig : Nat → Int64) (spn : Int32) (byt : Nat → Int32) (hld sta beh sor num : Int32) (fnd sbi she : Nat → Int32) (snu : Nat → Nat → Int64) (x1 : Int32) (res : Int32 × (Nat → Int32)) (hres : fX3_dropTold siz tol x1 = some res) : CtI l D (tyL cI cJ cS) 36 a Env yX3_dropTold wsX3_dropTold rX3_dropTold [.ref (a 1), .int x1] (wX a cI cJ cS par kin lea mos wrt tal siz tol hrs ags yea kpar kkin klea kmos kwrt ktal ksiz ktol khrs kags kyea isk tly gai bes low hig spn byt hld sta beh sor num fnd sbi she snu) (wX a cI cJ cS par kin lea mos wrt tal res.2 tol hrs ags yea kpar kkin klea kmos kwrt ktal ksiz ktol khrs kags kyea isk tly gai bes low hig spn byt hld sta beh sor num fnd sbi she snu) res.1 := by
  refine CtI_mk (cc := cX3_dropTold) (maxL := 2) (ret := (some .int)) (by decide) rfl (Nat.le_of_ble_eq_true rfl) ?_
  intro p e s m args below meth c ls hx hb hr hlk hml hown hts hP hK hE hl
  have hS : va_S (adA a 36 s.heap.size) s.heap s.heap [] := va_S.rf
  have hl : lv_has ls 2 [(0, .ref (a 1)), (1, .int x1)] := hl
  have hown : s.vm.findClass RX3 = some m.cls := hown
  have hw3 : ∀ w ∈ wsX30, w.before args s = true := fun w h => hts w (List.mem_cons_of_mem _ (List.mem_append_right _ h))
  have u1 : (Cond.fieldLink RX3 31 "YearWords$Stock" "sizes" "[I").before args s = true := hts _ (List.mem_of_getElem? (i := 1) (by decide +kernel))
  obtain ⟨Q, hQ⟩ : ∃ Q, Q = mqI below D 36 a args s (wX a cI cJ cS par kin lea mos wrt tal res.2 tol hrs ags yea kpar kkin klea kmos kwrt ktal ksiz ktol khrs kags kyea isk tly gai bes low hig spn byt hld sta beh sor num fnd sbi she snu) res.1 := ⟨_, rfl⟩
  rw [← hQ]
  unfold fX3_dropTold at hres
  refine lv_aload_n hx hb dX3_dropTold_0 rfl (lv_at hl 0 rfl) ?_
  refine gX_now_sizes hx hb hown hw3 hK hP u1 dX3_dropTold_1 ?_
  refine lv_iload_n hx hb dX3_dropTold_4 rfl (lv_at hl 1 rfl) ?_
  refine lv_dup2_11 hx hb dX3_dropTold_5 rfl rfl ?_
  obtain ⟨i6, hres⟩ := gdi hres
  refine lX_siz hx hb hK hP i6 dX3_dropTold_6 ?_
  refine lv_iconst (v := 1) hx hb dX3_dropTold_7 (by decide) ?_
  refine lv_isub hx hb dX3_dropTold_8 ?_
  obtain ⟨i9, hres⟩ := gdi hres
  refine sX_siz hx hb hK hP hd hS i9 dX3_dropTold_9 (fun H locs hP hS => ?_)
  refine lv_aload_n hx hb dX3_dropTold_10 rfl (lv_at hl 0 rfl) ?_
  refine lv_iload_n hx hb dX3_dropTold_11 rfl (lv_at hl 1 rfl) ?_
  refine lv_aload_n hx hb dX3_dropTold_12 rfl (lv_at hl 0 rfl) ?_
  refine gX_now_sizes hx hb hown hw3 hK hP u1 dX3_dropTold_13 ?_
  refine lv_iload_n hx hb dX3_dropTold_16 rfl (lv_at hl 1 rfl) ?_
  obtain ⟨i17, hres⟩ := gdi hres
  refine lX_siz hx hb hK hP i17 dX3_dropTold_17 ?_
  obtain ⟨q18, e18, hres⟩ := obd hres
  refine cvI (q0 := 1) (ci := 3) hx hb hml hown hts hEo hE hK hP hS (kX3_toldAt l D a cI cJ cS hd hEo par kin lea mos wrt tal (upd siz x1.toNatClampNeg ((siz x1.toNatClampNeg) - (1 : Int32))) tol hrs ags yea kpar kkin klea kmos kwrt ktal ksiz ktol khrs kags kyea isk tly gai bes low hig spn byt hld sta beh sor num fnd sbi she snu x1 ((upd siz x1.toNatClampNeg ((siz x1.toNatClampNeg) - (1 : Int32))) x1.toNatClampNeg) q18 e18) gX3_dropTold_X3_toldAt rfl hdX3_toldAt rfl rfl rfl ⟨rfl, rfl⟩ ⟨Nat.le_of_ble_eq_true rfl, Nat.le_of_ble_eq_true rfl⟩ ⟨Nat.zero_le _, Nat.zero_le _⟩ rfl hl.1 rfl (Nat.le_of_ble_eq_true rfl) dX3_dropTold_18 (fun H locs hP hS => ?_)
  exact hQ ▸ rtI (v := q18)  hx hb hr hlk hP hS (by rw [← (Option.some.inj hres)]) (by rw [← (Option.some.inj hres)]) dX3_dropTold_21
def fX3_ageIn (ags : Nat → Int32) (x1 : Int32) (x2 : Int32) : Option (Int32) :=
  gd (ib x1 10) (some (if ((ags x1.toNatClampNeg) + x2) < (99 : Int32) then ((ags x1.toNatClampNeg) + x2) else (99 : Int32)))
abbrev rX3_ageIn : Room := { frames := 1, cells := 0, slots := 0, locals := 23 }
set_option maxHeartbeats 4000000 in
set_option maxRecDepth 100000 in
theorem kX3_ageIn (l : Launch) (D : va_G) (a : Nat → Nat) (cI cJ cS : ClassId) (hd : aok a 36) {Env : (Nat → Prop) → State → Heap → Prop} (hEo : envOK Env) (par : Int32) (kin lea mos wrt : Nat → Int32) (tal : Int32) (siz tol : Nat → Int32) (hrs : Int32) (ags : Nat → Int32) (yea kpar : Int32) (kkin klea kmos kwrt : Nat → Int32) (ktal : Int32) (ksiz ktol : Nat → Int32) (khrs : Int32) (kags : Nat → Int32) (kyea isk : Int32) (tly : Nat → Int64) (gai bes : Nat → Int32) (low hig : Nat → Int64) (spn : Int32) (byt : Nat → Int32) (hld sta beh sor num : Int32) (fnd sbi she : Nat → Int32) (snu : Nat → Nat → Int64) (x1 : Int32) (x2 : Int32) (res : Int32) (hres : fX3_ageIn ags x1 x2 = some res) : CtI l D (tyL cI cJ cS) 36 a Env yX3_ageIn wsX3_ageIn rX3_ageIn [.ref (a 1), .int x1, .int x2] (wX a cI cJ cS par kin lea mos wrt tal siz tol hrs ags yea kpar kkin klea kmos kwrt ktal ksiz ktol khrs kags kyea isk tly gai bes low hig spn byt hld sta beh sor num fnd sbi she snu) (wX a cI cJ cS par kin lea mos wrt tal siz tol hrs ags yea kpar kkin klea kmos kwrt ktal ksiz ktol khrs kags kyea isk tly gai bes low hig spn byt hld sta beh sor num fnd sbi she snu) res := by
  refine CtI_mk (cc := cX3_ageIn) (maxL := 3) (ret := (some .int)) (by decide) rfl (Nat.le_of_ble_eq_true rfl) ?_
  intro p e s m args below meth c ls hx hb hr hlk hml hown hts hP hK hE hl
  have hS : va_S (adA a 36 s.heap.size) s.heap s.heap [] := va_S.rf
  have hl : lv_has ls 3 [(0, .ref (a 1)), (1, .int x1), (2, .int x2)] := hl
  have hown : s.vm.findClass RX3 = some m.cls := hown
  have hw3 : ∀ w ∈ wsX30, w.before args s = true := fun w h => hts w (List.mem_cons_of_mem _ (List.mem_append_right _ h))
  have u1 : (Cond.fieldLink RX3 40 "YearWords$Stock" "ages" "[I").before args s = true := hts _ (List.mem_of_getElem? (i := 1) (by decide +kernel))
  have u2 : (Cond.methodLink RX3 50 Lib.Math.min.name).before args s = true := hts _ (List.mem_of_getElem? (i := 2) (by decide +kernel))
  have u3 : (Cond.static Lib.Math.min.name).before args s = true := hts _ (List.mem_of_getElem? (i := 3) (by decide +kernel))
  have u4 : (Cond.initialized "java/lang/Math").before args s = true := hts _ (List.mem_of_getElem? (i := 4) (by decide +kernel))
  have u5 : (Cond.code Lib.Math.min.name Lib.Math.min.code 2 (some .int)).before args s = true := hts _ (List.mem_of_getElem? (i := 5) (by decide +kernel))
  obtain ⟨Q, hQ⟩ : ∃ Q, Q = mqI below D 36 a args s (wX a cI cJ cS par kin lea mos wrt tal siz tol hrs ags yea kpar kkin klea kmos kwrt ktal ksiz ktol khrs kags kyea isk tly gai bes low hig spn byt hld sta beh sor num fnd sbi she snu) res := ⟨_, rfl⟩
  rw [← hQ]
  unfold fX3_ageIn at hres
  refine lv_bipush (v := 99) hx hb dX3_ageIn_0 (by decide) ?_
  refine lv_aload_n hx hb dX3_ageIn_2 rfl (lv_at hl 0 rfl) ?_
  refine gX_now_ages hx hb hown hw3 hK hP u1 dX3_ageIn_3 ?_
  refine lv_iload_n hx hb dX3_ageIn_6 rfl (lv_at hl 1 rfl) ?_
  obtain ⟨i7, hres⟩ := gdi hres
  refine lX_ags hx hb hK hP i7 dX3_ageIn_7 ?_
  refine lv_iload_n hx hb dX3_ageIn_8 rfl (lv_at hl 2 rfl) ?_
  refine lv_iadd hx hb dX3_ageIn_9 ?_
  refine va_mmin hx hb (hml.trans hl.1.symm) hown u2 u3 u4 u5 (Nat.le_of_ble_eq_true rfl) (Nat.le_of_ble_eq_true rfl) (Nat.zero_le _) (Nat.zero_le _) dX3_ageIn_10 ?_
  exact hQ ▸ rtI (v := if ((ags x1.toNatClampNeg) + x2) < (99 : Int32) then ((ags x1.toNatClampNeg) + x2) else (99 : Int32))  hx hb hr hlk hP hS (by rw [← (Option.some.inj hres)]) rfl dX3_ageIn_13
def fX3_growOlder_b28 (ags : Nat → Int32) (yea : Int32) (x1 : Int32) : Option ((Nat → Int32) × Int32) :=
  some (ags, yea + x1)
def fX3_growOlder_l2 (hrs : Int32) (yea : Int32) (x1 : Int32) (K2 : Int32 → (Nat → Int32) → Option ((Nat → Int32) × Int32)) (x2 : Int32) (ags : Nat → Int32) : Option ((Nat → Int32) × Int32) :=
  if hrs ≤ x2 then fX3_growOlder_b28 ags yea x1 else (fX3_ageIn ags x2 x1).bind fun q18 => gd (ib x2 10) (K2 (x2 + 1) (upd ags x2.toNatClampNeg q18))
def fX3_growOlder (hrs : Int32) (ags : Nat → Int32) (yea : Int32) (x1 : Int32) : Option ((Nat → Int32) × Int32) :=
  fix2 (fX3_growOlder_l2 hrs yea x1) 2000 (0 : Int32) ags
theorem hdX3_ageIn : yX3_ageIn.cls = RX3 ∧ yX3_ageIn.cls ≠ "java/lang/invoke/MethodHandle" ∧ yX3_ageIn.cls ≠ "java/lang/invoke/VarHandle" ∧ (parseMethodDescriptor yX3_ageIn.desc).map (fun d => d.parameters.length) = some 2 := by decide +kernel
abbrev rX3_growOlder : Room := { frames := 2, cells := 0, slots := 0, locals := 45 }
set_option maxHeartbeats 4000000 in
set_option maxRecDepth 100000 in
theorem kX3_growOlder (l : Launch) (D : va_G) (a : Nat → Nat) (cI cJ cS : ClassId) (hd : aok a 36) {Env : (Nat → Prop) → State → Heap → Prop} (hEo : envOK Env) (par : Int32) (kin lea mos wrt : Nat → Int32) (tal : Int32) (siz tol : Nat → Int32) (hrs : Int32) (ags : Nat → Int32) (yea kpar : Int32) (kkin klea kmos kwrt : Nat → Int32) (ktal : Int32) (ksiz ktol : Nat → Int32) (khrs : Int32) (kags : Nat → Int32) (kyea isk : Int32) (tly : Nat → Int64) (gai bes : Nat → Int32) (low hig : Nat → Int64) (spn : Int32) (byt : Nat → Int32) (hld sta beh sor num : Int32) (fnd sbi she : Nat → Int32) (snu : Nat → Nat → Int64) (x1 : Int32) (res : (Nat → Int32) × Int32) (hres : fX3_growOlder hrs ags yea x1 = some res) : CtV l D (tyL cI cJ cS) 36 a Env yX3_growOlder wsX3_growOlder rX3_growOlder [.ref (a 1), .int x1] (wX a cI cJ cS par kin lea mos wrt tal siz tol hrs ags yea kpar kkin klea kmos kwrt ktal ksiz ktol khrs kags kyea isk tly gai bes low hig spn byt hld sta beh sor num fnd sbi she snu) (wX a cI cJ cS par kin lea mos wrt tal siz tol hrs res.1 res.2 kpar kkin klea kmos kwrt ktal ksiz ktol khrs kags kyea isk tly gai bes low hig spn byt hld sta beh sor num fnd sbi she snu) := by
  refine CtV_mk (cc := cX3_growOlder) (maxL := 3) (ret := none) (by decide) rfl (Nat.le_of_ble_eq_true rfl) ?_
  intro p e s m args below meth c ls hx hb hr hlk hml hown hts hP hK hE hl
  have hS : va_S (adA a 36 s.heap.size) s.heap s.heap [] := va_S.rf
  have hl : lv_has ls 3 [(0, .ref (a 1)), (1, .int x1)] := hl
  have hown : s.vm.findClass RX3 = some m.cls := hown
  have hw3 : ∀ w ∈ wsX30, w.before args s = true := fun w h => hts w (List.mem_cons_of_mem _ (List.mem_append_right _ h))
  have u1 : (Cond.fieldLink RX3 37 "YearWords$Stock" "hearers" "I").before args s = true := hts _ (List.mem_of_getElem? (i := 1) (by decide +kernel))
  have u2 : (Cond.fieldLink RX3 40 "YearWords$Stock" "ages" "[I").before args s = true := hts _ (List.mem_of_getElem? (i := 2) (by decide +kernel))
  have u3 : (Cond.fieldLink RX3 43 "YearWords$Stock" "year" "I").before args s = true := hts _ (List.mem_of_getElem? (i := 3) (by decide +kernel))
  obtain ⟨Q, hQ⟩ : ∃ Q, Q = mqV below D 36 a args s (wX a cI cJ cS par kin lea mos wrt tal siz tol hrs res.1 res.2 kpar kkin klea kmos kwrt ktal ksiz ktol khrs kags kyea isk tly gai bes low hig spn byt hld sta beh sor num fnd sbi she snu) := ⟨_, rfl⟩
  rw [← hQ]
  have b28 : ∀ (ags : Nat → Int32) (yea : Int32), fX3_growOlder_b28 ags yea x1 = some res → ∀ (H : Heap) (locs : List Loc) (ls : Array Slot), va_P D vwCl (wX a cI cJ cS par kin lea mos wrt tal siz tol hrs ags yea kpar kkin klea kmos kwrt ktal ksiz ktol khrs kags kyea isk tly gai bes low hig spn byt hld sta beh sor num fnd sbi she snu) H → va_S (adA a 36 s.heap.size) s.heap H locs → lv_has ls 3 [(0, .ref (a 1)), (1, .int x1)] → W p l e rX3_growOlder s m args below meth c H locs 0 0 Q (F0 m 28 ls []) := by
    intro ags yea hres H locs ls hP hS hl
    unfold fX3_growOlder_b28 at hres
    refine lv_aload_n hx hb dX3_growOlder_28 rfl (lv_at hl 0 rfl) ?_
    refine lv_dup hx hb dX3_growOlder_29 rfl ?_
    refine gX_now_year hx hb hown hw3 hK hP u3 dX3_growOlder_30 ?_
    refine lv_iload_n hx hb dX3_growOlder_33 rfl (lv_at hl 1 rfl) ?_
    refine lv_iadd hx hb dX3_growOlder_34 ?_
    refine pX_now_year hx hb hown hw3 hK hP hd hS u3 dX3_growOlder_35 (fun H locs hP hS => ?_)
    exact hQ ▸ rtV hx hb hr hlk hP hS (by rw [← (Option.some.inj hres)]) dX3_growOlder_38
  have b2 : ∀ (yea : Int32) (n : Nat) (x2 : Int32) (ags : Nat → Int32), fix2 (fX3_growOlder_l2 hrs yea x1) n x2 ags = some res → ∀ (H : Heap) (locs : List Loc) (ls : Array Slot), va_P D vwCl (wX a cI cJ cS par kin lea mos wrt tal siz tol hrs ags yea kpar kkin klea kmos kwrt ktal ksiz ktol khrs kags kyea isk tly gai bes low hig spn byt hld sta beh sor num fnd sbi she snu) H → va_S (adA a 36 s.heap.size) s.heap H locs → lv_has ls 3 [(0, .ref (a 1)), (1, .int x1), (2, .int x2)] → W p l e rX3_growOlder s m args below meth c H locs 0 0 Q (F0 m 2 ls []) := by
    intro yea
    refine fix2_r ?_
    intro K2 hK2 x2 ags hres H locs ls hP hS hl
    unfold fX3_growOlder_l2 at hres
    refine lv_iload_n hx hb dX3_growOlder_2 rfl (lv_at hl 2 rfl) ?_
    refine lv_aload_n hx hb dX3_growOlder_3 rfl (lv_at hl 0 rfl) ?_
    refine gX_now_hearers hx hb hown hw3 hK hP u1 dX3_growOlder_4 ?_
    refine lv_icmp_ge (tgt := 28) hx hb dX3_growOlder_7 (by decide) (fun c7 => ?_) (fun c7 => ?_)
    · have hres := (itl hres).1 c7
      exact b28 ags yea hres _ _ _ hP hS (lv_sub hl [0, 1] rfl)
    · have hres := (itl hres).2 c7
      refine lv_aload_n hx hb dX3_growOlder_10 rfl (lv_at hl 0 rfl) ?_
      refine gX_now_ages hx hb hown hw3 hK hP u2 dX3_growOlder_11 ?_
      refine lv_iload_n hx hb dX3_growOlder_14 rfl (lv_at hl 2 rfl) ?_
      refine lv_aload_n hx hb dX3_growOlder_15 rfl (lv_at hl 0 rfl) ?_
      refine lv_iload_n hx hb dX3_growOlder_16 rfl (lv_at hl 2 rfl) ?_
      refine lv_iload_n hx hb dX3_growOlder_17 rfl (lv_at hl 1 rfl) ?_
      obtain ⟨q18, e18, hres⟩ := obd hres
      refine cvI (q0 := 1) (ci := 3) hx hb hml hown hts hEo hE hK hP hS (kX3_ageIn l D a cI cJ cS hd hEo par kin lea mos wrt tal siz tol hrs ags yea kpar kkin klea kmos kwrt ktal ksiz ktol khrs kags kyea isk tly gai bes low hig spn byt hld sta beh sor num fnd sbi she snu x2 x1 q18 e18) gX3_growOlder_X3_ageIn rfl hdX3_ageIn rfl rfl rfl ⟨rfl, rfl⟩ ⟨Nat.le_of_ble_eq_true rfl, Nat.le_of_ble_eq_true rfl⟩ ⟨Nat.zero_le _, Nat.zero_le _⟩ rfl hl.1 rfl (Nat.le_of_ble_eq_true rfl) dX3_growOlder_18 (fun H locs hP hS => ?_)
      obtain ⟨i21, hres⟩ := gdi hres
      refine sX_ags hx hb hK hP hd hS i21 dX3_growOlder_21 (fun H locs hP hS => ?_)
      refine lv_iinc (v := x2 + 1) (lv' := [(2, .int (x2 + 1)), (0, .ref (a 1)), (1, .int x1)]) hx hb dX3_growOlder_22 hl (k := 2) rfl (congrArg (fun z => x2 + z) (by decide)) (by decide) rfl (fun ls hl => ?_)
      refine lv_goto (tgt := 2) hx hb dX3_growOlder_25 (by decide) ?_
      exact hK2 (x2 + 1) (upd ags x2.toNatClampNeg q18) hres _ _ _ hP hS (lv_sub hl [1, 2, 0] rfl)
  unfold fX3_growOlder at hres
  refine lv_iconst (v := 0) hx hb dX3_growOlder_0 (by decide) ?_
  refine lv_istore_n (lv' := [(2, .int (0 : Int32)), (0, .ref (a 1)), (1, .int x1)]) hx hb dX3_growOlder_1 rfl hl (by decide) rfl (fun ls hl => ?_)
  exact b2 yea 2000 (0 : Int32) ags hres _ _ _ hP hS (lv_sub hl [1, 2, 0] rfl)
def fX3_nearTo_b65 (K17 : Int32 → Int32 → Option (Int32)) (x3 : Int32) (x5 : Int32) : Option (Int32) :=
  K17 x3 (x5 + 1)
def fX3_nearTo_b71 (K5 : Int32 → Int32 → Option (Int32)) (x3 : Int32) (x4 : Int32) : Option (Int32) :=
  K5 x3 (x4 + 1)
def fX3_nearTo_l17 (K5 : Int32 → Int32 → Option (Int32)) (hrs : Int32) (ags : Nat → Int32) (x1 : Int32) (x2 : Int32) (x4 : Int32) (K17 : Int32 → Int32 → Option (Int32)) (x3 : Int32) (x5 : Int32) : Option (Int32) :=
  if hrs ≤ x5 then fX3_nearTo_b71 K5 x3 x4 else if ((x1 >>> (x5 &&& 31)) &&& (1 : Int32)) = (1 : Int32) then gd (ib x4 10) (gd (ib x5 10) (if x2 < (if 0 ≤ ((ags x4.toNatClampNeg) - (ags x5.toNatClampNeg)) then ((ags x4.toNatClampNeg) - (ags x5.toNatClampNeg)) else 0 - ((ags x4.toNatClampNeg) - (ags x5.toNatClampNeg))) then fX3_nearTo_b65 K17 x3 x5 else fX3_nearTo_b65 K17 (x3 ||| ((1 : Int32) <<< (x4 &&& 31))) x5)) else fX3_nearTo_b65 K17 x3 x5
def fX3_nearTo_l5 (hrs : Int32) (ags : Nat → Int32) (x1 : Int32) (x2 : Int32) (K5 : Int32 → Int32 → Option (Int32)) (x3 : Int32) (x4 : Int32) : Option (Int32) :=
  if hrs ≤ x4 then some x3 else fix2 (fX3_nearTo_l17 K5 hrs ags x1 x2 x4) 2000 x3 (0 : Int32)
def fX3_nearTo (hrs : Int32) (ags : Nat → Int32) (x1 : Int32) (x2 : Int32) : Option (Int32) :=
  fix2 (fX3_nearTo_l5 hrs ags x1 x2) 2000 (0 : Int32) (0 : Int32)
abbrev rX3_nearTo : Room := { frames := 1, cells := 0, slots := 0, locals := 23 }
set_option maxHeartbeats 4000000 in
set_option maxRecDepth 100000 in
theorem kX3_nearTo (l : Launch) (D : va_G) (a : Nat → Nat) (cI cJ cS : ClassId) (hd : aok a 36) {Env : (Nat → Prop) → State → Heap → Prop} (hEo : envOK Env) (par : Int32) (kin lea mos wrt : Nat → Int32) (tal : Int32) (siz tol : Nat → Int32) (hrs : Int32) (ags : Nat → Int32) (yea kpar : Int32) (kkin klea kmos kwrt : Nat → Int32) (ktal : Int32) (ksiz ktol : Nat → Int32) (khrs : Int32) (kags : Nat → Int32) (kyea isk : Int32) (tly : Nat → Int64) (gai bes : Nat → Int32) (low hig : Nat → Int64) (spn : Int32) (byt : Nat → Int32) (hld sta beh sor num : Int32) (fnd sbi she : Nat → Int32) (snu : Nat → Nat → Int64) (x1 : Int32) (x2 : Int32) (res : Int32) (hres : fX3_nearTo hrs ags x1 x2 = some res) : CtI l D (tyL cI cJ cS) 36 a Env yX3_nearTo wsX3_nearTo rX3_nearTo [.ref (a 1), .int x1, .int x2] (wX a cI cJ cS par kin lea mos wrt tal siz tol hrs ags yea kpar kkin klea kmos kwrt ktal ksiz ktol khrs kags kyea isk tly gai bes low hig spn byt hld sta beh sor num fnd sbi she snu) (wX a cI cJ cS par kin lea mos wrt tal siz tol hrs ags yea kpar kkin klea kmos kwrt ktal ksiz ktol khrs kags kyea isk tly gai bes low hig spn byt hld sta beh sor num fnd sbi she snu) res := by
  refine CtI_mk (cc := cX3_nearTo) (maxL := 6) (ret := (some .int)) (by decide) rfl (Nat.le_of_ble_eq_true rfl) ?_
  intro p e s m args below meth c ls hx hb hr hlk hml hown hts hP hK hE hl
  have hS : va_S (adA a 36 s.heap.size) s.heap s.heap [] := va_S.rf
  have hl : lv_has ls 6 [(0, .ref (a 1)), (1, .int x1), (2, .int x2)] := hl
  have hown : s.vm.findClass RX3 = some m.cls := hown
  have hw3 : ∀ w ∈ wsX30, w.before args s = true := fun w h => hts w (List.mem_cons_of_mem _ (List.mem_append_right _ h))
  have u1 : (Cond.fieldLink RX3 37 "YearWords$Stock" "hearers" "I").before args s = true := hts _ (List.mem_of_getElem? (i := 1) (by decide +kernel))
  have u2 : (Cond.fieldLink RX3 40 "YearWords$Stock" "ages" "[I").before args s = true := hts _ (List.mem_of_getElem? (i := 2) (by decide +kernel))
  have u3 : (Cond.methodLink RX3 58 Lib.Math.abs.name).before args s = true := hts _ (List.mem_of_getElem? (i := 3) (by decide +kernel))
  have u4 : (Cond.static Lib.Math.abs.name).before args s = true := hts _ (List.mem_of_getElem? (i := 4) (by decide +kernel))
  have u5 : (Cond.initialized "java/lang/Math").before args s = true := hts _ (List.mem_of_getElem? (i := 5) (by decide +kernel))
  have u6 : (Cond.code Lib.Math.abs.name Lib.Math.abs.code 1 (some .int)).before args s = true := hts _ (List.mem_of_getElem? (i := 6) (by decide +kernel))
  obtain ⟨Q, hQ⟩ : ∃ Q, Q = mqI below D 36 a args s (wX a cI cJ cS par kin lea mos wrt tal siz tol hrs ags yea kpar kkin klea kmos kwrt ktal ksiz ktol khrs kags kyea isk tly gai bes low hig spn byt hld sta beh sor num fnd sbi she snu) res := ⟨_, rfl⟩
  rw [← hQ]
  have b5 : ∀  (n : Nat) (x3 : Int32) (x4 : Int32), fix2 (fX3_nearTo_l5 hrs ags x1 x2) n x3 x4 = some res → ∀ (H : Heap) (locs : List Loc) (ls : Array Slot), va_P D vwCl (wX a cI cJ cS par kin lea mos wrt tal siz tol hrs ags yea kpar kkin klea kmos kwrt ktal ksiz ktol khrs kags kyea isk tly gai bes low hig spn byt hld sta beh sor num fnd sbi she snu) H → va_S (adA a 36 s.heap.size) s.heap H locs → lv_has ls 6 [(0, .ref (a 1)), (1, .int x1), (2, .int x2), (3, .int x3), (4, .int x4)] → W p l e rX3_nearTo s m args below meth c H locs 0 0 Q (F0 m 5 ls []) := by
    refine fix2_r ?_
    intro K5 hK5 x3 x4 hres H locs ls hP hS hl
    have b71 : ∀ (x3 : Int32) (x4 : Int32), fX3_nearTo_b71 K5 x3 x4 = some res → ∀ (H : Heap) (locs : List Loc) (ls : Array Slot), va_P D vwCl (wX a cI cJ cS par kin lea mos wrt tal siz tol hrs ags yea kpar kkin klea kmos kwrt ktal ksiz ktol khrs kags kyea isk tly gai bes low hig spn byt hld sta beh sor num fnd sbi she snu) H → va_S (adA a 36 s.heap.size) s.heap H locs → lv_has ls 6 [(0, .ref (a 1)), (1, .int x1), (2, .int x2), (3, .int x3), (4, .int x4)] → W p l e rX3_nearTo s m args below meth c H locs 0 0 Q (F0 m 71 ls []) := by
      intro x3 x4 hres H locs ls hP hS hl
      unfold fX3_nearTo_b71 at hres
      refine lv_iinc (v := x4 + 1) (lv' := [(4, .int (x4 + 1)), (0, .ref (a 1)), (1, .int x1), (2, .int x2), (3, .int x3)]) hx hb dX3_nearTo_71 hl (k := 4) rfl (congrArg (fun z => x4 + z) (by decide)) (by decide) rfl (fun ls hl => ?_)
      refine lv_goto (tgt := 5) hx hb dX3_nearTo_74 (by decide) ?_
      exact hK5 x3 (x4 + 1) hres _ _ _ hP hS (lv_sub hl [1, 2, 3, 4, 0] rfl)
    have b17 : ∀ (x4 : Int32) (n : Nat) (x3 : Int32) (x5 : Int32), fix2 (fX3_nearTo_l17 K5 hrs ags x1 x2 x4) n x3 x5 = some res → ∀ (H : Heap) (locs : List Loc) (ls : Array Slot), va_P D vwCl (wX a cI cJ cS par kin lea mos wrt tal siz tol hrs ags yea kpar kkin klea kmos kwrt ktal ksiz ktol khrs kags kyea isk tly gai bes low hig spn byt hld sta beh sor num fnd sbi she snu) H → va_S (adA a 36 s.heap.size) s.heap H locs → lv_has ls 6 [(0, .ref (a 1)), (1, .int x1), (2, .int x2), (3, .int x3), (4, .int x4), (5, .int x5)] → W p l e rX3_nearTo s m args below meth c H locs 0 0 Q (F0 m 17 ls []) := by
      intro x4
      refine fix2_r ?_
      intro K17 hK17 x3 x5 hres H locs ls hP hS hl
      have b65 : ∀ (x3 : Int32) (x5 : Int32), fX3_nearTo_b65 K17 x3 x5 = some res → ∀ (H : Heap) (locs : List Loc) (ls : Array Slot), va_P D vwCl (wX a cI cJ cS par kin lea mos wrt tal siz tol hrs ags yea kpar kkin klea kmos kwrt ktal ksiz ktol khrs kags kyea isk tly gai bes low hig spn byt hld sta beh sor num fnd sbi she snu) H → va_S (adA a 36 s.heap.size) s.heap H locs → lv_has ls 6 [(0, .ref (a 1)), (1, .int x1), (2, .int x2), (3, .int x3), (4, .int x4), (5, .int x5)] → W p l e rX3_nearTo s m args below meth c H locs 0 0 Q (F0 m 65 ls []) := by
        intro x3 x5 hres H locs ls hP hS hl
        unfold fX3_nearTo_b65 at hres
        refine lv_iinc (v := x5 + 1) (lv' := [(5, .int (x5 + 1)), (0, .ref (a 1)), (1, .int x1), (2, .int x2), (3, .int x3), (4, .int x4)]) hx hb dX3_nearTo_65 hl (k := 5) rfl (congrArg (fun z => x5 + z) (by decide)) (by decide) rfl (fun ls hl => ?_)
        refine lv_goto (tgt := 17) hx hb dX3_nearTo_68 (by decide) ?_
        exact hK17 x3 (x5 + 1) hres _ _ _ hP hS (lv_sub hl [1, 2, 3, 4, 5, 0] rfl)
      unfold fX3_nearTo_l17 at hres
      refine lv_iload hx hb dX3_nearTo_17 (lv_at hl 5 rfl) ?_
      refine lv_aload_n hx hb dX3_nearTo_19 rfl (lv_at hl 0 rfl) ?_
      refine gX_now_hearers hx hb hown hw3 hK hP u1 dX3_nearTo_20 ?_
      refine lv_icmp_ge (tgt := 71) hx hb dX3_nearTo_23 (by decide) (fun c23 => ?_) (fun c23 => ?_)
      · have hres := (itl hres).1 c23
        exact b71 x3 x4 hres _ _ _ hP hS (lv_sub hl [0, 1, 2, 3, 4] rfl)
      · have hres := (itl hres).2 c23
        refine lv_iload_n hx hb dX3_nearTo_26 rfl (lv_at hl 1 rfl) ?_
        refine lv_iload hx hb dX3_nearTo_27 (lv_at hl 5 rfl) ?_
        refine lv_ishr hx hb dX3_nearTo_29 ?_
        refine lv_iconst (v := 1) hx hb dX3_nearTo_30 (by decide) ?_
        refine lv_iand hx hb dX3_nearTo_31 ?_
        refine lv_iconst (v := 1) hx hb dX3_nearTo_32 (by decide) ?_
        refine lv_icmp_ne (tgt := 65) hx hb dX3_nearTo_33 (by decide) (fun c33 => ?_) (fun c33 => ?_)
        · have hres := (itl hres).2 c33
          exact b65 x3 x5 hres _ _ _ hP hS (lv_sub hl [0, 1, 2, 3, 4, 5] rfl)
        · have hres := (itl hres).1 c33
          refine lv_aload_n hx hb dX3_nearTo_36 rfl (lv_at hl 0 rfl) ?_
          refine gX_now_ages hx hb hown hw3 hK hP u2 dX3_nearTo_37 ?_
          refine lv_iload hx hb dX3_nearTo_40 (lv_at hl 4 rfl) ?_
          obtain ⟨i42, hres⟩ := gdi hres
          refine lX_ags hx hb hK hP i42 dX3_nearTo_42 ?_
          refine lv_aload_n hx hb dX3_nearTo_43 rfl (lv_at hl 0 rfl) ?_
          refine gX_now_ages hx hb hown hw3 hK hP u2 dX3_nearTo_44 ?_
          refine lv_iload hx hb dX3_nearTo_47 (lv_at hl 5 rfl) ?_
          obtain ⟨i49, hres⟩ := gdi hres
          refine lX_ags hx hb hK hP i49 dX3_nearTo_49 ?_
          refine lv_isub hx hb dX3_nearTo_50 ?_
          refine va_mabs hx hb (hml.trans hl.1.symm) hown u3 u4 u5 u6 (Nat.le_of_ble_eq_true rfl) (Nat.le_of_ble_eq_true rfl) (Nat.zero_le _) (Nat.zero_le _) dX3_nearTo_51 ?_
          refine lv_iload_n hx hb dX3_nearTo_54 rfl (lv_at hl 2 rfl) ?_
          refine lv_icmp_gt (tgt := 65) hx hb dX3_nearTo_55 (by decide) (fun c55 => ?_) (fun c55 => ?_)
          · have hres := (itl hres).1 c55
            exact b65 x3 x5 hres _ _ _ hP hS (lv_sub hl [0, 1, 2, 3, 4, 5] rfl)
          · have hres := (itl hres).2 c55
            refine lv_iload_n hx hb dX3_nearTo_58 rfl (lv_at hl 3 rfl) ?_
            refine lv_iconst (v := 1) hx hb dX3_nearTo_59 (by decide) ?_
            refine lv_iload hx hb dX3_nearTo_60 (lv_at hl 4 rfl) ?_
            refine lv_ishl hx hb dX3_nearTo_62 ?_
            refine lv_ior hx hb dX3_nearTo_63 ?_
            refine lv_istore_n (lv' := [(3, .int (x3 ||| ((1 : Int32) <<< (x4 &&& 31)))), (0, .ref (a 1)), (1, .int x1), (2, .int x2), (4, .int x4), (5, .int x5)]) hx hb dX3_nearTo_64 rfl hl (by decide) rfl (fun ls hl => ?_)
            exact b65 (x3 ||| ((1 : Int32) <<< (x4 &&& 31))) x5 hres _ _ _ hP hS (lv_sub hl [1, 2, 3, 0, 4, 5] rfl)
    unfold fX3_nearTo_l5 at hres
    refine lv_iload hx hb dX3_nearTo_5 (lv_at hl 4 rfl) ?_
    refine lv_aload_n hx hb dX3_nearTo_7 rfl (lv_at hl 0 rfl) ?_
    refine gX_now_hearers hx hb hown hw3 hK hP u1 dX3_nearTo_8 ?_
    refine lv_icmp_ge (tgt := 77) hx hb dX3_nearTo_11 (by decide) (fun c11 => ?_) (fun c11 => ?_)
    · have hres := (itl hres).1 c11
      refine lv_iload_n hx hb dX3_nearTo_77 rfl (lv_at hl 3 rfl) ?_
      exact hQ ▸ rtI (v := x3)  hx hb hr hlk hP hS (by rw [← (Option.some.inj hres)]) rfl dX3_nearTo_78
    · have hres := (itl hres).2 c11
      refine lv_iconst (v := 0) hx hb dX3_nearTo_14 (by decide) ?_
      refine lv_istore (lv' := [(5, .int (0 : Int32)), (0, .ref (a 1)), (1, .int x1), (2, .int x2), (3, .int x3), (4, .int x4)]) hx hb dX3_nearTo_15 hl (by decide) rfl (fun ls hl => ?_)
      exact b17 x4 2000 x3 (0 : Int32) hres _ _ _ hP hS (lv_sub hl [1, 2, 3, 4, 5, 0] rfl)
  unfold fX3_nearTo at hres
  refine lv_iconst (v := 0) hx hb dX3_nearTo_0 (by decide) ?_
  refine lv_istore_n (lv' := [(3, .int (0 : Int32)), (0, .ref (a 1)), (1, .int x1), (2, .int x2)]) hx hb dX3_nearTo_1 rfl hl (by decide) rfl (fun ls hl => ?_)
  refine lv_iconst (v := 0) hx hb dX3_nearTo_2 (by decide) ?_
  refine lv_istore (lv' := [(4, .int (0 : Int32)), (3, .int (0 : Int32)), (0, .ref (a 1)), (1, .int x1), (2, .int x2)]) hx hb dX3_nearTo_3 hl (by decide) rfl (fun ls hl => ?_)
  exact b5  2000 (0 : Int32) (0 : Int32) hres _ _ _ hP hS (lv_sub hl [2, 3, 4, 1, 0] rfl)
def fX3_shrinkTo (par : Int32) (tal : Int32) (hrs : Int32) (x1 : Int32) (x2 : Int32) (x3 : Int32) : Int32 × Int32 × Int32 :=
 (x1, x2, x3)
abbrev rX3_shrinkTo : Room := { frames := 0, cells := 0, slots := 0, locals := 0 }
set_option maxHeartbeats 4000000 in
set_option maxRecDepth 100000 in
theorem kX3_shrinkTo (l : Launch) (D : va_G) (a : Nat → Nat) (cI cJ cS : ClassId) (hd : aok a 36) {Env : (Nat → Prop) → State → Heap → Prop} (hEo : envOK Env) (par : Int32) (kin lea mos wrt : Nat → Int32) (tal : Int32) (siz tol : Nat → Int32) (hrs : Int32) (ags : Nat → Int32) (yea kpar : Int32) (kkin klea kmos kwrt : Nat → Int32) (ktal : Int32) (ksiz ktol : Nat → Int32) (khrs : Int32) (kags : Nat → Int32) (kyea isk : Int32) (tly : Nat → Int64) (gai bes : Nat → Int32) (low hig : Nat → Int64) (spn : Int32) (byt : Nat → Int32) (hld sta beh sor num : Int32) (fnd sbi she : Nat → Int32) (snu : Nat → Nat → Int64) (x1 : Int32) (x2 : Int32) (x3 : Int32) : CtV l D (tyL cI cJ cS) 36 a Env yX3_shrinkTo wsX3_shrinkTo rX3_shrinkTo [.ref (a 1), .int x1, .int x2, .int x3] (wX a cI cJ cS par kin lea mos wrt tal siz tol hrs ags yea kpar kkin klea kmos kwrt ktal ksiz ktol khrs kags kyea isk tly gai bes low hig spn byt hld sta beh sor num fnd sbi she snu) (wX a cI cJ cS (fX3_shrinkTo par tal hrs x1 x2 x3).1 kin lea mos wrt (fX3_shrinkTo par tal hrs x1 x2 x3).2.1 siz tol (fX3_shrinkTo par tal hrs x1 x2 x3).2.2 ags yea kpar kkin klea kmos kwrt ktal ksiz ktol khrs kags kyea isk tly gai bes low hig spn byt hld sta beh sor num fnd sbi she snu) := by
  generalize hres : fX3_shrinkTo par tal hrs x1 x2 x3 = res
  refine CtV_mk (cc := cX3_shrinkTo) (maxL := 4) (ret := none) (by decide) rfl (Nat.le_of_ble_eq_true rfl) ?_
  intro p e s m args below meth c ls hx hb hr hlk hml hown hts hP hK hE hl
  have hS : va_S (adA a 36 s.heap.size) s.heap s.heap [] := va_S.rf
  have hl : lv_has ls 4 [(0, .ref (a 1)), (1, .int x1), (2, .int x2), (3, .int x3)] := hl
  have hown : s.vm.findClass RX3 = some m.cls := hown
  have hw3 : ∀ w ∈ wsX30, w.before args s = true := fun w h => hts w (List.mem_cons_of_mem _ (List.mem_append_right _ h))
  have u1 : (Cond.fieldLink RX3 9 "YearWords$Stock" "parts" "I").before args s = true := hts _ (List.mem_of_getElem? (i := 1) (by decide +kernel))
  have u2 : (Cond.fieldLink RX3 28 "YearWords$Stock" "tales" "I").before args s = true := hts _ (List.mem_of_getElem? (i := 2) (by decide +kernel))
  have u3 : (Cond.fieldLink RX3 37 "YearWords$Stock" "hearers" "I").before args s = true := hts _ (List.mem_of_getElem? (i := 3) (by decide +kernel))
  obtain ⟨Q, hQ⟩ : ∃ Q, Q = mqV below D 36 a args s (wX a cI cJ cS res.1 kin lea mos wrt res.2.1 siz tol res.2.2 ags yea kpar kkin klea kmos kwrt ktal ksiz ktol khrs kags kyea isk tly gai bes low hig spn byt hld sta beh sor num fnd sbi she snu) := ⟨_, rfl⟩
  rw [← hQ]
  unfold fX3_shrinkTo at hres
  refine lv_aload_n hx hb dX3_shrinkTo_0 rfl (lv_at hl 0 rfl) ?_
  refine lv_iload_n hx hb dX3_shrinkTo_1 rfl (lv_at hl 1 rfl) ?_
  refine pX_now_parts hx hb hown hw3 hK hP hd hS u1 dX3_shrinkTo_2 (fun H locs hP hS => ?_)
  refine lv_aload_n hx hb dX3_shrinkTo_5 rfl (lv_at hl 0 rfl) ?_
  refine lv_iload_n hx hb dX3_shrinkTo_6 rfl (lv_at hl 2 rfl) ?_
  refine pX_now_tales hx hb hown hw3 hK hP hd hS u2 dX3_shrinkTo_7 (fun H locs hP hS => ?_)
  refine lv_aload_n hx hb dX3_shrinkTo_10 rfl (lv_at hl 0 rfl) ?_
  refine lv_iload_n hx hb dX3_shrinkTo_11 rfl (lv_at hl 3 rfl) ?_
  refine pX_now_hearers hx hb hown hw3 hK hP hd hS u3 dX3_shrinkTo_12 (fun H locs hP hS => ?_)
  exact hQ ▸ rtV hx hb hr hlk hP hS (by rw [← hres]) dX3_shrinkTo_15
def fX3_become_kst (par : Int32) (kin : Nat → Int32) (lea : Nat → Int32) (mos : Nat → Int32) (wrt : Nat → Int32) (tal : Int32) (siz : Nat → Int32) (tol : Nat → Int32) (hrs : Int32) (ags : Nat → Int32) (yea : Int32) (kpar : Int32) (kkin : Nat → Int32) (klea : Nat → Int32) (kmos : Nat → Int32) (kwrt : Nat → Int32) (ktal : Int32) (ksiz : Nat → Int32) (ktol : Nat → Int32) (khrs : Int32) (kags : Nat → Int32) (kyea : Int32) : Option (Int32 × (Nat → Int32) × (Nat → Int32) × (Nat → Int32) × (Nat → Int32) × Int32 × (Nat → Int32) × (Nat → Int32) × Int32 × (Nat → Int32) × Int32) :=
  some (kpar, va_cpy kkin kin (0 : Int32).toNatClampNeg (0 : Int32).toNatClampNeg (16 : Int32).toNatClampNeg, va_cpy klea lea (0 : Int32).toNatClampNeg (0 : Int32).toNatClampNeg (16 : Int32).toNatClampNeg, va_cpy kmos mos (0 : Int32).toNatClampNeg (0 : Int32).toNatClampNeg (16 : Int32).toNatClampNeg, va_cpy kwrt wrt (0 : Int32).toNatClampNeg (0 : Int32).toNatClampNeg (16 : Int32).toNatClampNeg, ktal, va_cpy ksiz siz (0 : Int32).toNatClampNeg (0 : Int32).toNatClampNeg (8 : Int32).toNatClampNeg, va_cpy ktol tol (0 : Int32).toNatClampNeg (0 : Int32).toNatClampNeg (80 : Int32).toNatClampNeg, khrs, va_cpy kags ags (0 : Int32).toNatClampNeg (0 : Int32).toNatClampNeg (10 : Int32).toNatClampNeg, kyea)
abbrev rX3_become_kst : Room := { frames := 1, cells := 0, slots := 0, locals := 40 }
set_option maxHeartbeats 4000000 in
set_option maxRecDepth 100000 in
theorem kX3_become_kst (l : Launch) (D : va_G) (a : Nat → Nat) (cI cJ cS : ClassId) (hd : aok a 36) {Env : (Nat → Prop) → State → Heap → Prop} (hEo : envOK Env) (par : Int32) (kin lea mos wrt : Nat → Int32) (tal : Int32) (siz tol : Nat → Int32) (hrs : Int32) (ags : Nat → Int32) (yea kpar : Int32) (kkin klea kmos kwrt : Nat → Int32) (ktal : Int32) (ksiz ktol : Nat → Int32) (khrs : Int32) (kags : Nat → Int32) (kyea isk : Int32) (tly : Nat → Int64) (gai bes : Nat → Int32) (low hig : Nat → Int64) (spn : Int32) (byt : Nat → Int32) (hld sta beh sor num : Int32) (fnd sbi she : Nat → Int32) (snu : Nat → Nat → Int64)  (res : Int32 × (Nat → Int32) × (Nat → Int32) × (Nat → Int32) × (Nat → Int32) × Int32 × (Nat → Int32) × (Nat → Int32) × Int32 × (Nat → Int32) × Int32) (hres : fX3_become_kst par kin lea mos wrt tal siz tol hrs ags yea kpar kkin klea kmos kwrt ktal ksiz ktol khrs kags kyea = some res) : CtV l D (tyL cI cJ cS) 36 a Env yX3_become wsX3_become rX3_become_kst [.ref (a 1), .ref (a 9)] (wX a cI cJ cS par kin lea mos wrt tal siz tol hrs ags yea kpar kkin klea kmos kwrt ktal ksiz ktol khrs kags kyea isk tly gai bes low hig spn byt hld sta beh sor num fnd sbi she snu) (wX a cI cJ cS res.1 res.2.1 res.2.2.1 res.2.2.2.1 res.2.2.2.2.1 res.2.2.2.2.2.1 res.2.2.2.2.2.2.1 res.2.2.2.2.2.2.2.1 res.2.2.2.2.2.2.2.2.1 res.2.2.2.2.2.2.2.2.2.1 res.2.2.2.2.2.2.2.2.2.2 kpar kkin klea kmos kwrt ktal ksiz ktol khrs kags kyea isk tly gai bes low hig spn byt hld sta beh sor num fnd sbi she snu) := by
  refine CtV_mk (cc := cX3_become) (maxL := 2) (ret := none) (by decide) rfl (Nat.le_of_ble_eq_true rfl) ?_
  intro p e s m args below meth c ls hx hb hr hlk hml hown hts hP hK hE hl
  have hS : va_S (adA a 36 s.heap.size) s.heap s.heap [] := va_S.rf
  have hl : lv_has ls 2 [(0, .ref (a 1)), (1, .ref (a 9))] := hl
  have hown : s.vm.findClass RX3 = some m.cls := hown
  have hw3 : ∀ w ∈ wsX30, w.before args s = true := fun w h => hts w (List.mem_cons_of_mem _ (List.mem_append_right _ h))
  have u1 : (Cond.fieldLink RX3 9 "YearWords$Stock" "parts" "I").before args s = true := hts _ (List.mem_of_getElem? (i := 1) (by decide +kernel))
  have u2 : (Cond.fieldLink RX3 15 "YearWords$Stock" "kinds" "[I").before args s = true := hts _ (List.mem_of_getElem? (i := 2) (by decide +kernel))
  have u3 : (Cond.methodLink RX3 66 arraycopyName).before args s = true := hts _ (List.mem_of_getElem? (i := 3) (by decide +kernel))
  have u4 : (Cond.native arraycopyName).before args s = true := hts _ (List.mem_of_getElem? (i := 4) (by decide +kernel))
  have u5 : (Cond.static arraycopyName).before args s = true := hts _ (List.mem_of_getElem? (i := 5) (by decide +kernel))
  have u6 : (Cond.initialized "java/lang/System").before args s = true := hts _ (List.mem_of_getElem? (i := 6) (by decide +kernel))
  have u7 : (Cond.fieldLink RX3 19 "YearWords$Stock" "leasts" "[I").before args s = true := hts _ (List.mem_of_getElem? (i := 7) (by decide +kernel))
  have u8 : (Cond.fieldLink RX3 22 "YearWords$Stock" "mosts" "[I").before args s = true := hts _ (List.mem_of_getElem? (i := 8) (by decide +kernel))
  have u9 : (Cond.fieldLink RX3 25 "YearWords$Stock" "worths" "[I").before args s = true := hts _ (List.mem_of_getElem? (i := 9) (by decide +kernel))
  have u10 : (Cond.fieldLink RX3 28 "YearWords$Stock" "tales" "I").before args s = true := hts _ (List.mem_of_getElem? (i := 10) (by decide +kernel))
  have u11 : (Cond.fieldLink RX3 31 "YearWords$Stock" "sizes" "[I").before args s = true := hts _ (List.mem_of_getElem? (i := 11) (by decide +kernel))
  have u12 : (Cond.fieldLink RX3 34 "YearWords$Stock" "told" "[I").before args s = true := hts _ (List.mem_of_getElem? (i := 12) (by decide +kernel))
  have u13 : (Cond.fieldLink RX3 37 "YearWords$Stock" "hearers" "I").before args s = true := hts _ (List.mem_of_getElem? (i := 13) (by decide +kernel))
  have u14 : (Cond.fieldLink RX3 40 "YearWords$Stock" "ages" "[I").before args s = true := hts _ (List.mem_of_getElem? (i := 14) (by decide +kernel))
  have u15 : (Cond.fieldLink RX3 43 "YearWords$Stock" "year" "I").before args s = true := hts _ (List.mem_of_getElem? (i := 15) (by decide +kernel))
  obtain ⟨Q, hQ⟩ : ∃ Q, Q = mqV below D 36 a args s (wX a cI cJ cS res.1 res.2.1 res.2.2.1 res.2.2.2.1 res.2.2.2.2.1 res.2.2.2.2.2.1 res.2.2.2.2.2.2.1 res.2.2.2.2.2.2.2.1 res.2.2.2.2.2.2.2.2.1 res.2.2.2.2.2.2.2.2.2.1 res.2.2.2.2.2.2.2.2.2.2 kpar kkin klea kmos kwrt ktal ksiz ktol khrs kags kyea isk tly gai bes low hig spn byt hld sta beh sor num fnd sbi she snu) := ⟨_, rfl⟩
  rw [← hQ]
  unfold fX3_become_kst at hres
  refine lv_aload_n hx hb dX3_become_0 rfl (lv_at hl 0 rfl) ?_
  refine lv_aload_n hx hb dX3_become_1 rfl (lv_at hl 1 rfl) ?_
  refine gX_kst_parts hx hb hown hw3 hK hP u1 dX3_become_2 ?_
  refine pX_now_parts hx hb hown hw3 hK hP hd hS u1 dX3_become_5 (fun H locs hP hS => ?_)
  refine lv_aload_n hx hb dX3_become_8 rfl (lv_at hl 1 rfl) ?_
  refine gX_kst_kinds hx hb hown hw3 hK hP u2 dX3_become_9 ?_
  refine lv_iconst (v := 0) hx hb dX3_become_12 (by decide) ?_
  refine lv_aload_n hx hb dX3_become_13 rfl (lv_at hl 0 rfl) ?_
  refine gX_now_kinds hx hb hown hw3 hK hP u2 dX3_become_14 ?_
  refine lv_iconst (v := 0) hx hb dX3_become_17 (by decide) ?_
  refine lv_bipush (v := 16) hx hb dX3_become_18 (by decide) ?_
  refine va_copyi hx hb (hml.trans hl.1.symm) hown u3 u4 u5 u6 hK hP (wX_D hd) hS 10 2 0 0 rfl rfl rfl rfl rfl (by decide) (by decide) (by decide) (by decide) (by decide) (fun _ _ => rfl) (Nat.le_of_ble_eq_true rfl) (Nat.le_of_ble_eq_true rfl) dX3_become_20 (fun H locs hP _ hS => ?_)
  have hP : va_P D vwCl (wX a cI cJ cS kpar (va_cpy kkin kin (0 : Int32).toNatClampNeg (0 : Int32).toNatClampNeg (16 : Int32).toNatClampNeg) lea mos wrt tal siz tol hrs ags yea kpar kkin klea kmos kwrt ktal ksiz ktol khrs kags kyea isk tly gai bes low hig spn byt hld sta beh sor num fnd sbi she snu) H := hP
  refine lv_aload_n hx hb dX3_become_23 rfl (lv_at hl 1 rfl) ?_
  refine gX_kst_leasts hx hb hown hw3 hK hP u7 dX3_become_24 ?_
  refine lv_iconst (v := 0) hx hb dX3_become_27 (by decide) ?_
  refine lv_aload_n hx hb dX3_become_28 rfl (lv_at hl 0 rfl) ?_
  refine gX_now_leasts hx hb hown hw3 hK hP u7 dX3_become_29 ?_
  refine lv_iconst (v := 0) hx hb dX3_become_32 (by decide) ?_
  refine lv_bipush (v := 16) hx hb dX3_become_33 (by decide) ?_
  refine va_copyi hx hb (hml.trans hl.1.symm) hown u3 u4 u5 u6 hK hP (wX_D hd) hS 11 3 0 0 rfl rfl rfl rfl rfl (by decide) (by decide) (by decide) (by decide) (by decide) (fun _ _ => rfl) (Nat.le_of_ble_eq_true rfl) (Nat.le_of_ble_eq_true rfl) dX3_become_35 (fun H locs hP _ hS => ?_)
  have hP : va_P D vwCl (wX a cI cJ cS kpar (va_cpy kkin kin (0 : Int32).toNatClampNeg (0 : Int32).toNatClampNeg (16 : Int32).toNatClampNeg) (va_cpy klea lea (0 : Int32).toNatClampNeg (0 : Int32).toNatClampNeg (16 : Int32).toNatClampNeg) mos wrt tal siz tol hrs ags yea kpar kkin klea kmos kwrt ktal ksiz ktol khrs kags kyea isk tly gai bes low hig spn byt hld sta beh sor num fnd sbi she snu) H := hP
  refine lv_aload_n hx hb dX3_become_38 rfl (lv_at hl 1 rfl) ?_
  refine gX_kst_mosts hx hb hown hw3 hK hP u8 dX3_become_39 ?_
  refine lv_iconst (v := 0) hx hb dX3_become_42 (by decide) ?_
  refine lv_aload_n hx hb dX3_become_43 rfl (lv_at hl 0 rfl) ?_
  refine gX_now_mosts hx hb hown hw3 hK hP u8 dX3_become_44 ?_
  refine lv_iconst (v := 0) hx hb dX3_become_47 (by decide) ?_
  refine lv_bipush (v := 16) hx hb dX3_become_48 (by decide) ?_
  refine va_copyi hx hb (hml.trans hl.1.symm) hown u3 u4 u5 u6 hK hP (wX_D hd) hS 12 4 0 0 rfl rfl rfl rfl rfl (by decide) (by decide) (by decide) (by decide) (by decide) (fun _ _ => rfl) (Nat.le_of_ble_eq_true rfl) (Nat.le_of_ble_eq_true rfl) dX3_become_50 (fun H locs hP _ hS => ?_)
  have hP : va_P D vwCl (wX a cI cJ cS kpar (va_cpy kkin kin (0 : Int32).toNatClampNeg (0 : Int32).toNatClampNeg (16 : Int32).toNatClampNeg) (va_cpy klea lea (0 : Int32).toNatClampNeg (0 : Int32).toNatClampNeg (16 : Int32).toNatClampNeg) (va_cpy kmos mos (0 : Int32).toNatClampNeg (0 : Int32).toNatClampNeg (16 : Int32).toNatClampNeg) wrt tal siz tol hrs ags yea kpar kkin klea kmos kwrt ktal ksiz ktol khrs kags kyea isk tly gai bes low hig spn byt hld sta beh sor num fnd sbi she snu) H := hP
  refine lv_aload_n hx hb dX3_become_53 rfl (lv_at hl 1 rfl) ?_
  refine gX_kst_worths hx hb hown hw3 hK hP u9 dX3_become_54 ?_
  refine lv_iconst (v := 0) hx hb dX3_become_57 (by decide) ?_
  refine lv_aload_n hx hb dX3_become_58 rfl (lv_at hl 0 rfl) ?_
  refine gX_now_worths hx hb hown hw3 hK hP u9 dX3_become_59 ?_
  refine lv_iconst (v := 0) hx hb dX3_become_62 (by decide) ?_
  refine lv_bipush (v := 16) hx hb dX3_become_63 (by decide) ?_
  refine va_copyi hx hb (hml.trans hl.1.symm) hown u3 u4 u5 u6 hK hP (wX_D hd) hS 13 5 0 0 rfl rfl rfl rfl rfl (by decide) (by decide) (by decide) (by decide) (by decide) (fun _ _ => rfl) (Nat.le_of_ble_eq_true rfl) (Nat.le_of_ble_eq_true rfl) dX3_become_65 (fun H locs hP _ hS => ?_)
  have hP : va_P D vwCl (wX a cI cJ cS kpar (va_cpy kkin kin (0 : Int32).toNatClampNeg (0 : Int32).toNatClampNeg (16 : Int32).toNatClampNeg) (va_cpy klea lea (0 : Int32).toNatClampNeg (0 : Int32).toNatClampNeg (16 : Int32).toNatClampNeg) (va_cpy kmos mos (0 : Int32).toNatClampNeg (0 : Int32).toNatClampNeg (16 : Int32).toNatClampNeg) (va_cpy kwrt wrt (0 : Int32).toNatClampNeg (0 : Int32).toNatClampNeg (16 : Int32).toNatClampNeg) tal siz tol hrs ags yea kpar kkin klea kmos kwrt ktal ksiz ktol khrs kags kyea isk tly gai bes low hig spn byt hld sta beh sor num fnd sbi she snu) H := hP
  refine lv_aload_n hx hb dX3_become_68 rfl (lv_at hl 0 rfl) ?_
  refine lv_aload_n hx hb dX3_become_69 rfl (lv_at hl 1 rfl) ?_
  refine gX_kst_tales hx hb hown hw3 hK hP u10 dX3_become_70 ?_
  refine pX_now_tales hx hb hown hw3 hK hP hd hS u10 dX3_become_73 (fun H locs hP hS => ?_)
  refine lv_aload_n hx hb dX3_become_76 rfl (lv_at hl 1 rfl) ?_
  refine gX_kst_sizes hx hb hown hw3 hK hP u11 dX3_become_77 ?_
  refine lv_iconst (v := 0) hx hb dX3_become_80 (by decide) ?_
  refine lv_aload_n hx hb dX3_become_81 rfl (lv_at hl 0 rfl) ?_
  refine gX_now_sizes hx hb hown hw3 hK hP u11 dX3_become_82 ?_
  refine lv_iconst (v := 0) hx hb dX3_become_85 (by decide) ?_
  refine lv_bipush (v := 8) hx hb dX3_become_86 (by decide) ?_
  refine va_copyi hx hb (hml.trans hl.1.symm) hown u3 u4 u5 u6 hK hP (wX_D hd) hS 14 6 0 0 rfl rfl rfl rfl rfl (by decide) (by decide) (by decide) (by decide) (by decide) (fun _ _ => rfl) (Nat.le_of_ble_eq_true rfl) (Nat.le_of_ble_eq_true rfl) dX3_become_88 (fun H locs hP _ hS => ?_)
  have hP : va_P D vwCl (wX a cI cJ cS kpar (va_cpy kkin kin (0 : Int32).toNatClampNeg (0 : Int32).toNatClampNeg (16 : Int32).toNatClampNeg) (va_cpy klea lea (0 : Int32).toNatClampNeg (0 : Int32).toNatClampNeg (16 : Int32).toNatClampNeg) (va_cpy kmos mos (0 : Int32).toNatClampNeg (0 : Int32).toNatClampNeg (16 : Int32).toNatClampNeg) (va_cpy kwrt wrt (0 : Int32).toNatClampNeg (0 : Int32).toNatClampNeg (16 : Int32).toNatClampNeg) ktal (va_cpy ksiz siz (0 : Int32).toNatClampNeg (0 : Int32).toNatClampNeg (8 : Int32).toNatClampNeg) tol hrs ags yea kpar kkin klea kmos kwrt ktal ksiz ktol khrs kags kyea isk tly gai bes low hig spn byt hld sta beh sor num fnd sbi she snu) H := hP
  refine lv_aload_n hx hb dX3_become_91 rfl (lv_at hl 1 rfl) ?_
  refine gX_kst_told hx hb hown hw3 hK hP u12 dX3_become_92 ?_
  refine lv_iconst (v := 0) hx hb dX3_become_95 (by decide) ?_
  refine lv_aload_n hx hb dX3_become_96 rfl (lv_at hl 0 rfl) ?_
  refine gX_now_told hx hb hown hw3 hK hP u12 dX3_become_97 ?_
  refine lv_iconst (v := 0) hx hb dX3_become_100 (by decide) ?_
  refine lv_bipush (v := 80) hx hb dX3_become_101 (by decide) ?_
  refine va_copyi hx hb (hml.trans hl.1.symm) hown u3 u4 u5 u6 hK hP (wX_D hd) hS 15 7 0 0 rfl rfl rfl rfl rfl (by decide) (by decide) (by decide) (by decide) (by decide) (fun _ _ => rfl) (Nat.le_of_ble_eq_true rfl) (Nat.le_of_ble_eq_true rfl) dX3_become_103 (fun H locs hP _ hS => ?_)
  have hP : va_P D vwCl (wX a cI cJ cS kpar (va_cpy kkin kin (0 : Int32).toNatClampNeg (0 : Int32).toNatClampNeg (16 : Int32).toNatClampNeg) (va_cpy klea lea (0 : Int32).toNatClampNeg (0 : Int32).toNatClampNeg (16 : Int32).toNatClampNeg) (va_cpy kmos mos (0 : Int32).toNatClampNeg (0 : Int32).toNatClampNeg (16 : Int32).toNatClampNeg) (va_cpy kwrt wrt (0 : Int32).toNatClampNeg (0 : Int32).toNatClampNeg (16 : Int32).toNatClampNeg) ktal (va_cpy ksiz siz (0 : Int32).toNatClampNeg (0 : Int32).toNatClampNeg (8 : Int32).toNatClampNeg) (va_cpy ktol tol (0 : Int32).toNatClampNeg (0 : Int32).toNatClampNeg (80 : Int32).toNatClampNeg) hrs ags yea kpar kkin klea kmos kwrt ktal ksiz ktol khrs kags kyea isk tly gai bes low hig spn byt hld sta beh sor num fnd sbi she snu) H := hP
  refine lv_aload_n hx hb dX3_become_106 rfl (lv_at hl 0 rfl) ?_
  refine lv_aload_n hx hb dX3_become_107 rfl (lv_at hl 1 rfl) ?_
  refine gX_kst_hearers hx hb hown hw3 hK hP u13 dX3_become_108 ?_
  refine pX_now_hearers hx hb hown hw3 hK hP hd hS u13 dX3_become_111 (fun H locs hP hS => ?_)
  refine lv_aload_n hx hb dX3_become_114 rfl (lv_at hl 1 rfl) ?_
  refine gX_kst_ages hx hb hown hw3 hK hP u14 dX3_become_115 ?_
  refine lv_iconst (v := 0) hx hb dX3_become_118 (by decide) ?_
  refine lv_aload_n hx hb dX3_become_119 rfl (lv_at hl 0 rfl) ?_
  refine gX_now_ages hx hb hown hw3 hK hP u14 dX3_become_120 ?_
  refine lv_iconst (v := 0) hx hb dX3_become_123 (by decide) ?_
  refine lv_bipush (v := 10) hx hb dX3_become_124 (by decide) ?_
  refine va_copyi hx hb (hml.trans hl.1.symm) hown u3 u4 u5 u6 hK hP (wX_D hd) hS 16 8 0 0 rfl rfl rfl rfl rfl (by decide) (by decide) (by decide) (by decide) (by decide) (fun _ _ => rfl) (Nat.le_of_ble_eq_true rfl) (Nat.le_of_ble_eq_true rfl) dX3_become_126 (fun H locs hP _ hS => ?_)
  have hP : va_P D vwCl (wX a cI cJ cS kpar (va_cpy kkin kin (0 : Int32).toNatClampNeg (0 : Int32).toNatClampNeg (16 : Int32).toNatClampNeg) (va_cpy klea lea (0 : Int32).toNatClampNeg (0 : Int32).toNatClampNeg (16 : Int32).toNatClampNeg) (va_cpy kmos mos (0 : Int32).toNatClampNeg (0 : Int32).toNatClampNeg (16 : Int32).toNatClampNeg) (va_cpy kwrt wrt (0 : Int32).toNatClampNeg (0 : Int32).toNatClampNeg (16 : Int32).toNatClampNeg) ktal (va_cpy ksiz siz (0 : Int32).toNatClampNeg (0 : Int32).toNatClampNeg (8 : Int32).toNatClampNeg) (va_cpy ktol tol (0 : Int32).toNatClampNeg (0 : Int32).toNatClampNeg (80 : Int32).toNatClampNeg) khrs (va_cpy kags ags (0 : Int32).toNatClampNeg (0 : Int32).toNatClampNeg (10 : Int32).toNatClampNeg) yea kpar kkin klea kmos kwrt ktal ksiz ktol khrs kags kyea isk tly gai bes low hig spn byt hld sta beh sor num fnd sbi she snu) H := hP
  refine lv_aload_n hx hb dX3_become_129 rfl (lv_at hl 0 rfl) ?_
  refine lv_aload_n hx hb dX3_become_130 rfl (lv_at hl 1 rfl) ?_
  refine gX_kst_year hx hb hown hw3 hK hP u15 dX3_become_131 ?_
  refine pX_now_year hx hb hown hw3 hK hP hd hS u15 dX3_become_134 (fun H locs hP hS => ?_)
  exact hQ ▸ rtV hx hb hr hlk hP hS (by rw [← (Option.some.inj hres)]) dX3_become_137
def fX3_become_kst_now (par : Int32) (kin : Nat → Int32) (lea : Nat → Int32) (mos : Nat → Int32) (wrt : Nat → Int32) (tal : Int32) (siz : Nat → Int32) (tol : Nat → Int32) (hrs : Int32) (ags : Nat → Int32) (yea : Int32) (kpar : Int32) (kkin : Nat → Int32) (klea : Nat → Int32) (kmos : Nat → Int32) (kwrt : Nat → Int32) (ktal : Int32) (ksiz : Nat → Int32) (ktol : Nat → Int32) (khrs : Int32) (kags : Nat → Int32) (kyea : Int32) : Option (Int32 × (Nat → Int32) × (Nat → Int32) × (Nat → Int32) × (Nat → Int32) × Int32 × (Nat → Int32) × (Nat → Int32) × Int32 × (Nat → Int32) × Int32) :=
  some (par, va_cpy kin kkin (0 : Int32).toNatClampNeg (0 : Int32).toNatClampNeg (16 : Int32).toNatClampNeg, va_cpy lea klea (0 : Int32).toNatClampNeg (0 : Int32).toNatClampNeg (16 : Int32).toNatClampNeg, va_cpy mos kmos (0 : Int32).toNatClampNeg (0 : Int32).toNatClampNeg (16 : Int32).toNatClampNeg, va_cpy wrt kwrt (0 : Int32).toNatClampNeg (0 : Int32).toNatClampNeg (16 : Int32).toNatClampNeg, tal, va_cpy siz ksiz (0 : Int32).toNatClampNeg (0 : Int32).toNatClampNeg (8 : Int32).toNatClampNeg, va_cpy tol ktol (0 : Int32).toNatClampNeg (0 : Int32).toNatClampNeg (80 : Int32).toNatClampNeg, hrs, va_cpy ags kags (0 : Int32).toNatClampNeg (0 : Int32).toNatClampNeg (10 : Int32).toNatClampNeg, yea)
abbrev rX3_become_kst_now : Room := { frames := 1, cells := 0, slots := 0, locals := 40 }
set_option maxHeartbeats 4000000 in
set_option maxRecDepth 100000 in
theorem kX3_become_kst_now (l : Launch) (D : va_G) (a : Nat → Nat) (cI cJ cS : ClassId) (hd : aok a 36) {Env : (Nat → Prop) → State → Heap → Prop} (hEo : envOK Env) (par : Int32) (kin lea mos wrt : Nat → Int32) (tal : Int32) (siz tol : Nat → Int32) (hrs : Int32) (ags : Nat → Int32) (yea kpar : Int32) (kkin klea kmos kwrt : Nat → Int32) (ktal : Int32) (ksiz ktol : Nat → Int32) (khrs : Int32) (kags : Nat → Int32) (kyea isk : Int32) (tly : Nat → Int64) (gai bes : Nat → Int32) (low hig : Nat → Int64) (spn : Int32) (byt : Nat → Int32) (hld sta beh sor num : Int32) (fnd sbi she : Nat → Int32) (snu : Nat → Nat → Int64)  (res : Int32 × (Nat → Int32) × (Nat → Int32) × (Nat → Int32) × (Nat → Int32) × Int32 × (Nat → Int32) × (Nat → Int32) × Int32 × (Nat → Int32) × Int32) (hres : fX3_become_kst_now par kin lea mos wrt tal siz tol hrs ags yea kpar kkin klea kmos kwrt ktal ksiz ktol khrs kags kyea = some res) : CtV l D (tyL cI cJ cS) 36 a Env yX3_become wsX3_become rX3_become_kst_now [.ref (a 9), .ref (a 1)] (wX a cI cJ cS par kin lea mos wrt tal siz tol hrs ags yea kpar kkin klea kmos kwrt ktal ksiz ktol khrs kags kyea isk tly gai bes low hig spn byt hld sta beh sor num fnd sbi she snu) (wX a cI cJ cS par kin lea mos wrt tal siz tol hrs ags yea res.1 res.2.1 res.2.2.1 res.2.2.2.1 res.2.2.2.2.1 res.2.2.2.2.2.1 res.2.2.2.2.2.2.1 res.2.2.2.2.2.2.2.1 res.2.2.2.2.2.2.2.2.1 res.2.2.2.2.2.2.2.2.2.1 res.2.2.2.2.2.2.2.2.2.2 isk tly gai bes low hig spn byt hld sta beh sor num fnd sbi she snu) := by
  refine CtV_mk (cc := cX3_become) (maxL := 2) (ret := none) (by decide) rfl (Nat.le_of_ble_eq_true rfl) ?_
  intro p e s m args below meth c ls hx hb hr hlk hml hown hts hP hK hE hl
  have hS : va_S (adA a 36 s.heap.size) s.heap s.heap [] := va_S.rf
  have hl : lv_has ls 2 [(0, .ref (a 9)), (1, .ref (a 1))] := hl
  have hown : s.vm.findClass RX3 = some m.cls := hown
  have hw3 : ∀ w ∈ wsX30, w.before args s = true := fun w h => hts w (List.mem_cons_of_mem _ (List.mem_append_right _ h))
  have u1 : (Cond.fieldLink RX3 9 "YearWords$Stock" "parts" "I").before args s = true := hts _ (List.mem_of_getElem? (i := 1) (by decide +kernel))
  have u2 : (Cond.fieldLink RX3 15 "YearWords$Stock" "kinds" "[I").before args s = true := hts _ (List.mem_of_getElem? (i := 2) (by decide +kernel))
  have u3 : (Cond.methodLink RX3 66 arraycopyName).before args s = true := hts _ (List.mem_of_getElem? (i := 3) (by decide +kernel))
  have u4 : (Cond.native arraycopyName).before args s = true := hts _ (List.mem_of_getElem? (i := 4) (by decide +kernel))
  have u5 : (Cond.static arraycopyName).before args s = true := hts _ (List.mem_of_getElem? (i := 5) (by decide +kernel))
  have u6 : (Cond.initialized "java/lang/System").before args s = true := hts _ (List.mem_of_getElem? (i := 6) (by decide +kernel))
  have u7 : (Cond.fieldLink RX3 19 "YearWords$Stock" "leasts" "[I").before args s = true := hts _ (List.mem_of_getElem? (i := 7) (by decide +kernel))
  have u8 : (Cond.fieldLink RX3 22 "YearWords$Stock" "mosts" "[I").before args s = true := hts _ (List.mem_of_getElem? (i := 8) (by decide +kernel))
  have u9 : (Cond.fieldLink RX3 25 "YearWords$Stock" "worths" "[I").before args s = true := hts _ (List.mem_of_getElem? (i := 9) (by decide +kernel))
  have u10 : (Cond.fieldLink RX3 28 "YearWords$Stock" "tales" "I").before args s = true := hts _ (List.mem_of_getElem? (i := 10) (by decide +kernel))
  have u11 : (Cond.fieldLink RX3 31 "YearWords$Stock" "sizes" "[I").before args s = true := hts _ (List.mem_of_getElem? (i := 11) (by decide +kernel))
  have u12 : (Cond.fieldLink RX3 34 "YearWords$Stock" "told" "[I").before args s = true := hts _ (List.mem_of_getElem? (i := 12) (by decide +kernel))
  have u13 : (Cond.fieldLink RX3 37 "YearWords$Stock" "hearers" "I").before args s = true := hts _ (List.mem_of_getElem? (i := 13) (by decide +kernel))
  have u14 : (Cond.fieldLink RX3 40 "YearWords$Stock" "ages" "[I").before args s = true := hts _ (List.mem_of_getElem? (i := 14) (by decide +kernel))
  have u15 : (Cond.fieldLink RX3 43 "YearWords$Stock" "year" "I").before args s = true := hts _ (List.mem_of_getElem? (i := 15) (by decide +kernel))
  obtain ⟨Q, hQ⟩ : ∃ Q, Q = mqV below D 36 a args s (wX a cI cJ cS par kin lea mos wrt tal siz tol hrs ags yea res.1 res.2.1 res.2.2.1 res.2.2.2.1 res.2.2.2.2.1 res.2.2.2.2.2.1 res.2.2.2.2.2.2.1 res.2.2.2.2.2.2.2.1 res.2.2.2.2.2.2.2.2.1 res.2.2.2.2.2.2.2.2.2.1 res.2.2.2.2.2.2.2.2.2.2 isk tly gai bes low hig spn byt hld sta beh sor num fnd sbi she snu) := ⟨_, rfl⟩
  rw [← hQ]
  unfold fX3_become_kst_now at hres
  refine lv_aload_n hx hb dX3_become_0 rfl (lv_at hl 0 rfl) ?_
  refine lv_aload_n hx hb dX3_become_1 rfl (lv_at hl 1 rfl) ?_
  refine gX_now_parts hx hb hown hw3 hK hP u1 dX3_become_2 ?_
  refine pX_kst_parts hx hb hown hw3 hK hP hd hS u1 dX3_become_5 (fun H locs hP hS => ?_)
  refine lv_aload_n hx hb dX3_become_8 rfl (lv_at hl 1 rfl) ?_
  refine gX_now_kinds hx hb hown hw3 hK hP u2 dX3_become_9 ?_
  refine lv_iconst (v := 0) hx hb dX3_become_12 (by decide) ?_
  refine lv_aload_n hx hb dX3_become_13 rfl (lv_at hl 0 rfl) ?_
  refine gX_kst_kinds hx hb hown hw3 hK hP u2 dX3_become_14 ?_
  refine lv_iconst (v := 0) hx hb dX3_become_17 (by decide) ?_
  refine lv_bipush (v := 16) hx hb dX3_become_18 (by decide) ?_
  refine va_copyi hx hb (hml.trans hl.1.symm) hown u3 u4 u5 u6 hK hP (wX_D hd) hS 2 10 0 0 rfl rfl rfl rfl rfl (by decide) (by decide) (by decide) (by decide) (by decide) (fun _ _ => rfl) (Nat.le_of_ble_eq_true rfl) (Nat.le_of_ble_eq_true rfl) dX3_become_20 (fun H locs hP _ hS => ?_)
  have hP : va_P D vwCl (wX a cI cJ cS par kin lea mos wrt tal siz tol hrs ags yea par (va_cpy kin kkin (0 : Int32).toNatClampNeg (0 : Int32).toNatClampNeg (16 : Int32).toNatClampNeg) klea kmos kwrt ktal ksiz ktol khrs kags kyea isk tly gai bes low hig spn byt hld sta beh sor num fnd sbi she snu) H := hP
  refine lv_aload_n hx hb dX3_become_23 rfl (lv_at hl 1 rfl) ?_
  refine gX_now_leasts hx hb hown hw3 hK hP u7 dX3_become_24 ?_
  refine lv_iconst (v := 0) hx hb dX3_become_27 (by decide) ?_
  refine lv_aload_n hx hb dX3_become_28 rfl (lv_at hl 0 rfl) ?_
  refine gX_kst_leasts hx hb hown hw3 hK hP u7 dX3_become_29 ?_
  refine lv_iconst (v := 0) hx hb dX3_become_32 (by decide) ?_
  refine lv_bipush (v := 16) hx hb dX3_become_33 (by decide) ?_
  refine va_copyi hx hb (hml.trans hl.1.symm) hown u3 u4 u5 u6 hK hP (wX_D hd) hS 3 11 0 0 rfl rfl rfl rfl rfl (by decide) (by decide) (by decide) (by decide) (by decide) (fun _ _ => rfl) (Nat.le_of_ble_eq_true rfl) (Nat.le_of_ble_eq_true rfl) dX3_become_35 (fun H locs hP _ hS => ?_)
  have hP : va_P D vwCl (wX a cI cJ cS par kin lea mos wrt tal siz tol hrs ags yea par (va_cpy kin kkin (0 : Int32).toNatClampNeg (0 : Int32).toNatClampNeg (16 : Int32).toNatClampNeg) (va_cpy lea klea (0 : Int32).toNatClampNeg (0 : Int32).toNatClampNeg (16 : Int32).toNatClampNeg) kmos kwrt ktal ksiz ktol khrs kags kyea isk tly gai bes low hig spn byt hld sta beh sor num fnd sbi she snu) H := hP
  refine lv_aload_n hx hb dX3_become_38 rfl (lv_at hl 1 rfl) ?_
  refine gX_now_mosts hx hb hown hw3 hK hP u8 dX3_become_39 ?_
  refine lv_iconst (v := 0) hx hb dX3_become_42 (by decide) ?_
  refine lv_aload_n hx hb dX3_become_43 rfl (lv_at hl 0 rfl) ?_
  refine gX_kst_mosts hx hb hown hw3 hK hP u8 dX3_become_44 ?_
  refine lv_iconst (v := 0) hx hb dX3_become_47 (by decide) ?_
  refine lv_bipush (v := 16) hx hb dX3_become_48 (by decide) ?_
  refine va_copyi hx hb (hml.trans hl.1.symm) hown u3 u4 u5 u6 hK hP (wX_D hd) hS 4 12 0 0 rfl rfl rfl rfl rfl (by decide) (by decide) (by decide) (by decide) (by decide) (fun _ _ => rfl) (Nat.le_of_ble_eq_true rfl) (Nat.le_of_ble_eq_true rfl) dX3_become_50 (fun H locs hP _ hS => ?_)
  have hP : va_P D vwCl (wX a cI cJ cS par kin lea mos wrt tal siz tol hrs ags yea par (va_cpy kin kkin (0 : Int32).toNatClampNeg (0 : Int32).toNatClampNeg (16 : Int32).toNatClampNeg) (va_cpy lea klea (0 : Int32).toNatClampNeg (0 : Int32).toNatClampNeg (16 : Int32).toNatClampNeg) (va_cpy mos kmos (0 : Int32).toNatClampNeg (0 : Int32).toNatClampNeg (16 : Int32).toNatClampNeg) kwrt ktal ksiz ktol khrs kags kyea isk tly gai bes low hig spn byt hld sta beh sor num fnd sbi she snu) H := hP
  refine lv_aload_n hx hb dX3_become_53 rfl (lv_at hl 1 rfl) ?_
  refine gX_now_worths hx hb hown hw3 hK hP u9 dX3_become_54 ?_
  refine lv_iconst (v := 0) hx hb dX3_become_57 (by decide) ?_
  refine lv_aload_n hx hb dX3_become_58 rfl (lv_at hl 0 rfl) ?_
  refine gX_kst_worths hx hb hown hw3 hK hP u9 dX3_become_59 ?_
  refine lv_iconst (v := 0) hx hb dX3_become_62 (by decide) ?_
  refine lv_bipush (v := 16) hx hb dX3_become_63 (by decide) ?_
  refine va_copyi hx hb (hml.trans hl.1.symm) hown u3 u4 u5 u6 hK hP (wX_D hd) hS 5 13 0 0 rfl rfl rfl rfl rfl (by decide) (by decide) (by decide) (by decide) (by decide) (fun _ _ => rfl) (Nat.le_of_ble_eq_true rfl) (Nat.le_of_ble_eq_true rfl) dX3_become_65 (fun H locs hP _ hS => ?_)
  have hP : va_P D vwCl (wX a cI cJ cS par kin lea mos wrt tal siz tol hrs ags yea par (va_cpy kin kkin (0 : Int32).toNatClampNeg (0 : Int32).toNatClampNeg (16 : Int32).toNatClampNeg) (va_cpy lea klea (0 : Int32).toNatClampNeg (0 : Int32).toNatClampNeg (16 : Int32).toNatClampNeg) (va_cpy mos kmos (0 : Int32).toNatClampNeg (0 : Int32).toNatClampNeg (16 : Int32).toNatClampNeg) (va_cpy wrt kwrt (0 : Int32).toNatClampNeg (0 : Int32).toNatClampNeg (16 : Int32).toNatClampNeg) ktal ksiz ktol khrs kags kyea isk tly gai bes low hig spn byt hld sta beh sor num fnd sbi she snu) H := hP
  refine lv_aload_n hx hb dX3_become_68 rfl (lv_at hl 0 rfl) ?_
  refine lv_aload_n hx hb dX3_become_69 rfl (lv_at hl 1 rfl) ?_
  refine gX_now_tales hx hb hown hw3 hK hP u10 dX3_become_70 ?_
  refine pX_kst_tales hx hb hown hw3 hK hP hd hS u10 dX3_become_73 (fun H locs hP hS => ?_)
  refine lv_aload_n hx hb dX3_become_76 rfl (lv_at hl 1 rfl) ?_
  refine gX_now_sizes hx hb hown hw3 hK hP u11 dX3_become_77 ?_
  refine lv_iconst (v := 0) hx hb dX3_become_80 (by decide) ?_
  refine lv_aload_n hx hb dX3_become_81 rfl (lv_at hl 0 rfl) ?_
  refine gX_kst_sizes hx hb hown hw3 hK hP u11 dX3_become_82 ?_
  refine lv_iconst (v := 0) hx hb dX3_become_85 (by decide) ?_
  refine lv_bipush (v := 8) hx hb dX3_become_86 (by decide) ?_
  refine va_copyi hx hb (hml.trans hl.1.symm) hown u3 u4 u5 u6 hK hP (wX_D hd) hS 6 14 0 0 rfl rfl rfl rfl rfl (by decide) (by decide) (by decide) (by decide) (by decide) (fun _ _ => rfl) (Nat.le_of_ble_eq_true rfl) (Nat.le_of_ble_eq_true rfl) dX3_become_88 (fun H locs hP _ hS => ?_)
  have hP : va_P D vwCl (wX a cI cJ cS par kin lea mos wrt tal siz tol hrs ags yea par (va_cpy kin kkin (0 : Int32).toNatClampNeg (0 : Int32).toNatClampNeg (16 : Int32).toNatClampNeg) (va_cpy lea klea (0 : Int32).toNatClampNeg (0 : Int32).toNatClampNeg (16 : Int32).toNatClampNeg) (va_cpy mos kmos (0 : Int32).toNatClampNeg (0 : Int32).toNatClampNeg (16 : Int32).toNatClampNeg) (va_cpy wrt kwrt (0 : Int32).toNatClampNeg (0 : Int32).toNatClampNeg (16 : Int32).toNatClampNeg) tal (va_cpy siz ksiz (0 : Int32).toNatClampNeg (0 : Int32).toNatClampNeg (8 : Int32).toNatClampNeg) ktol khrs kags kyea isk tly gai bes low hig spn byt hld sta beh sor num fnd sbi she snu) H := hP
  refine lv_aload_n hx hb dX3_become_91 rfl (lv_at hl 1 rfl) ?_
  refine gX_now_told hx hb hown hw3 hK hP u12 dX3_become_92 ?_
  refine lv_iconst (v := 0) hx hb dX3_become_95 (by decide) ?_
  refine lv_aload_n hx hb dX3_become_96 rfl (lv_at hl 0 rfl) ?_
  refine gX_kst_told hx hb hown hw3 hK hP u12 dX3_become_97 ?_
  refine lv_iconst (v := 0) hx hb dX3_become_100 (by decide) ?_
  refine lv_bipush (v := 80) hx hb dX3_become_101 (by decide) ?_
  refine va_copyi hx hb (hml.trans hl.1.symm) hown u3 u4 u5 u6 hK hP (wX_D hd) hS 7 15 0 0 rfl rfl rfl rfl rfl (by decide) (by decide) (by decide) (by decide) (by decide) (fun _ _ => rfl) (Nat.le_of_ble_eq_true rfl) (Nat.le_of_ble_eq_true rfl) dX3_become_103 (fun H locs hP _ hS => ?_)
  have hP : va_P D vwCl (wX a cI cJ cS par kin lea mos wrt tal siz tol hrs ags yea par (va_cpy kin kkin (0 : Int32).toNatClampNeg (0 : Int32).toNatClampNeg (16 : Int32).toNatClampNeg) (va_cpy lea klea (0 : Int32).toNatClampNeg (0 : Int32).toNatClampNeg (16 : Int32).toNatClampNeg) (va_cpy mos kmos (0 : Int32).toNatClampNeg (0 : Int32).toNatClampNeg (16 : Int32).toNatClampNeg) (va_cpy wrt kwrt (0 : Int32).toNatClampNeg (0 : Int32).toNatClampNeg (16 : Int32).toNatClampNeg) tal (va_cpy siz ksiz (0 : Int32).toNatClampNeg (0 : Int32).toNatClampNeg (8 : Int32).toNatClampNeg) (va_cpy tol ktol (0 : Int32).toNatClampNeg (0 : Int32).toNatClampNeg (80 : Int32).toNatClampNeg) khrs kags kyea isk tly gai bes low hig spn byt hld sta beh sor num fnd sbi she snu) H := hP
  refine lv_aload_n hx hb dX3_become_106 rfl (lv_at hl 0 rfl) ?_
  refine lv_aload_n hx hb dX3_become_107 rfl (lv_at hl 1 rfl) ?_
  refine gX_now_hearers hx hb hown hw3 hK hP u13 dX3_become_108 ?_
  refine pX_kst_hearers hx hb hown hw3 hK hP hd hS u13 dX3_become_111 (fun H locs hP hS => ?_)
  refine lv_aload_n hx hb dX3_become_114 rfl (lv_at hl 1 rfl) ?_
  refine gX_now_ages hx hb hown hw3 hK hP u14 dX3_become_115 ?_
  refine lv_iconst (v := 0) hx hb dX3_become_118 (by decide) ?_
  refine lv_aload_n hx hb dX3_become_119 rfl (lv_at hl 0 rfl) ?_
  refine gX_kst_ages hx hb hown hw3 hK hP u14 dX3_become_120 ?_
  refine lv_iconst (v := 0) hx hb dX3_become_123 (by decide) ?_
  refine lv_bipush (v := 10) hx hb dX3_become_124 (by decide) ?_
  refine va_copyi hx hb (hml.trans hl.1.symm) hown u3 u4 u5 u6 hK hP (wX_D hd) hS 8 16 0 0 rfl rfl rfl rfl rfl (by decide) (by decide) (by decide) (by decide) (by decide) (fun _ _ => rfl) (Nat.le_of_ble_eq_true rfl) (Nat.le_of_ble_eq_true rfl) dX3_become_126 (fun H locs hP _ hS => ?_)
  have hP : va_P D vwCl (wX a cI cJ cS par kin lea mos wrt tal siz tol hrs ags yea par (va_cpy kin kkin (0 : Int32).toNatClampNeg (0 : Int32).toNatClampNeg (16 : Int32).toNatClampNeg) (va_cpy lea klea (0 : Int32).toNatClampNeg (0 : Int32).toNatClampNeg (16 : Int32).toNatClampNeg) (va_cpy mos kmos (0 : Int32).toNatClampNeg (0 : Int32).toNatClampNeg (16 : Int32).toNatClampNeg) (va_cpy wrt kwrt (0 : Int32).toNatClampNeg (0 : Int32).toNatClampNeg (16 : Int32).toNatClampNeg) tal (va_cpy siz ksiz (0 : Int32).toNatClampNeg (0 : Int32).toNatClampNeg (8 : Int32).toNatClampNeg) (va_cpy tol ktol (0 : Int32).toNatClampNeg (0 : Int32).toNatClampNeg (80 : Int32).toNatClampNeg) hrs (va_cpy ags kags (0 : Int32).toNatClampNeg (0 : Int32).toNatClampNeg (10 : Int32).toNatClampNeg) kyea isk tly gai bes low hig spn byt hld sta beh sor num fnd sbi she snu) H := hP
  refine lv_aload_n hx hb dX3_become_129 rfl (lv_at hl 0 rfl) ?_
  refine lv_aload_n hx hb dX3_become_130 rfl (lv_at hl 1 rfl) ?_
  refine gX_now_year hx hb hown hw3 hK hP u15 dX3_become_131 ?_
  refine pX_kst_year hx hb hown hw3 hK hP hd hS u15 dX3_become_134 (fun H locs hP hS => ?_)
  exact hQ ▸ rtV hx hb hr hlk hP hS (by rw [← (Option.some.inj hres)]) dX3_become_137
def fX4_put (byt : Nat → Int32) (hld : Int32) (x1 : Int32) : Option ((Nat → Int32) × Int32) :=
  if (120 : Int32) ≤ hld then some (byt, hld) else gd (ib hld 120) (some (upd byt hld.toNatClampNeg (x1 &&& (255 : Int32)), hld + (1 : Int32)))
abbrev rX4_put : Room := { frames := 0, cells := 0, slots := 0, locals := 0 }
set_option maxHeartbeats 4000000 in
set_option maxRecDepth 100000 in
theorem kX4_put (l : Launch) (D : va_G) (a : Nat → Nat) (cI cJ cS : ClassId) (hd : aok a 36) {Env : (Nat → Prop) → State → Heap → Prop} (hEo : envOK Env) (par : Int32) (kin lea mos wrt : Nat → Int32) (tal : Int32) (siz tol : Nat → Int32) (hrs : Int32) (ags : Nat → Int32) (yea kpar : Int32) (kkin klea kmos kwrt : Nat → Int32) (ktal : Int32) (ksiz ktol : Nat → Int32) (khrs : Int32) (kags : Nat → Int32) (kyea isk : Int32) (tly : Nat → Int64) (gai bes : Nat → Int32) (low hig : Nat → Int64) (spn : Int32) (byt : Nat → Int32) (hld sta beh sor num : Int32) (fnd sbi she : Nat → Int32) (snu : Nat → Nat → Int64) (x1 : Int32) (res : (Nat → Int32) × Int32) (hres : fX4_put byt hld x1 = some res) : CtV l D (tyL cI cJ cS) 36 a Env yX4_put wsX4_put rX4_put [.ref (a 23), .int x1] (wX a cI cJ cS par kin lea mos wrt tal siz tol hrs ags yea kpar kkin klea kmos kwrt ktal ksiz ktol khrs kags kyea isk tly gai bes low hig spn byt hld sta beh sor num fnd sbi she snu) (wX a cI cJ cS par kin lea mos wrt tal siz tol hrs ags yea kpar kkin klea kmos kwrt ktal ksiz ktol khrs kags kyea isk tly gai bes low hig spn res.1 res.2 sta beh sor num fnd sbi she snu) := by
  refine CtV_mk (cc := cX4_put) (maxL := 2) (ret := none) (by decide) rfl (Nat.le_of_ble_eq_true rfl) ?_
  intro p e s m args below meth c ls hx hb hr hlk hml hown hts hP hK hE hl
  have hS : va_S (adA a 36 s.heap.size) s.heap s.heap [] := va_S.rf
  have hl : lv_has ls 2 [(0, .ref (a 23)), (1, .int x1)] := hl
  have hown : s.vm.findClass RX4 = some m.cls := hown
  have hw4 : ∀ w ∈ wsX40, w.before args s = true := fun w h => hts w (List.mem_cons_of_mem _ (List.mem_append_right _ h))
  have u1 : (Cond.fieldLink RX4 15 "YearWords$Tape" "held" "I").before args s = true := hts _ (List.mem_of_getElem? (i := 1) (by decide +kernel))
  have u2 : (Cond.fieldLink RX4 9 "YearWords$Tape" "bytes" "[I").before args s = true := hts _ (List.mem_of_getElem? (i := 2) (by decide +kernel))
  obtain ⟨Q, hQ⟩ : ∃ Q, Q = mqV below D 36 a args s (wX a cI cJ cS par kin lea mos wrt tal siz tol hrs ags yea kpar kkin klea kmos kwrt ktal ksiz ktol khrs kags kyea isk tly gai bes low hig spn res.1 res.2 sta beh sor num fnd sbi she snu) := ⟨_, rfl⟩
  rw [← hQ]
  unfold fX4_put at hres
  refine lv_aload_n hx hb dX4_put_0 rfl (lv_at hl 0 rfl) ?_
  refine gX_tapo_held hx hb hown hw4 hK hP u1 dX4_put_1 ?_
  refine lv_bipush (v := 120) hx hb dX4_put_4 (by decide) ?_
  refine lv_icmp_ge (tgt := 33) hx hb dX4_put_6 (by decide) (fun c6 => ?_) (fun c6 => ?_)
  · have hres := (itl hres).1 c6
    exact hQ ▸ rtV hx hb hr hlk hP hS (by rw [← (Option.some.inj hres)]) dX4_put_33
  · have hres := (itl hres).2 c6
    refine lv_aload_n hx hb dX4_put_9 rfl (lv_at hl 0 rfl) ?_
    refine gX_tapo_bytes hx hb hown hw4 hK hP u2 dX4_put_10 ?_
    refine lv_aload_n hx hb dX4_put_13 rfl (lv_at hl 0 rfl) ?_
    refine gX_tapo_held hx hb hown hw4 hK hP u1 dX4_put_14 ?_
    refine lv_iload_n hx hb dX4_put_17 rfl (lv_at hl 1 rfl) ?_
    refine lv_sipush (v := 255) hx hb dX4_put_18 (by decide) ?_
    refine lv_iand hx hb dX4_put_21 ?_
    obtain ⟨i22, hres⟩ := gdi hres
    refine sX_byt hx hb hK hP hd hS i22 dX4_put_22 (fun H locs hP hS => ?_)
    refine lv_aload_n hx hb dX4_put_23 rfl (lv_at hl 0 rfl) ?_
    refine lv_dup hx hb dX4_put_24 rfl ?_
    refine gX_tapo_held hx hb hown hw4 hK hP u1 dX4_put_25 ?_
    refine lv_iconst (v := 1) hx hb dX4_put_28 (by decide) ?_
    refine lv_iadd hx hb dX4_put_29 ?_
    refine pX_tapo_held hx hb hown hw4 hK hP hd hS u1 dX4_put_30 (fun H locs hP hS => ?_)
    exact hQ ▸ rtV hx hb hr hlk hP hS (by rw [← (Option.some.inj hres)]) dX4_put_33
def fX4_clear (hld : Int32) : Int32 × Int32 :=
 (hld, (0 : Int32))
abbrev rX4_clear : Room := { frames := 0, cells := 0, slots := 0, locals := 0 }
set_option maxHeartbeats 4000000 in
set_option maxRecDepth 100000 in
theorem kX4_clear (l : Launch) (D : va_G) (a : Nat → Nat) (cI cJ cS : ClassId) (hd : aok a 36) {Env : (Nat → Prop) → State → Heap → Prop} (hEo : envOK Env) (par : Int32) (kin lea mos wrt : Nat → Int32) (tal : Int32) (siz tol : Nat → Int32) (hrs : Int32) (ags : Nat → Int32) (yea kpar : Int32) (kkin klea kmos kwrt : Nat → Int32) (ktal : Int32) (ksiz ktol : Nat → Int32) (khrs : Int32) (kags : Nat → Int32) (kyea isk : Int32) (tly : Nat → Int64) (gai bes : Nat → Int32) (low hig : Nat → Int64) (spn : Int32) (byt : Nat → Int32) (hld sta beh sor num : Int32) (fnd sbi she : Nat → Int32) (snu : Nat → Nat → Int64)  : CtI l D (tyL cI cJ cS) 36 a Env yX4_clear wsX4_clear rX4_clear [.ref (a 23)] (wX a cI cJ cS par kin lea mos wrt tal siz tol hrs ags yea kpar kkin klea kmos kwrt ktal ksiz ktol khrs kags kyea isk tly gai bes low hig spn byt hld sta beh sor num fnd sbi she snu) (wX a cI cJ cS par kin lea mos wrt tal siz tol hrs ags yea kpar kkin klea kmos kwrt ktal ksiz ktol khrs kags kyea isk tly gai bes low hig spn byt (fX4_clear hld).2 sta beh sor num fnd sbi she snu) (fX4_clear hld).1 := by
  generalize hres : fX4_clear hld = res
  refine CtI_mk (cc := cX4_clear) (maxL := 2) (ret := (some .int)) (by decide) rfl (Nat.le_of_ble_eq_true rfl) ?_
  intro p e s m args below meth c ls hx hb hr hlk hml hown hts hP hK hE hl
  have hS : va_S (adA a 36 s.heap.size) s.heap s.heap [] := va_S.rf
  have hl : lv_has ls 2 [(0, .ref (a 23))] := hl
  have hown : s.vm.findClass RX4 = some m.cls := hown
  have hw4 : ∀ w ∈ wsX40, w.before args s = true := fun w h => hts w (List.mem_cons_of_mem _ (List.mem_append_right _ h))
  have u1 : (Cond.fieldLink RX4 15 "YearWords$Tape" "held" "I").before args s = true := hts _ (List.mem_of_getElem? (i := 1) (by decide +kernel))
  obtain ⟨Q, hQ⟩ : ∃ Q, Q = mqI below D 36 a args s (wX a cI cJ cS par kin lea mos wrt tal siz tol hrs ags yea kpar kkin klea kmos kwrt ktal ksiz ktol khrs kags kyea isk tly gai bes low hig spn byt res.2 sta beh sor num fnd sbi she snu) res.1 := ⟨_, rfl⟩
  rw [← hQ]
  unfold fX4_clear at hres
  refine lv_aload_n hx hb dX4_clear_0 rfl (lv_at hl 0 rfl) ?_
  refine gX_tapo_held hx hb hown hw4 hK hP u1 dX4_clear_1 ?_
  refine lv_istore_n (lv' := [(1, .int hld), (0, .ref (a 23))]) hx hb dX4_clear_4 rfl hl (by decide) rfl (fun ls hl => ?_)
  refine lv_aload_n hx hb dX4_clear_5 rfl (lv_at hl 1 rfl) ?_
  refine lv_iconst (v := 0) hx hb dX4_clear_6 (by decide) ?_
  refine pX_tapo_held hx hb hown hw4 hK hP hd hS u1 dX4_clear_7 (fun H locs hP hS => ?_)
  refine lv_iload_n hx hb dX4_clear_10 rfl (lv_at hl 0 rfl) ?_
  exact hQ ▸ rtI (v := hld)  hx hb hr hlk hP hS (by rw [← hres]) (by rw [← hres]) dX4_clear_11
def fX5_found (fnd : Nat → Int32) (x1 : Int32) : Option (Int32 × (Nat → Int32)) :=
  if (bI (fX5_isIn ((-1000000001 : Int32) - x1) (0 : Int32) (6 : Int32))) = 0 then some (x1, fnd) else gd (ib ((-1000000001 : Int32) - x1) 7) (gd (ib ((-1000000001 : Int32) - x1) 7) (some (x1, upd fnd ((-1000000001 : Int32) - x1).toNatClampNeg ((fnd ((-1000000001 : Int32) - x1).toNatClampNeg) + (1 : Int32)))))
abbrev rX5_found : Room := { frames := 1, cells := 0, slots := 0, locals := 22 }
set_option maxHeartbeats 4000000 in
set_option maxRecDepth 100000 in
theorem kX5_found (l : Launch) (D : va_G) (a : Nat → Nat) (cI cJ cS : ClassId) (hd : aok a 36) {Env : (Nat → Prop) → State → Heap → Prop} (hEo : envOK Env) (par : Int32) (kin lea mos wrt : Nat → Int32) (tal : Int32) (siz tol : Nat → Int32) (hrs : Int32) (ags : Nat → Int32) (yea kpar : Int32) (kkin klea kmos kwrt : Nat → Int32) (ktal : Int32) (ksiz ktol : Nat → Int32) (khrs : Int32) (kags : Nat → Int32) (kyea isk : Int32) (tly : Nat → Int64) (gai bes : Nat → Int32) (low hig : Nat → Int64) (spn : Int32) (byt : Nat → Int32) (hld sta beh sor num : Int32) (fnd sbi she : Nat → Int32) (snu : Nat → Nat → Int64) (x1 : Int32) (res : Int32 × (Nat → Int32)) (hres : fX5_found fnd x1 = some res) : CtI l D (tyL cI cJ cS) 36 a Env yX5_found wsX5_found rX5_found [.ref (a 0), .int x1] (wX a cI cJ cS par kin lea mos wrt tal siz tol hrs ags yea kpar kkin klea kmos kwrt ktal ksiz ktol khrs kags kyea isk tly gai bes low hig spn byt hld sta beh sor num fnd sbi she snu) (wX a cI cJ cS par kin lea mos wrt tal siz tol hrs ags yea kpar kkin klea kmos kwrt ktal ksiz ktol khrs kags kyea isk tly gai bes low hig spn byt hld sta beh sor num res.2 sbi she snu) res.1 := by
  refine CtI_mk (cc := cX5_found) (maxL := 3) (ret := (some .int)) (by decide) rfl (Nat.le_of_ble_eq_true rfl) ?_
  intro p e s m args below meth c ls hx hb hr hlk hml hown hts hP hK hE hl
  have hS : va_S (adA a 36 s.heap.size) s.heap s.heap [] := va_S.rf
  have hl : lv_has ls 3 [(0, .ref (a 0)), (1, .int x1)] := hl
  have hown : s.vm.findClass RX5 = some m.cls := hown
  have hw5 : ∀ w ∈ wsX50, w.before args s = true := fun w h => hts w (List.mem_cons_of_mem _ (List.mem_append_right _ h))
  have u1 : (Cond.constant RX5 63 (-1000000001)).before args s = true := hts _ (List.mem_of_getElem? (i := 1) (by decide +kernel))
  have u2 : (Cond.fieldLink RX5 55 "YearWords" "findings" "[I").before args s = true := hts _ (List.mem_of_getElem? (i := 2) (by decide +kernel))
  obtain ⟨Q, hQ⟩ : ∃ Q, Q = mqI below D 36 a args s (wX a cI cJ cS par kin lea mos wrt tal siz tol hrs ags yea kpar kkin klea kmos kwrt ktal ksiz ktol khrs kags kyea isk tly gai bes low hig spn byt hld sta beh sor num res.2 sbi she snu) res.1 := ⟨_, rfl⟩
  rw [← hQ]
  unfold fX5_found at hres
  refine lv_ldc hx hb hown u1 dX5_found_0 ?_
  refine lv_iload_n hx hb dX5_found_2 rfl (lv_at hl 1 rfl) ?_
  refine lv_isub hx hb dX5_found_3 ?_
  refine lv_istore_n (lv' := [(2, .int ((-1000000001 : Int32) - x1)), (0, .ref (a 0)), (1, .int x1)]) hx hb dX5_found_4 rfl hl (by decide) rfl (fun ls hl => ?_)
  refine lv_iload_n hx hb dX5_found_5 rfl (lv_at hl 0 rfl) ?_
  refine lv_iconst (v := 0) hx hb dX5_found_6 (by decide) ?_
  refine lv_bipush (v := 6) hx hb dX5_found_7 (by decide) ?_
  refine csI hx hb hml hown hts hEo hE hK hP hS (kX5_isIn l D a cI cJ cS hd hEo par kin lea mos wrt tal siz tol hrs ags yea kpar kkin klea kmos kwrt ktal ksiz ktol khrs kags kyea isk tly gai bes low hig spn byt hld sta beh sor num fnd sbi she snu ((-1000000001 : Int32) - x1) (0 : Int32) (6 : Int32)) gX5_found_X5_isIn rfl hdX5_isIn ⟨rfl, rfl⟩ ⟨Nat.le_of_ble_eq_true rfl, Nat.le_of_ble_eq_true rfl⟩ ⟨Nat.zero_le _, Nat.zero_le _⟩ rfl hl.1 rfl (Nat.le_of_ble_eq_true rfl) dX5_found_9 (fun H locs hP hS => ?_)
  refine lv_if_eq (tgt := 25) hx hb dX5_found_12 (by decide) (fun c12 => ?_) (fun c12 => ?_)
  · have hres := (itl hres).1 c12
    refine lv_iload_n hx hb dX5_found_25 rfl (lv_at hl 2 rfl) ?_
    exact hQ ▸ rtI (v := x1)  hx hb hr hlk hP hS (by rw [← (Option.some.inj hres)]) (by rw [← (Option.some.inj hres)]) dX5_found_26
  · have hres := (itl hres).2 c12
    refine lv_aload_n hx hb dX5_found_15 rfl (lv_at hl 1 rfl) ?_
    refine gX_this5_findings hx hb hown hw5 hK hP u2 dX5_found_16 ?_
    refine lv_iload_n hx hb dX5_found_19 rfl (lv_at hl 0 rfl) ?_
    refine lv_dup2_11 hx hb dX5_found_20 rfl rfl ?_
    obtain ⟨i21, hres⟩ := gdi hres
    refine lX_fnd hx hb hK hP i21 dX5_found_21 ?_
    refine lv_iconst (v := 1) hx hb dX5_found_22 (by decide) ?_
    refine lv_iadd hx hb dX5_found_23 ?_
    obtain ⟨i24, hres⟩ := gdi hres
    refine sX_fnd hx hb hK hP hd hS i24 dX5_found_24 (fun H locs hP hS => ?_)
    refine lv_iload_n hx hb dX5_found_25 rfl (lv_at hl 2 rfl) ?_
    exact hQ ▸ rtI (v := x1)  hx hb hr hlk hP hS (by rw [← (Option.some.inj hres)]) (by rw [← (Option.some.inj hres)]) dX5_found_26
def fX5_part_b40 (par : Int32) (kin : Nat → Int32) (lea : Nat → Int32) (mos : Nat → Int32) (wrt : Nat → Int32) (fnd : Nat → Int32) : Option (Int32 × Int32 × (Nat → Int32) × (Nat → Int32) × (Nat → Int32) × (Nat → Int32) × (Nat → Int32)) :=
 (fX5_found fnd (-1000000001 : Int32)).bind fun q43 => some (q43.1, par, kin, lea, mos, wrt, q43.2)
def fX5_part (par : Int32) (kin : Nat → Int32) (lea : Nat → Int32) (mos : Nat → Int32) (wrt : Nat → Int32) (fnd : Nat → Int32) (x1 : Int32) (x2 : Int32) (x3 : Int32) (x4 : Int32) : Option (Int32 × Int32 × (Nat → Int32) × (Nat → Int32) × (Nat → Int32) × (Nat → Int32) × (Nat → Int32)) :=
  if (bI (fX5_isIn x1 (0 : Int32) (5 : Int32))) = 0 then fX5_part_b40 par kin lea mos wrt fnd else if (bI (fX5_isIn x2 (1 : Int32) (12 : Int32))) = 0 then fX5_part_b40 par kin lea mos wrt fnd else if (bI (fX5_isIn x3 x2 (12 : Int32))) = 0 then fX5_part_b40 par kin lea mos wrt fnd else if (bI (fX5_isIn x4 (0 : Int32) (9 : Int32))) = 0 then fX5_part_b40 par kin lea mos wrt fnd else if par < (16 : Int32) then (fX3_addPart par kin lea mos wrt x1 x2 x3 x4).bind fun q75 => some (q75.1, q75.2.1, q75.2.2.1, q75.2.2.2.1, q75.2.2.2.2.1, q75.2.2.2.2.2, fnd) else (fX5_found fnd (-1000000002 : Int32)).bind fun q62 => some (q62.1, par, kin, lea, mos, wrt, q62.2)
theorem hdX5_found : yX5_found.cls = RX5 ∧ yX5_found.cls ≠ "java/lang/invoke/MethodHandle" ∧ yX5_found.cls ≠ "java/lang/invoke/VarHandle" ∧ (parseMethodDescriptor yX5_found.desc).map (fun d => d.parameters.length) = some 1 := by decide +kernel
abbrev rX5_part : Room := { frames := 2, cells := 0, slots := 0, locals := 44 }
set_option maxHeartbeats 4000000 in
set_option maxRecDepth 100000 in
theorem kX5_part (l : Launch) (D : va_G) (a : Nat → Nat) (cI cJ cS : ClassId) (hd : aok a 36) {Env : (Nat → Prop) → State → Heap → Prop} (hEo : envOK Env) (par : Int32) (kin lea mos wrt : Nat → Int32) (tal : Int32) (siz tol : Nat → Int32) (hrs : Int32) (ags : Nat → Int32) (yea kpar : Int32) (kkin klea kmos kwrt : Nat → Int32) (ktal : Int32) (ksiz ktol : Nat → Int32) (khrs : Int32) (kags : Nat → Int32) (kyea isk : Int32) (tly : Nat → Int64) (gai bes : Nat → Int32) (low hig : Nat → Int64) (spn : Int32) (byt : Nat → Int32) (hld sta beh sor num : Int32) (fnd sbi she : Nat → Int32) (snu : Nat → Nat → Int64) (x1 : Int32) (x2 : Int32) (x3 : Int32) (x4 : Int32) (res : Int32 × Int32 × (Nat → Int32) × (Nat → Int32) × (Nat → Int32) × (Nat → Int32) × (Nat → Int32)) (hres : fX5_part par kin lea mos wrt fnd x1 x2 x3 x4 = some res) : CtI l D (tyL cI cJ cS) 36 a Env yX5_part wsX5_part rX5_part [.ref (a 0), .int x1, .int x2, .int x3, .int x4] (wX a cI cJ cS par kin lea mos wrt tal siz tol hrs ags yea kpar kkin klea kmos kwrt ktal ksiz ktol khrs kags kyea isk tly gai bes low hig spn byt hld sta beh sor num fnd sbi she snu) (wX a cI cJ cS res.2.1 res.2.2.1 res.2.2.2.1 res.2.2.2.2.1 res.2.2.2.2.2.1 tal siz tol hrs ags yea kpar kkin klea kmos kwrt ktal ksiz ktol khrs kags kyea isk tly gai bes low hig spn byt hld sta beh sor num res.2.2.2.2.2.2 sbi she snu) res.1 := by
  refine CtI_mk (cc := cX5_part) (maxL := 5) (ret := (some .int)) (by decide) rfl (Nat.le_of_ble_eq_true rfl) ?_
  intro p e s m args below meth c ls hx hb hr hlk hml hown hts hP hK hE hl
  have hS : va_S (adA a 36 s.heap.size) s.heap s.heap [] := va_S.rf
  have hl : lv_has ls 5 [(0, .ref (a 0)), (1, .int x1), (2, .int x2), (3, .int x3), (4, .int x4)] := hl
  have hown : s.vm.findClass RX5 = some m.cls := hown
  have hw3 : ∀ w ∈ wsX30, w.before args s = true := fun w h => hts w (List.mem_cons_of_mem _ (List.mem_append_right _ h))
  have hw5 : ∀ w ∈ wsX50, w.before args s = true := fun w h => hts w (List.mem_cons_of_mem _ (List.mem_append_left _ (List.mem_append_right _ h)))
  have u1 : (Cond.constant RX5 63 (-1000000001)).before args s = true := hts _ (List.mem_of_getElem? (i := 1) (by decide +kernel))
  have u2 : (Cond.fieldLink RX5 12 "YearWords" "now" "LYearWords$Stock;").before args s = true := hts _ (List.mem_of_getElem? (i := 2) (by decide +kernel))
  have u3 : (Cond.fieldLink RX5 68 "YearWords$Stock" "parts" "I").before args s = true := hts _ (List.mem_of_getElem? (i := 3) (by decide +kernel))
  have u4 : (Cond.constant RX5 72 (-1000000002)).before args s = true := hts _ (List.mem_of_getElem? (i := 4) (by decide +kernel))
  obtain ⟨Q, hQ⟩ : ∃ Q, Q = mqI below D 36 a args s (wX a cI cJ cS res.2.1 res.2.2.1 res.2.2.2.1 res.2.2.2.2.1 res.2.2.2.2.2.1 tal siz tol hrs ags yea kpar kkin klea kmos kwrt ktal ksiz ktol khrs kags kyea isk tly gai bes low hig spn byt hld sta beh sor num res.2.2.2.2.2.2 sbi she snu) res.1 := ⟨_, rfl⟩
  rw [← hQ]
  have b40 : ∀ (par : Int32) (kin : Nat → Int32) (lea : Nat → Int32) (mos : Nat → Int32) (wrt : Nat → Int32) (fnd : Nat → Int32), fX5_part_b40 par kin lea mos wrt fnd = some res → ∀ (H : Heap) (locs : List Loc) (ls : Array Slot), va_P D vwCl (wX a cI cJ cS par kin lea mos wrt tal siz tol hrs ags yea kpar kkin klea kmos kwrt ktal ksiz ktol khrs kags kyea isk tly gai bes low hig spn byt hld sta beh sor num fnd sbi she snu) H → va_S (adA a 36 s.heap.size) s.heap H locs → lv_has ls 5 [(0, .ref (a 0))] → W p l e rX5_part s m args below meth c H locs 0 0 Q (F0 m 40 ls []) := by
    intro par kin lea mos wrt fnd hres H locs ls hP hS hl
    unfold fX5_part_b40 at hres
    refine lv_aload_n hx hb dX5_part_40 rfl (lv_at hl 0 rfl) ?_
    refine lv_ldc hx hb hown u1 dX5_part_41 ?_
    obtain ⟨q43, e43, hres⟩ := obd hres
    refine cvI (q0 := 0) (ci := 5) hx hb hml hown hts hEo hE hK hP hS (kX5_found l D a cI cJ cS hd hEo par kin lea mos wrt tal siz tol hrs ags yea kpar kkin klea kmos kwrt ktal ksiz ktol khrs kags kyea isk tly gai bes low hig spn byt hld sta beh sor num fnd sbi she snu (-1000000001 : Int32) q43 e43) gX5_part_X5_found rfl hdX5_found rfl rfl rfl ⟨rfl, rfl⟩ ⟨Nat.le_of_ble_eq_true rfl, Nat.le_of_ble_eq_true rfl⟩ ⟨Nat.zero_le _, Nat.zero_le _⟩ rfl hl.1 rfl (Nat.le_of_ble_eq_true rfl) dX5_part_43 (fun H locs hP hS => ?_)
    exact hQ ▸ rtI (v := q43.1)  hx hb hr hlk hP hS (by rw [← (Option.some.inj hres)]) (by rw [← (Option.some.inj hres)]) dX5_part_46
  unfold fX5_part at hres
  refine lv_iload_n hx hb dX5_part_0 rfl (lv_at hl 1 rfl) ?_
  refine lv_iconst (v := 0) hx hb dX5_part_1 (by decide) ?_
  refine lv_iconst (v := 5) hx hb dX5_part_2 (by decide) ?_
  refine csI hx hb hml hown hts hEo hE hK hP hS (kX5_isIn l D a cI cJ cS hd hEo par kin lea mos wrt tal siz tol hrs ags yea kpar kkin klea kmos kwrt ktal ksiz ktol khrs kags kyea isk tly gai bes low hig spn byt hld sta beh sor num fnd sbi she snu x1 (0 : Int32) (5 : Int32)) gX5_part_X5_isIn rfl hdX5_isIn ⟨rfl, rfl⟩ ⟨Nat.le_of_ble_eq_true rfl, Nat.le_of_ble_eq_true rfl⟩ ⟨Nat.zero_le _, Nat.zero_le _⟩ rfl hl.1 rfl (Nat.le_of_ble_eq_true rfl) dX5_part_3 (fun H locs hP hS => ?_)
  refine lv_if_eq (tgt := 40) hx hb dX5_part_6 (by decide) (fun c6 => ?_) (fun c6 => ?_)
  · have hres := (itl hres).1 c6
    exact b40 par kin lea mos wrt fnd hres _ _ _ hP hS (lv_sub hl [0] rfl)
  · have hres := (itl hres).2 c6
    refine lv_iload_n hx hb dX5_part_9 rfl (lv_at hl 2 rfl) ?_
    refine lv_iconst (v := 1) hx hb dX5_part_10 (by decide) ?_
    refine lv_bipush (v := 12) hx hb dX5_part_11 (by decide) ?_
    refine csI hx hb hml hown hts hEo hE hK hP hS (kX5_isIn l D a cI cJ cS hd hEo par kin lea mos wrt tal siz tol hrs ags yea kpar kkin klea kmos kwrt ktal ksiz ktol khrs kags kyea isk tly gai bes low hig spn byt hld sta beh sor num fnd sbi she snu x2 (1 : Int32) (12 : Int32)) gX5_part_X5_isIn rfl hdX5_isIn ⟨rfl, rfl⟩ ⟨Nat.le_of_ble_eq_true rfl, Nat.le_of_ble_eq_true rfl⟩ ⟨Nat.zero_le _, Nat.zero_le _⟩ rfl hl.1 rfl (Nat.le_of_ble_eq_true rfl) dX5_part_13 (fun H locs hP hS => ?_)
    refine lv_if_eq (tgt := 40) hx hb dX5_part_16 (by decide) (fun c16 => ?_) (fun c16 => ?_)
    · have hres := (itl hres).1 c16
      exact b40 par kin lea mos wrt fnd hres _ _ _ hP hS (lv_sub hl [0] rfl)
    · have hres := (itl hres).2 c16
      refine lv_iload_n hx hb dX5_part_19 rfl (lv_at hl 3 rfl) ?_
      refine lv_iload_n hx hb dX5_part_20 rfl (lv_at hl 2 rfl) ?_
      refine lv_bipush (v := 12) hx hb dX5_part_21 (by decide) ?_
      refine csI hx hb hml hown hts hEo hE hK hP hS (kX5_isIn l D a cI cJ cS hd hEo par kin lea mos wrt tal siz tol hrs ags yea kpar kkin klea kmos kwrt ktal ksiz ktol khrs kags kyea isk tly gai bes low hig spn byt hld sta beh sor num fnd sbi she snu x3 x2 (12 : Int32)) gX5_part_X5_isIn rfl hdX5_isIn ⟨rfl, rfl⟩ ⟨Nat.le_of_ble_eq_true rfl, Nat.le_of_ble_eq_true rfl⟩ ⟨Nat.zero_le _, Nat.zero_le _⟩ rfl hl.1 rfl (Nat.le_of_ble_eq_true rfl) dX5_part_23 (fun H locs hP hS => ?_)
      refine lv_if_eq (tgt := 40) hx hb dX5_part_26 (by decide) (fun c26 => ?_) (fun c26 => ?_)
      · have hres := (itl hres).1 c26
        exact b40 par kin lea mos wrt fnd hres _ _ _ hP hS (lv_sub hl [0] rfl)
      · have hres := (itl hres).2 c26
        refine lv_iload hx hb dX5_part_29 (lv_at hl 4 rfl) ?_
        refine lv_iconst (v := 0) hx hb dX5_part_31 (by decide) ?_
        refine lv_bipush (v := 9) hx hb dX5_part_32 (by decide) ?_
        refine csI hx hb hml hown hts hEo hE hK hP hS (kX5_isIn l D a cI cJ cS hd hEo par kin lea mos wrt tal siz tol hrs ags yea kpar kkin klea kmos kwrt ktal ksiz ktol khrs kags kyea isk tly gai bes low hig spn byt hld sta beh sor num fnd sbi she snu x4 (0 : Int32) (9 : Int32)) gX5_part_X5_isIn rfl hdX5_isIn ⟨rfl, rfl⟩ ⟨Nat.le_of_ble_eq_true rfl, Nat.le_of_ble_eq_true rfl⟩ ⟨Nat.zero_le _, Nat.zero_le _⟩ rfl hl.1 rfl (Nat.le_of_ble_eq_true rfl) dX5_part_34 (fun H locs hP hS => ?_)
        refine lv_if_ne (tgt := 47) hx hb dX5_part_37 (by decide) (fun c37 => ?_) (fun c37 => ?_)
        · have hres := (itl hres).2 c37
          refine lv_aload_n hx hb dX5_part_47 rfl (lv_at hl 0 rfl) ?_
          refine gX_this5_now hx hb hown hw5 hK hP u2 dX5_part_48 ?_
          refine gX_now_parts hx hb hown hw3 hK hP u3 dX5_part_51 ?_
          refine lv_bipush (v := 16) hx hb dX5_part_54 (by decide) ?_
          refine lv_icmp_lt (tgt := 66) hx hb dX5_part_56 (by decide) (fun c56 => ?_) (fun c56 => ?_)
          · have hres := (itl hres).1 c56
            refine lv_aload_n hx hb dX5_part_66 rfl (lv_at hl 0 rfl) ?_
            refine gX_this5_now hx hb hown hw5 hK hP u2 dX5_part_67 ?_
            refine lv_iload_n hx hb dX5_part_70 rfl (lv_at hl 1 rfl) ?_
            refine lv_iload_n hx hb dX5_part_71 rfl (lv_at hl 2 rfl) ?_
            refine lv_iload_n hx hb dX5_part_72 rfl (lv_at hl 3 rfl) ?_
            refine lv_iload hx hb dX5_part_73 (lv_at hl 4 rfl) ?_
            obtain ⟨q75, e75, hres⟩ := obd hres
            refine cvI (q0 := 1) (ci := 3) hx hb hml hown hts hEo hE hK hP hS (kX3_addPart l D a cI cJ cS hd hEo par kin lea mos wrt tal siz tol hrs ags yea kpar kkin klea kmos kwrt ktal ksiz ktol khrs kags kyea isk tly gai bes low hig spn byt hld sta beh sor num fnd sbi she snu x1 x2 x3 x4 q75 e75) gX5_part_X3_addPart rfl hdX3_addPart rfl rfl rfl ⟨rfl, rfl⟩ ⟨Nat.le_of_ble_eq_true rfl, Nat.le_of_ble_eq_true rfl⟩ ⟨Nat.zero_le _, Nat.zero_le _⟩ rfl hl.1 rfl (Nat.le_of_ble_eq_true rfl) dX5_part_75 (fun H locs hP hS => ?_)
            exact hQ ▸ rtI (v := q75.1)  hx hb hr hlk hP hS (by rw [← (Option.some.inj hres)]) (by rw [← (Option.some.inj hres)]) dX5_part_78
          · have hres := (itl hres).2 c56
            refine lv_aload_n hx hb dX5_part_59 rfl (lv_at hl 0 rfl) ?_
            refine lv_ldc hx hb hown u4 dX5_part_60 ?_
            obtain ⟨q62, e62, hres⟩ := obd hres
            refine cvI (q0 := 0) (ci := 5) hx hb hml hown hts hEo hE hK hP hS (kX5_found l D a cI cJ cS hd hEo par kin lea mos wrt tal siz tol hrs ags yea kpar kkin klea kmos kwrt ktal ksiz ktol khrs kags kyea isk tly gai bes low hig spn byt hld sta beh sor num fnd sbi she snu (-1000000002 : Int32) q62 e62) gX5_part_X5_found rfl hdX5_found rfl rfl rfl ⟨rfl, rfl⟩ ⟨Nat.le_of_ble_eq_true rfl, Nat.le_of_ble_eq_true rfl⟩ ⟨Nat.zero_le _, Nat.zero_le _⟩ rfl hl.1 rfl (Nat.le_of_ble_eq_true rfl) dX5_part_62 (fun H locs hP hS => ?_)
            exact hQ ▸ rtI (v := q62.1)  hx hb hr hlk hP hS (by rw [← (Option.some.inj hres)]) (by rw [← (Option.some.inj hres)]) dX5_part_65
        · have hres := (itl hres).1 c37
          exact b40 par kin lea mos wrt fnd hres _ _ _ hP hS (lv_sub hl [0] rfl)
def fX5_partOf (par : Int32) (kin : Nat → Int32) (lea : Nat → Int32) (mos : Nat → Int32) (wrt : Nat → Int32) (fnd : Nat → Int32) (x1 : Int32) (x2 : Int32) : Option (Int32 × (Nat → Int32)) :=
  if (bI (fX3_hasPart par x1)) = 0 then (fX5_found fnd (-1000000001 : Int32)).bind fun q14 => some (q14.1, q14.2) else if x2 = 0 then gd (ib x1 16) (some (kin x1.toNatClampNeg, fnd)) else if x2 = 1 then gd (ib x1 16) (some (lea x1.toNatClampNeg, fnd)) else if x2 = 2 then gd (ib x1 16) (some (mos x1.toNatClampNeg, fnd)) else if x2 = 3 then gd (ib x1 16) (some (wrt x1.toNatClampNeg, fnd)) else if x2 = 4 then (fX3_lengthsOf kin lea mos x1).bind fun q97 => some (q97, fnd) else (fX5_found fnd (-1000000001 : Int32)).bind fun q104 => some (q104.1, q104.2)
theorem hdX3_hasPart : yX3_hasPart.cls = RX3 ∧ yX3_hasPart.cls ≠ "java/lang/invoke/MethodHandle" ∧ yX3_hasPart.cls ≠ "java/lang/invoke/VarHandle" ∧ (parseMethodDescriptor yX3_hasPart.desc).map (fun d => d.parameters.length) = some 1 := by decide +kernel
abbrev rX5_partOf : Room := { frames := 2, cells := 0, slots := 0, locals := 44 }
set_option maxHeartbeats 4000000 in
set_option maxRecDepth 100000 in
theorem kX5_partOf (l : Launch) (D : va_G) (a : Nat → Nat) (cI cJ cS : ClassId) (hd : aok a 36) {Env : (Nat → Prop) → State → Heap → Prop} (hEo : envOK Env) (par : Int32) (kin lea mos wrt : Nat → Int32) (tal : Int32) (siz tol : Nat → Int32) (hrs : Int32) (ags : Nat → Int32) (yea kpar : Int32) (kkin klea kmos kwrt : Nat → Int32) (ktal : Int32) (ksiz ktol : Nat → Int32) (khrs : Int32) (kags : Nat → Int32) (kyea isk : Int32) (tly : Nat → Int64) (gai bes : Nat → Int32) (low hig : Nat → Int64) (spn : Int32) (byt : Nat → Int32) (hld sta beh sor num : Int32) (fnd sbi she : Nat → Int32) (snu : Nat → Nat → Int64) (x1 : Int32) (x2 : Int32) (res : Int32 × (Nat → Int32)) (hres : fX5_partOf par kin lea mos wrt fnd x1 x2 = some res) : CtI l D (tyL cI cJ cS) 36 a Env yX5_partOf wsX5_partOf rX5_partOf [.ref (a 0), .int x1, .int x2] (wX a cI cJ cS par kin lea mos wrt tal siz tol hrs ags yea kpar kkin klea kmos kwrt ktal ksiz ktol khrs kags kyea isk tly gai bes low hig spn byt hld sta beh sor num fnd sbi she snu) (wX a cI cJ cS par kin lea mos wrt tal siz tol hrs ags yea kpar kkin klea kmos kwrt ktal ksiz ktol khrs kags kyea isk tly gai bes low hig spn byt hld sta beh sor num res.2 sbi she snu) res.1 := by
  refine CtI_mk (cc := cX5_partOf) (maxL := 3) (ret := (some .int)) (by decide) rfl (Nat.le_of_ble_eq_true rfl) ?_
  intro p e s m args below meth c ls hx hb hr hlk hml hown hts hP hK hE hl
  have hS : va_S (adA a 36 s.heap.size) s.heap s.heap [] := va_S.rf
  have hl : lv_has ls 3 [(0, .ref (a 0)), (1, .int x1), (2, .int x2)] := hl
  have hown : s.vm.findClass RX5 = some m.cls := hown
  have hw3 : ∀ w ∈ wsX30, w.before args s = true := fun w h => hts w (List.mem_cons_of_mem _ (List.mem_append_right _ h))
  have hw5 : ∀ w ∈ wsX50, w.before args s = true := fun w h => hts w (List.mem_cons_of_mem _ (List.mem_append_left _ (List.mem_append_right _ h)))
  have u1 : (Cond.fieldLink RX5 12 "YearWords" "now" "LYearWords$Stock;").before args s = true := hts _ (List.mem_of_getElem? (i := 1) (by decide +kernel))
  have u2 : (Cond.constant RX5 63 (-1000000001)).before args s = true := hts _ (List.mem_of_getElem? (i := 2) (by decide +kernel))
  have u3 : (Cond.fieldLink RX5 81 "YearWords$Stock" "kinds" "[I").before args s = true := hts _ (List.mem_of_getElem? (i := 3) (by decide +kernel))
  have u4 : (Cond.fieldLink RX5 84 "YearWords$Stock" "leasts" "[I").before args s = true := hts _ (List.mem_of_getElem? (i := 4) (by decide +kernel))
  have u5 : (Cond.fieldLink RX5 87 "YearWords$Stock" "mosts" "[I").before args s = true := hts _ (List.mem_of_getElem? (i := 5) (by decide +kernel))
  have u6 : (Cond.fieldLink RX5 90 "YearWords$Stock" "worths" "[I").before args s = true := hts _ (List.mem_of_getElem? (i := 6) (by decide +kernel))
  obtain ⟨Q, hQ⟩ : ∃ Q, Q = mqI below D 36 a args s (wX a cI cJ cS par kin lea mos wrt tal siz tol hrs ags yea kpar kkin klea kmos kwrt ktal ksiz ktol khrs kags kyea isk tly gai bes low hig spn byt hld sta beh sor num res.2 sbi she snu) res.1 := ⟨_, rfl⟩
  rw [← hQ]
  unfold fX5_partOf at hres
  refine lv_aload_n hx hb dX5_partOf_0 rfl (lv_at hl 0 rfl) ?_
  refine gX_this5_now hx hb hown hw5 hK hP u1 dX5_partOf_1 ?_
  refine lv_iload_n hx hb dX5_partOf_4 rfl (lv_at hl 1 rfl) ?_
  refine cvI (q0 := 1) (ci := 3) hx hb hml hown hts hEo hE hK hP hS (kX3_hasPart l D a cI cJ cS hd hEo par kin lea mos wrt tal siz tol hrs ags yea kpar kkin klea kmos kwrt ktal ksiz ktol khrs kags kyea isk tly gai bes low hig spn byt hld sta beh sor num fnd sbi she snu x1) gX5_partOf_X3_hasPart rfl hdX3_hasPart rfl rfl rfl ⟨rfl, rfl⟩ ⟨Nat.le_of_ble_eq_true rfl, Nat.le_of_ble_eq_true rfl⟩ ⟨Nat.zero_le _, Nat.zero_le _⟩ rfl hl.1 rfl (Nat.le_of_ble_eq_true rfl) dX5_partOf_5 (fun H locs hP hS => ?_)
  refine lv_if_ne (tgt := 18) hx hb dX5_partOf_8 (by decide) (fun c8 => ?_) (fun c8 => ?_)
  · have hres := (itl hres).2 c8
    refine lv_iload_n hx hb dX5_partOf_18 rfl (lv_at hl 2 rfl) ?_
    by_cases v19_0 : x2 = 0
    · have hres := (itl hres).1 v19_0
      refine lv_tableIn (off := 33) (tgt := 52) hx hb dX5_partOf_19 (by rw [v19_0]; decide) (by rw [v19_0]; decide) (by rw [v19_0]; rfl) (by decide) ?_
      refine lv_aload_n hx hb dX5_partOf_52 rfl (lv_at hl 0 rfl) ?_
      refine gX_this5_now hx hb hown hw5 hK hP u1 dX5_partOf_53 ?_
      refine gX_now_kinds hx hb hown hw3 hK hP u3 dX5_partOf_56 ?_
      refine lv_iload_n hx hb dX5_partOf_59 rfl (lv_at hl 1 rfl) ?_
      obtain ⟨i60, hres⟩ := gdi hres
      refine lX_kin hx hb hK hP i60 dX5_partOf_60 ?_
      exact hQ ▸ rtI (v := kin x1.toNatClampNeg)  hx hb hr hlk hP hS (by rw [← (Option.some.inj hres)]) (by rw [← (Option.some.inj hres)]) dX5_partOf_61
    · have hres := (itl hres).2 v19_0
      by_cases v19_1 : x2 = 1
      · have hres := (itl hres).1 v19_1
        refine lv_tableIn (off := 43) (tgt := 62) hx hb dX5_partOf_19 (by rw [v19_1]; decide) (by rw [v19_1]; decide) (by rw [v19_1]; rfl) (by decide) ?_
        refine lv_aload_n hx hb dX5_partOf_62 rfl (lv_at hl 0 rfl) ?_
        refine gX_this5_now hx hb hown hw5 hK hP u1 dX5_partOf_63 ?_
        refine gX_now_leasts hx hb hown hw3 hK hP u4 dX5_partOf_66 ?_
        refine lv_iload_n hx hb dX5_partOf_69 rfl (lv_at hl 1 rfl) ?_
        obtain ⟨i70, hres⟩ := gdi hres
        refine lX_lea hx hb hK hP i70 dX5_partOf_70 ?_
        exact hQ ▸ rtI (v := lea x1.toNatClampNeg)  hx hb hr hlk hP hS (by rw [← (Option.some.inj hres)]) (by rw [← (Option.some.inj hres)]) dX5_partOf_71
      · have hres := (itl hres).2 v19_1
        by_cases v19_2 : x2 = 2
        · have hres := (itl hres).1 v19_2
          refine lv_tableIn (off := 53) (tgt := 72) hx hb dX5_partOf_19 (by rw [v19_2]; decide) (by rw [v19_2]; decide) (by rw [v19_2]; rfl) (by decide) ?_
          refine lv_aload_n hx hb dX5_partOf_72 rfl (lv_at hl 0 rfl) ?_
          refine gX_this5_now hx hb hown hw5 hK hP u1 dX5_partOf_73 ?_
          refine gX_now_mosts hx hb hown hw3 hK hP u5 dX5_partOf_76 ?_
          refine lv_iload_n hx hb dX5_partOf_79 rfl (lv_at hl 1 rfl) ?_
          obtain ⟨i80, hres⟩ := gdi hres
          refine lX_mos hx hb hK hP i80 dX5_partOf_80 ?_
          exact hQ ▸ rtI (v := mos x1.toNatClampNeg)  hx hb hr hlk hP hS (by rw [← (Option.some.inj hres)]) (by rw [← (Option.some.inj hres)]) dX5_partOf_81
        · have hres := (itl hres).2 v19_2
          by_cases v19_3 : x2 = 3
          · have hres := (itl hres).1 v19_3
            refine lv_tableIn (off := 63) (tgt := 82) hx hb dX5_partOf_19 (by rw [v19_3]; decide) (by rw [v19_3]; decide) (by rw [v19_3]; rfl) (by decide) ?_
            refine lv_aload_n hx hb dX5_partOf_82 rfl (lv_at hl 0 rfl) ?_
            refine gX_this5_now hx hb hown hw5 hK hP u1 dX5_partOf_83 ?_
            refine gX_now_worths hx hb hown hw3 hK hP u6 dX5_partOf_86 ?_
            refine lv_iload_n hx hb dX5_partOf_89 rfl (lv_at hl 1 rfl) ?_
            obtain ⟨i90, hres⟩ := gdi hres
            refine lX_wrt hx hb hK hP i90 dX5_partOf_90 ?_
            exact hQ ▸ rtI (v := wrt x1.toNatClampNeg)  hx hb hr hlk hP hS (by rw [← (Option.some.inj hres)]) (by rw [← (Option.some.inj hres)]) dX5_partOf_91
          · have hres := (itl hres).2 v19_3
            by_cases v19_4 : x2 = 4
            · have hres := (itl hres).1 v19_4
              refine lv_tableIn (off := 73) (tgt := 92) hx hb dX5_partOf_19 (by rw [v19_4]; decide) (by rw [v19_4]; decide) (by rw [v19_4]; rfl) (by decide) ?_
              refine lv_aload_n hx hb dX5_partOf_92 rfl (lv_at hl 0 rfl) ?_
              refine gX_this5_now hx hb hown hw5 hK hP u1 dX5_partOf_93 ?_
              refine lv_iload_n hx hb dX5_partOf_96 rfl (lv_at hl 1 rfl) ?_
              obtain ⟨q97, e97, hres⟩ := obd hres
              refine cvI (q0 := 1) (ci := 3) hx hb hml hown hts hEo hE hK hP hS (kX3_lengthsOf l D a cI cJ cS hd hEo par kin lea mos wrt tal siz tol hrs ags yea kpar kkin klea kmos kwrt ktal ksiz ktol khrs kags kyea isk tly gai bes low hig spn byt hld sta beh sor num fnd sbi she snu x1 q97 e97) gX5_partOf_X3_lengthsOf rfl hdX3_lengthsOf rfl rfl rfl ⟨rfl, rfl⟩ ⟨Nat.le_of_ble_eq_true rfl, Nat.le_of_ble_eq_true rfl⟩ ⟨Nat.zero_le _, Nat.zero_le _⟩ rfl hl.1 rfl (Nat.le_of_ble_eq_true rfl) dX5_partOf_97 (fun H locs hP hS => ?_)
              exact hQ ▸ rtI (v := q97)  hx hb hr hlk hP hS (by rw [← (Option.some.inj hres)]) (by rw [← (Option.some.inj hres)]) dX5_partOf_100
            · have hres := (itl hres).2 v19_4
              refine lv_tableOut (tgt := 101) hx hb dX5_partOf_19 (sw04 v19_0 v19_1 v19_2 v19_3 v19_4) (by decide) ?_
              refine lv_aload_n hx hb dX5_partOf_101 rfl (lv_at hl 0 rfl) ?_
              refine lv_ldc hx hb hown u2 dX5_partOf_102 ?_
              obtain ⟨q104, e104, hres⟩ := obd hres
              refine cvI (q0 := 0) (ci := 5) hx hb hml hown hts hEo hE hK hP hS (kX5_found l D a cI cJ cS hd hEo par kin lea mos wrt tal siz tol hrs ags yea kpar kkin klea kmos kwrt ktal ksiz ktol khrs kags kyea isk tly gai bes low hig spn byt hld sta beh sor num fnd sbi she snu (-1000000001 : Int32) q104 e104) gX5_partOf_X5_found rfl hdX5_found rfl rfl rfl ⟨rfl, rfl⟩ ⟨Nat.le_of_ble_eq_true rfl, Nat.le_of_ble_eq_true rfl⟩ ⟨Nat.zero_le _, Nat.zero_le _⟩ rfl hl.1 rfl (Nat.le_of_ble_eq_true rfl) dX5_partOf_104 (fun H locs hP hS => ?_)
              exact hQ ▸ rtI (v := q104.1)  hx hb hr hlk hP hS (by rw [← (Option.some.inj hres)]) (by rw [← (Option.some.inj hres)]) dX5_partOf_107
  · have hres := (itl hres).1 c8
    refine lv_aload_n hx hb dX5_partOf_11 rfl (lv_at hl 0 rfl) ?_
    refine lv_ldc hx hb hown u2 dX5_partOf_12 ?_
    obtain ⟨q14, e14, hres⟩ := obd hres
    refine cvI (q0 := 0) (ci := 5) hx hb hml hown hts hEo hE hK hP hS (kX5_found l D a cI cJ cS hd hEo par kin lea mos wrt tal siz tol hrs ags yea kpar kkin klea kmos kwrt ktal ksiz ktol khrs kags kyea isk tly gai bes low hig spn byt hld sta beh sor num fnd sbi she snu (-1000000001 : Int32) q14 e14) gX5_partOf_X5_found rfl hdX5_found rfl rfl rfl ⟨rfl, rfl⟩ ⟨Nat.le_of_ble_eq_true rfl, Nat.le_of_ble_eq_true rfl⟩ ⟨Nat.zero_le _, Nat.zero_le _⟩ rfl hl.1 rfl (Nat.le_of_ble_eq_true rfl) dX5_partOf_14 (fun H locs hP hS => ?_)
    exact hQ ▸ rtI (v := q14.1)  hx hb hr hlk hP hS (by rw [← (Option.some.inj hres)]) (by rw [← (Option.some.inj hres)]) dX5_partOf_17
def fX5_swap_wrt (wrt : Nat → Int32) (x1 : Int32) (x2 : Int32) : Option (Int32 × (Nat → Int32)) :=
  gd (ib x1 16) (gd (ib x1 16) (some (wrt x1.toNatClampNeg, upd wrt x1.toNatClampNeg x2)))
abbrev rX5_swap_wrt : Room := { frames := 0, cells := 0, slots := 0, locals := 0 }
set_option maxHeartbeats 4000000 in
set_option maxRecDepth 100000 in
theorem kX5_swap_wrt (l : Launch) (D : va_G) (a : Nat → Nat) (cI cJ cS : ClassId) (hd : aok a 36) {Env : (Nat → Prop) → State → Heap → Prop} (hEo : envOK Env) (par : Int32) (kin lea mos wrt : Nat → Int32) (tal : Int32) (siz tol : Nat → Int32) (hrs : Int32) (ags : Nat → Int32) (yea kpar : Int32) (kkin klea kmos kwrt : Nat → Int32) (ktal : Int32) (ksiz ktol : Nat → Int32) (khrs : Int32) (kags : Nat → Int32) (kyea isk : Int32) (tly : Nat → Int64) (gai bes : Nat → Int32) (low hig : Nat → Int64) (spn : Int32) (byt : Nat → Int32) (hld sta beh sor num : Int32) (fnd sbi she : Nat → Int32) (snu : Nat → Nat → Int64) (x1 : Int32) (x2 : Int32) (res : Int32 × (Nat → Int32)) (hres : fX5_swap_wrt wrt x1 x2 = some res) : CtI l D (tyL cI cJ cS) 36 a Env yX5_swap wsX5_swap rX5_swap_wrt [.ref (a 5), .int x1, .int x2] (wX a cI cJ cS par kin lea mos wrt tal siz tol hrs ags yea kpar kkin klea kmos kwrt ktal ksiz ktol khrs kags kyea isk tly gai bes low hig spn byt hld sta beh sor num fnd sbi she snu) (wX a cI cJ cS par kin lea mos res.2 tal siz tol hrs ags yea kpar kkin klea kmos kwrt ktal ksiz ktol khrs kags kyea isk tly gai bes low hig spn byt hld sta beh sor num fnd sbi she snu) res.1 := by
  refine CtI_mk (cc := cX5_swap) (maxL := 4) (ret := (some .int)) (by decide) rfl (Nat.le_of_ble_eq_true rfl) ?_
  intro p e s m args below meth c ls hx hb hr hlk hml hown hts hP hK hE hl
  have hS : va_S (adA a 36 s.heap.size) s.heap s.heap [] := va_S.rf
  have hl : lv_has ls 4 [(0, .ref (a 5)), (1, .int x1), (2, .int x2)] := hl
  have hown : s.vm.findClass RX5 = some m.cls := hown
  obtain ⟨Q, hQ⟩ : ∃ Q, Q = mqI below D 36 a args s (wX a cI cJ cS par kin lea mos res.2 tal siz tol hrs ags yea kpar kkin klea kmos kwrt ktal ksiz ktol khrs kags kyea isk tly gai bes low hig spn byt hld sta beh sor num fnd sbi she snu) res.1 := ⟨_, rfl⟩
  rw [← hQ]
  unfold fX5_swap_wrt at hres
  refine lv_aload_n hx hb dX5_swap_0 rfl (lv_at hl 0 rfl) ?_
  refine lv_iload_n hx hb dX5_swap_1 rfl (lv_at hl 1 rfl) ?_
  obtain ⟨i2, hres⟩ := gdi hres
  refine lX_wrt hx hb hK hP i2 dX5_swap_2 ?_
  refine lv_istore_n (lv' := [(3, .int (wrt x1.toNatClampNeg)), (0, .ref (a 5)), (1, .int x1), (2, .int x2)]) hx hb dX5_swap_3 rfl hl (by decide) rfl (fun ls hl => ?_)
  refine lv_aload_n hx hb dX5_swap_4 rfl (lv_at hl 1 rfl) ?_
  refine lv_iload_n hx hb dX5_swap_5 rfl (lv_at hl 2 rfl) ?_
  refine lv_iload_n hx hb dX5_swap_6 rfl (lv_at hl 3 rfl) ?_
  obtain ⟨i7, hres⟩ := gdi hres
  refine sX_wrt hx hb hK hP hd hS i7 dX5_swap_7 (fun H locs hP hS => ?_)
  refine lv_iload_n hx hb dX5_swap_8 rfl (lv_at hl 0 rfl) ?_
  exact hQ ▸ rtI (v := wrt x1.toNatClampNeg)  hx hb hr hlk hP hS (by rw [← (Option.some.inj hres)]) (by rw [← (Option.some.inj hres)]) dX5_swap_9
def fX5_swap_mos (mos : Nat → Int32) (x1 : Int32) (x2 : Int32) : Option (Int32 × (Nat → Int32)) :=
  gd (ib x1 16) (gd (ib x1 16) (some (mos x1.toNatClampNeg, upd mos x1.toNatClampNeg x2)))
abbrev rX5_swap_mos : Room := { frames := 0, cells := 0, slots := 0, locals := 0 }
set_option maxHeartbeats 4000000 in
set_option maxRecDepth 100000 in
theorem kX5_swap_mos (l : Launch) (D : va_G) (a : Nat → Nat) (cI cJ cS : ClassId) (hd : aok a 36) {Env : (Nat → Prop) → State → Heap → Prop} (hEo : envOK Env) (par : Int32) (kin lea mos wrt : Nat → Int32) (tal : Int32) (siz tol : Nat → Int32) (hrs : Int32) (ags : Nat → Int32) (yea kpar : Int32) (kkin klea kmos kwrt : Nat → Int32) (ktal : Int32) (ksiz ktol : Nat → Int32) (khrs : Int32) (kags : Nat → Int32) (kyea isk : Int32) (tly : Nat → Int64) (gai bes : Nat → Int32) (low hig : Nat → Int64) (spn : Int32) (byt : Nat → Int32) (hld sta beh sor num : Int32) (fnd sbi she : Nat → Int32) (snu : Nat → Nat → Int64) (x1 : Int32) (x2 : Int32) (res : Int32 × (Nat → Int32)) (hres : fX5_swap_mos mos x1 x2 = some res) : CtI l D (tyL cI cJ cS) 36 a Env yX5_swap wsX5_swap rX5_swap_mos [.ref (a 4), .int x1, .int x2] (wX a cI cJ cS par kin lea mos wrt tal siz tol hrs ags yea kpar kkin klea kmos kwrt ktal ksiz ktol khrs kags kyea isk tly gai bes low hig spn byt hld sta beh sor num fnd sbi she snu) (wX a cI cJ cS par kin lea res.2 wrt tal siz tol hrs ags yea kpar kkin klea kmos kwrt ktal ksiz ktol khrs kags kyea isk tly gai bes low hig spn byt hld sta beh sor num fnd sbi she snu) res.1 := by
  refine CtI_mk (cc := cX5_swap) (maxL := 4) (ret := (some .int)) (by decide) rfl (Nat.le_of_ble_eq_true rfl) ?_
  intro p e s m args below meth c ls hx hb hr hlk hml hown hts hP hK hE hl
  have hS : va_S (adA a 36 s.heap.size) s.heap s.heap [] := va_S.rf
  have hl : lv_has ls 4 [(0, .ref (a 4)), (1, .int x1), (2, .int x2)] := hl
  have hown : s.vm.findClass RX5 = some m.cls := hown
  obtain ⟨Q, hQ⟩ : ∃ Q, Q = mqI below D 36 a args s (wX a cI cJ cS par kin lea res.2 wrt tal siz tol hrs ags yea kpar kkin klea kmos kwrt ktal ksiz ktol khrs kags kyea isk tly gai bes low hig spn byt hld sta beh sor num fnd sbi she snu) res.1 := ⟨_, rfl⟩
  rw [← hQ]
  unfold fX5_swap_mos at hres
  refine lv_aload_n hx hb dX5_swap_0 rfl (lv_at hl 0 rfl) ?_
  refine lv_iload_n hx hb dX5_swap_1 rfl (lv_at hl 1 rfl) ?_
  obtain ⟨i2, hres⟩ := gdi hres
  refine lX_mos hx hb hK hP i2 dX5_swap_2 ?_
  refine lv_istore_n (lv' := [(3, .int (mos x1.toNatClampNeg)), (0, .ref (a 4)), (1, .int x1), (2, .int x2)]) hx hb dX5_swap_3 rfl hl (by decide) rfl (fun ls hl => ?_)
  refine lv_aload_n hx hb dX5_swap_4 rfl (lv_at hl 1 rfl) ?_
  refine lv_iload_n hx hb dX5_swap_5 rfl (lv_at hl 2 rfl) ?_
  refine lv_iload_n hx hb dX5_swap_6 rfl (lv_at hl 3 rfl) ?_
  obtain ⟨i7, hres⟩ := gdi hres
  refine sX_mos hx hb hK hP hd hS i7 dX5_swap_7 (fun H locs hP hS => ?_)
  refine lv_iload_n hx hb dX5_swap_8 rfl (lv_at hl 0 rfl) ?_
  exact hQ ▸ rtI (v := mos x1.toNatClampNeg)  hx hb hr hlk hP hS (by rw [← (Option.some.inj hres)]) (by rw [← (Option.some.inj hres)]) dX5_swap_9
def fX5_swap_lea (lea : Nat → Int32) (x1 : Int32) (x2 : Int32) : Option (Int32 × (Nat → Int32)) :=
  gd (ib x1 16) (gd (ib x1 16) (some (lea x1.toNatClampNeg, upd lea x1.toNatClampNeg x2)))
abbrev rX5_swap_lea : Room := { frames := 0, cells := 0, slots := 0, locals := 0 }
set_option maxHeartbeats 4000000 in
set_option maxRecDepth 100000 in
theorem kX5_swap_lea (l : Launch) (D : va_G) (a : Nat → Nat) (cI cJ cS : ClassId) (hd : aok a 36) {Env : (Nat → Prop) → State → Heap → Prop} (hEo : envOK Env) (par : Int32) (kin lea mos wrt : Nat → Int32) (tal : Int32) (siz tol : Nat → Int32) (hrs : Int32) (ags : Nat → Int32) (yea kpar : Int32) (kkin klea kmos kwrt : Nat → Int32) (ktal : Int32) (ksiz ktol : Nat → Int32) (khrs : Int32) (kags : Nat → Int32) (kyea isk : Int32) (tly : Nat → Int64) (gai bes : Nat → Int32) (low hig : Nat → Int64) (spn : Int32) (byt : Nat → Int32) (hld sta beh sor num : Int32) (fnd sbi she : Nat → Int32) (snu : Nat → Nat → Int64) (x1 : Int32) (x2 : Int32) (res : Int32 × (Nat → Int32)) (hres : fX5_swap_lea lea x1 x2 = some res) : CtI l D (tyL cI cJ cS) 36 a Env yX5_swap wsX5_swap rX5_swap_lea [.ref (a 3), .int x1, .int x2] (wX a cI cJ cS par kin lea mos wrt tal siz tol hrs ags yea kpar kkin klea kmos kwrt ktal ksiz ktol khrs kags kyea isk tly gai bes low hig spn byt hld sta beh sor num fnd sbi she snu) (wX a cI cJ cS par kin res.2 mos wrt tal siz tol hrs ags yea kpar kkin klea kmos kwrt ktal ksiz ktol khrs kags kyea isk tly gai bes low hig spn byt hld sta beh sor num fnd sbi she snu) res.1 := by
  refine CtI_mk (cc := cX5_swap) (maxL := 4) (ret := (some .int)) (by decide) rfl (Nat.le_of_ble_eq_true rfl) ?_
  intro p e s m args below meth c ls hx hb hr hlk hml hown hts hP hK hE hl
  have hS : va_S (adA a 36 s.heap.size) s.heap s.heap [] := va_S.rf
  have hl : lv_has ls 4 [(0, .ref (a 3)), (1, .int x1), (2, .int x2)] := hl
  have hown : s.vm.findClass RX5 = some m.cls := hown
  obtain ⟨Q, hQ⟩ : ∃ Q, Q = mqI below D 36 a args s (wX a cI cJ cS par kin res.2 mos wrt tal siz tol hrs ags yea kpar kkin klea kmos kwrt ktal ksiz ktol khrs kags kyea isk tly gai bes low hig spn byt hld sta beh sor num fnd sbi she snu) res.1 := ⟨_, rfl⟩
  rw [← hQ]
  unfold fX5_swap_lea at hres
  refine lv_aload_n hx hb dX5_swap_0 rfl (lv_at hl 0 rfl) ?_
  refine lv_iload_n hx hb dX5_swap_1 rfl (lv_at hl 1 rfl) ?_
  obtain ⟨i2, hres⟩ := gdi hres
  refine lX_lea hx hb hK hP i2 dX5_swap_2 ?_
  refine lv_istore_n (lv' := [(3, .int (lea x1.toNatClampNeg)), (0, .ref (a 3)), (1, .int x1), (2, .int x2)]) hx hb dX5_swap_3 rfl hl (by decide) rfl (fun ls hl => ?_)
  refine lv_aload_n hx hb dX5_swap_4 rfl (lv_at hl 1 rfl) ?_
  refine lv_iload_n hx hb dX5_swap_5 rfl (lv_at hl 2 rfl) ?_
  refine lv_iload_n hx hb dX5_swap_6 rfl (lv_at hl 3 rfl) ?_
  obtain ⟨i7, hres⟩ := gdi hres
  refine sX_lea hx hb hK hP hd hS i7 dX5_swap_7 (fun H locs hP hS => ?_)
  refine lv_iload_n hx hb dX5_swap_8 rfl (lv_at hl 0 rfl) ?_
  exact hQ ▸ rtI (v := lea x1.toNatClampNeg)  hx hb hr hlk hP hS (by rw [← (Option.some.inj hres)]) (by rw [← (Option.some.inj hres)]) dX5_swap_9
def fX5_set (par : Int32) (lea : Nat → Int32) (mos : Nat → Int32) (wrt : Nat → Int32) (fnd : Nat → Int32) (x1 : Int32) (x2 : Int32) (x3 : Int32) : Option (Int32 × (Nat → Int32) × (Nat → Int32) × (Nat → Int32) × (Nat → Int32)) :=
  if (bI (fX3_hasPart par x1)) = 0 then (fX5_found fnd (-1000000001 : Int32)).bind fun q14 => some (q14.1, lea, mos, wrt, q14.2) else if x2 = 1 then gd (ib x1 16) (if (bI (fX5_isIn x3 (1 : Int32) (mos x1.toNatClampNeg))) = 0 then (fX5_found fnd (-1000000001 : Int32)).bind fun q79 => some (q79.1, lea, mos, wrt, q79.2) else (fX5_swap_lea lea x1 x3).bind fun q70 => some (q70.1, q70.2, mos, wrt, fnd)) else if x2 = 2 then gd (ib x1 16) (if (bI (fX5_isIn x3 (lea x1.toNatClampNeg) (12 : Int32))) = 0 then (fX5_found fnd (-1000000001 : Int32)).bind fun q119 => some (q119.1, lea, mos, wrt, q119.2) else (fX5_swap_mos mos x1 x3).bind fun q110 => some (q110.1, lea, q110.2, wrt, fnd)) else if x2 = 3 then if (bI (fX5_isIn x3 (0 : Int32) (9 : Int32))) = 0 then (fX5_found fnd (-1000000001 : Int32)).bind fun q151 => some (q151.1, lea, mos, wrt, q151.2) else (fX5_swap_wrt wrt x1 x3).bind fun q142 => some (q142.1, lea, mos, q142.2, fnd) else (fX5_found fnd (-1000000001 : Int32)).bind fun q158 => some (q158.1, lea, mos, wrt, q158.2)
theorem hdX5_swap : yX5_swap.cls ≠ "java/lang/invoke/MethodHandle" ∧ yX5_swap.cls ≠ "java/lang/invoke/VarHandle" ∧ (parseMethodDescriptor yX5_swap.desc).map (fun d => d.parameters.length) = some 3 := by decide +kernel
abbrev rX5_set : Room := { frames := 2, cells := 0, slots := 0, locals := 44 }
set_option maxHeartbeats 4000000 in
set_option maxRecDepth 100000 in
theorem kX5_set (l : Launch) (D : va_G) (a : Nat → Nat) (cI cJ cS : ClassId) (hd : aok a 36) {Env : (Nat → Prop) → State → Heap → Prop} (hEo : envOK Env) (par : Int32) (kin lea mos wrt : Nat → Int32) (tal : Int32) (siz tol : Nat → Int32) (hrs : Int32) (ags : Nat → Int32) (yea kpar : Int32) (kkin klea kmos kwrt : Nat → Int32) (ktal : Int32) (ksiz ktol : Nat → Int32) (khrs : Int32) (kags : Nat → Int32) (kyea isk : Int32) (tly : Nat → Int64) (gai bes : Nat → Int32) (low hig : Nat → Int64) (spn : Int32) (byt : Nat → Int32) (hld sta beh sor num : Int32) (fnd sbi she : Nat → Int32) (snu : Nat → Nat → Int64) (x1 : Int32) (x2 : Int32) (x3 : Int32) (res : Int32 × (Nat → Int32) × (Nat → Int32) × (Nat → Int32) × (Nat → Int32)) (hres : fX5_set par lea mos wrt fnd x1 x2 x3 = some res) : CtI l D (tyL cI cJ cS) 36 a Env yX5_set wsX5_set rX5_set [.ref (a 0), .int x1, .int x2, .int x3] (wX a cI cJ cS par kin lea mos wrt tal siz tol hrs ags yea kpar kkin klea kmos kwrt ktal ksiz ktol khrs kags kyea isk tly gai bes low hig spn byt hld sta beh sor num fnd sbi she snu) (wX a cI cJ cS par kin res.2.1 res.2.2.1 res.2.2.2.1 tal siz tol hrs ags yea kpar kkin klea kmos kwrt ktal ksiz ktol khrs kags kyea isk tly gai bes low hig spn byt hld sta beh sor num res.2.2.2.2 sbi she snu) res.1 := by
  refine CtI_mk (cc := cX5_set) (maxL := 4) (ret := (some .int)) (by decide) rfl (Nat.le_of_ble_eq_true rfl) ?_
  intro p e s m args below meth c ls hx hb hr hlk hml hown hts hP hK hE hl
  have hS : va_S (adA a 36 s.heap.size) s.heap s.heap [] := va_S.rf
  have hl : lv_has ls 4 [(0, .ref (a 0)), (1, .int x1), (2, .int x2), (3, .int x3)] := hl
  have hown : s.vm.findClass RX5 = some m.cls := hown
  have hw3 : ∀ w ∈ wsX30, w.before args s = true := fun w h => hts w (List.mem_cons_of_mem _ (List.mem_append_right _ h))
  have hw5 : ∀ w ∈ wsX50, w.before args s = true := fun w h => hts w (List.mem_cons_of_mem _ (List.mem_append_left _ (List.mem_append_right _ h)))
  have u1 : (Cond.fieldLink RX5 12 "YearWords" "now" "LYearWords$Stock;").before args s = true := hts _ (List.mem_of_getElem? (i := 1) (by decide +kernel))
  have u2 : (Cond.constant RX5 63 (-1000000001)).before args s = true := hts _ (List.mem_of_getElem? (i := 2) (by decide +kernel))
  have u3 : (Cond.fieldLink RX5 87 "YearWords$Stock" "mosts" "[I").before args s = true := hts _ (List.mem_of_getElem? (i := 3) (by decide +kernel))
  have u4 : (Cond.fieldLink RX5 84 "YearWords$Stock" "leasts" "[I").before args s = true := hts _ (List.mem_of_getElem? (i := 4) (by decide +kernel))
  have u5 : (Cond.fieldLink RX5 90 "YearWords$Stock" "worths" "[I").before args s = true := hts _ (List.mem_of_getElem? (i := 5) (by decide +kernel))
  obtain ⟨Q, hQ⟩ : ∃ Q, Q = mqI below D 36 a args s (wX a cI cJ cS par kin res.2.1 res.2.2.1 res.2.2.2.1 tal siz tol hrs ags yea kpar kkin klea kmos kwrt ktal ksiz ktol khrs kags kyea isk tly gai bes low hig spn byt hld sta beh sor num res.2.2.2.2 sbi she snu) res.1 := ⟨_, rfl⟩
  rw [← hQ]
  unfold fX5_set at hres
  refine lv_aload_n hx hb dX5_set_0 rfl (lv_at hl 0 rfl) ?_
  refine gX_this5_now hx hb hown hw5 hK hP u1 dX5_set_1 ?_
  refine lv_iload_n hx hb dX5_set_4 rfl (lv_at hl 1 rfl) ?_
  refine cvI (q0 := 1) (ci := 3) hx hb hml hown hts hEo hE hK hP hS (kX3_hasPart l D a cI cJ cS hd hEo par kin lea mos wrt tal siz tol hrs ags yea kpar kkin klea kmos kwrt ktal ksiz ktol khrs kags kyea isk tly gai bes low hig spn byt hld sta beh sor num fnd sbi she snu x1) gX5_set_X3_hasPart rfl hdX3_hasPart rfl rfl rfl ⟨rfl, rfl⟩ ⟨Nat.le_of_ble_eq_true rfl, Nat.le_of_ble_eq_true rfl⟩ ⟨Nat.zero_le _, Nat.zero_le _⟩ rfl hl.1 rfl (Nat.le_of_ble_eq_true rfl) dX5_set_5 (fun H locs hP hS => ?_)
  refine lv_if_ne (tgt := 18) hx hb dX5_set_8 (by decide) (fun c8 => ?_) (fun c8 => ?_)
  · have hres := (itl hres).2 c8
    refine lv_iload_n hx hb dX5_set_18 rfl (lv_at hl 2 rfl) ?_
    by_cases v19_0 : x2 = 1
    · have hres := (itl hres).1 v19_0
      refine lv_tableIn (off := 25) (tgt := 44) hx hb dX5_set_19 (by rw [v19_0]; decide) (by rw [v19_0]; decide) (by rw [v19_0]; rfl) (by decide) ?_
      refine lv_iload_n hx hb dX5_set_44 rfl (lv_at hl 3 rfl) ?_
      refine lv_iconst (v := 1) hx hb dX5_set_45 (by decide) ?_
      refine lv_aload_n hx hb dX5_set_46 rfl (lv_at hl 0 rfl) ?_
      refine gX_this5_now hx hb hown hw5 hK hP u1 dX5_set_47 ?_
      refine gX_now_mosts hx hb hown hw3 hK hP u3 dX5_set_50 ?_
      refine lv_iload_n hx hb dX5_set_53 rfl (lv_at hl 1 rfl) ?_
      obtain ⟨i54, hres⟩ := gdi hres
      refine lX_mos hx hb hK hP i54 dX5_set_54 ?_
      refine csI hx hb hml hown hts hEo hE hK hP hS (kX5_isIn l D a cI cJ cS hd hEo par kin lea mos wrt tal siz tol hrs ags yea kpar kkin klea kmos kwrt ktal ksiz ktol khrs kags kyea isk tly gai bes low hig spn byt hld sta beh sor num fnd sbi she snu x3 (1 : Int32) (mos x1.toNatClampNeg)) gX5_set_X5_isIn rfl hdX5_isIn ⟨rfl, rfl⟩ ⟨Nat.le_of_ble_eq_true rfl, Nat.le_of_ble_eq_true rfl⟩ ⟨Nat.zero_le _, Nat.zero_le _⟩ rfl hl.1 rfl (Nat.le_of_ble_eq_true rfl) dX5_set_55 (fun H locs hP hS => ?_)
      refine lv_if_eq (tgt := 76) hx hb dX5_set_58 (by decide) (fun c58 => ?_) (fun c58 => ?_)
      · have hres := (itl hres).1 c58
        refine lv_aload_n hx hb dX5_set_76 rfl (lv_at hl 0 rfl) ?_
        refine lv_ldc hx hb hown u2 dX5_set_77 ?_
        obtain ⟨q79, e79, hres⟩ := obd hres
        refine cvI (q0 := 0) (ci := 5) hx hb hml hown hts hEo hE hK hP hS (kX5_found l D a cI cJ cS hd hEo par kin lea mos wrt tal siz tol hrs ags yea kpar kkin klea kmos kwrt ktal ksiz ktol khrs kags kyea isk tly gai bes low hig spn byt hld sta beh sor num fnd sbi she snu (-1000000001 : Int32) q79 e79) gX5_set_X5_found rfl hdX5_found rfl rfl rfl ⟨rfl, rfl⟩ ⟨Nat.le_of_ble_eq_true rfl, Nat.le_of_ble_eq_true rfl⟩ ⟨Nat.zero_le _, Nat.zero_le _⟩ rfl hl.1 rfl (Nat.le_of_ble_eq_true rfl) dX5_set_79 (fun H locs hP hS => ?_)
        exact hQ ▸ rtI (v := q79.1)  hx hb hr hlk hP hS (by rw [← (Option.some.inj hres)]) (by rw [← (Option.some.inj hres)]) dX5_set_82
      · have hres := (itl hres).2 c58
        refine lv_aload_n hx hb dX5_set_61 rfl (lv_at hl 0 rfl) ?_
        refine gX_this5_now hx hb hown hw5 hK hP u1 dX5_set_62 ?_
        refine gX_now_leasts hx hb hown hw3 hK hP u4 dX5_set_65 ?_
        refine lv_iload_n hx hb dX5_set_68 rfl (lv_at hl 1 rfl) ?_
        refine lv_iload_n hx hb dX5_set_69 rfl (lv_at hl 3 rfl) ?_
        obtain ⟨q70, e70, hres⟩ := obd hres
        refine csI hx hb hml hown hts hEo hE hK hP hS (kX5_swap_lea l D a cI cJ cS hd hEo par kin lea mos wrt tal siz tol hrs ags yea kpar kkin klea kmos kwrt ktal ksiz ktol khrs kags kyea isk tly gai bes low hig spn byt hld sta beh sor num fnd sbi she snu x1 x3 q70 e70) gX5_set_X5_swap rfl hdX5_swap ⟨rfl, rfl⟩ ⟨Nat.le_of_ble_eq_true rfl, Nat.le_of_ble_eq_true rfl⟩ ⟨Nat.zero_le _, Nat.zero_le _⟩ rfl hl.1 rfl (Nat.le_of_ble_eq_true rfl) dX5_set_70 (fun H locs hP hS => ?_)
        refine lv_goto (tgt := 82) hx hb dX5_set_73 (by decide) ?_
        exact hQ ▸ rtI (v := q70.1)  hx hb hr hlk hP hS (by rw [← (Option.some.inj hres)]) (by rw [← (Option.some.inj hres)]) dX5_set_82
    · have hres := (itl hres).2 v19_0
      by_cases v19_1 : x2 = 2
      · have hres := (itl hres).1 v19_1
        refine lv_tableIn (off := 64) (tgt := 83) hx hb dX5_set_19 (by rw [v19_1]; decide) (by rw [v19_1]; decide) (by rw [v19_1]; rfl) (by decide) ?_
        refine lv_iload_n hx hb dX5_set_83 rfl (lv_at hl 3 rfl) ?_
        refine lv_aload_n hx hb dX5_set_84 rfl (lv_at hl 0 rfl) ?_
        refine gX_this5_now hx hb hown hw5 hK hP u1 dX5_set_85 ?_
        refine gX_now_leasts hx hb hown hw3 hK hP u4 dX5_set_88 ?_
        refine lv_iload_n hx hb dX5_set_91 rfl (lv_at hl 1 rfl) ?_
        obtain ⟨i92, hres⟩ := gdi hres
        refine lX_lea hx hb hK hP i92 dX5_set_92 ?_
        refine lv_bipush (v := 12) hx hb dX5_set_93 (by decide) ?_
        refine csI hx hb hml hown hts hEo hE hK hP hS (kX5_isIn l D a cI cJ cS hd hEo par kin lea mos wrt tal siz tol hrs ags yea kpar kkin klea kmos kwrt ktal ksiz ktol khrs kags kyea isk tly gai bes low hig spn byt hld sta beh sor num fnd sbi she snu x3 (lea x1.toNatClampNeg) (12 : Int32)) gX5_set_X5_isIn rfl hdX5_isIn ⟨rfl, rfl⟩ ⟨Nat.le_of_ble_eq_true rfl, Nat.le_of_ble_eq_true rfl⟩ ⟨Nat.zero_le _, Nat.zero_le _⟩ rfl hl.1 rfl (Nat.le_of_ble_eq_true rfl) dX5_set_95 (fun H locs hP hS => ?_)
        refine lv_if_eq (tgt := 116) hx hb dX5_set_98 (by decide) (fun c98 => ?_) (fun c98 => ?_)
        · have hres := (itl hres).1 c98
          refine lv_aload_n hx hb dX5_set_116 rfl (lv_at hl 0 rfl) ?_
          refine lv_ldc hx hb hown u2 dX5_set_117 ?_
          obtain ⟨q119, e119, hres⟩ := obd hres
          refine cvI (q0 := 0) (ci := 5) hx hb hml hown hts hEo hE hK hP hS (kX5_found l D a cI cJ cS hd hEo par kin lea mos wrt tal siz tol hrs ags yea kpar kkin klea kmos kwrt ktal ksiz ktol khrs kags kyea isk tly gai bes low hig spn byt hld sta beh sor num fnd sbi she snu (-1000000001 : Int32) q119 e119) gX5_set_X5_found rfl hdX5_found rfl rfl rfl ⟨rfl, rfl⟩ ⟨Nat.le_of_ble_eq_true rfl, Nat.le_of_ble_eq_true rfl⟩ ⟨Nat.zero_le _, Nat.zero_le _⟩ rfl hl.1 rfl (Nat.le_of_ble_eq_true rfl) dX5_set_119 (fun H locs hP hS => ?_)
          exact hQ ▸ rtI (v := q119.1)  hx hb hr hlk hP hS (by rw [← (Option.some.inj hres)]) (by rw [← (Option.some.inj hres)]) dX5_set_122
        · have hres := (itl hres).2 c98
          refine lv_aload_n hx hb dX5_set_101 rfl (lv_at hl 0 rfl) ?_
          refine gX_this5_now hx hb hown hw5 hK hP u1 dX5_set_102 ?_
          refine gX_now_mosts hx hb hown hw3 hK hP u3 dX5_set_105 ?_
          refine lv_iload_n hx hb dX5_set_108 rfl (lv_at hl 1 rfl) ?_
          refine lv_iload_n hx hb dX5_set_109 rfl (lv_at hl 3 rfl) ?_
          obtain ⟨q110, e110, hres⟩ := obd hres
          refine csI hx hb hml hown hts hEo hE hK hP hS (kX5_swap_mos l D a cI cJ cS hd hEo par kin lea mos wrt tal siz tol hrs ags yea kpar kkin klea kmos kwrt ktal ksiz ktol khrs kags kyea isk tly gai bes low hig spn byt hld sta beh sor num fnd sbi she snu x1 x3 q110 e110) gX5_set_X5_swap rfl hdX5_swap ⟨rfl, rfl⟩ ⟨Nat.le_of_ble_eq_true rfl, Nat.le_of_ble_eq_true rfl⟩ ⟨Nat.zero_le _, Nat.zero_le _⟩ rfl hl.1 rfl (Nat.le_of_ble_eq_true rfl) dX5_set_110 (fun H locs hP hS => ?_)
          refine lv_goto (tgt := 122) hx hb dX5_set_113 (by decide) ?_
          exact hQ ▸ rtI (v := q110.1)  hx hb hr hlk hP hS (by rw [← (Option.some.inj hres)]) (by rw [← (Option.some.inj hres)]) dX5_set_122
      · have hres := (itl hres).2 v19_1
        by_cases v19_2 : x2 = 3
        · have hres := (itl hres).1 v19_2
          refine lv_tableIn (off := 104) (tgt := 123) hx hb dX5_set_19 (by rw [v19_2]; decide) (by rw [v19_2]; decide) (by rw [v19_2]; rfl) (by decide) ?_
          refine lv_iload_n hx hb dX5_set_123 rfl (lv_at hl 3 rfl) ?_
          refine lv_iconst (v := 0) hx hb dX5_set_124 (by decide) ?_
          refine lv_bipush (v := 9) hx hb dX5_set_125 (by decide) ?_
          refine csI hx hb hml hown hts hEo hE hK hP hS (kX5_isIn l D a cI cJ cS hd hEo par kin lea mos wrt tal siz tol hrs ags yea kpar kkin klea kmos kwrt ktal ksiz ktol khrs kags kyea isk tly gai bes low hig spn byt hld sta beh sor num fnd sbi she snu x3 (0 : Int32) (9 : Int32)) gX5_set_X5_isIn rfl hdX5_isIn ⟨rfl, rfl⟩ ⟨Nat.le_of_ble_eq_true rfl, Nat.le_of_ble_eq_true rfl⟩ ⟨Nat.zero_le _, Nat.zero_le _⟩ rfl hl.1 rfl (Nat.le_of_ble_eq_true rfl) dX5_set_127 (fun H locs hP hS => ?_)
          refine lv_if_eq (tgt := 148) hx hb dX5_set_130 (by decide) (fun c130 => ?_) (fun c130 => ?_)
          · have hres := (itl hres).1 c130
            refine lv_aload_n hx hb dX5_set_148 rfl (lv_at hl 0 rfl) ?_
            refine lv_ldc hx hb hown u2 dX5_set_149 ?_
            obtain ⟨q151, e151, hres⟩ := obd hres
            refine cvI (q0 := 0) (ci := 5) hx hb hml hown hts hEo hE hK hP hS (kX5_found l D a cI cJ cS hd hEo par kin lea mos wrt tal siz tol hrs ags yea kpar kkin klea kmos kwrt ktal ksiz ktol khrs kags kyea isk tly gai bes low hig spn byt hld sta beh sor num fnd sbi she snu (-1000000001 : Int32) q151 e151) gX5_set_X5_found rfl hdX5_found rfl rfl rfl ⟨rfl, rfl⟩ ⟨Nat.le_of_ble_eq_true rfl, Nat.le_of_ble_eq_true rfl⟩ ⟨Nat.zero_le _, Nat.zero_le _⟩ rfl hl.1 rfl (Nat.le_of_ble_eq_true rfl) dX5_set_151 (fun H locs hP hS => ?_)
            exact hQ ▸ rtI (v := q151.1)  hx hb hr hlk hP hS (by rw [← (Option.some.inj hres)]) (by rw [← (Option.some.inj hres)]) dX5_set_154
          · have hres := (itl hres).2 c130
            refine lv_aload_n hx hb dX5_set_133 rfl (lv_at hl 0 rfl) ?_
            refine gX_this5_now hx hb hown hw5 hK hP u1 dX5_set_134 ?_
            refine gX_now_worths hx hb hown hw3 hK hP u5 dX5_set_137 ?_
            refine lv_iload_n hx hb dX5_set_140 rfl (lv_at hl 1 rfl) ?_
            refine lv_iload_n hx hb dX5_set_141 rfl (lv_at hl 3 rfl) ?_
            obtain ⟨q142, e142, hres⟩ := obd hres
            refine csI hx hb hml hown hts hEo hE hK hP hS (kX5_swap_wrt l D a cI cJ cS hd hEo par kin lea mos wrt tal siz tol hrs ags yea kpar kkin klea kmos kwrt ktal ksiz ktol khrs kags kyea isk tly gai bes low hig spn byt hld sta beh sor num fnd sbi she snu x1 x3 q142 e142) gX5_set_X5_swap rfl hdX5_swap ⟨rfl, rfl⟩ ⟨Nat.le_of_ble_eq_true rfl, Nat.le_of_ble_eq_true rfl⟩ ⟨Nat.zero_le _, Nat.zero_le _⟩ rfl hl.1 rfl (Nat.le_of_ble_eq_true rfl) dX5_set_142 (fun H locs hP hS => ?_)
            refine lv_goto (tgt := 154) hx hb dX5_set_145 (by decide) ?_
            exact hQ ▸ rtI (v := q142.1)  hx hb hr hlk hP hS (by rw [← (Option.some.inj hres)]) (by rw [← (Option.some.inj hres)]) dX5_set_154
        · have hres := (itl hres).2 v19_2
          refine lv_tableOut (tgt := 155) hx hb dX5_set_19 (sw13 v19_0 v19_1 v19_2) (by decide) ?_
          refine lv_aload_n hx hb dX5_set_155 rfl (lv_at hl 0 rfl) ?_
          refine lv_ldc hx hb hown u2 dX5_set_156 ?_
          obtain ⟨q158, e158, hres⟩ := obd hres
          refine cvI (q0 := 0) (ci := 5) hx hb hml hown hts hEo hE hK hP hS (kX5_found l D a cI cJ cS hd hEo par kin lea mos wrt tal siz tol hrs ags yea kpar kkin klea kmos kwrt ktal ksiz ktol khrs kags kyea isk tly gai bes low hig spn byt hld sta beh sor num fnd sbi she snu (-1000000001 : Int32) q158 e158) gX5_set_X5_found rfl hdX5_found rfl rfl rfl ⟨rfl, rfl⟩ ⟨Nat.le_of_ble_eq_true rfl, Nat.le_of_ble_eq_true rfl⟩ ⟨Nat.zero_le _, Nat.zero_le _⟩ rfl hl.1 rfl (Nat.le_of_ble_eq_true rfl) dX5_set_158 (fun H locs hP hS => ?_)
          exact hQ ▸ rtI (v := q158.1)  hx hb hr hlk hP hS (by rw [← (Option.some.inj hres)]) (by rw [← (Option.some.inj hres)]) dX5_set_161
  · have hres := (itl hres).1 c8
    refine lv_aload_n hx hb dX5_set_11 rfl (lv_at hl 0 rfl) ?_
    refine lv_ldc hx hb hown u2 dX5_set_12 ?_
    obtain ⟨q14, e14, hres⟩ := obd hres
    refine cvI (q0 := 0) (ci := 5) hx hb hml hown hts hEo hE hK hP hS (kX5_found l D a cI cJ cS hd hEo par kin lea mos wrt tal siz tol hrs ags yea kpar kkin klea kmos kwrt ktal ksiz ktol khrs kags kyea isk tly gai bes low hig spn byt hld sta beh sor num fnd sbi she snu (-1000000001 : Int32) q14 e14) gX5_set_X5_found rfl hdX5_found rfl rfl rfl ⟨rfl, rfl⟩ ⟨Nat.le_of_ble_eq_true rfl, Nat.le_of_ble_eq_true rfl⟩ ⟨Nat.zero_le _, Nat.zero_le _⟩ rfl hl.1 rfl (Nat.le_of_ble_eq_true rfl) dX5_set_14 (fun H locs hP hS => ?_)
    exact hQ ▸ rtI (v := q14.1)  hx hb hr hlk hP hS (by rw [← (Option.some.inj hres)]) (by rw [← (Option.some.inj hres)]) dX5_set_17
def fX5_swap_kin (kin : Nat → Int32) (x1 : Int32) (x2 : Int32) : Option (Int32 × (Nat → Int32)) :=
  gd (ib x1 16) (gd (ib x1 16) (some (kin x1.toNatClampNeg, upd kin x1.toNatClampNeg x2)))
abbrev rX5_swap_kin : Room := { frames := 0, cells := 0, slots := 0, locals := 0 }
set_option maxHeartbeats 4000000 in
set_option maxRecDepth 100000 in
theorem kX5_swap_kin (l : Launch) (D : va_G) (a : Nat → Nat) (cI cJ cS : ClassId) (hd : aok a 36) {Env : (Nat → Prop) → State → Heap → Prop} (hEo : envOK Env) (par : Int32) (kin lea mos wrt : Nat → Int32) (tal : Int32) (siz tol : Nat → Int32) (hrs : Int32) (ags : Nat → Int32) (yea kpar : Int32) (kkin klea kmos kwrt : Nat → Int32) (ktal : Int32) (ksiz ktol : Nat → Int32) (khrs : Int32) (kags : Nat → Int32) (kyea isk : Int32) (tly : Nat → Int64) (gai bes : Nat → Int32) (low hig : Nat → Int64) (spn : Int32) (byt : Nat → Int32) (hld sta beh sor num : Int32) (fnd sbi she : Nat → Int32) (snu : Nat → Nat → Int64) (x1 : Int32) (x2 : Int32) (res : Int32 × (Nat → Int32)) (hres : fX5_swap_kin kin x1 x2 = some res) : CtI l D (tyL cI cJ cS) 36 a Env yX5_swap wsX5_swap rX5_swap_kin [.ref (a 2), .int x1, .int x2] (wX a cI cJ cS par kin lea mos wrt tal siz tol hrs ags yea kpar kkin klea kmos kwrt ktal ksiz ktol khrs kags kyea isk tly gai bes low hig spn byt hld sta beh sor num fnd sbi she snu) (wX a cI cJ cS par res.2 lea mos wrt tal siz tol hrs ags yea kpar kkin klea kmos kwrt ktal ksiz ktol khrs kags kyea isk tly gai bes low hig spn byt hld sta beh sor num fnd sbi she snu) res.1 := by
  refine CtI_mk (cc := cX5_swap) (maxL := 4) (ret := (some .int)) (by decide) rfl (Nat.le_of_ble_eq_true rfl) ?_
  intro p e s m args below meth c ls hx hb hr hlk hml hown hts hP hK hE hl
  have hS : va_S (adA a 36 s.heap.size) s.heap s.heap [] := va_S.rf
  have hl : lv_has ls 4 [(0, .ref (a 2)), (1, .int x1), (2, .int x2)] := hl
  have hown : s.vm.findClass RX5 = some m.cls := hown
  obtain ⟨Q, hQ⟩ : ∃ Q, Q = mqI below D 36 a args s (wX a cI cJ cS par res.2 lea mos wrt tal siz tol hrs ags yea kpar kkin klea kmos kwrt ktal ksiz ktol khrs kags kyea isk tly gai bes low hig spn byt hld sta beh sor num fnd sbi she snu) res.1 := ⟨_, rfl⟩
  rw [← hQ]
  unfold fX5_swap_kin at hres
  refine lv_aload_n hx hb dX5_swap_0 rfl (lv_at hl 0 rfl) ?_
  refine lv_iload_n hx hb dX5_swap_1 rfl (lv_at hl 1 rfl) ?_
  obtain ⟨i2, hres⟩ := gdi hres
  refine lX_kin hx hb hK hP i2 dX5_swap_2 ?_
  refine lv_istore_n (lv' := [(3, .int (kin x1.toNatClampNeg)), (0, .ref (a 2)), (1, .int x1), (2, .int x2)]) hx hb dX5_swap_3 rfl hl (by decide) rfl (fun ls hl => ?_)
  refine lv_aload_n hx hb dX5_swap_4 rfl (lv_at hl 1 rfl) ?_
  refine lv_iload_n hx hb dX5_swap_5 rfl (lv_at hl 2 rfl) ?_
  refine lv_iload_n hx hb dX5_swap_6 rfl (lv_at hl 3 rfl) ?_
  obtain ⟨i7, hres⟩ := gdi hres
  refine sX_kin hx hb hK hP hd hS i7 dX5_swap_7 (fun H locs hP hS => ?_)
  refine lv_iload_n hx hb dX5_swap_8 rfl (lv_at hl 0 rfl) ?_
  exact hQ ▸ rtI (v := kin x1.toNatClampNeg)  hx hb hr hlk hP hS (by rw [← (Option.some.inj hres)]) (by rw [← (Option.some.inj hres)]) dX5_swap_9
def fX5_turn_b20 (kin : Nat → Int32) (fnd : Nat → Int32) : Option (Int32 × (Nat → Int32) × (Nat → Int32)) :=
 (fX5_found fnd (-1000000001 : Int32)).bind fun q23 => some (q23.1, kin, q23.2)
def fX5_turn (par : Int32) (kin : Nat → Int32) (fnd : Nat → Int32) (x1 : Int32) (x2 : Int32) : Option (Int32 × (Nat → Int32) × (Nat → Int32)) :=
  if (bI (fX3_hasPart par x1)) = 0 then fX5_turn_b20 kin fnd else if (bI (fX5_isIn x2 (0 : Int32) (5 : Int32))) = 0 then fX5_turn_b20 kin fnd else (fX5_swap_kin kin x1 x2).bind fun q36 => some (q36.1, q36.2, fnd)
abbrev rX5_turn : Room := { frames := 2, cells := 0, slots := 0, locals := 44 }
set_option maxHeartbeats 4000000 in
set_option maxRecDepth 100000 in
theorem kX5_turn (l : Launch) (D : va_G) (a : Nat → Nat) (cI cJ cS : ClassId) (hd : aok a 36) {Env : (Nat → Prop) → State → Heap → Prop} (hEo : envOK Env) (par : Int32) (kin lea mos wrt : Nat → Int32) (tal : Int32) (siz tol : Nat → Int32) (hrs : Int32) (ags : Nat → Int32) (yea kpar : Int32) (kkin klea kmos kwrt : Nat → Int32) (ktal : Int32) (ksiz ktol : Nat → Int32) (khrs : Int32) (kags : Nat → Int32) (kyea isk : Int32) (tly : Nat → Int64) (gai bes : Nat → Int32) (low hig : Nat → Int64) (spn : Int32) (byt : Nat → Int32) (hld sta beh sor num : Int32) (fnd sbi she : Nat → Int32) (snu : Nat → Nat → Int64) (x1 : Int32) (x2 : Int32) (res : Int32 × (Nat → Int32) × (Nat → Int32)) (hres : fX5_turn par kin fnd x1 x2 = some res) : CtI l D (tyL cI cJ cS) 36 a Env yX5_turn wsX5_turn rX5_turn [.ref (a 0), .int x1, .int x2] (wX a cI cJ cS par kin lea mos wrt tal siz tol hrs ags yea kpar kkin klea kmos kwrt ktal ksiz ktol khrs kags kyea isk tly gai bes low hig spn byt hld sta beh sor num fnd sbi she snu) (wX a cI cJ cS par res.2.1 lea mos wrt tal siz tol hrs ags yea kpar kkin klea kmos kwrt ktal ksiz ktol khrs kags kyea isk tly gai bes low hig spn byt hld sta beh sor num res.2.2 sbi she snu) res.1 := by
  refine CtI_mk (cc := cX5_turn) (maxL := 3) (ret := (some .int)) (by decide) rfl (Nat.le_of_ble_eq_true rfl) ?_
  intro p e s m args below meth c ls hx hb hr hlk hml hown hts hP hK hE hl
  have hS : va_S (adA a 36 s.heap.size) s.heap s.heap [] := va_S.rf
  have hl : lv_has ls 3 [(0, .ref (a 0)), (1, .int x1), (2, .int x2)] := hl
  have hown : s.vm.findClass RX5 = some m.cls := hown
  have hw3 : ∀ w ∈ wsX30, w.before args s = true := fun w h => hts w (List.mem_cons_of_mem _ (List.mem_append_right _ h))
  have hw5 : ∀ w ∈ wsX50, w.before args s = true := fun w h => hts w (List.mem_cons_of_mem _ (List.mem_append_left _ (List.mem_append_right _ h)))
  have u1 : (Cond.fieldLink RX5 12 "YearWords" "now" "LYearWords$Stock;").before args s = true := hts _ (List.mem_of_getElem? (i := 1) (by decide +kernel))
  have u2 : (Cond.constant RX5 63 (-1000000001)).before args s = true := hts _ (List.mem_of_getElem? (i := 2) (by decide +kernel))
  have u3 : (Cond.fieldLink RX5 81 "YearWords$Stock" "kinds" "[I").before args s = true := hts _ (List.mem_of_getElem? (i := 3) (by decide +kernel))
  obtain ⟨Q, hQ⟩ : ∃ Q, Q = mqI below D 36 a args s (wX a cI cJ cS par res.2.1 lea mos wrt tal siz tol hrs ags yea kpar kkin klea kmos kwrt ktal ksiz ktol khrs kags kyea isk tly gai bes low hig spn byt hld sta beh sor num res.2.2 sbi she snu) res.1 := ⟨_, rfl⟩
  rw [← hQ]
  have b20 : ∀ (kin : Nat → Int32) (fnd : Nat → Int32), fX5_turn_b20 kin fnd = some res → ∀ (H : Heap) (locs : List Loc) (ls : Array Slot), va_P D vwCl (wX a cI cJ cS par kin lea mos wrt tal siz tol hrs ags yea kpar kkin klea kmos kwrt ktal ksiz ktol khrs kags kyea isk tly gai bes low hig spn byt hld sta beh sor num fnd sbi she snu) H → va_S (adA a 36 s.heap.size) s.heap H locs → lv_has ls 3 [(0, .ref (a 0))] → W p l e rX5_turn s m args below meth c H locs 0 0 Q (F0 m 20 ls []) := by
    intro kin fnd hres H locs ls hP hS hl
    unfold fX5_turn_b20 at hres
    refine lv_aload_n hx hb dX5_turn_20 rfl (lv_at hl 0 rfl) ?_
    refine lv_ldc hx hb hown u2 dX5_turn_21 ?_
    obtain ⟨q23, e23, hres⟩ := obd hres
    refine cvI (q0 := 0) (ci := 5) hx hb hml hown hts hEo hE hK hP hS (kX5_found l D a cI cJ cS hd hEo par kin lea mos wrt tal siz tol hrs ags yea kpar kkin klea kmos kwrt ktal ksiz ktol khrs kags kyea isk tly gai bes low hig spn byt hld sta beh sor num fnd sbi she snu (-1000000001 : Int32) q23 e23) gX5_turn_X5_found rfl hdX5_found rfl rfl rfl ⟨rfl, rfl⟩ ⟨Nat.le_of_ble_eq_true rfl, Nat.le_of_ble_eq_true rfl⟩ ⟨Nat.zero_le _, Nat.zero_le _⟩ rfl hl.1 rfl (Nat.le_of_ble_eq_true rfl) dX5_turn_23 (fun H locs hP hS => ?_)
    exact hQ ▸ rtI (v := q23.1)  hx hb hr hlk hP hS (by rw [← (Option.some.inj hres)]) (by rw [← (Option.some.inj hres)]) dX5_turn_26
  unfold fX5_turn at hres
  refine lv_aload_n hx hb dX5_turn_0 rfl (lv_at hl 0 rfl) ?_
  refine gX_this5_now hx hb hown hw5 hK hP u1 dX5_turn_1 ?_
  refine lv_iload_n hx hb dX5_turn_4 rfl (lv_at hl 1 rfl) ?_
  refine cvI (q0 := 1) (ci := 3) hx hb hml hown hts hEo hE hK hP hS (kX3_hasPart l D a cI cJ cS hd hEo par kin lea mos wrt tal siz tol hrs ags yea kpar kkin klea kmos kwrt ktal ksiz ktol khrs kags kyea isk tly gai bes low hig spn byt hld sta beh sor num fnd sbi she snu x1) gX5_turn_X3_hasPart rfl hdX3_hasPart rfl rfl rfl ⟨rfl, rfl⟩ ⟨Nat.le_of_ble_eq_true rfl, Nat.le_of_ble_eq_true rfl⟩ ⟨Nat.zero_le _, Nat.zero_le _⟩ rfl hl.1 rfl (Nat.le_of_ble_eq_true rfl) dX5_turn_5 (fun H locs hP hS => ?_)
  refine lv_if_eq (tgt := 20) hx hb dX5_turn_8 (by decide) (fun c8 => ?_) (fun c8 => ?_)
  · have hres := (itl hres).1 c8
    exact b20 kin fnd hres _ _ _ hP hS (lv_sub hl [0] rfl)
  · have hres := (itl hres).2 c8
    refine lv_iload_n hx hb dX5_turn_11 rfl (lv_at hl 2 rfl) ?_
    refine lv_iconst (v := 0) hx hb dX5_turn_12 (by decide) ?_
    refine lv_iconst (v := 5) hx hb dX5_turn_13 (by decide) ?_
    refine csI hx hb hml hown hts hEo hE hK hP hS (kX5_isIn l D a cI cJ cS hd hEo par kin lea mos wrt tal siz tol hrs ags yea kpar kkin klea kmos kwrt ktal ksiz ktol khrs kags kyea isk tly gai bes low hig spn byt hld sta beh sor num fnd sbi she snu x2 (0 : Int32) (5 : Int32)) gX5_turn_X5_isIn rfl hdX5_isIn ⟨rfl, rfl⟩ ⟨Nat.le_of_ble_eq_true rfl, Nat.le_of_ble_eq_true rfl⟩ ⟨Nat.zero_le _, Nat.zero_le _⟩ rfl hl.1 rfl (Nat.le_of_ble_eq_true rfl) dX5_turn_14 (fun H locs hP hS => ?_)
    refine lv_if_ne (tgt := 27) hx hb dX5_turn_17 (by decide) (fun c17 => ?_) (fun c17 => ?_)
    · have hres := (itl hres).2 c17
      refine lv_aload_n hx hb dX5_turn_27 rfl (lv_at hl 0 rfl) ?_
      refine gX_this5_now hx hb hown hw5 hK hP u1 dX5_turn_28 ?_
      refine gX_now_kinds hx hb hown hw3 hK hP u3 dX5_turn_31 ?_
      refine lv_iload_n hx hb dX5_turn_34 rfl (lv_at hl 1 rfl) ?_
      refine lv_iload_n hx hb dX5_turn_35 rfl (lv_at hl 2 rfl) ?_
      obtain ⟨q36, e36, hres⟩ := obd hres
      refine csI hx hb hml hown hts hEo hE hK hP hS (kX5_swap_kin l D a cI cJ cS hd hEo par kin lea mos wrt tal siz tol hrs ags yea kpar kkin klea kmos kwrt ktal ksiz ktol khrs kags kyea isk tly gai bes low hig spn byt hld sta beh sor num fnd sbi she snu x1 x2 q36 e36) gX5_turn_X5_swap rfl hdX5_swap ⟨rfl, rfl⟩ ⟨Nat.le_of_ble_eq_true rfl, Nat.le_of_ble_eq_true rfl⟩ ⟨Nat.zero_le _, Nat.zero_le _⟩ rfl hl.1 rfl (Nat.le_of_ble_eq_true rfl) dX5_turn_36 (fun H locs hP hS => ?_)
      exact hQ ▸ rtI (v := q36.1)  hx hb hr hlk hP hS (by rw [← (Option.some.inj hres)]) (by rw [← (Option.some.inj hres)]) dX5_turn_39
    · have hres := (itl hres).1 c17
      exact b20 kin fnd hres _ _ _ hP hS (lv_sub hl [0] rfl)
