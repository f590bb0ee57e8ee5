def fX6_nth (sv : Nat → Int32) (x1 : Int32) (x2 : Int32) : Option (Int32) :=
  gd (ib ((((68 : Int32) + ((11 : Int32) * x1)) + (1 : Int32)) + x2) 166) (some (sv ((((68 : Int32) + ((11 : Int32) * x1)) + (1 : Int32)) + x2).toNatClampNeg))
abbrev rX6_nth : Room := { frames := 0, cells := 0, slots := 0, locals := 0 }
set_option maxHeartbeats 4000000 in
set_option maxRecDepth 100000 in
theorem kX6_nth (l : Launch) (D : va_G) (a : Nat → Nat) (cI cJ cS : ClassId) (hd : aok a 16) {Env : (Nat → Prop) → State → Heap → Prop} (hEo : envOK Env) (sv kep bef : Nat → Int32) (isk : Int32) (fnd : Nat → Int32) (man nex : Nat → Int64) (wor sng hea lat tap : Nat → Int32) (tpd her flt vlu : Int32) (bit lon : Nat → Int32) (cel btw : Nat → Int64) (x1 : Int32) (x2 : Int32) (res : Int32) (hres : fX6_nth sv x1 x2 = some res) : CtI l D (tyL cI cJ cS) 16 a Env yX6_nth wsX6_nth rX6_nth [.ref (a 0), .int x1, .int x2] (wM a cI cJ cS sv kep bef isk fnd man nex wor sng hea lat tap tpd her flt vlu bit lon cel btw) (wM a cI cJ cS sv kep bef isk fnd man nex wor sng hea lat tap tpd her flt vlu bit lon cel btw) res := by
  refine CtI_mk (cc := cX6_nth) (maxL := 3) (ret := (some .int)) (by decide) rfl (Nat.le_of_ble_eq_true rfl) ?_
  intro p e s m args below meth c ls hx hb hr hlk hml hown hts hP hK hE hl
  have hS : va_S (adA a 16 s.heap.size) s.heap s.heap [] := va_S.rf
  have hl : lv_has ls 3 [(0, .ref (a 0)), (1, .int x1), (2, .int x2)] := hl
  have hown : s.vm.findClass RX6 = some m.cls := hown
  have hw6 : ∀ w ∈ wsX60, w.before args s = true := fun w h => hts w (List.mem_cons_of_mem _ (List.mem_append_right _ h))
  have u1 : (Cond.fieldLink RX6 9 "YearWordsModel" "s" "[I").before args s = true := hts _ (List.mem_of_getElem? (i := 1) (by decide +kernel))
  obtain ⟨Q, hQ⟩ : ∃ Q, Q = mqI below D 16 a args s (wM a cI cJ cS sv kep bef isk fnd man nex wor sng hea lat tap tpd her flt vlu bit lon cel btw) res := ⟨_, rfl⟩
  rw [← hQ]
  unfold fX6_nth at hres
  refine lv_aload_n hx hb dX6_nth_0 rfl (lv_at hl 0 rfl) ?_
  refine gM_this6_s hx hb hown hw6 hK hP u1 dX6_nth_1 ?_
  refine lv_bipush (v := 68) hx hb dX6_nth_4 (by decide) ?_
  refine lv_bipush (v := 11) hx hb dX6_nth_6 (by decide) ?_
  refine lv_iload_n hx hb dX6_nth_8 rfl (lv_at hl 1 rfl) ?_
  refine lv_imul hx hb dX6_nth_9 ?_
  refine lv_iadd hx hb dX6_nth_10 ?_
  refine lv_iconst (v := 1) hx hb dX6_nth_11 (by decide) ?_
  refine lv_iadd hx hb dX6_nth_12 ?_
  refine lv_iload_n hx hb dX6_nth_13 rfl (lv_at hl 2 rfl) ?_
  refine lv_iadd hx hb dX6_nth_14 ?_
  obtain ⟨i15, hres⟩ := gdi hres
  refine lM_sv hx hb hK hP i15 dX6_nth_15 ?_
  exact hQ ▸ rtI (v := sv ((((68 : Int32) + ((11 : Int32) * x1)) + (1 : Int32)) + x2).toNatClampNeg)  hx hb hr hlk hP hS (by rw [← (Option.some.inj hres)]) rfl dX6_nth_16
def fX6_has (sv : Nat → Int32) (x1 : Int32) (x2 : Int32) : Option (Int32) :=
  gd (ib (((4 : Int32) + ((4 : Int32) * x1)) + x2) 166) (some (sv (((4 : Int32) + ((4 : Int32) * x1)) + x2).toNatClampNeg))
abbrev rX6_has : Room := { frames := 0, cells := 0, slots := 0, locals := 0 }
set_option maxHeartbeats 4000000 in
set_option maxRecDepth 100000 in
theorem kX6_has (l : Launch) (D : va_G) (a : Nat → Nat) (cI cJ cS : ClassId) (hd : aok a 16) {Env : (Nat → Prop) → State → Heap → Prop} (hEo : envOK Env) (sv kep bef : Nat → Int32) (isk : Int32) (fnd : Nat → Int32) (man nex : Nat → Int64) (wor sng hea lat tap : Nat → Int32) (tpd her flt vlu : Int32) (bit lon : Nat → Int32) (cel btw : Nat → Int64) (x1 : Int32) (x2 : Int32) (res : Int32) (hres : fX6_has sv x1 x2 = some res) : CtI l D (tyL cI cJ cS) 16 a Env yX6_has wsX6_has rX6_has [.ref (a 0), .int x1, .int x2] (wM a cI cJ cS sv kep bef isk fnd man nex wor sng hea lat tap tpd her flt vlu bit lon cel btw) (wM a cI cJ cS sv kep bef isk fnd man nex wor sng hea lat tap tpd her flt vlu bit lon cel btw) res := by
  refine CtI_mk (cc := cX6_has) (maxL := 3) (ret := (some .int)) (by decide) rfl (Nat.le_of_ble_eq_true rfl) ?_
  intro p e s m args below meth c ls hx hb hr hlk hml hown hts hP hK hE hl
  have hS : va_S (adA a 16 s.heap.size) s.heap s.heap [] := va_S.rf
  have hl : lv_has ls 3 [(0, .ref (a 0)), (1, .int x1), (2, .int x2)] := hl
  have hown : s.vm.findClass RX6 = some m.cls := hown
  have hw6 : ∀ w ∈ wsX60, w.before args s = true := fun w h => hts w (List.mem_cons_of_mem _ (List.mem_append_right _ h))
  have u1 : (Cond.fieldLink RX6 9 "YearWordsModel" "s" "[I").before args s = true := hts _ (List.mem_of_getElem? (i := 1) (by decide +kernel))
  obtain ⟨Q, hQ⟩ : ∃ Q, Q = mqI below D 16 a args s (wM a cI cJ cS sv kep bef isk fnd man nex wor sng hea lat tap tpd her flt vlu bit lon cel btw) res := ⟨_, rfl⟩
  rw [← hQ]
  unfold fX6_has at hres
  refine lv_aload_n hx hb dX6_has_0 rfl (lv_at hl 0 rfl) ?_
  refine gM_this6_s hx hb hown hw6 hK hP u1 dX6_has_1 ?_
  refine lv_iconst (v := 4) hx hb dX6_has_4 (by decide) ?_
  refine lv_iconst (v := 4) hx hb dX6_has_5 (by decide) ?_
  refine lv_iload_n hx hb dX6_has_6 rfl (lv_at hl 1 rfl) ?_
  refine lv_imul hx hb dX6_has_7 ?_
  refine lv_iadd hx hb dX6_has_8 ?_
  refine lv_iload_n hx hb dX6_has_9 rfl (lv_at hl 2 rfl) ?_
  refine lv_iadd hx hb dX6_has_10 ?_
  obtain ⟨i11, hres⟩ := gdi hres
  refine lM_sv hx hb hK hP i11 dX6_has_11 ?_
  exact hQ ▸ rtI (v := sv (((4 : Int32) + ((4 : Int32) * x1)) + x2).toNatClampNeg)  hx hb hr hlk hP hS (by rw [← (Option.some.inj hres)]) rfl dX6_has_12
def fX6_isBetween (x0 : Int32) (x1 : Int32) (x2 : Int32) : Bool :=
  if x0 < x1 then false else if x2 < x0 then false else true
abbrev rX6_isBetween : Room := { frames := 0, cells := 0, slots := 0, locals := 0 }
set_option maxHeartbeats 4000000 in
set_option maxRecDepth 100000 in
theorem kX6_isBetween (l : Launch) (D : va_G) (a : Nat → Nat) (cI cJ cS : ClassId) (hd : aok a 16) {Env : (Nat → Prop) → State → Heap → Prop} (hEo : envOK Env) (sv kep bef : Nat → Int32) (isk : Int32) (fnd : Nat → Int32) (man nex : Nat → Int64) (wor sng hea lat tap : Nat → Int32) (tpd her flt vlu : Int32) (bit lon : Nat → Int32) (cel btw : Nat → Int64) (x0 : Int32) (x1 : Int32) (x2 : Int32) : CtI l D (tyL cI cJ cS) 16 a Env yX6_isBetween wsX6_isBetween rX6_isBetween [.int x0, .int x1, .int x2] (wM a cI cJ cS sv kep bef isk fnd man nex wor sng hea lat tap tpd her flt vlu bit lon cel btw) (wM a cI cJ cS sv kep bef isk fnd man nex wor sng hea lat tap tpd her flt vlu bit lon cel btw) (bI (fX6_isBetween x0 x1 x2)) := by
  generalize hres : fX6_isBetween x0 x1 x2 = res
  refine CtI_mk (cc := cX6_isBetween) (maxL := 3) (ret := (some .boolean)) (by decide) rfl (Nat.le_of_ble_eq_true rfl) ?_
  intro p e s m args below meth c ls hx hb hr hlk hml hown hts hP hK hE hl
  have hS : va_S (adA a 16 s.heap.size) s.heap s.heap [] := va_S.rf
  have hl : lv_has ls 3 [(0, .int x0), (1, .int x1), (2, .int x2)] := hl
  have hown : s.vm.findClass RX6 = some m.cls := hown
  obtain ⟨Q, hQ⟩ : ∃ Q, Q = mqI below D 16 a args s (wM a cI cJ cS sv kep bef isk fnd man nex wor sng hea lat tap tpd her flt vlu bit lon cel btw) (bI res) := ⟨_, rfl⟩
  rw [← hQ]
  unfold fX6_isBetween at hres
  refine lv_iload_n hx hb dX6_isBetween_0 rfl (lv_at hl 0 rfl) ?_
  refine lv_iload_n hx hb dX6_isBetween_1 rfl (lv_at hl 1 rfl) ?_
  refine lv_icmp_lt (tgt := 14) hx hb dX6_isBetween_2 (by decide) (fun c2 => ?_) (fun c2 => ?_)
  · have hres := (itl hres).1 c2
    refine lv_iconst (v := 0) hx hb dX6_isBetween_14 (by decide) ?_
    exact hQ ▸ rtZ (v := false)  hx hb hr hlk hP hS (by rw [← hres]) rfl dX6_isBetween_15
  · have hres := (itl hres).2 c2
    refine lv_iload_n hx hb dX6_isBetween_5 rfl (lv_at hl 0 rfl) ?_
    refine lv_iload_n hx hb dX6_isBetween_6 rfl (lv_at hl 2 rfl) ?_
    refine lv_icmp_gt (tgt := 14) hx hb dX6_isBetween_7 (by decide) (fun c7 => ?_) (fun c7 => ?_)
    · have hres := (itl hres).1 c7
      refine lv_iconst (v := 0) hx hb dX6_isBetween_14 (by decide) ?_
      exact hQ ▸ rtZ (v := false)  hx hb hr hlk hP hS (by rw [← hres]) rfl dX6_isBetween_15
    · have hres := (itl hres).2 c7
      refine lv_iconst (v := 1) hx hb dX6_isBetween_10 (by decide) ?_
      refine lv_goto (tgt := 15) hx hb dX6_isBetween_11 (by decide) ?_
      exact hQ ▸ rtZ (v := true)  hx hb hr hlk hP hS (by rw [← hres]) rfl dX6_isBetween_15
def fX6_isLength (sv : Nat → Int32) (x1 : Int32) (x2 : Int32) : Option (Bool) :=
 (fX6_has sv x1 (1 : Int32)).bind fun q3 => (fX6_has sv x1 (2 : Int32)).bind fun q10 => (fX6_has sv x1 (0 : Int32)).bind fun q18 => if q18 = 0 then if x2 = q3 then some true else some false else if q18 = 1 then some (fX6_isBetween x2 q3 q10) else if q18 = 2 then if x2 = 0 then some true else if x2 = q3 then some true else some false else if q18 = 3 then if (bI (fX6_isBetween x2 q3 q10)) = 0 then some false else if ((x2 - q3) - (x2 - q3) / (2 : Int32) * (2 : Int32)) = 0 then some true else some false else if q18 = 4 then if (bI (fX6_isBetween x2 q3 q10)) = 0 then if (x2 - x2 / (2 : Int32) * (2 : Int32)) = 0 then if (bI (fX6_isBetween (x2 / (2 : Int32)) q3 q10)) = 0 then some false else some true else some false else some true else some (fX6_isBetween x2 (0 : Int32) q10)
theorem hdX6_has : yX6_has.cls = RX6 ∧ yX6_has.cls ≠ "java/lang/invoke/MethodHandle" ∧ yX6_has.cls ≠ "java/lang/invoke/VarHandle" ∧ (parseMethodDescriptor yX6_has.desc).map (fun d => d.parameters.length) = some 2 := by decide +kernel
theorem hdX6_isBetween : yX6_isBetween.cls ≠ "java/lang/invoke/MethodHandle" ∧ yX6_isBetween.cls ≠ "java/lang/invoke/VarHandle" ∧ (parseMethodDescriptor yX6_isBetween.desc).map (fun d => d.parameters.length) = some 3 := by decide +kernel
abbrev rX6_isLength : Room := { frames := 1, cells := 0, slots := 0, locals := 22 }
set_option maxHeartbeats 4000000 in
set_option maxRecDepth 100000 in
theorem kX6_isLength (l : Launch) (D : va_G) (a : Nat → Nat) (cI cJ cS : ClassId) (hd : aok a 16) {Env : (Nat → Prop) → State → Heap → Prop} (hEo : envOK Env) (sv kep bef : Nat → Int32) (isk : Int32) (fnd : Nat → Int32) (man nex : Nat → Int64) (wor sng hea lat tap : Nat → Int32) (tpd her flt vlu : Int32) (bit lon : Nat → Int32) (cel btw : Nat → Int64) (x1 : Int32) (x2 : Int32) (res : Bool) (hres : fX6_isLength sv x1 x2 = some res) : CtI l D (tyL cI cJ cS) 16 a Env yX6_isLength wsX6_isLength rX6_isLength [.ref (a 0), .int x1, .int x2] (wM a cI cJ cS sv kep bef isk fnd man nex wor sng hea lat tap tpd her flt vlu bit lon cel btw) (wM a cI cJ cS sv kep bef isk fnd man nex wor sng hea lat tap tpd her flt vlu bit lon cel btw) (bI res) := by
  refine CtI_mk (cc := cX6_isLength) (maxL := 5) (ret := (some .boolean)) (by decide) rfl (Nat.le_of_ble_eq_true rfl) ?_
  intro p e s m args below meth c ls hx hb hr hlk hml hown hts hP hK hE hl
  have hS : va_S (adA a 16 s.heap.size) s.heap s.heap [] := va_S.rf
  have hl : lv_has ls 5 [(0, .ref (a 0)), (1, .int x1), (2, .int x2)] := hl
  have hown : s.vm.findClass RX6 = some m.cls := hown
  obtain ⟨Q, hQ⟩ : ∃ Q, Q = mqI below D 16 a args s (wM a cI cJ cS sv kep bef isk fnd man nex wor sng hea lat tap tpd her flt vlu bit lon cel btw) (bI res) := ⟨_, rfl⟩
  rw [← hQ]
  unfold fX6_isLength at hres
  refine lv_aload_n hx hb dX6_isLength_0 rfl (lv_at hl 0 rfl) ?_
  refine lv_iload_n hx hb dX6_isLength_1 rfl (lv_at hl 1 rfl) ?_
  refine lv_iconst (v := 1) hx hb dX6_isLength_2 (by decide) ?_
  obtain ⟨q3, e3, hres⟩ := obd hres
  refine cvI (q0 := 0) (ci := 6) hx hb hml hown hts hEo hE hK hP hS (kX6_has l D a cI cJ cS hd hEo sv kep bef isk fnd man nex wor sng hea lat tap tpd her flt vlu bit lon cel btw x1 (1 : Int32) q3 e3) gX6_isLength_X6_has rfl hdX6_has rfl rfl rfl ⟨rfl, rfl⟩ ⟨Nat.le_of_ble_eq_true rfl, Nat.le_of_ble_eq_true rfl⟩ ⟨Nat.zero_le _, Nat.zero_le _⟩ rfl hl.1 rfl (Nat.le_of_ble_eq_true rfl) dX6_isLength_3 (fun H locs hP hS => ?_)
  refine lv_istore_n (lv' := [(3, .int q3), (0, .ref (a 0)), (1, .int x1), (2, .int x2)]) hx hb dX6_isLength_6 rfl hl (by decide) rfl (fun ls hl => ?_)
  refine lv_aload_n hx hb dX6_isLength_7 rfl (lv_at hl 1 rfl) ?_
  refine lv_iload_n hx hb dX6_isLength_8 rfl (lv_at hl 2 rfl) ?_
  refine lv_iconst (v := 2) hx hb dX6_isLength_9 (by decide) ?_
  obtain ⟨q10, e10, hres⟩ := obd hres
  refine cvI (q0 := 0) (ci := 6) hx hb hml hown hts hEo hE hK hP hS (kX6_has l D a cI cJ cS hd hEo sv kep bef isk fnd man nex wor sng hea lat tap tpd her flt vlu bit lon cel btw x1 (2 : Int32) q10 e10) gX6_isLength_X6_has rfl hdX6_has rfl rfl rfl ⟨rfl, rfl⟩ ⟨Nat.le_of_ble_eq_true rfl, Nat.le_of_ble_eq_true rfl⟩ ⟨Nat.zero_le _, Nat.zero_le _⟩ rfl hl.1 rfl (Nat.le_of_ble_eq_true rfl) dX6_isLength_10 (fun H locs hP hS => ?_)
  refine lv_istore (lv' := [(4, .int q10), (3, .int q3), (0, .ref (a 0)), (1, .int x1), (2, .int x2)]) hx hb dX6_isLength_13 hl (by decide) rfl (fun ls hl => ?_)
  refine lv_aload_n hx hb dX6_isLength_15 rfl (lv_at hl 2 rfl) ?_
  refine lv_iload_n hx hb dX6_isLength_16 rfl (lv_at hl 3 rfl) ?_
  refine lv_iconst (v := 0) hx hb dX6_isLength_17 (by decide) ?_
  obtain ⟨q18, e18, hres⟩ := obd hres
  refine cvI (q0 := 0) (ci := 6) hx hb hml hown hts hEo hE hK hP hS (kX6_has l D a cI cJ cS hd hEo sv kep bef isk fnd man nex wor sng hea lat tap tpd her flt vlu bit lon cel btw x1 (0 : Int32) q18 e18) gX6_isLength_X6_has rfl hdX6_has rfl rfl rfl ⟨rfl, rfl⟩ ⟨Nat.le_of_ble_eq_true rfl, Nat.le_of_ble_eq_true rfl⟩ ⟨Nat.zero_le _, Nat.zero_le _⟩ rfl hl.1 rfl (Nat.le_of_ble_eq_true rfl) dX6_isLength_18 (fun H locs hP hS => ?_)
  by_cases v21_0 : q18 = 0
  · have hres := (itl hres).1 v21_0
    refine lv_tableIn (off := 35) (tgt := 56) hx hb dX6_isLength_21 (by rw [v21_0]; decide) (by rw [v21_0]; decide) (by rw [v21_0]; rfl) (by decide) ?_
    refine lv_iload_n hx hb dX6_isLength_56 rfl (lv_at hl 4 rfl) ?_
    refine lv_iload_n hx hb dX6_isLength_57 rfl (lv_at hl 1 rfl) ?_
    refine lv_icmp_ne (tgt := 65) hx hb dX6_isLength_58 (by decide) (fun c58 => ?_) (fun c58 => ?_)
    · have hres := (itl hres).2 c58
      refine lv_iconst (v := 0) hx hb dX6_isLength_65 (by decide) ?_
      exact hQ ▸ rtZ (v := false)  hx hb hr hlk hP hS (by rw [← (Option.some.inj hres)]) rfl dX6_isLength_66
    · have hres := (itl hres).1 c58
      refine lv_iconst (v := 1) hx hb dX6_isLength_61 (by decide) ?_
      refine lv_goto (tgt := 66) hx hb dX6_isLength_62 (by decide) ?_
      exact hQ ▸ rtZ (v := true)  hx hb hr hlk hP hS (by rw [← (Option.some.inj hres)]) rfl dX6_isLength_66
  · have hres := (itl hres).2 v21_0
    by_cases v21_1 : q18 = 1
    · have hres := (itl hres).1 v21_1
      refine lv_tableIn (off := 46) (tgt := 67) hx hb dX6_isLength_21 (by rw [v21_1]; decide) (by rw [v21_1]; decide) (by rw [v21_1]; rfl) (by decide) ?_
      refine lv_iload_n hx hb dX6_isLength_67 rfl (lv_at hl 4 rfl) ?_
      refine lv_iload_n hx hb dX6_isLength_68 rfl (lv_at hl 1 rfl) ?_
      refine lv_iload hx hb dX6_isLength_69 (lv_at hl 0 rfl) ?_
      refine csI hx hb hml hown hts hEo hE hK hP hS (kX6_isBetween l D a cI cJ cS hd hEo sv kep bef isk fnd man nex wor sng hea lat tap tpd her flt vlu bit lon cel btw x2 q3 q10) gX6_isLength_X6_isBetween rfl hdX6_isBetween ⟨rfl, rfl⟩ ⟨Nat.le_of_ble_eq_true rfl, Nat.le_of_ble_eq_true rfl⟩ ⟨Nat.zero_le _, Nat.zero_le _⟩ rfl hl.1 rfl (Nat.le_of_ble_eq_true rfl) dX6_isLength_71 (fun H locs hP hS => ?_)
      exact hQ ▸ rtZ (v := (fX6_isBetween x2 q3 q10))  hx hb hr hlk hP hS (by rw [← (Option.some.inj hres)]) rfl dX6_isLength_74
    · have hres := (itl hres).2 v21_1
      by_cases v21_2 : q18 = 2
      · have hres := (itl hres).1 v21_2
        refine lv_tableIn (off := 54) (tgt := 75) hx hb dX6_isLength_21 (by rw [v21_2]; decide) (by rw [v21_2]; decide) (by rw [v21_2]; rfl) (by decide) ?_
        refine lv_iload_n hx hb dX6_isLength_75 rfl (lv_at hl 4 rfl) ?_
        refine lv_if_eq (tgt := 84) hx hb dX6_isLength_76 (by decide) (fun c76 => ?_) (fun c76 => ?_)
        · have hres := (itl hres).1 c76
          refine lv_iconst (v := 1) hx hb dX6_isLength_84 (by decide) ?_
          refine lv_goto (tgt := 89) hx hb dX6_isLength_85 (by decide) ?_
          exact hQ ▸ rtZ (v := true)  hx hb hr hlk hP hS (by rw [← (Option.some.inj hres)]) rfl dX6_isLength_89
        · have hres := (itl hres).2 c76
          refine lv_iload_n hx hb dX6_isLength_79 rfl (lv_at hl 4 rfl) ?_
          refine lv_iload_n hx hb dX6_isLength_80 rfl (lv_at hl 1 rfl) ?_
          refine lv_icmp_ne (tgt := 88) hx hb dX6_isLength_81 (by decide) (fun c81 => ?_) (fun c81 => ?_)
          · have hres := (itl hres).2 c81
            refine lv_iconst (v := 0) hx hb dX6_isLength_88 (by decide) ?_
            exact hQ ▸ rtZ (v := false)  hx hb hr hlk hP hS (by rw [← (Option.some.inj hres)]) rfl dX6_isLength_89
          · have hres := (itl hres).1 c81
            refine lv_iconst (v := 1) hx hb dX6_isLength_84 (by decide) ?_
            refine lv_goto (tgt := 89) hx hb dX6_isLength_85 (by decide) ?_
            exact hQ ▸ rtZ (v := true)  hx hb hr hlk hP hS (by rw [← (Option.some.inj hres)]) rfl dX6_isLength_89
      · have hres := (itl hres).2 v21_2
        by_cases v21_3 : q18 = 3
        · have hres := (itl hres).1 v21_3
          refine lv_tableIn (off := 69) (tgt := 90) hx hb dX6_isLength_21 (by rw [v21_3]; decide) (by rw [v21_3]; decide) (by rw [v21_3]; rfl) (by decide) ?_
          refine lv_iload_n hx hb dX6_isLength_90 rfl (lv_at hl 4 rfl) ?_
          refine lv_iload_n hx hb dX6_isLength_91 rfl (lv_at hl 1 rfl) ?_
          refine lv_iload hx hb dX6_isLength_92 (lv_at hl 0 rfl) ?_
          refine csI hx hb hml hown hts hEo hE hK hP hS (kX6_isBetween l D a cI cJ cS hd hEo sv kep bef isk fnd man nex wor sng hea lat tap tpd her flt vlu bit lon cel btw x2 q3 q10) gX6_isLength_X6_isBetween rfl hdX6_isBetween ⟨rfl, rfl⟩ ⟨Nat.le_of_ble_eq_true rfl, Nat.le_of_ble_eq_true rfl⟩ ⟨Nat.zero_le _, Nat.zero_le _⟩ rfl hl.1 rfl (Nat.le_of_ble_eq_true rfl) dX6_isLength_94 (fun H locs hP hS => ?_)
          refine lv_if_eq (tgt := 112) hx hb dX6_isLength_97 (by decide) (fun c97 => ?_) (fun c97 => ?_)
          · have hres := (itl hres).1 c97
            refine lv_iconst (v := 0) hx hb dX6_isLength_112 (by decide) ?_
            exact hQ ▸ rtZ (v := false)  hx hb hr hlk hP hS (by rw [← (Option.some.inj hres)]) rfl dX6_isLength_113
          · have hres := (itl hres).2 c97
            refine lv_iload_n hx hb dX6_isLength_100 rfl (lv_at hl 4 rfl) ?_
            refine lv_iload_n hx hb dX6_isLength_101 rfl (lv_at hl 1 rfl) ?_
            refine lv_isub hx hb dX6_isLength_102 ?_
            refine lv_iconst (v := 2) hx hb dX6_isLength_103 (by decide) ?_
            refine lv_irem hx hb dX6_isLength_104 (by decide) ?_
            refine lv_if_ne (tgt := 112) hx hb dX6_isLength_105 (by decide) (fun c105 => ?_) (fun c105 => ?_)
            · have hres := (itl hres).2 c105
              refine lv_iconst (v := 0) hx hb dX6_isLength_112 (by decide) ?_
              exact hQ ▸ rtZ (v := false)  hx hb hr hlk hP hS (by rw [← (Option.some.inj hres)]) rfl dX6_isLength_113
            · have hres := (itl hres).1 c105
              refine lv_iconst (v := 1) hx hb dX6_isLength_108 (by decide) ?_
              refine lv_goto (tgt := 113) hx hb dX6_isLength_109 (by decide) ?_
              exact hQ ▸ rtZ (v := true)  hx hb hr hlk hP hS (by rw [← (Option.some.inj hres)]) rfl dX6_isLength_113
        · have hres := (itl hres).2 v21_3
          by_cases v21_4 : q18 = 4
          · have hres := (itl hres).1 v21_4
            refine lv_tableIn (off := 93) (tgt := 114) hx hb dX6_isLength_21 (by rw [v21_4]; decide) (by rw [v21_4]; decide) (by rw [v21_4]; rfl) (by decide) ?_
            refine lv_iload_n hx hb dX6_isLength_114 rfl (lv_at hl 4 rfl) ?_
            refine lv_iload_n hx hb dX6_isLength_115 rfl (lv_at hl 1 rfl) ?_
            refine lv_iload hx hb dX6_isLength_116 (lv_at hl 0 rfl) ?_
            refine csI hx hb hml hown hts hEo hE hK hP hS (kX6_isBetween l D a cI cJ cS hd hEo sv kep bef isk fnd man nex wor sng hea lat tap tpd her flt vlu bit lon cel btw x2 q3 q10) gX6_isLength_X6_isBetween rfl hdX6_isBetween ⟨rfl, rfl⟩ ⟨Nat.le_of_ble_eq_true rfl, Nat.le_of_ble_eq_true rfl⟩ ⟨Nat.zero_le _, Nat.zero_le _⟩ rfl hl.1 rfl (Nat.le_of_ble_eq_true rfl) dX6_isLength_118 (fun H locs hP hS => ?_)
            refine lv_if_ne (tgt := 142) hx hb dX6_isLength_121 (by decide) (fun c121 => ?_) (fun c121 => ?_)
            · have hres := (itl hres).2 c121
              refine lv_iconst (v := 1) hx hb dX6_isLength_142 (by decide) ?_
              refine lv_goto (tgt := 147) hx hb dX6_isLength_143 (by decide) ?_
              exact hQ ▸ rtZ (v := true)  hx hb hr hlk hP hS (by rw [← (Option.some.inj hres)]) rfl dX6_isLength_147
            · have hres := (itl hres).1 c121
              refine lv_iload_n hx hb dX6_isLength_124 rfl (lv_at hl 4 rfl) ?_
              refine lv_iconst (v := 2) hx hb dX6_isLength_125 (by decide) ?_
              refine lv_irem hx hb dX6_isLength_126 (by decide) ?_
              refine lv_if_ne (tgt := 146) hx hb dX6_isLength_127 (by decide) (fun c127 => ?_) (fun c127 => ?_)
              · have hres := (itl hres).2 c127
                refine lv_iconst (v := 0) hx hb dX6_isLength_146 (by decide) ?_
                exact hQ ▸ rtZ (v := false)  hx hb hr hlk hP hS (by rw [← (Option.some.inj hres)]) rfl dX6_isLength_147
              · have hres := (itl hres).1 c127
                refine lv_iload_n hx hb dX6_isLength_130 rfl (lv_at hl 4 rfl) ?_
                refine lv_iconst (v := 2) hx hb dX6_isLength_131 (by decide) ?_
                refine lv_idiv hx hb dX6_isLength_132 (by decide) ?_
                refine lv_iload_n hx hb dX6_isLength_133 rfl (lv_at hl 1 rfl) ?_
                refine lv_iload hx hb dX6_isLength_134 (lv_at hl 0 rfl) ?_
                refine csI hx hb hml hown hts hEo hE hK hP hS (kX6_isBetween l D a cI cJ cS hd hEo sv kep bef isk fnd man nex wor sng hea lat tap tpd her flt vlu bit lon cel btw (x2 / (2 : Int32)) q3 q10) gX6_isLength_X6_isBetween rfl hdX6_isBetween ⟨rfl, rfl⟩ ⟨Nat.le_of_ble_eq_true rfl, Nat.le_of_ble_eq_true rfl⟩ ⟨Nat.zero_le _, Nat.zero_le _⟩ rfl hl.1 rfl (Nat.le_of_ble_eq_true rfl) dX6_isLength_136 (fun H locs hP hS => ?_)
                refine lv_if_eq (tgt := 146) hx hb dX6_isLength_139 (by decide) (fun c139 => ?_) (fun c139 => ?_)
                · have hres := (itl hres).1 c139
                  refine lv_iconst (v := 0) hx hb dX6_isLength_146 (by decide) ?_
                  exact hQ ▸ rtZ (v := false)  hx hb hr hlk hP hS (by rw [← (Option.some.inj hres)]) rfl dX6_isLength_147
                · have hres := (itl hres).2 c139
                  refine lv_iconst (v := 1) hx hb dX6_isLength_142 (by decide) ?_
                  refine lv_goto (tgt := 147) hx hb dX6_isLength_143 (by decide) ?_
                  exact hQ ▸ rtZ (v := true)  hx hb hr hlk hP hS (by rw [← (Option.some.inj hres)]) rfl dX6_isLength_147
          · have hres := (itl hres).2 v21_4
            refine lv_tableOut (tgt := 148) hx hb dX6_isLength_21 (sw04 v21_0 v21_1 v21_2 v21_3 v21_4) (by decide) ?_
            refine lv_iload_n hx hb dX6_isLength_148 rfl (lv_at hl 4 rfl) ?_
            refine lv_iconst (v := 0) hx hb dX6_isLength_149 (by decide) ?_
            refine lv_iload hx hb dX6_isLength_150 (lv_at hl 0 rfl) ?_
            refine csI hx hb hml hown hts hEo hE hK hP hS (kX6_isBetween l D a cI cJ cS hd hEo sv kep bef isk fnd man nex wor sng hea lat tap tpd her flt vlu bit lon cel btw x2 (0 : Int32) q10) gX6_isLength_X6_isBetween rfl hdX6_isBetween ⟨rfl, rfl⟩ ⟨Nat.le_of_ble_eq_true rfl, Nat.le_of_ble_eq_true rfl⟩ ⟨Nat.zero_le _, Nat.zero_le _⟩ rfl hl.1 rfl (Nat.le_of_ble_eq_true rfl) dX6_isLength_152 (fun H locs hP hS => ?_)
            exact hQ ▸ rtZ (v := (fX6_isBetween x2 (0 : Int32) q10))  hx hb hr hlk hP hS (by rw [← (Option.some.inj hres)]) rfl dX6_isLength_155
def fX6_counts_b22 (K2 : Int32 → (Nat → Int64) → Option ((Nat → Int64) × (Nat → Int64))) (man : Nat → Int64) (x3 : Int32) (z1 : Int32) (z2 : Int64) : Option ((Nat → Int64) × (Nat → Int64)) :=
  gd (ib z1 121) (K2 (x3 + 1) (vp_updL man z1.toNatClampNeg z2))
def fX6_counts_b108 (K57 : Int32 → (Nat → Int64) → Option ((Nat → Int64) × (Nat → Int64))) (nex : Nat → Int64) (x5 : Int32) (z1 : Int32) (z2 : Int64) (z3 : Int64) : Option ((Nat → Int64) × (Nat → Int64)) :=
  gd (ib z1 121) (K57 (x5 + 1) (vp_updL nex z1.toNatClampNeg (z2 + z3)))
def fX6_counts_b116 (K39 : Int32 → (Nat → Int64) → Option ((Nat → Int64) × (Nat → Int64))) (nex : Nat → Int64) (x4 : Int32) : Option ((Nat → Int64) × (Nat → Int64)) :=
  K39 (x4 + 1) nex
def fX6_counts_l57 (K39 : Int32 → (Nat → Int64) → Option ((Nat → Int64) × (Nat → Int64))) (sv : Nat → Int32) (man : Nat → Int64) (x1 : Int32) (x3 : Int32) (x4 : Int32) (K57 : Int32 → (Nat → Int64) → Option ((Nat → Int64) × (Nat → Int64))) (x5 : Int32) (nex : Nat → Int64) : Option ((Nat → Int64) × (Nat → Int64)) :=
  if x4 < x5 then fX6_counts_b116 K39 nex x4 else if (25 : Int32) ≤ x5 then fX6_counts_b116 K39 nex x4 else gd (ib x4 121) ((fX6_nth sv x1 x3).bind fun q83 => (fX6_isLength sv q83 x5).bind fun q88 => if (bI q88) = 0 then fX6_counts_b108 K57 nex x5 x4 (nex x4.toNatClampNeg) (0 : Int64) else gd (ib (x4 - x5) 121) (fX6_counts_b108 K57 nex x5 x4 (nex x4.toNatClampNeg) (man (x4 - x5).toNatClampNeg)))
def fX6_counts_b152 (K31 : Int32 → (Nat → Int64) → (Nat → Int64) → Option ((Nat → Int64) × (Nat → Int64))) (man : Nat → Int64) (nex : Nat → Int64) (x3 : Int32) : Option ((Nat → Int64) × (Nat → Int64)) :=
  K31 (x3 + 1) man nex
def fX6_counts_l125 (K31 : Int32 → (Nat → Int64) → (Nat → Int64) → Option ((Nat → Int64) × (Nat → Int64))) (nex : Nat → Int64) (x3 : Int32) (K125 : Int32 → (Nat → Int64) → Option ((Nat → Int64) × (Nat → Int64))) (x4 : Int32) (man : Nat → Int64) : Option ((Nat → Int64) × (Nat → Int64)) :=
  if (120 : Int32) < x4 then fX6_counts_b152 K31 man nex x3 else gd (ib x4 121) (gd (ib x4 121) (K125 (x4 + 1) (vp_updL man x4.toNatClampNeg (nex x4.toNatClampNeg))))
def fX6_counts_b122 (K31 : Int32 → (Nat → Int64) → (Nat → Int64) → Option ((Nat → Int64) × (Nat → Int64))) (man : Nat → Int64) (nex : Nat → Int64) (x3 : Int32) : Option ((Nat → Int64) × (Nat → Int64)) :=
  fix2 (fX6_counts_l125 K31 nex x3) 2000 (0 : Int32) man
def fX6_counts_l39 (K31 : Int32 → (Nat → Int64) → (Nat → Int64) → Option ((Nat → Int64) × (Nat → Int64))) (sv : Nat → Int32) (man : Nat → Int64) (x1 : Int32) (x3 : Int32) (K39 : Int32 → (Nat → Int64) → Option ((Nat → Int64) × (Nat → Int64))) (x4 : Int32) (nex : Nat → Int64) : Option ((Nat → Int64) × (Nat → Int64)) :=
  if (120 : Int32) < x4 then fX6_counts_b122 K31 man nex x3 else gd (ib x4 121) (fix2 (fX6_counts_l57 K39 sv man x1 x3 x4) 2000 (0 : Int32) (vp_updL nex x4.toNatClampNeg (0 : Int64)))
def fX6_counts_l31 (sv : Nat → Int32) (x1 : Int32) (x2 : Int32) (K31 : Int32 → (Nat → Int64) → (Nat → Int64) → Option ((Nat → Int64) × (Nat → Int64))) (x3 : Int32) (man : Nat → Int64) (nex : Nat → Int64) : Option ((Nat → Int64) × (Nat → Int64)) :=
  if x2 ≤ x3 then some (man, nex) else fix2 (fX6_counts_l39 K31 sv man x1 x3) 2000 (0 : Int32) nex
def fX6_counts_b29 (sv : Nat → Int32) (man : Nat → Int64) (nex : Nat → Int64) (x1 : Int32) (x2 : Int32) : Option ((Nat → Int64) × (Nat → Int64)) :=
  fix3 (fX6_counts_l31 sv x1 x2) 2000 (0 : Int32) man nex
def fX6_counts_l2 (sv : Nat → Int32) (nex : Nat → Int64) (x1 : Int32) (x2 : Int32) (K2 : Int32 → (Nat → Int64) → Option ((Nat → Int64) × (Nat → Int64))) (x3 : Int32) (man : Nat → Int64) : Option ((Nat → Int64) × (Nat → Int64)) :=
  if (120 : Int32) < x3 then fX6_counts_b29 sv man nex x1 x2 else if x3 = 0 then fX6_counts_b22 K2 man x3 x3 (1 : Int64) else fX6_counts_b22 K2 man x3 x3 (0 : Int64)
def fX6_counts (sv : Nat → Int32) (man : Nat → Int64) (nex : Nat → Int64) (x1 : Int32) (x2 : Int32) : Option ((Nat → Int64) × (Nat → Int64)) :=
  fix2 (fX6_counts_l2 sv nex x1 x2) 2000 (0 : Int32) man
theorem hdX6_isLength : yX6_isLength.cls = RX6 ∧ yX6_isLength.cls ≠ "java/lang/invoke/MethodHandle" ∧ yX6_isLength.cls ≠ "java/lang/invoke/VarHandle" ∧ (parseMethodDescriptor yX6_isLength.desc).map (fun d => d.parameters.length) = some 2 := by decide +kernel
theorem hdX6_nth : yX6_nth.cls = RX6 ∧ yX6_nth.cls ≠ "java/lang/invoke/MethodHandle" ∧ yX6_nth.cls ≠ "java/lang/invoke/VarHandle" ∧ (parseMethodDescriptor yX6_nth.desc).map (fun d => d.parameters.length) = some 2 := by decide +kernel
abbrev rX6_counts : Room := { frames := 2, cells := 0, slots := 0, locals := 46 }
set_option maxHeartbeats 4000000 in
set_option maxRecDepth 100000 in
theorem kX6_counts (l : Launch) (D : va_G) (a : Nat → Nat) (cI cJ cS : ClassId) (hd : aok a 16) {Env : (Nat → Prop) → State → Heap → Prop} (hEo : envOK Env) (sv kep bef : Nat → Int32) (isk : Int32) (fnd : Nat → Int32) (man nex : Nat → Int64) (wor sng hea lat tap : Nat → Int32) (tpd her flt vlu : Int32) (bit lon : Nat → Int32) (cel btw : Nat → Int64) (x1 : Int32) (x2 : Int32) (res : (Nat → Int64) × (Nat → Int64)) (hres : fX6_counts sv man nex x1 x2 = some res) : CtV l D (tyL cI cJ cS) 16 a Env yX6_counts wsX6_counts rX6_counts [.ref (a 0), .int x1, .int x2] (wM a cI cJ cS sv kep bef isk fnd man nex wor sng hea lat tap tpd her flt vlu bit lon cel btw) (wM a cI cJ cS sv kep bef isk fnd res.1 res.2 wor sng hea lat tap tpd her flt vlu bit lon cel btw) := by
  refine CtV_mk (cc := cX6_counts) (maxL := 6) (ret := none) (by decide) rfl (Nat.le_of_ble_eq_true rfl) ?_
  intro p e s m args below meth c ls hx hb hr hlk hml hown hts hP hK hE hl
  have hS : va_S (adA a 16 s.heap.size) s.heap s.heap [] := va_S.rf
  have hl : lv_has ls 6 [(0, .ref (a 0)), (1, .int x1), (2, .int x2)] := hl
  have hown : s.vm.findClass RX6 = some m.cls := hown
  have hw6 : ∀ w ∈ wsX60, w.before args s = true := fun w h => hts w (List.mem_cons_of_mem _ (List.mem_append_right _ h))
  have u1 : (Cond.fieldLink RX6 22 "YearWordsModel" "many" "[J").before args s = true := hts _ (List.mem_of_getElem? (i := 1) (by decide +kernel))
  have u2 : (Cond.fieldLink RX6 26 "YearWordsModel" "next" "[J").before args s = true := hts _ (List.mem_of_getElem? (i := 2) (by decide +kernel))
  obtain ⟨Q, hQ⟩ : ∃ Q, Q = mqV below D 16 a args s (wM a cI cJ cS sv kep bef isk fnd res.1 res.2 wor sng hea lat tap tpd her flt vlu bit lon cel btw) := ⟨_, rfl⟩
  rw [← hQ]
  have b31 : ∀ (x1 : Int32) (x2 : Int32) (n : Nat) (x3 : Int32) (man : Nat → Int64) (nex : Nat → Int64), fix3 (fX6_counts_l31 sv x1 x2) n x3 man nex = some res → ∀ (H : Heap) (locs : List Loc) (ls : Array Slot), va_P D vwCl (wM a cI cJ cS sv kep bef isk fnd man nex wor sng hea lat tap tpd her flt vlu bit lon cel btw) H → va_S (adA a 16 s.heap.size) s.heap H locs → lv_has ls 6 [(0, .ref (a 0)), (1, .int x1), (2, .int x2), (3, .int x3)] → W p l e rX6_counts s m args below meth c H locs 0 0 Q (F0 m 31 ls []) := by
    intro x1 x2
    refine fix3_r ?_
    intro K31 hK31 x3 man nex hres H locs ls hP hS hl
    have b152 : ∀ (man : Nat → Int64) (nex : Nat → Int64) (x3 : Int32), fX6_counts_b152 K31 man nex x3 = some res → ∀ (H : Heap) (locs : List Loc) (ls : Array Slot), va_P D vwCl (wM a cI cJ cS sv kep bef isk fnd man nex wor sng hea lat tap tpd her flt vlu bit lon cel btw) H → va_S (adA a 16 s.heap.size) s.heap H locs → lv_has ls 6 [(0, .ref (a 0)), (1, .int x1), (2, .int x2), (3, .int x3)] → W p l e rX6_counts s m args below meth c H locs 0 0 Q (F0 m 152 ls []) := by
      intro man nex x3 hres H locs ls hP hS hl
      unfold fX6_counts_b152 at hres
      refine lv_iinc (v := x3 + 1) (lv' := [(3, .int (x3 + 1)), (0, .ref (a 0)), (1, .int x1), (2, .int x2)]) hx hb dX6_counts_152 hl (k := 3) rfl (congrArg (fun z => x3 + z) (by decide)) (by decide) rfl (fun ls hl => ?_)
      refine lv_goto (tgt := 31) hx hb dX6_counts_155 (by decide) ?_
      exact hK31 (x3 + 1) man nex hres _ _ _ hP hS (lv_sub hl [1, 2, 3, 0] rfl)
    have b125 : ∀ (nex : Nat → Int64) (x3 : Int32) (n : Nat) (x4 : Int32) (man : Nat → Int64), fix2 (fX6_counts_l125 K31 nex x3) n x4 man = some res → ∀ (H : Heap) (locs : List Loc) (ls : Array Slot), va_P D vwCl (wM a cI cJ cS sv kep bef isk fnd man nex wor sng hea lat tap tpd her flt vlu bit lon cel btw) H → va_S (adA a 16 s.heap.size) s.heap H locs → lv_has ls 6 [(0, .ref (a 0)), (1, .int x1), (2, .int x2), (3, .int x3), (4, .int x4)] → W p l e rX6_counts s m args below meth c H locs 0 0 Q (F0 m 125 ls []) := by
      intro nex x3
      refine fix2_r ?_
      intro K125 hK125 x4 man hres H locs ls hP hS hl
      unfold fX6_counts_l125 at hres
      refine lv_iload hx hb dX6_counts_125 (lv_at hl 4 rfl) ?_
      refine lv_bipush (v := 120) hx hb dX6_counts_127 (by decide) ?_
      refine lv_icmp_gt (tgt := 152) hx hb dX6_counts_129 (by decide) (fun c129 => ?_) (fun c129 => ?_)
      · have hres := (itl hres).1 c129
        exact b152 man nex x3 hres _ _ _ hP hS (lv_sub hl [0, 1, 2, 3] rfl)
      · have hres := (itl hres).2 c129
        refine lv_aload_n hx hb dX6_counts_132 rfl (lv_at hl 0 rfl) ?_
        refine gM_this6_many hx hb hown hw6 hK hP u1 dX6_counts_133 ?_
        refine lv_iload hx hb dX6_counts_136 (lv_at hl 4 rfl) ?_
        refine lv_aload_n hx hb dX6_counts_138 rfl (lv_at hl 0 rfl) ?_
        refine gM_this6_next hx hb hown hw6 hK hP u2 dX6_counts_139 ?_
        refine lv_iload hx hb dX6_counts_142 (lv_at hl 4 rfl) ?_
        obtain ⟨i144, hres⟩ := gdi hres
        refine lM_nex hx hb hK hP i144 dX6_counts_144 ?_
        obtain ⟨i145, hres⟩ := gdi hres
        refine sM_man hx hb hK hP hd hS i145 dX6_counts_145 (fun H locs hP hS => ?_)
        refine lv_iinc (v := x4 + 1) (lv' := [(4, .int (x4 + 1)), (0, .ref (a 0)), (1, .int x1), (2, .int x2), (3, .int x3)]) hx hb dX6_counts_146 hl (k := 4) rfl (congrArg (fun z => x4 + z) (by decide)) (by decide) rfl (fun ls hl => ?_)
        refine lv_goto (tgt := 125) hx hb dX6_counts_149 (by decide) ?_
        exact hK125 (x4 + 1) (vp_updL man x4.toNatClampNeg (nex x4.toNatClampNeg)) hres _ _ _ hP hS (lv_sub hl [1, 2, 3, 4, 0] rfl)
    have b122 : ∀ (man : Nat → Int64) (nex : Nat → Int64) (x3 : Int32), fX6_counts_b122 K31 man nex x3 = some res → ∀ (H : Heap) (locs : List Loc) (ls : Array Slot), va_P D vwCl (wM a cI cJ cS sv kep bef isk fnd man nex wor sng hea lat tap tpd her flt vlu bit lon cel btw) H → va_S (adA a 16 s.heap.size) s.heap H locs → lv_has ls 6 [(0, .ref (a 0)), (1, .int x1), (2, .int x2), (3, .int x3)] → W p l e rX6_counts s m args below meth c H locs 0 0 Q (F0 m 122 ls []) := by
      intro man nex x3 hres H locs ls hP hS hl
      unfold fX6_counts_b122 at hres
      refine lv_iconst (v := 0) hx hb dX6_counts_122 (by decide) ?_
      refine lv_istore (lv' := [(4, .int (0 : Int32)), (0, .ref (a 0)), (1, .int x1), (2, .int x2), (3, .int x3)]) hx hb dX6_counts_123 hl (by decide) rfl (fun ls hl => ?_)
      exact b125 nex x3 2000 (0 : Int32) man hres _ _ _ hP hS (lv_sub hl [1, 2, 3, 4, 0] rfl)
    have b39 : ∀ (man : Nat → Int64) (x1 : Int32) (x3 : Int32) (n : Nat) (x4 : Int32) (nex : Nat → Int64), fix2 (fX6_counts_l39 K31 sv man x1 x3) n x4 nex = some res → ∀ (H : Heap) (locs : List Loc) (ls : Array Slot), va_P D vwCl (wM a cI cJ cS sv kep bef isk fnd man nex wor sng hea lat tap tpd her flt vlu bit lon cel btw) H → va_S (adA a 16 s.heap.size) s.heap H locs → lv_has ls 6 [(0, .ref (a 0)), (1, .int x1), (2, .int x2), (3, .int x3), (4, .int x4)] → W p l e rX6_counts s m args below meth c H locs 0 0 Q (F0 m 39 ls []) := by
      intro man x1 x3
      refine fix2_r ?_
      intro K39 hK39 x4 nex hres H locs ls hP hS hl
      have b116 : ∀ (nex : Nat → Int64) (x4 : Int32), fX6_counts_b116 K39 nex x4 = some res → ∀ (H : Heap) (locs : List Loc) (ls : Array Slot), va_P D vwCl (wM a cI cJ cS sv kep bef isk fnd man nex wor sng hea lat tap tpd her flt vlu bit lon cel btw) H → va_S (adA a 16 s.heap.size) s.heap H locs → lv_has ls 6 [(0, .ref (a 0)), (1, .int x1), (2, .int x2), (3, .int x3), (4, .int x4)] → W p l e rX6_counts s m args below meth c H locs 0 0 Q (F0 m 116 ls []) := by
        intro nex x4 hres H locs ls hP hS hl
        unfold fX6_counts_b116 at hres
        refine lv_iinc (v := x4 + 1) (lv' := [(4, .int (x4 + 1)), (0, .ref (a 0)), (1, .int x1), (2, .int x2), (3, .int x3)]) hx hb dX6_counts_116 hl (k := 4) rfl (congrArg (fun z => x4 + z) (by decide)) (by decide) rfl (fun ls hl => ?_)
        refine lv_goto (tgt := 39) hx hb dX6_counts_119 (by decide) ?_
        exact hK39 (x4 + 1) nex hres _ _ _ hP hS (lv_sub hl [1, 2, 3, 4, 0] rfl)
      have b57 : ∀ (man : Nat → Int64) (x1 : Int32) (x3 : Int32) (x4 : Int32) (n : Nat) (x5 : Int32) (nex : Nat → Int64), fix2 (fX6_counts_l57 K39 sv man x1 x3 x4) n x5 nex = some res → ∀ (H : Heap) (locs : List Loc) (ls : Array Slot), va_P D vwCl (wM a cI cJ cS sv kep bef isk fnd man nex wor sng hea lat tap tpd her flt vlu bit lon cel btw) H → va_S (adA a 16 s.heap.size) s.heap H locs → lv_has ls 6 [(0, .ref (a 0)), (1, .int x1), (2, .int x2), (3, .int x3), (4, .int x4), (5, .int x5)] → W p l e rX6_counts s m args below meth c H locs 0 0 Q (F0 m 57 ls []) := by
        intro man x1 x3 x4
        refine fix2_r ?_
        intro K57 hK57 x5 nex hres H locs ls hP hS hl
        have b108 : ∀ (nex : Nat → Int64) (x5 : Int32) (z1 : Int32) (z2 : Int64) (z3 : Int64), fX6_counts_b108 K57 nex x5 z1 z2 z3 = some res → ∀ (H : Heap) (locs : List Loc) (ls : Array Slot), va_P D vwCl (wM a cI cJ cS sv kep bef isk fnd man nex wor sng hea lat tap tpd her flt vlu bit lon cel btw) H → va_S (adA a 16 s.heap.size) s.heap H locs → lv_has ls 6 [(0, .ref (a 0)), (1, .int x1), (2, .int x2), (3, .int x3), (4, .int x4), (5, .int x5)] → W p l e rX6_counts s m args below meth c H locs 0 0 Q (F0 m 108 ls [.long z3, .long z2, .int z1, .ref (a 6)]) := by
          intro nex x5 z1 z2 z3 hres H locs ls hP hS hl
          unfold fX6_counts_b108 at hres
          refine lv_ladd hx hb dX6_counts_108 ?_
          obtain ⟨i109, hres⟩ := gdi hres
          refine sM_nex hx hb hK hP hd hS i109 dX6_counts_109 (fun H locs hP hS => ?_)
          refine lv_iinc (v := x5 + 1) (lv' := [(5, .int (x5 + 1)), (0, .ref (a 0)), (1, .int x1), (2, .int x2), (3, .int x3), (4, .int x4)]) hx hb dX6_counts_110 hl (k := 5) rfl (congrArg (fun z => x5 + z) (by decide)) (by decide) rfl (fun ls hl => ?_)
          refine lv_goto (tgt := 57) hx hb dX6_counts_113 (by decide) ?_
          exact hK57 (x5 + 1) (vp_updL nex z1.toNatClampNeg (z2 + z3)) hres _ _ _ hP hS (lv_sub hl [1, 2, 3, 4, 5, 0] rfl)
        unfold fX6_counts_l57 at hres
        refine lv_iload hx hb dX6_counts_57 (lv_at hl 5 rfl) ?_
        refine lv_iload hx hb dX6_counts_59 (lv_at hl 4 rfl) ?_
        refine lv_icmp_gt (tgt := 116) hx hb dX6_counts_61 (by decide) (fun c61 => ?_) (fun c61 => ?_)
        · have hres := (itl hres).1 c61
          exact b116 nex x4 hres _ _ _ hP hS (lv_sub hl [0, 1, 2, 3, 4] rfl)
        · have hres := (itl hres).2 c61
          refine lv_iload hx hb dX6_counts_64 (lv_at hl 5 rfl) ?_
          refine lv_bipush (v := 25) hx hb dX6_counts_66 (by decide) ?_
          refine lv_icmp_ge (tgt := 116) hx hb dX6_counts_68 (by decide) (fun c68 => ?_) (fun c68 => ?_)
          · have hres := (itl hres).1 c68
            exact b116 nex x4 hres _ _ _ hP hS (lv_sub hl [0, 1, 2, 3, 4] rfl)
          · have hres := (itl hres).2 c68
            refine lv_aload_n hx hb dX6_counts_71 rfl (lv_at hl 0 rfl) ?_
            refine gM_this6_next hx hb hown hw6 hK hP u2 dX6_counts_72 ?_
            refine lv_iload hx hb dX6_counts_75 (lv_at hl 4 rfl) ?_
            refine lv_dup2_11 hx hb dX6_counts_77 rfl rfl ?_
            obtain ⟨i78, hres⟩ := gdi hres
            refine lM_nex hx hb hK hP i78 dX6_counts_78 ?_
            refine lv_aload_n hx hb dX6_counts_79 rfl (lv_at hl 0 rfl) ?_
            refine lv_aload_n hx hb dX6_counts_80 rfl (lv_at hl 0 rfl) ?_
            refine lv_iload_n hx hb dX6_counts_81 rfl (lv_at hl 1 rfl) ?_
            refine lv_iload_n hx hb dX6_counts_82 rfl (lv_at hl 3 rfl) ?_
            obtain ⟨q83, e83, hres⟩ := obd hres
            refine cvI (q0 := 0) (ci := 6) hx hb hml hown hts hEo hE hK hP hS (kX6_nth l D a cI cJ cS hd hEo sv kep bef isk fnd man nex wor sng hea lat tap tpd her flt vlu bit lon cel btw x1 x3 q83 e83) gX6_counts_X6_nth rfl hdX6_nth rfl rfl rfl ⟨rfl, rfl⟩ ⟨Nat.le_of_ble_eq_true rfl, Nat.le_of_ble_eq_true rfl⟩ ⟨Nat.zero_le _, Nat.zero_le _⟩ rfl hl.1 rfl (Nat.le_of_ble_eq_true rfl) dX6_counts_83 (fun H locs hP hS => ?_)
            refine lv_iload hx hb dX6_counts_86 (lv_at hl 5 rfl) ?_
            obtain ⟨q88, e88, hres⟩ := obd hres
            refine cvI (q0 := 0) (ci := 6) hx hb hml hown hts hEo hE hK hP hS (kX6_isLength l D a cI cJ cS hd hEo sv kep bef isk fnd man nex wor sng hea lat tap tpd her flt vlu bit lon cel btw q83 x5 q88 e88) gX6_counts_X6_isLength rfl hdX6_isLength rfl rfl rfl ⟨rfl, rfl⟩ ⟨Nat.le_of_ble_eq_true rfl, Nat.le_of_ble_eq_true rfl⟩ ⟨Nat.zero_le _, Nat.zero_le _⟩ rfl hl.1 rfl (Nat.le_of_ble_eq_true rfl) dX6_counts_88 (fun H locs hP hS => ?_)
            refine lv_if_eq (tgt := 107) hx hb dX6_counts_91 (by decide) (fun c91 => ?_) (fun c91 => ?_)
            · have hres := (itl hres).1 c91
              refine lv_lconst (v := 0) hx hb dX6_counts_107 (by decide) ?_
              exact b108 nex x5 x4 (nex x4.toNatClampNeg) (0 : Int64) hres _ _ _ hP hS (lv_sub hl [0, 1, 2, 3, 4, 5] rfl)
            · have hres := (itl hres).2 c91
              refine lv_aload_n hx hb dX6_counts_94 rfl (lv_at hl 0 rfl) ?_
              refine gM_this6_many hx hb hown hw6 hK hP u1 dX6_counts_95 ?_
              refine lv_iload hx hb dX6_counts_98 (lv_at hl 4 rfl) ?_
              refine lv_iload hx hb dX6_counts_100 (lv_at hl 5 rfl) ?_
              refine lv_isub hx hb dX6_counts_102 ?_
              obtain ⟨i103, hres⟩ := gdi hres
              refine lM_man hx hb hK hP i103 dX6_counts_103 ?_
              refine lv_goto (tgt := 108) hx hb dX6_counts_104 (by decide) ?_
              exact b108 nex x5 x4 (nex x4.toNatClampNeg) (man (x4 - x5).toNatClampNeg) hres _ _ _ hP hS (lv_sub hl [0, 1, 2, 3, 4, 5] rfl)
      unfold fX6_counts_l39 at hres
      refine lv_iload hx hb dX6_counts_39 (lv_at hl 4 rfl) ?_
      refine lv_bipush (v := 120) hx hb dX6_counts_41 (by decide) ?_
      refine lv_icmp_gt (tgt := 122) hx hb dX6_counts_43 (by decide) (fun c43 => ?_) (fun c43 => ?_)
      · have hres := (itl hres).1 c43
        exact b122 man nex x3 hres _ _ _ hP hS (lv_sub hl [0, 1, 2, 3] rfl)
      · have hres := (itl hres).2 c43
        refine lv_aload_n hx hb dX6_counts_46 rfl (lv_at hl 0 rfl) ?_
        refine gM_this6_next hx hb hown hw6 hK hP u2 dX6_counts_47 ?_
        refine lv_iload hx hb dX6_counts_50 (lv_at hl 4 rfl) ?_
        refine lv_lconst (v := 0) hx hb dX6_counts_52 (by decide) ?_
        obtain ⟨i53, hres⟩ := gdi hres
        refine sM_nex hx hb hK hP hd hS i53 dX6_counts_53 (fun H locs hP hS => ?_)
        refine lv_iconst (v := 0) hx hb dX6_counts_54 (by decide) ?_
        refine lv_istore (lv' := [(5, .int (0 : Int32)), (0, .ref (a 0)), (1, .int x1), (2, .int x2), (3, .int x3), (4, .int x4)]) hx hb dX6_counts_55 hl (by decide) rfl (fun ls hl => ?_)
        exact b57 man x1 x3 x4 2000 (0 : Int32) (vp_updL nex x4.toNatClampNeg (0 : Int64)) hres _ _ _ hP hS (lv_sub hl [1, 2, 3, 4, 5, 0] rfl)
    unfold fX6_counts_l31 at hres
    refine lv_iload_n hx hb dX6_counts_31 rfl (lv_at hl 3 rfl) ?_
    refine lv_iload_n hx hb dX6_counts_32 rfl (lv_at hl 2 rfl) ?_
    refine lv_icmp_ge (tgt := 158) hx hb dX6_counts_33 (by decide) (fun c33 => ?_) (fun c33 => ?_)
    · have hres := (itl hres).1 c33
      exact hQ ▸ rtV hx hb hr hlk hP hS (by rw [← (Option.some.inj hres)]) dX6_counts_158
    · have hres := (itl hres).2 c33
      refine lv_iconst (v := 0) hx hb dX6_counts_36 (by decide) ?_
      refine lv_istore (lv' := [(4, .int (0 : Int32)), (0, .ref (a 0)), (1, .int x1), (2, .int x2), (3, .int x3)]) hx hb dX6_counts_37 hl (by decide) rfl (fun ls hl => ?_)
      exact b39 man x1 x3 2000 (0 : Int32) nex hres _ _ _ hP hS (lv_sub hl [1, 2, 3, 4, 0] rfl)
  have b29 : ∀ (man : Nat → Int64) (nex : Nat → Int64) (x1 : Int32) (x2 : Int32), fX6_counts_b29 sv man nex x1 x2 = some res → ∀ (H : Heap) (locs : List Loc) (ls : Array Slot), va_P D vwCl (wM a cI cJ cS sv kep bef isk fnd man nex wor sng hea lat tap tpd her flt vlu bit lon cel btw) H → va_S (adA a 16 s.heap.size) s.heap H locs → lv_has ls 6 [(0, .ref (a 0)), (1, .int x1), (2, .int x2)] → W p l e rX6_counts s m args below meth c H locs 0 0 Q (F0 m 29 ls []) := by
    intro man nex x1 x2 hres H locs ls hP hS hl
    unfold fX6_counts_b29 at hres
    refine lv_iconst (v := 0) hx hb dX6_counts_29 (by decide) ?_
    refine lv_istore_n (lv' := [(3, .int (0 : Int32)), (0, .ref (a 0)), (1, .int x1), (2, .int x2)]) hx hb dX6_counts_30 rfl hl (by decide) rfl (fun ls hl => ?_)
    exact b31 x1 x2 2000 (0 : Int32) man nex hres _ _ _ hP hS (lv_sub hl [1, 2, 3, 0] rfl)
  have b2 : ∀ (nex : Nat → Int64) (x1 : Int32) (x2 : Int32) (n : Nat) (x3 : Int32) (man : Nat → Int64), fix2 (fX6_counts_l2 sv nex x1 x2) n x3 man = some res → ∀ (H : Heap) (locs : List Loc) (ls : Array Slot), va_P D vwCl (wM a cI cJ cS sv kep bef isk fnd man nex wor sng hea lat tap tpd her flt vlu bit lon cel btw) H → va_S (adA a 16 s.heap.size) s.heap H locs → lv_has ls 6 [(0, .ref (a 0)), (1, .int x1), (2, .int x2), (3, .int x3)] → W p l e rX6_counts s m args below meth c H locs 0 0 Q (F0 m 2 ls []) := by
    intro nex x1 x2
    refine fix2_r ?_
    intro K2 hK2 x3 man hres H locs ls hP hS hl
    have b22 : ∀ (man : Nat → Int64) (x3 : Int32) (z1 : Int32) (z2 : Int64), fX6_counts_b22 K2 man x3 z1 z2 = some res → ∀ (H : Heap) (locs : List Loc) (ls : Array Slot), va_P D vwCl (wM a cI cJ cS sv kep bef isk fnd man nex wor sng hea lat tap tpd her flt vlu bit lon cel btw) H → va_S (adA a 16 s.heap.size) s.heap H locs → lv_has ls 6 [(0, .ref (a 0)), (1, .int x1), (2, .int x2), (3, .int x3)] → W p l e rX6_counts s m args below meth c H locs 0 0 Q (F0 m 22 ls [.long z2, .int z1, .ref (a 5)]) := by
      intro man x3 z1 z2 hres H locs ls hP hS hl
      unfold fX6_counts_b22 at hres
      obtain ⟨i22, hres⟩ := gdi hres
      refine sM_man hx hb hK hP hd hS i22 dX6_counts_22 (fun H locs hP hS => ?_)
      refine lv_iinc (v := x3 + 1) (lv' := [(3, .int (x3 + 1)), (0, .ref (a 0)), (1, .int x1), (2, .int x2)]) hx hb dX6_counts_23 hl (k := 3) rfl (congrArg (fun z => x3 + z) (by decide)) (by decide) rfl (fun ls hl => ?_)
      refine lv_goto (tgt := 2) hx hb dX6_counts_26 (by decide) ?_
      exact hK2 (x3 + 1) (vp_updL man z1.toNatClampNeg z2) hres _ _ _ hP hS (lv_sub hl [1, 2, 3, 0] rfl)
    unfold fX6_counts_l2 at hres
    refine lv_iload_n hx hb dX6_counts_2 rfl (lv_at hl 3 rfl) ?_
    refine lv_bipush (v := 120) hx hb dX6_counts_3 (by decide) ?_
    refine lv_icmp_gt (tgt := 29) hx hb dX6_counts_5 (by decide) (fun c5 => ?_) (fun c5 => ?_)
    · have hres := (itl hres).1 c5
      exact b29 man nex x1 x2 hres _ _ _ hP hS (lv_sub hl [0, 1, 2] rfl)
    · have hres := (itl hres).2 c5
      refine lv_aload_n hx hb dX6_counts_8 rfl (lv_at hl 0 rfl) ?_
      refine gM_this6_many hx hb hown hw6 hK hP u1 dX6_counts_9 ?_
      refine lv_iload_n hx hb dX6_counts_12 rfl (lv_at hl 3 rfl) ?_
      refine lv_iload_n hx hb dX6_counts_13 rfl (lv_at hl 3 rfl) ?_
      refine lv_if_ne (tgt := 21) hx hb dX6_counts_14 (by decide) (fun c14 => ?_) (fun c14 => ?_)
      · have hres := (itl hres).2 c14
        refine lv_lconst (v := 0) hx hb dX6_counts_21 (by decide) ?_
        exact b22 man x3 x3 (0 : Int64) hres _ _ _ hP hS (lv_sub hl [0, 1, 2, 3] rfl)
      · have hres := (itl hres).1 c14
        refine lv_lconst (v := 1) hx hb dX6_counts_17 (by decide) ?_
        refine lv_goto (tgt := 22) hx hb dX6_counts_18 (by decide) ?_
        exact b22 man x3 x3 (1 : Int64) hres _ _ _ hP hS (lv_sub hl [0, 1, 2, 3] rfl)
  unfold fX6_counts at hres
  refine lv_iconst (v := 0) hx hb dX6_counts_0 (by decide) ?_
  refine lv_istore_n (lv' := [(3, .int (0 : Int32)), (0, .ref (a 0)), (1, .int x1), (2, .int x2)]) hx hb dX6_counts_1 rfl hl (by decide) rfl (fun ls hl => ?_)
  exact b2 nex x1 x2 2000 (0 : Int32) man hres _ _ _ hP hS (lv_sub hl [1, 2, 3, 0] rfl)
def fX6_in (x0 : Int32) (x1 : Int32) (x2 : Int32) : Bool :=
  if x0 < x1 then false else if x2 < x0 then false else true
abbrev rX6_in : Room := { frames := 0, cells := 0, slots := 0, locals := 0 }
set_option maxHeartbeats 4000000 in
set_option maxRecDepth 100000 in
theorem kX6_in (l : Launch) (D : va_G) (a : Nat → Nat) (cI cJ cS : ClassId) (hd : aok a 16) {Env : (Nat → Prop) → State → Heap → Prop} (hEo : envOK Env) (sv kep bef : Nat → Int32) (isk : Int32) (fnd : Nat → Int32) (man nex : Nat → Int64) (wor sng hea lat tap : Nat → Int32) (tpd her flt vlu : Int32) (bit lon : Nat → Int32) (cel btw : Nat → Int64) (x0 : Int32) (x1 : Int32) (x2 : Int32) : CtI l D (tyL cI cJ cS) 16 a Env yX6_in wsX6_in rX6_in [.int x0, .int x1, .int x2] (wM a cI cJ cS sv kep bef isk fnd man nex wor sng hea lat tap tpd her flt vlu bit lon cel btw) (wM a cI cJ cS sv kep bef isk fnd man nex wor sng hea lat tap tpd her flt vlu bit lon cel btw) (bI (fX6_in x0 x1 x2)) := by
  generalize hres : fX6_in x0 x1 x2 = res
  refine CtI_mk (cc := cX6_in) (maxL := 3) (ret := (some .boolean)) (by decide) rfl (Nat.le_of_ble_eq_true rfl) ?_
  intro p e s m args below meth c ls hx hb hr hlk hml hown hts hP hK hE hl
  have hS : va_S (adA a 16 s.heap.size) s.heap s.heap [] := va_S.rf
  have hl : lv_has ls 3 [(0, .int x0), (1, .int x1), (2, .int x2)] := hl
  have hown : s.vm.findClass RX6 = some m.cls := hown
  obtain ⟨Q, hQ⟩ : ∃ Q, Q = mqI below D 16 a args s (wM a cI cJ cS sv kep bef isk fnd man nex wor sng hea lat tap tpd her flt vlu bit lon cel btw) (bI res) := ⟨_, rfl⟩
  rw [← hQ]
  unfold fX6_in at hres
  refine lv_iload_n hx hb dX6_in_0 rfl (lv_at hl 0 rfl) ?_
  refine lv_iload_n hx hb dX6_in_1 rfl (lv_at hl 1 rfl) ?_
  refine lv_icmp_lt (tgt := 14) hx hb dX6_in_2 (by decide) (fun c2 => ?_) (fun c2 => ?_)
  · have hres := (itl hres).1 c2
    refine lv_iconst (v := 0) hx hb dX6_in_14 (by decide) ?_
    exact hQ ▸ rtZ (v := false)  hx hb hr hlk hP hS (by rw [← hres]) rfl dX6_in_15
  · have hres := (itl hres).2 c2
    refine lv_iload_n hx hb dX6_in_5 rfl (lv_at hl 0 rfl) ?_
    refine lv_iload_n hx hb dX6_in_6 rfl (lv_at hl 2 rfl) ?_
    refine lv_icmp_gt (tgt := 14) hx hb dX6_in_7 (by decide) (fun c7 => ?_) (fun c7 => ?_)
    · have hres := (itl hres).1 c7
      refine lv_iconst (v := 0) hx hb dX6_in_14 (by decide) ?_
      exact hQ ▸ rtZ (v := false)  hx hb hr hlk hP hS (by rw [← hres]) rfl dX6_in_15
    · have hres := (itl hres).2 c7
      refine lv_iconst (v := 1) hx hb dX6_in_10 (by decide) ?_
      refine lv_goto (tgt := 15) hx hb dX6_in_11 (by decide) ?_
      exact hQ ▸ rtZ (v := true)  hx hb hr hlk hP hS (by rw [← hres]) rfl dX6_in_15
def fX6_isKind (x0 : Int32) : Bool :=
 (fX6_in x0 (0 : Int32) (5 : Int32))
theorem hdX6_in : yX6_in.cls ≠ "java/lang/invoke/MethodHandle" ∧ yX6_in.cls ≠ "java/lang/invoke/VarHandle" ∧ (parseMethodDescriptor yX6_in.desc).map (fun d => d.parameters.length) = some 3 := by decide +kernel
abbrev rX6_isKind : Room := { frames := 1, cells := 0, slots := 0, locals := 22 }
set_option maxHeartbeats 4000000 in
set_option maxRecDepth 100000 in
theorem kX6_isKind (l : Launch) (D : va_G) (a : Nat → Nat) (cI cJ cS : ClassId) (hd : aok a 16) {Env : (Nat → Prop) → State → Heap → Prop} (hEo : envOK Env) (sv kep bef : Nat → Int32) (isk : Int32) (fnd : Nat → Int32) (man nex : Nat → Int64) (wor sng hea lat tap : Nat → Int32) (tpd her flt vlu : Int32) (bit lon : Nat → Int32) (cel btw : Nat → Int64) (x0 : Int32) : CtI l D (tyL cI cJ cS) 16 a Env yX6_isKind wsX6_isKind rX6_isKind [.int x0] (wM a cI cJ cS sv kep bef isk fnd man nex wor sng hea lat tap tpd her flt vlu bit lon cel btw) (wM a cI cJ cS sv kep bef isk fnd man nex wor sng hea lat tap tpd her flt vlu bit lon cel btw) (bI (fX6_isKind x0)) := by
  generalize hres : fX6_isKind x0 = res
  refine CtI_mk (cc := cX6_isKind) (maxL := 1) (ret := (some .boolean)) (by decide) rfl (Nat.le_of_ble_eq_true rfl) ?_
  intro p e s m args below meth c ls hx hb hr hlk hml hown hts hP hK hE hl
  have hS : va_S (adA a 16 s.heap.size) s.heap s.heap [] := va_S.rf
  have hl : lv_has ls 1 [(0, .int x0)] := hl
  have hown : s.vm.findClass RX6 = some m.cls := hown
  obtain ⟨Q, hQ⟩ : ∃ Q, Q = mqI below D 16 a args s (wM a cI cJ cS sv kep bef isk fnd man nex wor sng hea lat tap tpd her flt vlu bit lon cel btw) (bI res) := ⟨_, rfl⟩
  rw [← hQ]
  unfold fX6_isKind at hres
  refine lv_iload_n hx hb dX6_isKind_0 rfl (lv_at hl 0 rfl) ?_
  refine lv_iconst (v := 0) hx hb dX6_isKind_1 (by decide) ?_
  refine lv_iconst (v := 5) hx hb dX6_isKind_2 (by decide) ?_
  refine csI hx hb hml hown hts hEo hE hK hP hS (kX6_in l D a cI cJ cS hd hEo sv kep bef isk fnd man nex wor sng hea lat tap tpd her flt vlu bit lon cel btw x0 (0 : Int32) (5 : Int32)) gX6_isKind_X6_in rfl hdX6_in ⟨rfl, rfl⟩ ⟨Nat.le_of_ble_eq_true rfl, Nat.le_of_ble_eq_true rfl⟩ ⟨Nat.zero_le _, Nat.zero_le _⟩ rfl hl.1 rfl (Nat.le_of_ble_eq_true rfl) dX6_isKind_3 (fun H locs hP hS => ?_)
  exact hQ ▸ rtZ (v := (fX6_in x0 (0 : Int32) (5 : Int32)))  hx hb hr hlk hP hS (by rw [← hres]) rfl dX6_isKind_6
def fX6_isPartly (x0 : Int32) (x1 : Int32) (x2 : Int32) : Bool :=
  if (bI (fX6_in x0 (1 : Int32) (12 : Int32))) = 0 then false else if (bI (fX6_in x1 x0 (12 : Int32))) = 0 then false else if (bI (fX6_in x2 (0 : Int32) (9 : Int32))) = 0 then false else true
abbrev rX6_isPartly : Room := { frames := 1, cells := 0, slots := 0, locals := 22 }
set_option maxHeartbeats 4000000 in
set_option maxRecDepth 100000 in
theorem kX6_isPartly (l : Launch) (D : va_G) (a : Nat → Nat) (cI cJ cS : ClassId) (hd : aok a 16) {Env : (Nat → Prop) → State → Heap → Prop} (hEo : envOK Env) (sv kep bef : Nat → Int32) (isk : Int32) (fnd : Nat → Int32) (man nex : Nat → Int64) (wor sng hea lat tap : Nat → Int32) (tpd her flt vlu : Int32) (bit lon : Nat → Int32) (cel btw : Nat → Int64) (x0 : Int32) (x1 : Int32) (x2 : Int32) : CtI l D (tyL cI cJ cS) 16 a Env yX6_isPartly wsX6_isPartly rX6_isPartly [.int x0, .int x1, .int x2] (wM a cI cJ cS sv kep bef isk fnd man nex wor sng hea lat tap tpd her flt vlu bit lon cel btw) (wM a cI cJ cS sv kep bef isk fnd man nex wor sng hea lat tap tpd her flt vlu bit lon cel btw) (bI (fX6_isPartly x0 x1 x2)) := by
  generalize hres : fX6_isPartly x0 x1 x2 = res
  refine CtI_mk (cc := cX6_isPartly) (maxL := 3) (ret := (some .boolean)) (by decide) rfl (Nat.le_of_ble_eq_true rfl) ?_
  intro p e s m args below meth c ls hx hb hr hlk hml hown hts hP hK hE hl
  have hS : va_S (adA a 16 s.heap.size) s.heap s.heap [] := va_S.rf
  have hl : lv_has ls 3 [(0, .int x0), (1, .int x1), (2, .int x2)] := hl
  have hown : s.vm.findClass RX6 = some m.cls := hown
  obtain ⟨Q, hQ⟩ : ∃ Q, Q = mqI below D 16 a args s (wM a cI cJ cS sv kep bef isk fnd man nex wor sng hea lat tap tpd her flt vlu bit lon cel btw) (bI res) := ⟨_, rfl⟩
  rw [← hQ]
  unfold fX6_isPartly at hres
  refine lv_iload_n hx hb dX6_isPartly_0 rfl (lv_at hl 0 rfl) ?_
  refine lv_iconst (v := 1) hx hb dX6_isPartly_1 (by decide) ?_
  refine lv_bipush (v := 12) hx hb dX6_isPartly_2 (by decide) ?_
  refine csI hx hb hml hown hts hEo hE hK hP hS (kX6_in l D a cI cJ cS hd hEo sv kep bef isk fnd man nex wor sng hea lat tap tpd her flt vlu bit lon cel btw x0 (1 : Int32) (12 : Int32)) gX6_isPartly_X6_in rfl hdX6_in ⟨rfl, rfl⟩ ⟨Nat.le_of_ble_eq_true rfl, Nat.le_of_ble_eq_true rfl⟩ ⟨Nat.zero_le _, Nat.zero_le _⟩ rfl hl.1 rfl (Nat.le_of_ble_eq_true rfl) dX6_isPartly_4 (fun H locs hP hS => ?_)
  refine lv_if_eq (tgt := 34) hx hb dX6_isPartly_7 (by decide) (fun c7 => ?_) (fun c7 => ?_)
  · have hres := (itl hres).1 c7
    refine lv_iconst (v := 0) hx hb dX6_isPartly_34 (by decide) ?_
    exact hQ ▸ rtZ (v := false)  hx hb hr hlk hP hS (by rw [← hres]) rfl dX6_isPartly_35
  · have hres := (itl hres).2 c7
    refine lv_iload_n hx hb dX6_isPartly_10 rfl (lv_at hl 1 rfl) ?_
    refine lv_iload_n hx hb dX6_isPartly_11 rfl (lv_at hl 0 rfl) ?_
    refine lv_bipush (v := 12) hx hb dX6_isPartly_12 (by decide) ?_
    refine csI hx hb hml hown hts hEo hE hK hP hS (kX6_in l D a cI cJ cS hd hEo sv kep bef isk fnd man nex wor sng hea lat tap tpd her flt vlu bit lon cel btw x1 x0 (12 : Int32)) gX6_isPartly_X6_in rfl hdX6_in ⟨rfl, rfl⟩ ⟨Nat.le_of_ble_eq_true rfl, Nat.le_of_ble_eq_true rfl⟩ ⟨Nat.zero_le _, Nat.zero_le _⟩ rfl hl.1 rfl (Nat.le_of_ble_eq_true rfl) dX6_isPartly_14 (fun H locs hP hS => ?_)
    refine lv_if_eq (tgt := 34) hx hb dX6_isPartly_17 (by decide) (fun c17 => ?_) (fun c17 => ?_)
    · have hres := (itl hres).1 c17
      refine lv_iconst (v := 0) hx hb dX6_isPartly_34 (by decide) ?_
      exact hQ ▸ rtZ (v := false)  hx hb hr hlk hP hS (by rw [← hres]) rfl dX6_isPartly_35
    · have hres := (itl hres).2 c17
      refine lv_iload_n hx hb dX6_isPartly_20 rfl (lv_at hl 2 rfl) ?_
      refine lv_iconst (v := 0) hx hb dX6_isPartly_21 (by decide) ?_
      refine lv_bipush (v := 9) hx hb dX6_isPartly_22 (by decide) ?_
      refine csI hx hb hml hown hts hEo hE hK hP hS (kX6_in l D a cI cJ cS hd hEo sv kep bef isk fnd man nex wor sng hea lat tap tpd her flt vlu bit lon cel btw x2 (0 : Int32) (9 : Int32)) gX6_isPartly_X6_in rfl hdX6_in ⟨rfl, rfl⟩ ⟨Nat.le_of_ble_eq_true rfl, Nat.le_of_ble_eq_true rfl⟩ ⟨Nat.zero_le _, Nat.zero_le _⟩ rfl hl.1 rfl (Nat.le_of_ble_eq_true rfl) dX6_isPartly_24 (fun H locs hP hS => ?_)
      refine lv_if_eq (tgt := 34) hx hb dX6_isPartly_27 (by decide) (fun c27 => ?_) (fun c27 => ?_)
      · have hres := (itl hres).1 c27
        refine lv_iconst (v := 0) hx hb dX6_isPartly_34 (by decide) ?_
        exact hQ ▸ rtZ (v := false)  hx hb hr hlk hP hS (by rw [← hres]) rfl dX6_isPartly_35
      · have hres := (itl hres).2 c27
        refine lv_iconst (v := 1) hx hb dX6_isPartly_30 (by decide) ?_
        refine lv_goto (tgt := 35) hx hb dX6_isPartly_31 (by decide) ?_
        exact hQ ▸ rtZ (v := true)  hx hb hr hlk hP hS (by rw [← hres]) rfl dX6_isPartly_35
def fX6_no (fnd : Nat → Int32) (x1 : Int32) : Option (Int32 × (Nat → Int32)) :=
  gd (ib x1 7) (gd (ib x1 7) (some ((-1000000001 : Int32) - x1, upd fnd x1.toNatClampNeg ((fnd x1.toNatClampNeg) + (1 : Int32)))))
abbrev rX6_no : Room := { frames := 0, cells := 0, slots := 0, locals := 0 }
set_option maxHeartbeats 4000000 in
set_option maxRecDepth 100000 in
theorem kX6_no (l : Launch) (D : va_G) (a : Nat → Nat) (cI cJ cS : ClassId) (hd : aok a 16) {Env : (Nat → Prop) → State → Heap → Prop} (hEo : envOK Env) (sv kep bef : Nat → Int32) (isk : Int32) (fnd : Nat → Int32) (man nex : Nat → Int64) (wor sng hea lat tap : Nat → Int32) (tpd her flt vlu : Int32) (bit lon : Nat → Int32) (cel btw : Nat → Int64) (x1 : Int32) (res : Int32 × (Nat → Int32)) (hres : fX6_no fnd x1 = some res) : CtI l D (tyL cI cJ cS) 16 a Env yX6_no wsX6_no rX6_no [.ref (a 0), .int x1] (wM a cI cJ cS sv kep bef isk fnd man nex wor sng hea lat tap tpd her flt vlu bit lon cel btw) (wM a cI cJ cS sv kep bef isk res.2 man nex wor sng hea lat tap tpd her flt vlu bit lon cel btw) res.1 := by
  refine CtI_mk (cc := cX6_no) (maxL := 2) (ret := (some .int)) (by decide) rfl (Nat.le_of_ble_eq_true rfl) ?_
  intro p e s m args below meth c ls hx hb hr hlk hml hown hts hP hK hE hl
  have hS : va_S (adA a 16 s.heap.size) s.heap s.heap [] := va_S.rf
  have hl : lv_has ls 2 [(0, .ref (a 0)), (1, .int x1)] := hl
  have hown : s.vm.findClass RX6 = some m.cls := hown
  have hw6 : ∀ w ∈ wsX60, w.before args s = true := fun w h => hts w (List.mem_cons_of_mem _ (List.mem_append_right _ h))
  have u1 : (Cond.fieldLink RX6 19 "YearWordsModel" "findings" "[I").before args s = true := hts _ (List.mem_of_getElem? (i := 1) (by decide +kernel))
  have u2 : (Cond.constant RX6 56 (-1000000001)).before args s = true := hts _ (List.mem_of_getElem? (i := 2) (by decide +kernel))
  obtain ⟨Q, hQ⟩ : ∃ Q, Q = mqI below D 16 a args s (wM a cI cJ cS sv kep bef isk res.2 man nex wor sng hea lat tap tpd her flt vlu bit lon cel btw) res.1 := ⟨_, rfl⟩
  rw [← hQ]
  unfold fX6_no at hres
  refine lv_aload_n hx hb dX6_no_0 rfl (lv_at hl 0 rfl) ?_
  refine gM_this6_findings hx hb hown hw6 hK hP u1 dX6_no_1 ?_
  refine lv_iload_n hx hb dX6_no_4 rfl (lv_at hl 1 rfl) ?_
  refine lv_dup2_11 hx hb dX6_no_5 rfl rfl ?_
  obtain ⟨i6, hres⟩ := gdi hres
  refine lM_fnd hx hb hK hP i6 dX6_no_6 ?_
  refine lv_iconst (v := 1) hx hb dX6_no_7 (by decide) ?_
  refine lv_iadd hx hb dX6_no_8 ?_
  obtain ⟨i9, hres⟩ := gdi hres
  refine sM_fnd hx hb hK hP hd hS i9 dX6_no_9 (fun H locs hP hS => ?_)
  refine lv_ldc hx hb hown u2 dX6_no_10 ?_
  refine lv_iload_n hx hb dX6_no_12 rfl (lv_at hl 1 rfl) ?_
  refine lv_isub hx hb dX6_no_13 ?_
  exact hQ ▸ rtI (v := (-1000000001 : Int32) - x1)  hx hb hr hlk hP hS (by rw [← (Option.some.inj hres)]) (by rw [← (Option.some.inj hres)]) dX6_no_14
def fX6_adds (sv : Nat → Int32) (x1 : Int32) (x2 : Int32) (x3 : Int32) (x4 : Int32) : Option ((Nat → Int32)) :=
  gd (ib (((4 : Int32) + ((4 : Int32) * (sv (1 : Int32).toNatClampNeg))) + (0 : Int32)) 166) (gd (ib (((4 : Int32) + ((4 : Int32) * (sv (1 : Int32).toNatClampNeg))) + (1 : Int32)) 166) (gd (ib (((4 : Int32) + ((4 : Int32) * (sv (1 : Int32).toNatClampNeg))) + (2 : Int32)) 166) (gd (ib (((4 : Int32) + ((4 : Int32) * (sv (1 : Int32).toNatClampNeg))) + (3 : Int32)) 166) (some (upd (upd (upd (upd (upd sv (((4 : Int32) + ((4 : Int32) * (sv (1 : Int32).toNatClampNeg))) + (0 : Int32)).toNatClampNeg x1) (((4 : Int32) + ((4 : Int32) * (sv (1 : Int32).toNatClampNeg))) + (1 : Int32)).toNatClampNeg x2) (((4 : Int32) + ((4 : Int32) * (sv (1 : Int32).toNatClampNeg))) + (2 : Int32)).toNatClampNeg x3) (((4 : Int32) + ((4 : Int32) * (sv (1 : Int32).toNatClampNeg))) + (3 : Int32)).toNatClampNeg x4) (1 : Int32).toNatClampNeg (((upd (upd (upd (upd sv (((4 : Int32) + ((4 : Int32) * (sv (1 : Int32).toNatClampNeg))) + (0 : Int32)).toNatClampNeg x1) (((4 : Int32) + ((4 : Int32) * (sv (1 : Int32).toNatClampNeg))) + (1 : Int32)).toNatClampNeg x2) (((4 : Int32) + ((4 : Int32) * (sv (1 : Int32).toNatClampNeg))) + (2 : Int32)).toNatClampNeg x3) (((4 : Int32) + ((4 : Int32) * (sv (1 : Int32).toNatClampNeg))) + (3 : Int32)).toNatClampNeg x4) (1 : Int32).toNatClampNeg) + (1 : Int32)))))))
abbrev rX6_adds : Room := { frames := 0, cells := 0, slots := 0, locals := 0 }
set_option maxHeartbeats 4000000 in
set_option maxRecDepth 100000 in
theorem kX6_adds (l : Launch) (D : va_G) (a : Nat → Nat) (cI cJ cS : ClassId) (hd : aok a 16) {Env : (Nat → Prop) → State → Heap → Prop} (hEo : envOK Env) (sv kep bef : Nat → Int32) (isk : Int32) (fnd : Nat → Int32) (man nex : Nat → Int64) (wor sng hea lat tap : Nat → Int32) (tpd her flt vlu : Int32) (bit lon : Nat → Int32) (cel btw : Nat → Int64) (x1 : Int32) (x2 : Int32) (x3 : Int32) (x4 : Int32) (res : (Nat → Int32)) (hres : fX6_adds sv x1 x2 x3 x4 = some res) : CtV l D (tyL cI cJ cS) 16 a Env yX6_adds wsX6_adds rX6_adds [.ref (a 0), .int x1, .int x2, .int x3, .int x4] (wM a cI cJ cS sv kep bef isk fnd man nex wor sng hea lat tap tpd her flt vlu bit lon cel btw) (wM a cI cJ cS res kep bef isk fnd man nex wor sng hea lat tap tpd her flt vlu bit lon cel btw) := by
  refine CtV_mk (cc := cX6_adds) (maxL := 6) (ret := none) (by decide) rfl (Nat.le_of_ble_eq_true rfl) ?_
  intro p e s m args below meth c ls hx hb hr hlk hml hown hts hP hK hE hl
  have hS : va_S (adA a 16 s.heap.size) s.heap s.heap [] := va_S.rf
  have hl : lv_has ls 6 [(0, .ref (a 0)), (1, .int x1), (2, .int x2), (3, .int x3), (4, .int x4)] := hl
  have hown : s.vm.findClass RX6 = some m.cls := hown
  have hw6 : ∀ w ∈ wsX60, w.before args s = true := fun w h => hts w (List.mem_cons_of_mem _ (List.mem_append_right _ h))
  have u1 : (Cond.fieldLink RX6 9 "YearWordsModel" "s" "[I").before args s = true := hts _ (List.mem_of_getElem? (i := 1) (by decide +kernel))
  obtain ⟨Q, hQ⟩ : ∃ Q, Q = mqV below D 16 a args s (wM a cI cJ cS res kep bef isk fnd man nex wor sng hea lat tap tpd her flt vlu bit lon cel btw) := ⟨_, rfl⟩
  rw [← hQ]
  unfold fX6_adds at hres
  refine lv_iconst (v := 4) hx hb dX6_adds_0 (by decide) ?_
  refine lv_iconst (v := 4) hx hb dX6_adds_1 (by decide) ?_
  refine lv_aload_n hx hb dX6_adds_2 rfl (lv_at hl 0 rfl) ?_
  refine gM_this6_s hx hb hown hw6 hK hP u1 dX6_adds_3 ?_
  refine lv_iconst (v := 1) hx hb dX6_adds_6 (by decide) ?_
  have i7 : vp_in (1 : Int32) 166 := ib_in (by decide)
  refine lM_sv hx hb hK hP i7 dX6_adds_7 ?_
  refine lv_imul hx hb dX6_adds_8 ?_
  refine lv_iadd hx hb dX6_adds_9 ?_
  refine lv_istore (lv' := [(5, .int ((4 : Int32) + ((4 : Int32) * (sv (1 : Int32).toNatClampNeg)))), (0, .ref (a 0)), (1, .int x1), (2, .int x2), (3, .int x3), (4, .int x4)]) hx hb dX6_adds_10 hl (by decide) rfl (fun ls hl => ?_)
  refine lv_aload_n hx hb dX6_adds_12 rfl (lv_at hl 1 rfl) ?_
  refine gM_this6_s hx hb hown hw6 hK hP u1 dX6_adds_13 ?_
  refine lv_iload hx hb dX6_adds_16 (lv_at hl 0 rfl) ?_
  refine lv_iconst (v := 0) hx hb dX6_adds_18 (by decide) ?_
  refine lv_iadd hx hb dX6_adds_19 ?_
  refine lv_iload_n hx hb dX6_adds_20 rfl (lv_at hl 2 rfl) ?_
  obtain ⟨i21, hres⟩ := gdi hres
  refine sM_sv hx hb hK hP hd hS i21 dX6_adds_21 (fun H locs hP hS => ?_)
  refine lv_aload_n hx hb dX6_adds_22 rfl (lv_at hl 1 rfl) ?_
  refine gM_this6_s hx hb hown hw6 hK hP u1 dX6_adds_23 ?_
  refine lv_iload hx hb dX6_adds_26 (lv_at hl 0 rfl) ?_
  refine lv_iconst (v := 1) hx hb dX6_adds_28 (by decide) ?_
  refine lv_iadd hx hb dX6_adds_29 ?_
  refine lv_iload_n hx hb dX6_adds_30 rfl (lv_at hl 3 rfl) ?_
  obtain ⟨i31, hres⟩ := gdi hres
  refine sM_sv hx hb hK hP hd hS i31 dX6_adds_31 (fun H locs hP hS => ?_)
  refine lv_aload_n hx hb dX6_adds_32 rfl (lv_at hl 1 rfl) ?_
  refine gM_this6_s hx hb hown hw6 hK hP u1 dX6_adds_33 ?_
  refine lv_iload hx hb dX6_adds_36 (lv_at hl 0 rfl) ?_
  refine lv_iconst (v := 2) hx hb dX6_adds_38 (by decide) ?_
  refine lv_iadd hx hb dX6_adds_39 ?_
  refine lv_iload_n hx hb dX6_adds_40 rfl (lv_at hl 4 rfl) ?_
  obtain ⟨i41, hres⟩ := gdi hres
  refine sM_sv hx hb hK hP hd hS i41 dX6_adds_41 (fun H locs hP hS => ?_)
  refine lv_aload_n hx hb dX6_adds_42 rfl (lv_at hl 1 rfl) ?_
  refine gM_this6_s hx hb hown hw6 hK hP u1 dX6_adds_43 ?_
  refine lv_iload hx hb dX6_adds_46 (lv_at hl 0 rfl) ?_
  refine lv_iconst (v := 3) hx hb dX6_adds_48 (by decide) ?_
  refine lv_iadd hx hb dX6_adds_49 ?_
  refine lv_iload hx hb dX6_adds_50 (lv_at hl 5 rfl) ?_
  obtain ⟨i52, hres⟩ := gdi hres
  refine sM_sv hx hb hK hP hd hS i52 dX6_adds_52 (fun H locs hP hS => ?_)
  refine lv_aload_n hx hb dX6_adds_53 rfl (lv_at hl 1 rfl) ?_
  refine gM_this6_s hx hb hown hw6 hK hP u1 dX6_adds_54 ?_
  refine lv_iconst (v := 1) hx hb dX6_adds_57 (by decide) ?_
  refine lv_dup2_11 hx hb dX6_adds_58 rfl rfl ?_
  have i59 : vp_in (1 : Int32) 166 := ib_in (by decide)
  refine lM_sv hx hb hK hP i59 dX6_adds_59 ?_
  refine lv_iconst (v := 1) hx hb dX6_adds_60 (by decide) ?_
  refine lv_iadd hx hb dX6_adds_61 ?_
  have i62 : vp_in (1 : Int32) 166 := ib_in (by decide)
  refine sM_sv hx hb hK hP hd hS i62 dX6_adds_62 (fun H locs hP hS => ?_)
  exact hQ ▸ rtV hx hb hr hlk hP hS (by rw [← (Option.some.inj hres)]) dX6_adds_63
def fX6_part_b17 (sv : Nat → Int32) (fnd : Nat → Int32) : Option (Int32 × (Nat → Int32) × (Nat → Int32)) :=
 (fX6_no fnd (0 : Int32)).bind fun q19 => some (q19.1, sv, q19.2)
def fX6_part (sv : Nat → Int32) (fnd : Nat → Int32) (x1 : Int32) (x2 : Int32) (x3 : Int32) (x4 : Int32) : Option (Int32 × (Nat → Int32) × (Nat → Int32)) :=
  if (bI (fX6_isKind x1)) = 0 then fX6_part_b17 sv fnd else if (bI (fX6_isPartly x2 x3 x4)) = 0 then fX6_part_b17 sv fnd else if (sv (1 : Int32).toNatClampNeg) = (16 : Int32) then (fX6_no fnd (1 : Int32)).bind fun q36 => some (q36.1, sv, q36.2) else (fX6_adds sv x1 x2 x3 x4).bind fun q46 => some ((q46 (1 : Int32).toNatClampNeg) - (1 : Int32), q46, fnd)
theorem hdX6_adds : yX6_adds.cls = RX6 ∧ yX6_adds.cls ≠ "java/lang/invoke/MethodHandle" ∧ yX6_adds.cls ≠ "java/lang/invoke/VarHandle" ∧ (parseMethodDescriptor yX6_adds.desc).map (fun d => d.parameters.length) = some 4 := by decide +kernel
theorem hdX6_isKind : yX6_isKind.cls ≠ "java/lang/invoke/MethodHandle" ∧ yX6_isKind.cls ≠ "java/lang/invoke/VarHandle" ∧ (parseMethodDescriptor yX6_isKind.desc).map (fun d => d.parameters.length) = some 1 := by decide +kernel
theorem hdX6_isPartly : yX6_isPartly.cls ≠ "java/lang/invoke/MethodHandle" ∧ yX6_isPartly.cls ≠ "java/lang/invoke/VarHandle" ∧ (parseMethodDescriptor yX6_isPartly.desc).map (fun d => d.parameters.length) = some 3 := by decide +kernel
theorem hdX6_no : yX6_no.cls = RX6 ∧ yX6_no.cls ≠ "java/lang/invoke/MethodHandle" ∧ yX6_no.cls ≠ "java/lang/invoke/VarHandle" ∧ (parseMethodDescriptor yX6_no.desc).map (fun d => d.parameters.length) = some 1 := by decide +kernel
abbrev rX6_part : Room := { frames := 2, cells := 0, slots := 0, locals := 44 }
set_option maxHeartbeats 4000000 in
set_option maxRecDepth 100000 in
theorem kX6_part (l : Launch) (D : va_G) (a : Nat → Nat) (cI cJ cS : ClassId) (hd : aok a 16) {Env : (Nat → Prop) → State → Heap → Prop} (hEo : envOK Env) (sv kep bef : Nat → Int32) (isk : Int32) (fnd : Nat → Int32) (man nex : Nat → Int64) (wor sng hea lat tap : Nat → Int32) (tpd her flt vlu : Int32) (bit lon : Nat → Int32) (cel btw : Nat → Int64) (x1 : Int32) (x2 : Int32) (x3 : Int32) (x4 : Int32) (res : Int32 × (Nat → Int32) × (Nat → Int32)) (hres : fX6_part sv fnd x1 x2 x3 x4 = some res) : CtI l D (tyL cI cJ cS) 16 a Env yX6_part wsX6_part rX6_part [.ref (a 0), .int x1, .int x2, .int x3, .int x4] (wM a cI cJ cS sv kep bef isk fnd man nex wor sng hea lat tap tpd her flt vlu bit lon cel btw) (wM a cI cJ cS res.2.1 kep bef isk res.2.2 man nex wor sng hea lat tap tpd her flt vlu bit lon cel btw) res.1 := by
  refine CtI_mk (cc := cX6_part) (maxL := 5) (ret := (some .int)) (by decide) rfl (Nat.le_of_ble_eq_true rfl) ?_
  intro p e s m args below meth c ls hx hb hr hlk hml hown hts hP hK hE hl
  have hS : va_S (adA a 16 s.heap.size) s.heap s.heap [] := va_S.rf
  have hl : lv_has ls 5 [(0, .ref (a 0)), (1, .int x1), (2, .int x2), (3, .int x3), (4, .int x4)] := hl
  have hown : s.vm.findClass RX6 = some m.cls := hown
  have hw6 : ∀ w ∈ wsX60, w.before args s = true := fun w h => hts w (List.mem_cons_of_mem _ (List.mem_append_right _ h))
  have u1 : (Cond.fieldLink RX6 9 "YearWordsModel" "s" "[I").before args s = true := hts _ (List.mem_of_getElem? (i := 1) (by decide +kernel))
  obtain ⟨Q, hQ⟩ : ∃ Q, Q = mqI below D 16 a args s (wM a cI cJ cS res.2.1 kep bef isk res.2.2 man nex wor sng hea lat tap tpd her flt vlu bit lon cel btw) res.1 := ⟨_, rfl⟩
  rw [← hQ]
  have b17 : ∀ (sv : Nat → Int32) (fnd : Nat → Int32), fX6_part_b17 sv fnd = some res → ∀ (H : Heap) (locs : List Loc) (ls : Array Slot), va_P D vwCl (wM a cI cJ cS sv kep bef isk fnd man nex wor sng hea lat tap tpd her flt vlu bit lon cel btw) H → va_S (adA a 16 s.heap.size) s.heap H locs → lv_has ls 5 [(0, .ref (a 0))] → W p l e rX6_part s m args below meth c H locs 0 0 Q (F0 m 17 ls []) := by
    intro sv fnd hres H locs ls hP hS hl
    unfold fX6_part_b17 at hres
    refine lv_aload_n hx hb dX6_part_17 rfl (lv_at hl 0 rfl) ?_
    refine lv_iconst (v := 0) hx hb dX6_part_18 (by decide) ?_
    obtain ⟨q19, e19, hres⟩ := obd hres
    refine cvI (q0 := 0) (ci := 6) hx hb hml hown hts hEo hE hK hP hS (kX6_no l D a cI cJ cS hd hEo sv kep bef isk fnd man nex wor sng hea lat tap tpd her flt vlu bit lon cel btw (0 : Int32) q19 e19) gX6_part_X6_no rfl hdX6_no rfl rfl rfl ⟨rfl, rfl⟩ ⟨Nat.le_of_ble_eq_true rfl, Nat.le_of_ble_eq_true rfl⟩ ⟨Nat.zero_le _, Nat.zero_le _⟩ rfl hl.1 rfl (Nat.le_of_ble_eq_true rfl) dX6_part_19 (fun H locs hP hS => ?_)
    exact hQ ▸ rtI (v := q19.1)  hx hb hr hlk hP hS (by rw [← (Option.some.inj hres)]) (by rw [← (Option.some.inj hres)]) dX6_part_22
  unfold fX6_part at hres
  refine lv_iload_n hx hb dX6_part_0 rfl (lv_at hl 1 rfl) ?_
  refine csI hx hb hml hown hts hEo hE hK hP hS (kX6_isKind l D a cI cJ cS hd hEo sv kep bef isk fnd man nex wor sng hea lat tap tpd her flt vlu bit lon cel btw x1) gX6_part_X6_isKind rfl hdX6_isKind ⟨rfl, rfl⟩ ⟨Nat.le_of_ble_eq_true rfl, Nat.le_of_ble_eq_true rfl⟩ ⟨Nat.zero_le _, Nat.zero_le _⟩ rfl hl.1 rfl (Nat.le_of_ble_eq_true rfl) dX6_part_1 (fun H locs hP hS => ?_)
  refine lv_if_eq (tgt := 17) hx hb dX6_part_4 (by decide) (fun c4 => ?_) (fun c4 => ?_)
  · have hres := (itl hres).1 c4
    exact b17 sv fnd hres _ _ _ hP hS (lv_sub hl [0] rfl)
  · have hres := (itl hres).2 c4
    refine lv_iload_n hx hb dX6_part_7 rfl (lv_at hl 2 rfl) ?_
    refine lv_iload_n hx hb dX6_part_8 rfl (lv_at hl 3 rfl) ?_
    refine lv_iload hx hb dX6_part_9 (lv_at hl 4 rfl) ?_
    refine csI hx hb hml hown hts hEo hE hK hP hS (kX6_isPartly l D a cI cJ cS hd hEo sv kep bef isk fnd man nex wor sng hea lat tap tpd her flt vlu bit lon cel btw x2 x3 x4) gX6_part_X6_isPartly rfl hdX6_isPartly ⟨rfl, rfl⟩ ⟨Nat.le_of_ble_eq_true rfl, Nat.le_of_ble_eq_true rfl⟩ ⟨Nat.zero_le _, Nat.zero_le _⟩ rfl hl.1 rfl (Nat.le_of_ble_eq_true rfl) dX6_part_11 (fun H locs hP hS => ?_)
    refine lv_if_ne (tgt := 23) hx hb dX6_part_14 (by decide) (fun c14 => ?_) (fun c14 => ?_)
    · have hres := (itl hres).2 c14
      refine lv_aload_n hx hb dX6_part_23 rfl (lv_at hl 0 rfl) ?_
      refine gM_this6_s hx hb hown hw6 hK hP u1 dX6_part_24 ?_
      refine lv_iconst (v := 1) hx hb dX6_part_27 (by decide) ?_
      have i28 : vp_in (1 : Int32) 166 := ib_in (by decide)
      refine lM_sv hx hb hK hP i28 dX6_part_28 ?_
      refine lv_bipush (v := 16) hx hb dX6_part_29 (by decide) ?_
      refine lv_icmp_ne (tgt := 40) hx hb dX6_part_31 (by decide) (fun c31 => ?_) (fun c31 => ?_)
      · have hres := (itl hres).2 c31
        refine lv_aload_n hx hb dX6_part_40 rfl (lv_at hl 0 rfl) ?_
        refine lv_iload_n hx hb dX6_part_41 rfl (lv_at hl 1 rfl) ?_
        refine lv_iload_n hx hb dX6_part_42 rfl (lv_at hl 2 rfl) ?_
        refine lv_iload_n hx hb dX6_part_43 rfl (lv_at hl 3 rfl) ?_
        refine lv_iload hx hb dX6_part_44 (lv_at hl 4 rfl) ?_
        obtain ⟨q46, e46, hres⟩ := obd hres
        refine cvV (q0 := 0) (ci := 6) hx hb hml hown hts hEo hE hK hP hS (kX6_adds l D a cI cJ cS hd hEo sv kep bef isk fnd man nex wor sng hea lat tap tpd her flt vlu bit lon cel btw x1 x2 x3 x4 q46 e46) gX6_part_X6_adds rfl hdX6_adds rfl rfl rfl ⟨rfl, rfl⟩ ⟨Nat.le_of_ble_eq_true rfl, Nat.le_of_ble_eq_true rfl⟩ ⟨Nat.zero_le _, Nat.zero_le _⟩ rfl hl.1 rfl (Nat.le_of_ble_eq_true rfl) dX6_part_46 (fun H locs hP hS => ?_)
        refine lv_aload_n hx hb dX6_part_49 rfl (lv_at hl 0 rfl) ?_
        refine gM_this6_s hx hb hown hw6 hK hP u1 dX6_part_50 ?_
        refine lv_iconst (v := 1) hx hb dX6_part_53 (by decide) ?_
        have i54 : vp_in (1 : Int32) 166 := ib_in (by decide)
        refine lM_sv hx hb hK hP i54 dX6_part_54 ?_
        refine lv_iconst (v := 1) hx hb dX6_part_55 (by decide) ?_
        refine lv_isub hx hb dX6_part_56 ?_
        exact hQ ▸ rtI (v := (q46 (1 : Int32).toNatClampNeg) - (1 : Int32))  hx hb hr hlk hP hS (by rw [← (Option.some.inj hres)]) (by rw [← (Option.some.inj hres)]) dX6_part_57
      · have hres := (itl hres).1 c31
        refine lv_aload_n hx hb dX6_part_34 rfl (lv_at hl 0 rfl) ?_
        refine lv_iconst (v := 1) hx hb dX6_part_35 (by decide) ?_
        obtain ⟨q36, e36, hres⟩ := obd hres
        refine cvI (q0 := 0) (ci := 6) hx hb hml hown hts hEo hE hK hP hS (kX6_no l D a cI cJ cS hd hEo sv kep bef isk fnd man nex wor sng hea lat tap tpd her flt vlu bit lon cel btw (1 : Int32) q36 e36) gX6_part_X6_no rfl hdX6_no rfl rfl rfl ⟨rfl, rfl⟩ ⟨Nat.le_of_ble_eq_true rfl, Nat.le_of_ble_eq_true rfl⟩ ⟨Nat.zero_le _, Nat.zero_le _⟩ rfl hl.1 rfl (Nat.le_of_ble_eq_true rfl) dX6_part_36 (fun H locs hP hS => ?_)
        exact hQ ▸ rtI (v := q36.1)  hx hb hr hlk hP hS (by rw [← (Option.some.inj hres)]) (by rw [← (Option.some.inj hres)]) dX6_part_39
    · have hres := (itl hres).1 c14
      exact b17 sv fnd hres _ _ _ hP hS (lv_sub hl [0] rfl)
