def fX6_tell_b16 (sv : Nat → Int32) (fnd : Nat → Int32) : Option (Int32 × (Nat → Int32) × (Nat → Int32)) :=
 (fX6_no fnd (0 : Int32)).bind fun q18 => some (q18.1, sv, q18.2)
def fX6_tell (sv : Nat → Int32) (fnd : Nat → Int32) (x1 : Int32) (x2 : Int32) : Option (Int32 × (Nat → Int32) × (Nat → Int32)) :=
 (fX6_isTale sv x1).bind fun q2 => if (bI q2) = 0 then fX6_tell_b16 sv fnd else if (bI (fX6_isPart sv x2)) = 0 then fX6_tell_b16 sv fnd else (fX6_long_ sv x1).bind fun q24 => if q24 = (10 : Int32) then (fX6_no fnd (1 : Int32)).bind fun q34 => some (q34.1, sv, q34.2) else (fX6_tells sv x1 x2).bind fun q41 => (fX6_long_ q41 x1).bind fun q46 => some (q46, q41, fnd)
theorem hdX6_isTale : yX6_isTale.cls = RX6 ∧ yX6_isTale.cls ≠ "java/lang/invoke/MethodHandle" ∧ yX6_isTale.cls ≠ "java/lang/invoke/VarHandle" ∧ (parseMethodDescriptor yX6_isTale.desc).map (fun d => d.parameters.length) = some 1 := by decide +kernel
theorem hdX6_long_ : yX6_long_.cls = RX6 ∧ yX6_long_.cls ≠ "java/lang/invoke/MethodHandle" ∧ yX6_long_.cls ≠ "java/lang/invoke/VarHandle" ∧ (parseMethodDescriptor yX6_long_.desc).map (fun d => d.parameters.length) = some 1 := by decide +kernel
theorem hdX6_tells : yX6_tells.cls = RX6 ∧ yX6_tells.cls ≠ "java/lang/invoke/MethodHandle" ∧ yX6_tells.cls ≠ "java/lang/invoke/VarHandle" ∧ (parseMethodDescriptor yX6_tells.desc).map (fun d => d.parameters.length) = some 2 := by decide +kernel
abbrev rX6_tell : Room := { frames := 2, cells := 0, slots := 0, locals := 43 }
set_option maxHeartbeats 4000000 in
set_option maxRecDepth 100000 in
theorem kX6_tell (l : Launch) (D : va_G) (a : Nat → Nat) (cI cJ cS : ClassId) (hd : aok a 16) {Env : (Nat → Prop) → State → Heap → Prop} (hEo : envOK Env) (sv kep bef : Nat → Int32) (isk : Int32) (fnd : Nat → Int32) (man nex : Nat → Int64) (wor sng hea lat tap : Nat → Int32) (tpd her flt vlu : Int32) (bit lon : Nat → Int32) (cel btw : Nat → Int64) (x1 : Int32) (x2 : Int32) (res : Int32 × (Nat → Int32) × (Nat → Int32)) (hres : fX6_tell sv fnd x1 x2 = some res) : CtI l D (tyL cI cJ cS) 16 a Env yX6_tell wsX6_tell rX6_tell [.ref (a 0), .int x1, .int x2] (wM a cI cJ cS sv kep bef isk fnd man nex wor sng hea lat tap tpd her flt vlu bit lon cel btw) (wM a cI cJ cS res.2.1 kep bef isk res.2.2 man nex wor sng hea lat tap tpd her flt vlu bit lon cel btw) res.1 := by
  refine CtI_mk (cc := cX6_tell) (maxL := 3) (ret := (some .int)) (by decide) rfl (Nat.le_of_ble_eq_true rfl) ?_
  intro p e s m args below meth c ls hx hb hr hlk hml hown hts hP hK hE hl
  have hS : va_S (adA a 16 s.heap.size) s.heap s.heap [] := va_S.rf
  have hl : lv_has ls 3 [(0, .ref (a 0)), (1, .int x1), (2, .int x2)] := hl
  have hown : s.vm.findClass RX6 = some m.cls := hown
  obtain ⟨Q, hQ⟩ : ∃ Q, Q = mqI below D 16 a args s (wM a cI cJ cS res.2.1 kep bef isk res.2.2 man nex wor sng hea lat tap tpd her flt vlu bit lon cel btw) res.1 := ⟨_, rfl⟩
  rw [← hQ]
  have b16 : ∀ (sv : Nat → Int32) (fnd : Nat → Int32), fX6_tell_b16 sv fnd = some res → ∀ (H : Heap) (locs : List Loc) (ls : Array Slot), va_P D vwCl (wM a cI cJ cS sv kep bef isk fnd man nex wor sng hea lat tap tpd her flt vlu bit lon cel btw) H → va_S (adA a 16 s.heap.size) s.heap H locs → lv_has ls 3 [(0, .ref (a 0))] → W p l e rX6_tell s m args below meth c H locs 0 0 Q (F0 m 16 ls []) := by
    intro sv fnd hres H locs ls hP hS hl
    unfold fX6_tell_b16 at hres
    refine lv_aload_n hx hb dX6_tell_16 rfl (lv_at hl 0 rfl) ?_
    refine lv_iconst (v := 0) hx hb dX6_tell_17 (by decide) ?_
    obtain ⟨q18, e18, hres⟩ := obd hres
    refine cvI (q0 := 0) (ci := 6) hx hb hml hown hts hEo hE hK hP hS (kX6_no l D a cI cJ cS hd hEo sv kep bef isk fnd man nex wor sng hea lat tap tpd her flt vlu bit lon cel btw (0 : Int32) q18 e18) gX6_tell_X6_no rfl hdX6_no rfl rfl rfl ⟨rfl, rfl⟩ ⟨Nat.le_of_ble_eq_true rfl, Nat.le_of_ble_eq_true rfl⟩ ⟨Nat.zero_le _, Nat.zero_le _⟩ rfl hl.1 rfl (Nat.le_of_ble_eq_true rfl) dX6_tell_18 (fun H locs hP hS => ?_)
    exact hQ ▸ rtI (v := q18.1)  hx hb hr hlk hP hS (by rw [← (Option.some.inj hres)]) (by rw [← (Option.some.inj hres)]) dX6_tell_21
  unfold fX6_tell at hres
  refine lv_aload_n hx hb dX6_tell_0 rfl (lv_at hl 0 rfl) ?_
  refine lv_iload_n hx hb dX6_tell_1 rfl (lv_at hl 1 rfl) ?_
  obtain ⟨q2, e2, hres⟩ := obd hres
  refine cvI (q0 := 0) (ci := 6) hx hb hml hown hts hEo hE hK hP hS (kX6_isTale l D a cI cJ cS hd hEo sv kep bef isk fnd man nex wor sng hea lat tap tpd her flt vlu bit lon cel btw x1 q2 e2) gX6_tell_X6_isTale rfl hdX6_isTale rfl rfl rfl ⟨rfl, rfl⟩ ⟨Nat.le_of_ble_eq_true rfl, Nat.le_of_ble_eq_true rfl⟩ ⟨Nat.zero_le _, Nat.zero_le _⟩ rfl hl.1 rfl (Nat.le_of_ble_eq_true rfl) dX6_tell_2 (fun H locs hP hS => ?_)
  refine lv_if_eq (tgt := 16) hx hb dX6_tell_5 (by decide) (fun c5 => ?_) (fun c5 => ?_)
  · have hres := (itl hres).1 c5
    exact b16 sv fnd hres _ _ _ hP hS (lv_sub hl [0] rfl)
  · have hres := (itl hres).2 c5
    refine lv_aload_n hx hb dX6_tell_8 rfl (lv_at hl 0 rfl) ?_
    refine lv_iload_n hx hb dX6_tell_9 rfl (lv_at hl 2 rfl) ?_
    refine cvI (q0 := 0) (ci := 6) hx hb hml hown hts hEo hE hK hP hS (kX6_isPart l D a cI cJ cS hd hEo sv kep bef isk fnd man nex wor sng hea lat tap tpd her flt vlu bit lon cel btw x2) gX6_tell_X6_isPart rfl hdX6_isPart rfl rfl rfl ⟨rfl, rfl⟩ ⟨Nat.le_of_ble_eq_true rfl, Nat.le_of_ble_eq_true rfl⟩ ⟨Nat.zero_le _, Nat.zero_le _⟩ rfl hl.1 rfl (Nat.le_of_ble_eq_true rfl) dX6_tell_10 (fun H locs hP hS => ?_)
    refine lv_if_ne (tgt := 22) hx hb dX6_tell_13 (by decide) (fun c13 => ?_) (fun c13 => ?_)
    · have hres := (itl hres).2 c13
      refine lv_aload_n hx hb dX6_tell_22 rfl (lv_at hl 0 rfl) ?_
      refine lv_iload_n hx hb dX6_tell_23 rfl (lv_at hl 1 rfl) ?_
      obtain ⟨q24, e24, hres⟩ := obd hres
      refine cvI (q0 := 0) (ci := 6) hx hb hml hown hts hEo hE hK hP hS (kX6_long_ l D a cI cJ cS hd hEo sv kep bef isk fnd man nex wor sng hea lat tap tpd her flt vlu bit lon cel btw x1 q24 e24) gX6_tell_X6_long_ rfl hdX6_long_ rfl rfl rfl ⟨rfl, rfl⟩ ⟨Nat.le_of_ble_eq_true rfl, Nat.le_of_ble_eq_true rfl⟩ ⟨Nat.zero_le _, Nat.zero_le _⟩ rfl hl.1 rfl (Nat.le_of_ble_eq_true rfl) dX6_tell_24 (fun H locs hP hS => ?_)
      refine lv_bipush (v := 10) hx hb dX6_tell_27 (by decide) ?_
      refine lv_icmp_ne (tgt := 38) hx hb dX6_tell_29 (by decide) (fun c29 => ?_) (fun c29 => ?_)
      · have hres := (itl hres).2 c29
        refine lv_aload_n hx hb dX6_tell_38 rfl (lv_at hl 0 rfl) ?_
        refine lv_iload_n hx hb dX6_tell_39 rfl (lv_at hl 1 rfl) ?_
        refine lv_iload_n hx hb dX6_tell_40 rfl (lv_at hl 2 rfl) ?_
        obtain ⟨q41, e41, hres⟩ := obd hres
        refine cvV (q0 := 0) (ci := 6) hx hb hml hown hts hEo hE hK hP hS (kX6_tells l D a cI cJ cS hd hEo sv kep bef isk fnd man nex wor sng hea lat tap tpd her flt vlu bit lon cel btw x1 x2 q41 e41) gX6_tell_X6_tells rfl hdX6_tells rfl rfl rfl ⟨rfl, rfl⟩ ⟨Nat.le_of_ble_eq_true rfl, Nat.le_of_ble_eq_true rfl⟩ ⟨Nat.zero_le _, Nat.zero_le _⟩ rfl hl.1 rfl (Nat.le_of_ble_eq_true rfl) dX6_tell_41 (fun H locs hP hS => ?_)
        refine lv_aload_n hx hb dX6_tell_44 rfl (lv_at hl 0 rfl) ?_
        refine lv_iload_n hx hb dX6_tell_45 rfl (lv_at hl 1 rfl) ?_
        obtain ⟨q46, e46, hres⟩ := obd hres
        refine cvI (q0 := 0) (ci := 6) hx hb hml hown hts hEo hE hK hP hS (kX6_long_ l D a cI cJ cS hd hEo q41 kep bef isk fnd man nex wor sng hea lat tap tpd her flt vlu bit lon cel btw x1 q46 e46) gX6_tell_X6_long_ rfl hdX6_long_ rfl rfl rfl ⟨rfl, rfl⟩ ⟨Nat.le_of_ble_eq_true rfl, Nat.le_of_ble_eq_true rfl⟩ ⟨Nat.zero_le _, Nat.zero_le _⟩ rfl hl.1 rfl (Nat.le_of_ble_eq_true rfl) dX6_tell_46 (fun H locs hP hS => ?_)
        exact hQ ▸ rtI (v := q46)  hx hb hr hlk hP hS (by rw [← (Option.some.inj hres)]) (by rw [← (Option.some.inj hres)]) dX6_tell_49
      · have hres := (itl hres).1 c29
        refine lv_aload_n hx hb dX6_tell_32 rfl (lv_at hl 0 rfl) ?_
        refine lv_iconst (v := 1) hx hb dX6_tell_33 (by decide) ?_
        obtain ⟨q34, e34, hres⟩ := obd hres
        refine cvI (q0 := 0) (ci := 6) hx hb hml hown hts hEo hE hK hP hS (kX6_no l D a cI cJ cS hd hEo sv kep bef isk fnd man nex wor sng hea lat tap tpd her flt vlu bit lon cel btw (1 : Int32) q34 e34) gX6_tell_X6_no rfl hdX6_no rfl rfl rfl ⟨rfl, rfl⟩ ⟨Nat.le_of_ble_eq_true rfl, Nat.le_of_ble_eq_true rfl⟩ ⟨Nat.zero_le _, Nat.zero_le _⟩ rfl hl.1 rfl (Nat.le_of_ble_eq_true rfl) dX6_tell_34 (fun H locs hP hS => ?_)
        exact hQ ▸ rtI (v := q34.1)  hx hb hr hlk hP hS (by rw [← (Option.some.inj hres)]) (by rw [← (Option.some.inj hres)]) dX6_tell_37
    · have hres := (itl hres).1 c13
      exact b16 sv fnd hres _ _ _ hP hS (lv_sub hl [0] rfl)
def fX6_cut (sv : Nat → Int32) (fnd : Nat → Int32) (x1 : Int32) : Option (Int32 × (Nat → Int32) × (Nat → Int32)) :=
 (fX6_isTale sv x1).bind fun q2 => if (bI q2) = 0 then (fX6_no fnd (0 : Int32)).bind fun q10 => some (q10.1, sv, q10.2) else (fX6_long_ sv x1).bind fun q16 => if q16 = 0 then (fX6_no fnd (3 : Int32)).bind fun q24 => some (q24.1, sv, q24.2) else gd (ib ((68 : Int32) + ((11 : Int32) * x1)) 166) (gd (ib ((68 : Int32) + ((11 : Int32) * x1)) 166) ((fX6_long_ (upd sv ((68 : Int32) + ((11 : Int32) * x1)).toNatClampNeg ((sv ((68 : Int32) + ((11 : Int32) * x1)).toNatClampNeg) - (1 : Int32))) x1).bind fun q48 => (fX6_nth (upd sv ((68 : Int32) + ((11 : Int32) * x1)).toNatClampNeg ((sv ((68 : Int32) + ((11 : Int32) * x1)).toNatClampNeg) - (1 : Int32))) x1 q48).bind fun q51 => some (q51, upd sv ((68 : Int32) + ((11 : Int32) * x1)).toNatClampNeg ((sv ((68 : Int32) + ((11 : Int32) * x1)).toNatClampNeg) - (1 : Int32)), fnd)))
theorem hdX6_nth : yX6_nth.cls = RX6 ∧ yX6_nth.cls ≠ "java/lang/invoke/MethodHandle" ∧ yX6_nth.cls ≠ "java/lang/invoke/VarHandle" ∧ (parseMethodDescriptor yX6_nth.desc).map (fun d => d.parameters.length) = some 2 := by decide +kernel
abbrev rX6_cut : Room := { frames := 2, cells := 0, slots := 0, locals := 43 }
set_option maxHeartbeats 4000000 in
set_option maxRecDepth 100000 in
theorem kX6_cut (l : Launch) (D : va_G) (a : Nat → Nat) (cI cJ cS : ClassId) (hd : aok a 16) {Env : (Nat → Prop) → State → Heap → Prop} (hEo : envOK Env) (sv kep bef : Nat → Int32) (isk : Int32) (fnd : Nat → Int32) (man nex : Nat → Int64) (wor sng hea lat tap : Nat → Int32) (tpd her flt vlu : Int32) (bit lon : Nat → Int32) (cel btw : Nat → Int64) (x1 : Int32) (res : Int32 × (Nat → Int32) × (Nat → Int32)) (hres : fX6_cut sv fnd x1 = some res) : CtI l D (tyL cI cJ cS) 16 a Env yX6_cut wsX6_cut rX6_cut [.ref (a 0), .int x1] (wM a cI cJ cS sv kep bef isk fnd man nex wor sng hea lat tap tpd her flt vlu bit lon cel btw) (wM a cI cJ cS res.2.1 kep bef isk res.2.2 man nex wor sng hea lat tap tpd her flt vlu bit lon cel btw) res.1 := by
  refine CtI_mk (cc := cX6_cut) (maxL := 2) (ret := (some .int)) (by decide) rfl (Nat.le_of_ble_eq_true rfl) ?_
  intro p e s m args below meth c ls hx hb hr hlk hml hown hts hP hK hE hl
  have hS : va_S (adA a 16 s.heap.size) s.heap s.heap [] := va_S.rf
  have hl : lv_has ls 2 [(0, .ref (a 0)), (1, .int x1)] := hl
  have hown : s.vm.findClass RX6 = some m.cls := hown
  have hw6 : ∀ w ∈ wsX60, w.before args s = true := fun w h => hts w (List.mem_cons_of_mem _ (List.mem_append_right _ h))
  have u1 : (Cond.fieldLink RX6 9 "YearWordsModel" "s" "[I").before args s = true := hts _ (List.mem_of_getElem? (i := 1) (by decide +kernel))
  obtain ⟨Q, hQ⟩ : ∃ Q, Q = mqI below D 16 a args s (wM a cI cJ cS res.2.1 kep bef isk res.2.2 man nex wor sng hea lat tap tpd her flt vlu bit lon cel btw) res.1 := ⟨_, rfl⟩
  rw [← hQ]
  unfold fX6_cut at hres
  refine lv_aload_n hx hb dX6_cut_0 rfl (lv_at hl 0 rfl) ?_
  refine lv_iload_n hx hb dX6_cut_1 rfl (lv_at hl 1 rfl) ?_
  obtain ⟨q2, e2, hres⟩ := obd hres
  refine cvI (q0 := 0) (ci := 6) hx hb hml hown hts hEo hE hK hP hS (kX6_isTale l D a cI cJ cS hd hEo sv kep bef isk fnd man nex wor sng hea lat tap tpd her flt vlu bit lon cel btw x1 q2 e2) gX6_cut_X6_isTale rfl hdX6_isTale rfl rfl rfl ⟨rfl, rfl⟩ ⟨Nat.le_of_ble_eq_true rfl, Nat.le_of_ble_eq_true rfl⟩ ⟨Nat.zero_le _, Nat.zero_le _⟩ rfl hl.1 rfl (Nat.le_of_ble_eq_true rfl) dX6_cut_2 (fun H locs hP hS => ?_)
  refine lv_if_ne (tgt := 14) hx hb dX6_cut_5 (by decide) (fun c5 => ?_) (fun c5 => ?_)
  · have hres := (itl hres).2 c5
    refine lv_aload_n hx hb dX6_cut_14 rfl (lv_at hl 0 rfl) ?_
    refine lv_iload_n hx hb dX6_cut_15 rfl (lv_at hl 1 rfl) ?_
    obtain ⟨q16, e16, hres⟩ := obd hres
    refine cvI (q0 := 0) (ci := 6) hx hb hml hown hts hEo hE hK hP hS (kX6_long_ l D a cI cJ cS hd hEo sv kep bef isk fnd man nex wor sng hea lat tap tpd her flt vlu bit lon cel btw x1 q16 e16) gX6_cut_X6_long_ rfl hdX6_long_ rfl rfl rfl ⟨rfl, rfl⟩ ⟨Nat.le_of_ble_eq_true rfl, Nat.le_of_ble_eq_true rfl⟩ ⟨Nat.zero_le _, Nat.zero_le _⟩ rfl hl.1 rfl (Nat.le_of_ble_eq_true rfl) dX6_cut_16 (fun H locs hP hS => ?_)
    refine lv_if_ne (tgt := 28) hx hb dX6_cut_19 (by decide) (fun c19 => ?_) (fun c19 => ?_)
    · have hres := (itl hres).2 c19
      refine lv_aload_n hx hb dX6_cut_28 rfl (lv_at hl 0 rfl) ?_
      refine gM_this6_s hx hb hown hw6 hK hP u1 dX6_cut_29 ?_
      refine lv_bipush (v := 68) hx hb dX6_cut_32 (by decide) ?_
      refine lv_bipush (v := 11) hx hb dX6_cut_34 (by decide) ?_
      refine lv_iload_n hx hb dX6_cut_36 rfl (lv_at hl 1 rfl) ?_
      refine lv_imul hx hb dX6_cut_37 ?_
      refine lv_iadd hx hb dX6_cut_38 ?_
      refine lv_dup2_11 hx hb dX6_cut_39 rfl rfl ?_
      obtain ⟨i40, hres⟩ := gdi hres
      refine lM_sv hx hb hK hP i40 dX6_cut_40 ?_
      refine lv_iconst (v := 1) hx hb dX6_cut_41 (by decide) ?_
      refine lv_isub hx hb dX6_cut_42 ?_
      obtain ⟨i43, hres⟩ := gdi hres
      refine sM_sv hx hb hK hP hd hS i43 dX6_cut_43 (fun H locs hP hS => ?_)
      refine lv_aload_n hx hb dX6_cut_44 rfl (lv_at hl 0 rfl) ?_
      refine lv_iload_n hx hb dX6_cut_45 rfl (lv_at hl 1 rfl) ?_
      refine lv_aload_n hx hb dX6_cut_46 rfl (lv_at hl 0 rfl) ?_
      refine lv_iload_n hx hb dX6_cut_47 rfl (lv_at hl 1 rfl) ?_
      obtain ⟨q48, e48, hres⟩ := obd hres
      refine cvI (q0 := 0) (ci := 6) hx hb hml hown hts hEo hE hK hP hS (kX6_long_ l D a cI cJ cS hd hEo (upd sv ((68 : Int32) + ((11 : Int32) * x1)).toNatClampNeg ((sv ((68 : Int32) + ((11 : Int32) * x1)).toNatClampNeg) - (1 : Int32))) kep bef isk fnd man nex wor sng hea lat tap tpd her flt vlu bit lon cel btw x1 q48 e48) gX6_cut_X6_long_ rfl hdX6_long_ rfl rfl rfl ⟨rfl, rfl⟩ ⟨Nat.le_of_ble_eq_true rfl, Nat.le_of_ble_eq_true rfl⟩ ⟨Nat.zero_le _, Nat.zero_le _⟩ rfl hl.1 rfl (Nat.le_of_ble_eq_true rfl) dX6_cut_48 (fun H locs hP hS => ?_)
      obtain ⟨q51, e51, hres⟩ := obd hres
      refine cvI (q0 := 0) (ci := 6) hx hb hml hown hts hEo hE hK hP hS (kX6_nth l D a cI cJ cS hd hEo (upd sv ((68 : Int32) + ((11 : Int32) * x1)).toNatClampNeg ((sv ((68 : Int32) + ((11 : Int32) * x1)).toNatClampNeg) - (1 : Int32))) kep bef isk fnd man nex wor sng hea lat tap tpd her flt vlu bit lon cel btw x1 q48 q51 e51) gX6_cut_X6_nth rfl hdX6_nth rfl rfl rfl ⟨rfl, rfl⟩ ⟨Nat.le_of_ble_eq_true rfl, Nat.le_of_ble_eq_true rfl⟩ ⟨Nat.zero_le _, Nat.zero_le _⟩ rfl hl.1 rfl (Nat.le_of_ble_eq_true rfl) dX6_cut_51 (fun H locs hP hS => ?_)
      exact hQ ▸ rtI (v := q51)  hx hb hr hlk hP hS (by rw [← (Option.some.inj hres)]) (by rw [← (Option.some.inj hres)]) dX6_cut_54
    · have hres := (itl hres).1 c19
      refine lv_aload_n hx hb dX6_cut_22 rfl (lv_at hl 0 rfl) ?_
      refine lv_iconst (v := 3) hx hb dX6_cut_23 (by decide) ?_
      obtain ⟨q24, e24, hres⟩ := obd hres
      refine cvI (q0 := 0) (ci := 6) hx hb hml hown hts hEo hE hK hP hS (kX6_no l D a cI cJ cS hd hEo sv kep bef isk fnd man nex wor sng hea lat tap tpd her flt vlu bit lon cel btw (3 : Int32) q24 e24) gX6_cut_X6_no rfl hdX6_no rfl rfl rfl ⟨rfl, rfl⟩ ⟨Nat.le_of_ble_eq_true rfl, Nat.le_of_ble_eq_true rfl⟩ ⟨Nat.zero_le _, Nat.zero_le _⟩ rfl hl.1 rfl (Nat.le_of_ble_eq_true rfl) dX6_cut_24 (fun H locs hP hS => ?_)
      exact hQ ▸ rtI (v := q24.1)  hx hb hr hlk hP hS (by rw [← (Option.some.inj hres)]) (by rw [← (Option.some.inj hres)]) dX6_cut_27
  · have hres := (itl hres).1 c5
    refine lv_aload_n hx hb dX6_cut_8 rfl (lv_at hl 0 rfl) ?_
    refine lv_iconst (v := 0) hx hb dX6_cut_9 (by decide) ?_
    obtain ⟨q10, e10, hres⟩ := obd hres
    refine cvI (q0 := 0) (ci := 6) hx hb hml hown hts hEo hE hK hP hS (kX6_no l D a cI cJ cS hd hEo sv kep bef isk fnd man nex wor sng hea lat tap tpd her flt vlu bit lon cel btw (0 : Int32) q10 e10) gX6_cut_X6_no rfl hdX6_no rfl rfl rfl ⟨rfl, rfl⟩ ⟨Nat.le_of_ble_eq_true rfl, Nat.le_of_ble_eq_true rfl⟩ ⟨Nat.zero_le _, Nat.zero_le _⟩ rfl hl.1 rfl (Nat.le_of_ble_eq_true rfl) dX6_cut_10 (fun H locs hP hS => ?_)
    exact hQ ▸ rtI (v := q10.1)  hx hb hr hlk hP hS (by rw [← (Option.some.inj hres)]) (by rw [← (Option.some.inj hres)]) dX6_cut_13
def fX6_ith_b32 (fnd : Nat → Int32) : Option (Int32 × (Nat → Int32)) :=
 (fX6_no fnd (0 : Int32)).bind fun q34 => some (q34.1, q34.2)
def fX6_ith (sv : Nat → Int32) (fnd : Nat → Int32) (x1 : Int32) (x2 : Int32) : Option (Int32 × (Nat → Int32)) :=
 (fX6_isTale sv x1).bind fun q2 => if (bI q2) = 0 then fX6_ith_b32 fnd else (fX6_long_ sv x1).bind fun q12 => if (bI (fX6_in x2 (0 : Int32) (q12 - (1 : Int32)))) = 0 then fX6_ith_b32 fnd else (fX6_nth sv x1 x2).bind fun q26 => some (q26, fnd)
abbrev rX6_ith : Room := { frames := 2, cells := 0, slots := 0, locals := 43 }
set_option maxHeartbeats 4000000 in
set_option maxRecDepth 100000 in
theorem kX6_ith (l : Launch) (D : va_G) (a : Nat → Nat) (cI cJ cS : ClassId) (hd : aok a 16) {Env : (Nat → Prop) → State → Heap → Prop} (hEo : envOK Env) (sv kep bef : Nat → Int32) (isk : Int32) (fnd : Nat → Int32) (man nex : Nat → Int64) (wor sng hea lat tap : Nat → Int32) (tpd her flt vlu : Int32) (bit lon : Nat → Int32) (cel btw : Nat → Int64) (x1 : Int32) (x2 : Int32) (res : Int32 × (Nat → Int32)) (hres : fX6_ith sv fnd x1 x2 = some res) : CtI l D (tyL cI cJ cS) 16 a Env yX6_ith wsX6_ith rX6_ith [.ref (a 0), .int x1, .int x2] (wM a cI cJ cS sv kep bef isk fnd man nex wor sng hea lat tap tpd her flt vlu bit lon cel btw) (wM a cI cJ cS sv kep bef isk res.2 man nex wor sng hea lat tap tpd her flt vlu bit lon cel btw) res.1 := by
  refine CtI_mk (cc := cX6_ith) (maxL := 3) (ret := (some .int)) (by decide) rfl (Nat.le_of_ble_eq_true rfl) ?_
  intro p e s m args below meth c ls hx hb hr hlk hml hown hts hP hK hE hl
  have hS : va_S (adA a 16 s.heap.size) s.heap s.heap [] := va_S.rf
  have hl : lv_has ls 3 [(0, .ref (a 0)), (1, .int x1), (2, .int x2)] := hl
  have hown : s.vm.findClass RX6 = some m.cls := hown
  obtain ⟨Q, hQ⟩ : ∃ Q, Q = mqI below D 16 a args s (wM a cI cJ cS sv kep bef isk res.2 man nex wor sng hea lat tap tpd her flt vlu bit lon cel btw) res.1 := ⟨_, rfl⟩
  rw [← hQ]
  have b32 : ∀ (fnd : Nat → Int32), fX6_ith_b32 fnd = some res → ∀ (H : Heap) (locs : List Loc) (ls : Array Slot), va_P D vwCl (wM a cI cJ cS sv kep bef isk fnd man nex wor sng hea lat tap tpd her flt vlu bit lon cel btw) H → va_S (adA a 16 s.heap.size) s.heap H locs → lv_has ls 3 [(0, .ref (a 0))] → W p l e rX6_ith s m args below meth c H locs 0 0 Q (F0 m 32 ls []) := by
    intro fnd hres H locs ls hP hS hl
    unfold fX6_ith_b32 at hres
    refine lv_aload_n hx hb dX6_ith_32 rfl (lv_at hl 0 rfl) ?_
    refine lv_iconst (v := 0) hx hb dX6_ith_33 (by decide) ?_
    obtain ⟨q34, e34, hres⟩ := obd hres
    refine cvI (q0 := 0) (ci := 6) hx hb hml hown hts hEo hE hK hP hS (kX6_no l D a cI cJ cS hd hEo sv kep bef isk fnd man nex wor sng hea lat tap tpd her flt vlu bit lon cel btw (0 : Int32) q34 e34) gX6_ith_X6_no rfl hdX6_no rfl rfl rfl ⟨rfl, rfl⟩ ⟨Nat.le_of_ble_eq_true rfl, Nat.le_of_ble_eq_true rfl⟩ ⟨Nat.zero_le _, Nat.zero_le _⟩ rfl hl.1 rfl (Nat.le_of_ble_eq_true rfl) dX6_ith_34 (fun H locs hP hS => ?_)
    exact hQ ▸ rtI (v := q34.1)  hx hb hr hlk hP hS (by rw [← (Option.some.inj hres)]) (by rw [← (Option.some.inj hres)]) dX6_ith_37
  unfold fX6_ith at hres
  refine lv_aload_n hx hb dX6_ith_0 rfl (lv_at hl 0 rfl) ?_
  refine lv_iload_n hx hb dX6_ith_1 rfl (lv_at hl 1 rfl) ?_
  obtain ⟨q2, e2, hres⟩ := obd hres
  refine cvI (q0 := 0) (ci := 6) hx hb hml hown hts hEo hE hK hP hS (kX6_isTale l D a cI cJ cS hd hEo sv kep bef isk fnd man nex wor sng hea lat tap tpd her flt vlu bit lon cel btw x1 q2 e2) gX6_ith_X6_isTale rfl hdX6_isTale rfl rfl rfl ⟨rfl, rfl⟩ ⟨Nat.le_of_ble_eq_true rfl, Nat.le_of_ble_eq_true rfl⟩ ⟨Nat.zero_le _, Nat.zero_le _⟩ rfl hl.1 rfl (Nat.le_of_ble_eq_true rfl) dX6_ith_2 (fun H locs hP hS => ?_)
  refine lv_if_eq (tgt := 32) hx hb dX6_ith_5 (by decide) (fun c5 => ?_) (fun c5 => ?_)
  · have hres := (itl hres).1 c5
    exact b32 fnd hres _ _ _ hP hS (lv_sub hl [0] rfl)
  · have hres := (itl hres).2 c5
    refine lv_iload_n hx hb dX6_ith_8 rfl (lv_at hl 2 rfl) ?_
    refine lv_iconst (v := 0) hx hb dX6_ith_9 (by decide) ?_
    refine lv_aload_n hx hb dX6_ith_10 rfl (lv_at hl 0 rfl) ?_
    refine lv_iload_n hx hb dX6_ith_11 rfl (lv_at hl 1 rfl) ?_
    obtain ⟨q12, e12, hres⟩ := obd hres
    refine cvI (q0 := 0) (ci := 6) hx hb hml hown hts hEo hE hK hP hS (kX6_long_ l D a cI cJ cS hd hEo sv kep bef isk fnd man nex wor sng hea lat tap tpd her flt vlu bit lon cel btw x1 q12 e12) gX6_ith_X6_long_ rfl hdX6_long_ rfl rfl rfl ⟨rfl, rfl⟩ ⟨Nat.le_of_ble_eq_true rfl, Nat.le_of_ble_eq_true rfl⟩ ⟨Nat.zero_le _, Nat.zero_le _⟩ rfl hl.1 rfl (Nat.le_of_ble_eq_true rfl) dX6_ith_12 (fun H locs hP hS => ?_)
    refine lv_iconst (v := 1) hx hb dX6_ith_15 (by decide) ?_
    refine lv_isub hx hb dX6_ith_16 ?_
    refine csI hx hb hml hown hts hEo hE hK hP hS (kX6_in l D a cI cJ cS hd hEo sv kep bef isk fnd man nex wor sng hea lat tap tpd her flt vlu bit lon cel btw x2 (0 : Int32) (q12 - (1 : Int32))) gX6_ith_X6_in rfl hdX6_in ⟨rfl, rfl⟩ ⟨Nat.le_of_ble_eq_true rfl, Nat.le_of_ble_eq_true rfl⟩ ⟨Nat.zero_le _, Nat.zero_le _⟩ rfl hl.1 rfl (Nat.le_of_ble_eq_true rfl) dX6_ith_17 (fun H locs hP hS => ?_)
    refine lv_if_eq (tgt := 32) hx hb dX6_ith_20 (by decide) (fun c20 => ?_) (fun c20 => ?_)
    · have hres := (itl hres).1 c20
      exact b32 fnd hres _ _ _ hP hS (lv_sub hl [0] rfl)
    · have hres := (itl hres).2 c20
      refine lv_aload_n hx hb dX6_ith_23 rfl (lv_at hl 0 rfl) ?_
      refine lv_iload_n hx hb dX6_ith_24 rfl (lv_at hl 1 rfl) ?_
      refine lv_iload_n hx hb dX6_ith_25 rfl (lv_at hl 2 rfl) ?_
      obtain ⟨q26, e26, hres⟩ := obd hres
      refine cvI (q0 := 0) (ci := 6) hx hb hml hown hts hEo hE hK hP hS (kX6_nth l D a cI cJ cS hd hEo sv kep bef isk fnd man nex wor sng hea lat tap tpd her flt vlu bit lon cel btw x1 x2 q26 e26) gX6_ith_X6_nth rfl hdX6_nth rfl rfl rfl ⟨rfl, rfl⟩ ⟨Nat.le_of_ble_eq_true rfl, Nat.le_of_ble_eq_true rfl⟩ ⟨Nat.zero_le _, Nat.zero_le _⟩ rfl hl.1 rfl (Nat.le_of_ble_eq_true rfl) dX6_ith_26 (fun H locs hP hS => ?_)
      refine lv_goto (tgt := 37) hx hb dX6_ith_29 (by decide) ?_
      exact hQ ▸ rtI (v := q26)  hx hb hr hlk hP hS (by rw [← (Option.some.inj hres)]) (by rw [← (Option.some.inj hres)]) dX6_ith_37
def fX6_size (sv : Nat → Int32) (fnd : Nat → Int32) (x1 : Int32) : Option (Int32 × (Nat → Int32)) :=
 (fX6_isTale sv x1).bind fun q2 => if (bI q2) = 0 then (fX6_no fnd (0 : Int32)).bind fun q18 => some (q18.1, q18.2) else (fX6_long_ sv x1).bind fun q10 => some (q10, fnd)
abbrev rX6_size : Room := { frames := 2, cells := 0, slots := 0, locals := 43 }
set_option maxHeartbeats 4000000 in
set_option maxRecDepth 100000 in
theorem kX6_size (l : Launch) (D : va_G) (a : Nat → Nat) (cI cJ cS : ClassId) (hd : aok a 16) {Env : (Nat → Prop) → State → Heap → Prop} (hEo : envOK Env) (sv kep bef : Nat → Int32) (isk : Int32) (fnd : Nat → Int32) (man nex : Nat → Int64) (wor sng hea lat tap : Nat → Int32) (tpd her flt vlu : Int32) (bit lon : Nat → Int32) (cel btw : Nat → Int64) (x1 : Int32) (res : Int32 × (Nat → Int32)) (hres : fX6_size sv fnd x1 = some res) : CtI l D (tyL cI cJ cS) 16 a Env yX6_size wsX6_size rX6_size [.ref (a 0), .int x1] (wM a cI cJ cS sv kep bef isk fnd man nex wor sng hea lat tap tpd her flt vlu bit lon cel btw) (wM a cI cJ cS sv kep bef isk res.2 man nex wor sng hea lat tap tpd her flt vlu bit lon cel btw) res.1 := by
  refine CtI_mk (cc := cX6_size) (maxL := 2) (ret := (some .int)) (by decide) rfl (Nat.le_of_ble_eq_true rfl) ?_
  intro p e s m args below meth c ls hx hb hr hlk hml hown hts hP hK hE hl
  have hS : va_S (adA a 16 s.heap.size) s.heap s.heap [] := va_S.rf
  have hl : lv_has ls 2 [(0, .ref (a 0)), (1, .int x1)] := hl
  have hown : s.vm.findClass RX6 = some m.cls := hown
  obtain ⟨Q, hQ⟩ : ∃ Q, Q = mqI below D 16 a args s (wM a cI cJ cS sv kep bef isk res.2 man nex wor sng hea lat tap tpd her flt vlu bit lon cel btw) res.1 := ⟨_, rfl⟩
  rw [← hQ]
  unfold fX6_size at hres
  refine lv_aload_n hx hb dX6_size_0 rfl (lv_at hl 0 rfl) ?_
  refine lv_iload_n hx hb dX6_size_1 rfl (lv_at hl 1 rfl) ?_
  obtain ⟨q2, e2, hres⟩ := obd hres
  refine cvI (q0 := 0) (ci := 6) hx hb hml hown hts hEo hE hK hP hS (kX6_isTale l D a cI cJ cS hd hEo sv kep bef isk fnd man nex wor sng hea lat tap tpd her flt vlu bit lon cel btw x1 q2 e2) gX6_size_X6_isTale rfl hdX6_isTale rfl rfl rfl ⟨rfl, rfl⟩ ⟨Nat.le_of_ble_eq_true rfl, Nat.le_of_ble_eq_true rfl⟩ ⟨Nat.zero_le _, Nat.zero_le _⟩ rfl hl.1 rfl (Nat.le_of_ble_eq_true rfl) dX6_size_2 (fun H locs hP hS => ?_)
  refine lv_if_eq (tgt := 16) hx hb dX6_size_5 (by decide) (fun c5 => ?_) (fun c5 => ?_)
  · have hres := (itl hres).1 c5
    refine lv_aload_n hx hb dX6_size_16 rfl (lv_at hl 0 rfl) ?_
    refine lv_iconst (v := 0) hx hb dX6_size_17 (by decide) ?_
    obtain ⟨q18, e18, hres⟩ := obd hres
    refine cvI (q0 := 0) (ci := 6) hx hb hml hown hts hEo hE hK hP hS (kX6_no l D a cI cJ cS hd hEo sv kep bef isk fnd man nex wor sng hea lat tap tpd her flt vlu bit lon cel btw (0 : Int32) q18 e18) gX6_size_X6_no rfl hdX6_no rfl rfl rfl ⟨rfl, rfl⟩ ⟨Nat.le_of_ble_eq_true rfl, Nat.le_of_ble_eq_true rfl⟩ ⟨Nat.zero_le _, Nat.zero_le _⟩ rfl hl.1 rfl (Nat.le_of_ble_eq_true rfl) dX6_size_18 (fun H locs hP hS => ?_)
    exact hQ ▸ rtI (v := q18.1)  hx hb hr hlk hP hS (by rw [← (Option.some.inj hres)]) (by rw [← (Option.some.inj hres)]) dX6_size_21
  · have hres := (itl hres).2 c5
    refine lv_aload_n hx hb dX6_size_8 rfl (lv_at hl 0 rfl) ?_
    refine lv_iload_n hx hb dX6_size_9 rfl (lv_at hl 1 rfl) ?_
    obtain ⟨q10, e10, hres⟩ := obd hres
    refine cvI (q0 := 0) (ci := 6) hx hb hml hown hts hEo hE hK hP hS (kX6_long_ l D a cI cJ cS hd hEo sv kep bef isk fnd man nex wor sng hea lat tap tpd her flt vlu bit lon cel btw x1 q10 e10) gX6_size_X6_long_ rfl hdX6_long_ rfl rfl rfl ⟨rfl, rfl⟩ ⟨Nat.le_of_ble_eq_true rfl, Nat.le_of_ble_eq_true rfl⟩ ⟨Nat.zero_le _, Nat.zero_le _⟩ rfl hl.1 rfl (Nat.le_of_ble_eq_true rfl) dX6_size_10 (fun H locs hP hS => ?_)
    refine lv_goto (tgt := 21) hx hb dX6_size_13 (by decide) ?_
    exact hQ ▸ rtI (v := q10)  hx hb hr hlk hP hS (by rw [← (Option.some.inj hres)]) (by rw [← (Option.some.inj hres)]) dX6_size_21
def fX6_counts_b22 (K2 : Int32 → (Nat → Int64) → Option ((Nat → Int64) × (Nat → Int64))) (man : Nat → Int64) (x3 : Int32) (z1 : Int32) (z2 : Int64) : Option ((Nat → Int64) × (Nat → Int64)) :=
  gd (ib z1 121) (K2 (x3 + 1) (vp_updL man z1.toNatClampNeg z2))
def fX6_counts_b108 (K57 : Int32 → (Nat → Int64) → Option ((Nat → Int64) × (Nat → Int64))) (nex : Nat → Int64) (x5 : Int32) (z1 : Int32) (z2 : Int64) (z3 : Int64) : Option ((Nat → Int64) × (Nat → Int64)) :=
  gd (ib z1 121) (K57 (x5 + 1) (vp_updL nex z1.toNatClampNeg (z2 + z3)))
def fX6_counts_b116 (K39 : Int32 → (Nat → Int64) → Option ((Nat → Int64) × (Nat → Int64))) (nex : Nat → Int64) (x4 : Int32) : Option ((Nat → Int64) × (Nat → Int64)) :=
  K39 (x4 + 1) nex
def fX6_counts_l57 (K39 : Int32 → (Nat → Int64) → Option ((Nat → Int64) × (Nat → Int64))) (sv : Nat → Int32) (man : Nat → Int64) (x1 : Int32) (x3 : Int32) (x4 : Int32) (K57 : Int32 → (Nat → Int64) → Option ((Nat → Int64) × (Nat → Int64))) (x5 : Int32) (nex : Nat → Int64) : Option ((Nat → Int64) × (Nat → Int64)) :=
  if x4 < x5 then fX6_counts_b116 K39 nex x4 else if (25 : Int32) ≤ x5 then fX6_counts_b116 K39 nex x4 else gd (ib x4 121) ((fX6_nth sv x1 x3).bind fun q83 => (fX6_isLength sv q83 x5).bind fun q88 => if (bI q88) = 0 then fX6_counts_b108 K57 nex x5 x4 (nex x4.toNatClampNeg) (0 : Int64) else gd (ib (x4 - x5) 121) (fX6_counts_b108 K57 nex x5 x4 (nex x4.toNatClampNeg) (man (x4 - x5).toNatClampNeg)))
def fX6_counts_b152 (K31 : Int32 → (Nat → Int64) → (Nat → Int64) → Option ((Nat → Int64) × (Nat → Int64))) (man : Nat → Int64) (nex : Nat → Int64) (x3 : Int32) : Option ((Nat → Int64) × (Nat → Int64)) :=
  K31 (x3 + 1) man nex
def fX6_counts_l125 (K31 : Int32 → (Nat → Int64) → (Nat → Int64) → Option ((Nat → Int64) × (Nat → Int64))) (nex : Nat → Int64) (x3 : Int32) (K125 : Int32 → (Nat → Int64) → Option ((Nat → Int64) × (Nat → Int64))) (x4 : Int32) (man : Nat → Int64) : Option ((Nat → Int64) × (Nat → Int64)) :=
  if (120 : Int32) < x4 then fX6_counts_b152 K31 man nex x3 else gd (ib x4 121) (gd (ib x4 121) (K125 (x4 + 1) (vp_updL man x4.toNatClampNeg (nex x4.toNatClampNeg))))
def fX6_counts_b122 (K31 : Int32 → (Nat → Int64) → (Nat → Int64) → Option ((Nat → Int64) × (Nat → Int64))) (man : Nat → Int64) (nex : Nat → Int64) (x3 : Int32) : Option ((Nat → Int64) × (Nat → Int64)) :=
  fix2 (fX6_counts_l125 K31 nex x3) 2000 (0 : Int32) man
def fX6_counts_l39 (K31 : Int32 → (Nat → Int64) → (Nat → Int64) → Option ((Nat → Int64) × (Nat → Int64))) (sv : Nat → Int32) (man : Nat → Int64) (x1 : Int32) (x3 : Int32) (K39 : Int32 → (Nat → Int64) → Option ((Nat → Int64) × (Nat → Int64))) (x4 : Int32) (nex : Nat → Int64) : Option ((Nat → Int64) × (Nat → Int64)) :=
  if (120 : Int32) < x4 then fX6_counts_b122 K31 man nex x3 else gd (ib x4 121) (fix2 (fX6_counts_l57 K39 sv man x1 x3 x4) 2000 (0 : Int32) (vp_updL nex x4.toNatClampNeg (0 : Int64)))
def fX6_counts_l31 (sv : Nat → Int32) (x1 : Int32) (x2 : Int32) (K31 : Int32 → (Nat → Int64) → (Nat → Int64) → Option ((Nat → Int64) × (Nat → Int64))) (x3 : Int32) (man : Nat → Int64) (nex : Nat → Int64) : Option ((Nat → Int64) × (Nat → Int64)) :=
  if x2 ≤ x3 then some (man, nex) else fix2 (fX6_counts_l39 K31 sv man x1 x3) 2000 (0 : Int32) nex
def fX6_counts_b29 (sv : Nat → Int32) (man : Nat → Int64) (nex : Nat → Int64) (x1 : Int32) (x2 : Int32) : Option ((Nat → Int64) × (Nat → Int64)) :=
  fix3 (fX6_counts_l31 sv x1 x2) 2000 (0 : Int32) man nex
def fX6_counts_l2 (sv : Nat → Int32) (nex : Nat → Int64) (x1 : Int32) (x2 : Int32) (K2 : Int32 → (Nat → Int64) → Option ((Nat → Int64) × (Nat → Int64))) (x3 : Int32) (man : Nat → Int64) : Option ((Nat → Int64) × (Nat → Int64)) :=
  if (120 : Int32) < x3 then fX6_counts_b29 sv man nex x1 x2 else if x3 = 0 then fX6_counts_b22 K2 man x3 x3 (1 : Int64) else fX6_counts_b22 K2 man x3 x3 (0 : Int64)
def fX6_counts (sv : Nat → Int32) (man : Nat → Int64) (nex : Nat → Int64) (x1 : Int32) (x2 : Int32) : Option ((Nat → Int64) × (Nat → Int64)) :=
  fix2 (fX6_counts_l2 sv nex x1 x2) 2000 (0 : Int32) man
abbrev rX6_counts : Room := { frames := 2, cells := 0, slots := 0, locals := 46 }
set_option maxHeartbeats 4000000 in
set_option maxRecDepth 100000 in
theorem kX6_counts (l : Launch) (D : va_G) (a : Nat → Nat) (cI cJ cS : ClassId) (hd : aok a 16) {Env : (Nat → Prop) → State → Heap → Prop} (hEo : envOK Env) (sv kep bef : Nat → Int32) (isk : Int32) (fnd : Nat → Int32) (man nex : Nat → Int64) (wor sng hea lat tap : Nat → Int32) (tpd her flt vlu : Int32) (bit lon : Nat → Int32) (cel btw : Nat → Int64) (x1 : Int32) (x2 : Int32) (res : (Nat → Int64) × (Nat → Int64)) (hres : fX6_counts sv man nex x1 x2 = some res) : CtV l D (tyL cI cJ cS) 16 a Env yX6_counts wsX6_counts rX6_counts [.ref (a 0), .int x1, .int x2] (wM a cI cJ cS sv kep bef isk fnd man nex wor sng hea lat tap tpd her flt vlu bit lon cel btw) (wM a cI cJ cS sv kep bef isk fnd res.1 res.2 wor sng hea lat tap tpd her flt vlu bit lon cel btw) := by
  refine CtV_mk (cc := cX6_counts) (maxL := 6) (ret := none) (by decide) rfl (Nat.le_of_ble_eq_true rfl) ?_
  intro p e s m args below meth c ls hx hb hr hlk hml hown hts hP hK hE hl
  have hS : va_S (adA a 16 s.heap.size) s.heap s.heap [] := va_S.rf
  have hl : lv_has ls 6 [(0, .ref (a 0)), (1, .int x1), (2, .int x2)] := hl
  have hown : s.vm.findClass RX6 = some m.cls := hown
  have hw6 : ∀ w ∈ wsX60, w.before args s = true := fun w h => hts w (List.mem_cons_of_mem _ (List.mem_append_right _ h))
  have u1 : (Cond.fieldLink RX6 22 "YearWordsModel" "many" "[J").before args s = true := hts _ (List.mem_of_getElem? (i := 1) (by decide +kernel))
  have u2 : (Cond.fieldLink RX6 26 "YearWordsModel" "next" "[J").before args s = true := hts _ (List.mem_of_getElem? (i := 2) (by decide +kernel))
  obtain ⟨Q, hQ⟩ : ∃ Q, Q = mqV below D 16 a args s (wM a cI cJ cS sv kep bef isk fnd res.1 res.2 wor sng hea lat tap tpd her flt vlu bit lon cel btw) := ⟨_, rfl⟩
  rw [← hQ]
  have b31 : ∀  (n : Nat) (x3 : Int32) (man : Nat → Int64) (nex : Nat → Int64), fix3 (fX6_counts_l31 sv x1 x2) n x3 man nex = some res → ∀ (H : Heap) (locs : List Loc) (ls : Array Slot), va_P D vwCl (wM a cI cJ cS sv kep bef isk fnd man nex wor sng hea lat tap tpd her flt vlu bit lon cel btw) H → va_S (adA a 16 s.heap.size) s.heap H locs → lv_has ls 6 [(0, .ref (a 0)), (1, .int x1), (2, .int x2), (3, .int x3)] → W p l e rX6_counts s m args below meth c H locs 0 0 Q (F0 m 31 ls []) := by
    refine fix3_r ?_
    intro K31 hK31 x3 man nex hres H locs ls hP hS hl
    have b152 : ∀ (man : Nat → Int64) (nex : Nat → Int64) (x3 : Int32), fX6_counts_b152 K31 man nex x3 = some res → ∀ (H : Heap) (locs : List Loc) (ls : Array Slot), va_P D vwCl (wM a cI cJ cS sv kep bef isk fnd man nex wor sng hea lat tap tpd her flt vlu bit lon cel btw) H → va_S (adA a 16 s.heap.size) s.heap H locs → lv_has ls 6 [(0, .ref (a 0)), (1, .int x1), (2, .int x2), (3, .int x3)] → W p l e rX6_counts s m args below meth c H locs 0 0 Q (F0 m 152 ls []) := by
      intro man nex x3 hres H locs ls hP hS hl
      unfold fX6_counts_b152 at hres
      refine lv_iinc (v := x3 + 1) (lv' := [(3, .int (x3 + 1)), (0, .ref (a 0)), (1, .int x1), (2, .int x2)]) hx hb dX6_counts_152 hl (k := 3) rfl (congrArg (fun z => x3 + z) (by decide)) (by decide) rfl (fun ls hl => ?_)
      refine lv_goto (tgt := 31) hx hb dX6_counts_155 (by decide) ?_
      exact hK31 (x3 + 1) man nex hres _ _ _ hP hS (lv_sub hl [1, 2, 3, 0] rfl)
    have b125 : ∀ (nex : Nat → Int64) (x3 : Int32) (n : Nat) (x4 : Int32) (man : Nat → Int64), fix2 (fX6_counts_l125 K31 nex x3) n x4 man = some res → ∀ (H : Heap) (locs : List Loc) (ls : Array Slot), va_P D vwCl (wM a cI cJ cS sv kep bef isk fnd man nex wor sng hea lat tap tpd her flt vlu bit lon cel btw) H → va_S (adA a 16 s.heap.size) s.heap H locs → lv_has ls 6 [(0, .ref (a 0)), (1, .int x1), (2, .int x2), (3, .int x3), (4, .int x4)] → W p l e rX6_counts s m args below meth c H locs 0 0 Q (F0 m 125 ls []) := by
      intro nex x3
      refine fix2_r ?_
      intro K125 hK125 x4 man hres H locs ls hP hS hl
      unfold fX6_counts_l125 at hres
      refine lv_iload hx hb dX6_counts_125 (lv_at hl 4 rfl) ?_
      refine lv_bipush (v := 120) hx hb dX6_counts_127 (by decide) ?_
      refine lv_icmp_gt (tgt := 152) hx hb dX6_counts_129 (by decide) (fun c129 => ?_) (fun c129 => ?_)
      · have hres := (itl hres).1 c129
        exact b152 man nex x3 hres _ _ _ hP hS (lv_sub hl [0, 1, 2, 3] rfl)
      · have hres := (itl hres).2 c129
        refine lv_aload_n hx hb dX6_counts_132 rfl (lv_at hl 0 rfl) ?_
        refine gM_this6_many hx hb hown hw6 hK hP u1 dX6_counts_133 ?_
        refine lv_iload hx hb dX6_counts_136 (lv_at hl 4 rfl) ?_
        refine lv_aload_n hx hb dX6_counts_138 rfl (lv_at hl 0 rfl) ?_
        refine gM_this6_next hx hb hown hw6 hK hP u2 dX6_counts_139 ?_
        refine lv_iload hx hb dX6_counts_142 (lv_at hl 4 rfl) ?_
        obtain ⟨i144, hres⟩ := gdi hres
        refine lM_nex hx hb hK hP i144 dX6_counts_144 ?_
        obtain ⟨i145, hres⟩ := gdi hres
        refine sM_man hx hb hK hP hd hS i145 dX6_counts_145 (fun H locs hP hS => ?_)
        refine lv_iinc (v := x4 + 1) (lv' := [(4, .int (x4 + 1)), (0, .ref (a 0)), (1, .int x1), (2, .int x2), (3, .int x3)]) hx hb dX6_counts_146 hl (k := 4) rfl (congrArg (fun z => x4 + z) (by decide)) (by decide) rfl (fun ls hl => ?_)
        refine lv_goto (tgt := 125) hx hb dX6_counts_149 (by decide) ?_
        exact hK125 (x4 + 1) (vp_updL man x4.toNatClampNeg (nex x4.toNatClampNeg)) hres _ _ _ hP hS (lv_sub hl [1, 2, 3, 4, 0] rfl)
    have b122 : ∀ (man : Nat → Int64) (nex : Nat → Int64) (x3 : Int32), fX6_counts_b122 K31 man nex x3 = some res → ∀ (H : Heap) (locs : List Loc) (ls : Array Slot), va_P D vwCl (wM a cI cJ cS sv kep bef isk fnd man nex wor sng hea lat tap tpd her flt vlu bit lon cel btw) H → va_S (adA a 16 s.heap.size) s.heap H locs → lv_has ls 6 [(0, .ref (a 0)), (1, .int x1), (2, .int x2), (3, .int x3)] → W p l e rX6_counts s m args below meth c H locs 0 0 Q (F0 m 122 ls []) := by
      intro man nex x3 hres H locs ls hP hS hl
      unfold fX6_counts_b122 at hres
      refine lv_iconst (v := 0) hx hb dX6_counts_122 (by decide) ?_
      refine lv_istore (lv' := [(4, .int (0 : Int32)), (0, .ref (a 0)), (1, .int x1), (2, .int x2), (3, .int x3)]) hx hb dX6_counts_123 hl (by decide) rfl (fun ls hl => ?_)
      exact b125 nex x3 2000 (0 : Int32) man hres _ _ _ hP hS (lv_sub hl [1, 2, 3, 4, 0] rfl)
    have b39 : ∀ (man : Nat → Int64) (x3 : Int32) (n : Nat) (x4 : Int32) (nex : Nat → Int64), fix2 (fX6_counts_l39 K31 sv man x1 x3) n x4 nex = some res → ∀ (H : Heap) (locs : List Loc) (ls : Array Slot), va_P D vwCl (wM a cI cJ cS sv kep bef isk fnd man nex wor sng hea lat tap tpd her flt vlu bit lon cel btw) H → va_S (adA a 16 s.heap.size) s.heap H locs → lv_has ls 6 [(0, .ref (a 0)), (1, .int x1), (2, .int x2), (3, .int x3), (4, .int x4)] → W p l e rX6_counts s m args below meth c H locs 0 0 Q (F0 m 39 ls []) := by
      intro man x3
      refine fix2_r ?_
      intro K39 hK39 x4 nex hres H locs ls hP hS hl
      have b116 : ∀ (nex : Nat → Int64) (x4 : Int32), fX6_counts_b116 K39 nex x4 = some res → ∀ (H : Heap) (locs : List Loc) (ls : Array Slot), va_P D vwCl (wM a cI cJ cS sv kep bef isk fnd man nex wor sng hea lat tap tpd her flt vlu bit lon cel btw) H → va_S (adA a 16 s.heap.size) s.heap H locs → lv_has ls 6 [(0, .ref (a 0)), (1, .int x1), (2, .int x2), (3, .int x3), (4, .int x4)] → W p l e rX6_counts s m args below meth c H locs 0 0 Q (F0 m 116 ls []) := by
        intro nex x4 hres H locs ls hP hS hl
        unfold fX6_counts_b116 at hres
        refine lv_iinc (v := x4 + 1) (lv' := [(4, .int (x4 + 1)), (0, .ref (a 0)), (1, .int x1), (2, .int x2), (3, .int x3)]) hx hb dX6_counts_116 hl (k := 4) rfl (congrArg (fun z => x4 + z) (by decide)) (by decide) rfl (fun ls hl => ?_)
        refine lv_goto (tgt := 39) hx hb dX6_counts_119 (by decide) ?_
        exact hK39 (x4 + 1) nex hres _ _ _ hP hS (lv_sub hl [1, 2, 3, 4, 0] rfl)
      have b57 : ∀ (x4 : Int32) (n : Nat) (x5 : Int32) (nex : Nat → Int64), fix2 (fX6_counts_l57 K39 sv man x1 x3 x4) n x5 nex = some res → ∀ (H : Heap) (locs : List Loc) (ls : Array Slot), va_P D vwCl (wM a cI cJ cS sv kep bef isk fnd man nex wor sng hea lat tap tpd her flt vlu bit lon cel btw) H → va_S (adA a 16 s.heap.size) s.heap H locs → lv_has ls 6 [(0, .ref (a 0)), (1, .int x1), (2, .int x2), (3, .int x3), (4, .int x4), (5, .int x5)] → W p l e rX6_counts s m args below meth c H locs 0 0 Q (F0 m 57 ls []) := by
        intro x4
        refine fix2_r ?_
        intro K57 hK57 x5 nex hres H locs ls hP hS hl
        have b108 : ∀ (nex : Nat → Int64) (x5 : Int32) (z1 : Int32) (z2 : Int64) (z3 : Int64), fX6_counts_b108 K57 nex x5 z1 z2 z3 = some res → ∀ (H : Heap) (locs : List Loc) (ls : Array Slot), va_P D vwCl (wM a cI cJ cS sv kep bef isk fnd man nex wor sng hea lat tap tpd her flt vlu bit lon cel btw) H → va_S (adA a 16 s.heap.size) s.heap H locs → lv_has ls 6 [(0, .ref (a 0)), (1, .int x1), (2, .int x2), (3, .int x3), (4, .int x4), (5, .int x5)] → W p l e rX6_counts s m args below meth c H locs 0 0 Q (F0 m 108 ls [.long z3, .long z2, .int z1, .ref (a 6)]) := by
          intro nex x5 z1 z2 z3 hres H locs ls hP hS hl
          unfold fX6_counts_b108 at hres
          refine lv_ladd hx hb dX6_counts_108 ?_
          obtain ⟨i109, hres⟩ := gdi hres
          refine sM_nex hx hb hK hP hd hS i109 dX6_counts_109 (fun H locs hP hS => ?_)
          refine lv_iinc (v := x5 + 1) (lv' := [(5, .int (x5 + 1)), (0, .ref (a 0)), (1, .int x1), (2, .int x2), (3, .int x3), (4, .int x4)]) hx hb dX6_counts_110 hl (k := 5) rfl (congrArg (fun z => x5 + z) (by decide)) (by decide) rfl (fun ls hl => ?_)
          refine lv_goto (tgt := 57) hx hb dX6_counts_113 (by decide) ?_
          exact hK57 (x5 + 1) (vp_updL nex z1.toNatClampNeg (z2 + z3)) hres _ _ _ hP hS (lv_sub hl [1, 2, 3, 4, 5, 0] rfl)
        unfold fX6_counts_l57 at hres
        refine lv_iload hx hb dX6_counts_57 (lv_at hl 5 rfl) ?_
        refine lv_iload hx hb dX6_counts_59 (lv_at hl 4 rfl) ?_
        refine lv_icmp_gt (tgt := 116) hx hb dX6_counts_61 (by decide) (fun c61 => ?_) (fun c61 => ?_)
        · have hres := (itl hres).1 c61
          exact b116 nex x4 hres _ _ _ hP hS (lv_sub hl [0, 1, 2, 3, 4] rfl)
        · have hres := (itl hres).2 c61
          refine lv_iload hx hb dX6_counts_64 (lv_at hl 5 rfl) ?_
          refine lv_bipush (v := 25) hx hb dX6_counts_66 (by decide) ?_
          refine lv_icmp_ge (tgt := 116) hx hb dX6_counts_68 (by decide) (fun c68 => ?_) (fun c68 => ?_)
          · have hres := (itl hres).1 c68
            exact b116 nex x4 hres _ _ _ hP hS (lv_sub hl [0, 1, 2, 3, 4] rfl)
          · have hres := (itl hres).2 c68
            refine lv_aload_n hx hb dX6_counts_71 rfl (lv_at hl 0 rfl) ?_
            refine gM_this6_next hx hb hown hw6 hK hP u2 dX6_counts_72 ?_
            refine lv_iload hx hb dX6_counts_75 (lv_at hl 4 rfl) ?_
            refine lv_dup2_11 hx hb dX6_counts_77 rfl rfl ?_
            obtain ⟨i78, hres⟩ := gdi hres
            refine lM_nex hx hb hK hP i78 dX6_counts_78 ?_
            refine lv_aload_n hx hb dX6_counts_79 rfl (lv_at hl 0 rfl) ?_
            refine lv_aload_n hx hb dX6_counts_80 rfl (lv_at hl 0 rfl) ?_
            refine lv_iload_n hx hb dX6_counts_81 rfl (lv_at hl 1 rfl) ?_
            refine lv_iload_n hx hb dX6_counts_82 rfl (lv_at hl 3 rfl) ?_
            obtain ⟨q83, e83, hres⟩ := obd hres
            refine cvI (q0 := 0) (ci := 6) hx hb hml hown hts hEo hE hK hP hS (kX6_nth l D a cI cJ cS hd hEo sv kep bef isk fnd man nex wor sng hea lat tap tpd her flt vlu bit lon cel btw x1 x3 q83 e83) gX6_counts_X6_nth rfl hdX6_nth rfl rfl rfl ⟨rfl, rfl⟩ ⟨Nat.le_of_ble_eq_true rfl, Nat.le_of_ble_eq_true rfl⟩ ⟨Nat.zero_le _, Nat.zero_le _⟩ rfl hl.1 rfl (Nat.le_of_ble_eq_true rfl) dX6_counts_83 (fun H locs hP hS => ?_)
            refine lv_iload hx hb dX6_counts_86 (lv_at hl 5 rfl) ?_
            obtain ⟨q88, e88, hres⟩ := obd hres
            refine cvI (q0 := 0) (ci := 6) hx hb hml hown hts hEo hE hK hP hS (kX6_isLength l D a cI cJ cS hd hEo sv kep bef isk fnd man nex wor sng hea lat tap tpd her flt vlu bit lon cel btw q83 x5 q88 e88) gX6_counts_X6_isLength rfl hdX6_isLength rfl rfl rfl ⟨rfl, rfl⟩ ⟨Nat.le_of_ble_eq_true rfl, Nat.le_of_ble_eq_true rfl⟩ ⟨Nat.zero_le _, Nat.zero_le _⟩ rfl hl.1 rfl (Nat.le_of_ble_eq_true rfl) dX6_counts_88 (fun H locs hP hS => ?_)
            refine lv_if_eq (tgt := 107) hx hb dX6_counts_91 (by decide) (fun c91 => ?_) (fun c91 => ?_)
            · have hres := (itl hres).1 c91
              refine lv_lconst (v := 0) hx hb dX6_counts_107 (by decide) ?_
              exact b108 nex x5 x4 (nex x4.toNatClampNeg) (0 : Int64) hres _ _ _ hP hS (lv_sub hl [0, 1, 2, 3, 4, 5] rfl)
            · have hres := (itl hres).2 c91
              refine lv_aload_n hx hb dX6_counts_94 rfl (lv_at hl 0 rfl) ?_
              refine gM_this6_many hx hb hown hw6 hK hP u1 dX6_counts_95 ?_
              refine lv_iload hx hb dX6_counts_98 (lv_at hl 4 rfl) ?_
              refine lv_iload hx hb dX6_counts_100 (lv_at hl 5 rfl) ?_
              refine lv_isub hx hb dX6_counts_102 ?_
              obtain ⟨i103, hres⟩ := gdi hres
              refine lM_man hx hb hK hP i103 dX6_counts_103 ?_
              refine lv_goto (tgt := 108) hx hb dX6_counts_104 (by decide) ?_
              exact b108 nex x5 x4 (nex x4.toNatClampNeg) (man (x4 - x5).toNatClampNeg) hres _ _ _ hP hS (lv_sub hl [0, 1, 2, 3, 4, 5] rfl)
      unfold fX6_counts_l39 at hres
      refine lv_iload hx hb dX6_counts_39 (lv_at hl 4 rfl) ?_
      refine lv_bipush (v := 120) hx hb dX6_counts_41 (by decide) ?_
      refine lv_icmp_gt (tgt := 122) hx hb dX6_counts_43 (by decide) (fun c43 => ?_) (fun c43 => ?_)
      · have hres := (itl hres).1 c43
        exact b122 man nex x3 hres _ _ _ hP hS (lv_sub hl [0, 1, 2, 3] rfl)
      · have hres := (itl hres).2 c43
        refine lv_aload_n hx hb dX6_counts_46 rfl (lv_at hl 0 rfl) ?_
        refine gM_this6_next hx hb hown hw6 hK hP u2 dX6_counts_47 ?_
        refine lv_iload hx hb dX6_counts_50 (lv_at hl 4 rfl) ?_
        refine lv_lconst (v := 0) hx hb dX6_counts_52 (by decide) ?_
        obtain ⟨i53, hres⟩ := gdi hres
        refine sM_nex hx hb hK hP hd hS i53 dX6_counts_53 (fun H locs hP hS => ?_)
        refine lv_iconst (v := 0) hx hb dX6_counts_54 (by decide) ?_
        refine lv_istore (lv' := [(5, .int (0 : Int32)), (0, .ref (a 0)), (1, .int x1), (2, .int x2), (3, .int x3), (4, .int x4)]) hx hb dX6_counts_55 hl (by decide) rfl (fun ls hl => ?_)
        exact b57 x4 2000 (0 : Int32) (vp_updL nex x4.toNatClampNeg (0 : Int64)) hres _ _ _ hP hS (lv_sub hl [1, 2, 3, 4, 5, 0] rfl)
    unfold fX6_counts_l31 at hres
    refine lv_iload_n hx hb dX6_counts_31 rfl (lv_at hl 3 rfl) ?_
    refine lv_iload_n hx hb dX6_counts_32 rfl (lv_at hl 2 rfl) ?_
    refine lv_icmp_ge (tgt := 158) hx hb dX6_counts_33 (by decide) (fun c33 => ?_) (fun c33 => ?_)
    · have hres := (itl hres).1 c33
      exact hQ ▸ rtV hx hb hr hlk hP hS (by rw [← (Option.some.inj hres)]) dX6_counts_158
    · have hres := (itl hres).2 c33
      refine lv_iconst (v := 0) hx hb dX6_counts_36 (by decide) ?_
      refine lv_istore (lv' := [(4, .int (0 : Int32)), (0, .ref (a 0)), (1, .int x1), (2, .int x2), (3, .int x3)]) hx hb dX6_counts_37 hl (by decide) rfl (fun ls hl => ?_)
      exact b39 man x3 2000 (0 : Int32) nex hres _ _ _ hP hS (lv_sub hl [1, 2, 3, 4, 0] rfl)
  have b29 : ∀ (man : Nat → Int64) (nex : Nat → Int64), fX6_counts_b29 sv man nex x1 x2 = some res → ∀ (H : Heap) (locs : List Loc) (ls : Array Slot), va_P D vwCl (wM a cI cJ cS sv kep bef isk fnd man nex wor sng hea lat tap tpd her flt vlu bit lon cel btw) H → va_S (adA a 16 s.heap.size) s.heap H locs → lv_has ls 6 [(0, .ref (a 0)), (1, .int x1), (2, .int x2)] → W p l e rX6_counts s m args below meth c H locs 0 0 Q (F0 m 29 ls []) := by
    intro man nex hres H locs ls hP hS hl
    unfold fX6_counts_b29 at hres
    refine lv_iconst (v := 0) hx hb dX6_counts_29 (by decide) ?_
    refine lv_istore_n (lv' := [(3, .int (0 : Int32)), (0, .ref (a 0)), (1, .int x1), (2, .int x2)]) hx hb dX6_counts_30 rfl hl (by decide) rfl (fun ls hl => ?_)
    exact b31  2000 (0 : Int32) man nex hres _ _ _ hP hS (lv_sub hl [1, 2, 3, 0] rfl)
  have b2 : ∀ (nex : Nat → Int64) (n : Nat) (x3 : Int32) (man : Nat → Int64), fix2 (fX6_counts_l2 sv nex x1 x2) n x3 man = some res → ∀ (H : Heap) (locs : List Loc) (ls : Array Slot), va_P D vwCl (wM a cI cJ cS sv kep bef isk fnd man nex wor sng hea lat tap tpd her flt vlu bit lon cel btw) H → va_S (adA a 16 s.heap.size) s.heap H locs → lv_has ls 6 [(0, .ref (a 0)), (1, .int x1), (2, .int x2), (3, .int x3)] → W p l e rX6_counts s m args below meth c H locs 0 0 Q (F0 m 2 ls []) := by
    intro nex
    refine fix2_r ?_
    intro K2 hK2 x3 man hres H locs ls hP hS hl
    have b22 : ∀ (man : Nat → Int64) (x3 : Int32) (z1 : Int32) (z2 : Int64), fX6_counts_b22 K2 man x3 z1 z2 = some res → ∀ (H : Heap) (locs : List Loc) (ls : Array Slot), va_P D vwCl (wM a cI cJ cS sv kep bef isk fnd man nex wor sng hea lat tap tpd her flt vlu bit lon cel btw) H → va_S (adA a 16 s.heap.size) s.heap H locs → lv_has ls 6 [(0, .ref (a 0)), (1, .int x1), (2, .int x2), (3, .int x3)] → W p l e rX6_counts s m args below meth c H locs 0 0 Q (F0 m 22 ls [.long z2, .int z1, .ref (a 5)]) := by
      intro man x3 z1 z2 hres H locs ls hP hS hl
      unfold fX6_counts_b22 at hres
      obtain ⟨i22, hres⟩ := gdi hres
      refine sM_man hx hb hK hP hd hS i22 dX6_counts_22 (fun H locs hP hS => ?_)
      refine lv_iinc (v := x3 + 1) (lv' := [(3, .int (x3 + 1)), (0, .ref (a 0)), (1, .int x1), (2, .int x2)]) hx hb dX6_counts_23 hl (k := 3) rfl (congrArg (fun z => x3 + z) (by decide)) (by decide) rfl (fun ls hl => ?_)
      refine lv_goto (tgt := 2) hx hb dX6_counts_26 (by decide) ?_
      exact hK2 (x3 + 1) (vp_updL man z1.toNatClampNeg z2) hres _ _ _ hP hS (lv_sub hl [1, 2, 3, 0] rfl)
    unfold fX6_counts_l2 at hres
    refine lv_iload_n hx hb dX6_counts_2 rfl (lv_at hl 3 rfl) ?_
    refine lv_bipush (v := 120) hx hb dX6_counts_3 (by decide) ?_
    refine lv_icmp_gt (tgt := 29) hx hb dX6_counts_5 (by decide) (fun c5 => ?_) (fun c5 => ?_)
    · have hres := (itl hres).1 c5
      exact b29 man nex hres _ _ _ hP hS (lv_sub hl [0, 1, 2] rfl)
    · have hres := (itl hres).2 c5
      refine lv_aload_n hx hb dX6_counts_8 rfl (lv_at hl 0 rfl) ?_
      refine gM_this6_many hx hb hown hw6 hK hP u1 dX6_counts_9 ?_
      refine lv_iload_n hx hb dX6_counts_12 rfl (lv_at hl 3 rfl) ?_
      refine lv_iload_n hx hb dX6_counts_13 rfl (lv_at hl 3 rfl) ?_
      refine lv_if_ne (tgt := 21) hx hb dX6_counts_14 (by decide) (fun c14 => ?_) (fun c14 => ?_)
      · have hres := (itl hres).2 c14
        refine lv_lconst (v := 0) hx hb dX6_counts_21 (by decide) ?_
        exact b22 man x3 x3 (0 : Int64) hres _ _ _ hP hS (lv_sub hl [0, 1, 2, 3] rfl)
      · have hres := (itl hres).1 c14
        refine lv_lconst (v := 1) hx hb dX6_counts_17 (by decide) ?_
        refine lv_goto (tgt := 22) hx hb dX6_counts_18 (by decide) ?_
        exact b22 man x3 x3 (1 : Int64) hres _ _ _ hP hS (lv_sub hl [0, 1, 2, 3] rfl)
  unfold fX6_counts at hres
  refine lv_iconst (v := 0) hx hb dX6_counts_0 (by decide) ?_
  refine lv_istore_n (lv' := [(3, .int (0 : Int32)), (0, .ref (a 0)), (1, .int x1), (2, .int x2)]) hx hb dX6_counts_1 rfl hl (by decide) rfl (fun ls hl => ?_)
  exact b2 nex 2000 (0 : Int32) man hres _ _ _ hP hS (lv_sub hl [1, 2, 3, 0] rfl)
def fX6_canBe (sv : Nat → Int32) (man : Nat → Int64) (nex : Nat → Int64) (x1 : Int32) (x2 : Int32) (x3 : Int32) : Option (Bool × (Nat → Int64) × (Nat → Int64)) :=
 (fX6_counts sv man nex x1 x2).bind fun q3 => gd (ib x3 121) (if (lg_cmp (q3.1 x3.toNatClampNeg) (0 : Int64)) ≤ 0 then some (false, q3.1, q3.2) else some (true, q3.1, q3.2))
theorem hdX6_counts : yX6_counts.cls = RX6 ∧ yX6_counts.cls ≠ "java/lang/invoke/MethodHandle" ∧ yX6_counts.cls ≠ "java/lang/invoke/VarHandle" ∧ (parseMethodDescriptor yX6_counts.desc).map (fun d => d.parameters.length) = some 2 := by decide +kernel
abbrev rX6_canBe : Room := { frames := 3, cells := 0, slots := 0, locals := 71 }
set_option maxHeartbeats 4000000 in
set_option maxRecDepth 100000 in
theorem kX6_canBe (l : Launch) (D : va_G) (a : Nat → Nat) (cI cJ cS : ClassId) (hd : aok a 16) {Env : (Nat → Prop) → State → Heap → Prop} (hEo : envOK Env) (sv kep bef : Nat → Int32) (isk : Int32) (fnd : Nat → Int32) (man nex : Nat → Int64) (wor sng hea lat tap : Nat → Int32) (tpd her flt vlu : Int32) (bit lon : Nat → Int32) (cel btw : Nat → Int64) (x1 : Int32) (x2 : Int32) (x3 : Int32) (res : Bool × (Nat → Int64) × (Nat → Int64)) (hres : fX6_canBe sv man nex x1 x2 x3 = some res) : CtI l D (tyL cI cJ cS) 16 a Env yX6_canBe wsX6_canBe rX6_canBe [.ref (a 0), .int x1, .int x2, .int x3] (wM a cI cJ cS sv kep bef isk fnd man nex wor sng hea lat tap tpd her flt vlu bit lon cel btw) (wM a cI cJ cS sv kep bef isk fnd res.2.1 res.2.2 wor sng hea lat tap tpd her flt vlu bit lon cel btw) (bI res.1) := by
  refine CtI_mk (cc := cX6_canBe) (maxL := 4) (ret := (some .boolean)) (by decide) rfl (Nat.le_of_ble_eq_true rfl) ?_
  intro p e s m args below meth c ls hx hb hr hlk hml hown hts hP hK hE hl
  have hS : va_S (adA a 16 s.heap.size) s.heap s.heap [] := va_S.rf
  have hl : lv_has ls 4 [(0, .ref (a 0)), (1, .int x1), (2, .int x2), (3, .int x3)] := hl
  have hown : s.vm.findClass RX6 = some m.cls := hown
  have hw6 : ∀ w ∈ wsX60, w.before args s = true := fun w h => hts w (List.mem_cons_of_mem _ (List.mem_append_right _ h))
  have u1 : (Cond.fieldLink RX6 22 "YearWordsModel" "many" "[J").before args s = true := hts _ (List.mem_of_getElem? (i := 1) (by decide +kernel))
  obtain ⟨Q, hQ⟩ : ∃ Q, Q = mqI below D 16 a args s (wM a cI cJ cS sv kep bef isk fnd res.2.1 res.2.2 wor sng hea lat tap tpd her flt vlu bit lon cel btw) (bI res.1) := ⟨_, rfl⟩
  rw [← hQ]
  unfold fX6_canBe at hres
  refine lv_aload_n hx hb dX6_canBe_0 rfl (lv_at hl 0 rfl) ?_
  refine lv_iload_n hx hb dX6_canBe_1 rfl (lv_at hl 1 rfl) ?_
  refine lv_iload_n hx hb dX6_canBe_2 rfl (lv_at hl 2 rfl) ?_
  obtain ⟨q3, e3, hres⟩ := obd hres
  refine cvV (q0 := 0) (ci := 6) hx hb hml hown hts hEo hE hK hP hS (kX6_counts l D a cI cJ cS hd hEo sv kep bef isk fnd man nex wor sng hea lat tap tpd her flt vlu bit lon cel btw x1 x2 q3 e3) gX6_canBe_X6_counts rfl hdX6_counts rfl rfl rfl ⟨rfl, rfl⟩ ⟨Nat.le_of_ble_eq_true rfl, Nat.le_of_ble_eq_true rfl⟩ ⟨Nat.zero_le _, Nat.zero_le _⟩ rfl hl.1 rfl (Nat.le_of_ble_eq_true rfl) dX6_canBe_3 (fun H locs hP hS => ?_)
  refine lv_aload_n hx hb dX6_canBe_6 rfl (lv_at hl 0 rfl) ?_
  refine gM_this6_many hx hb hown hw6 hK hP u1 dX6_canBe_7 ?_
  refine lv_iload_n hx hb dX6_canBe_10 rfl (lv_at hl 3 rfl) ?_
  obtain ⟨i11, hres⟩ := gdi hres
  refine lM_man hx hb hK hP i11 dX6_canBe_11 ?_
  refine lv_lconst (v := 0) hx hb dX6_canBe_12 (by decide) ?_
  refine W.lcmp hx hb dX6_canBe_13 ?_
  refine lv_if_le (tgt := 21) hx hb dX6_canBe_14 (by decide) (fun c14 => ?_) (fun c14 => ?_)
  · have hres := (itl hres).1 c14
    refine lv_iconst (v := 0) hx hb dX6_canBe_21 (by decide) ?_
    exact hQ ▸ rtZ (v := false)  hx hb hr hlk hP hS (by rw [← (Option.some.inj hres)]) (by rw [← (Option.some.inj hres)]) dX6_canBe_22
  · have hres := (itl hres).2 c14
    refine lv_iconst (v := 1) hx hb dX6_canBe_17 (by decide) ?_
    refine lv_goto (tgt := 22) hx hb dX6_canBe_18 (by decide) ?_
    exact hQ ▸ rtZ (v := true)  hx hb hr hlk hP hS (by rw [← (Option.some.inj hres)]) (by rw [← (Option.some.inj hres)]) dX6_canBe_22
def fX6_ways_b15 (fnd : Nat → Int32) (man : Nat → Int64) (nex : Nat → Int64) : Option (Int64 × (Nat → Int32) × (Nat → Int64) × (Nat → Int64)) :=
 (fX6_no fnd (0 : Int32)).bind fun q17 => some (q17.1.toInt64, q17.2, man, nex)
def fX6_ways (sv : Nat → Int32) (fnd : Nat → Int32) (man : Nat → Int64) (nex : Nat → Int64) (x1 : Int32) (x2 : Int32) : Option (Int64 × (Nat → Int32) × (Nat → Int64) × (Nat → Int64)) :=
 (fX6_isTale sv x1).bind fun q2 => if (bI q2) = 0 then fX6_ways_b15 fnd man nex else if (bI (fX6_isWords x2)) = 0 then fX6_ways_b15 fnd man nex else (fX6_long_ sv x1).bind fun q26 => (fX6_counts sv man nex x1 q26).bind fun q29 => gd (ib x2 121) (some (q29.1 x2.toNatClampNeg, fnd, q29.1, q29.2))
theorem hdX6_isWords : yX6_isWords.cls ≠ "java/lang/invoke/MethodHandle" ∧ yX6_isWords.cls ≠ "java/lang/invoke/VarHandle" ∧ (parseMethodDescriptor yX6_isWords.desc).map (fun d => d.parameters.length) = some 1 := by decide +kernel
abbrev rX6_ways : Room := { frames := 3, cells := 0, slots := 0, locals := 71 }
set_option maxHeartbeats 4000000 in
set_option maxRecDepth 100000 in
theorem kX6_ways (l : Launch) (D : va_G) (a : Nat → Nat) (cI cJ cS : ClassId) (hd : aok a 16) {Env : (Nat → Prop) → State → Heap → Prop} (hEo : envOK Env) (sv kep bef : Nat → Int32) (isk : Int32) (fnd : Nat → Int32) (man nex : Nat → Int64) (wor sng hea lat tap : Nat → Int32) (tpd her flt vlu : Int32) (bit lon : Nat → Int32) (cel btw : Nat → Int64) (x1 : Int32) (x2 : Int32) (res : Int64 × (Nat → Int32) × (Nat → Int64) × (Nat → Int64)) (hres : fX6_ways sv fnd man nex x1 x2 = some res) : CtL l D (tyL cI cJ cS) 16 a Env yX6_ways wsX6_ways rX6_ways [.ref (a 0), .int x1, .int x2] (wM a cI cJ cS sv kep bef isk fnd man nex wor sng hea lat tap tpd her flt vlu bit lon cel btw) (wM a cI cJ cS sv kep bef isk res.2.1 res.2.2.1 res.2.2.2 wor sng hea lat tap tpd her flt vlu bit lon cel btw) res.1 := by
  refine CtL_mk (cc := cX6_ways) (maxL := 3) (ret := (some .long)) (by decide) rfl (Nat.le_of_ble_eq_true rfl) ?_
  intro p e s m args below meth c ls hx hb hr hlk hml hown hts hP hK hE hl
  have hS : va_S (adA a 16 s.heap.size) s.heap s.heap [] := va_S.rf
  have hl : lv_has ls 3 [(0, .ref (a 0)), (1, .int x1), (2, .int x2)] := hl
  have hown : s.vm.findClass RX6 = some m.cls := hown
  have hw6 : ∀ w ∈ wsX60, w.before args s = true := fun w h => hts w (List.mem_cons_of_mem _ (List.mem_append_right _ h))
  have u1 : (Cond.fieldLink RX6 22 "YearWordsModel" "many" "[J").before args s = true := hts _ (List.mem_of_getElem? (i := 1) (by decide +kernel))
  obtain ⟨Q, hQ⟩ : ∃ Q, Q = mqL below D 16 a args s (wM a cI cJ cS sv kep bef isk res.2.1 res.2.2.1 res.2.2.2 wor sng hea lat tap tpd her flt vlu bit lon cel btw) res.1 := ⟨_, rfl⟩
  rw [← hQ]
  have b15 : ∀ (fnd : Nat → Int32) (man : Nat → Int64) (nex : Nat → Int64), fX6_ways_b15 fnd man nex = some res → ∀ (H : Heap) (locs : List Loc) (ls : Array Slot), va_P D vwCl (wM a cI cJ cS sv kep bef isk fnd man nex wor sng hea lat tap tpd her flt vlu bit lon cel btw) H → va_S (adA a 16 s.heap.size) s.heap H locs → lv_has ls 3 [(0, .ref (a 0))] → W p l e rX6_ways s m args below meth c H locs 0 0 Q (F0 m 15 ls []) := by
    intro fnd man nex hres H locs ls hP hS hl
    unfold fX6_ways_b15 at hres
    refine lv_aload_n hx hb dX6_ways_15 rfl (lv_at hl 0 rfl) ?_
    refine lv_iconst (v := 0) hx hb dX6_ways_16 (by decide) ?_
    obtain ⟨q17, e17, hres⟩ := obd hres
    refine cvI (q0 := 0) (ci := 6) hx hb hml hown hts hEo hE hK hP hS (kX6_no l D a cI cJ cS hd hEo sv kep bef isk fnd man nex wor sng hea lat tap tpd her flt vlu bit lon cel btw (0 : Int32) q17 e17) gX6_ways_X6_no rfl hdX6_no rfl rfl rfl ⟨rfl, rfl⟩ ⟨Nat.le_of_ble_eq_true rfl, Nat.le_of_ble_eq_true rfl⟩ ⟨Nat.zero_le _, Nat.zero_le _⟩ rfl hl.1 rfl (Nat.le_of_ble_eq_true rfl) dX6_ways_17 (fun H locs hP hS => ?_)
    refine lv_i2l hx hb dX6_ways_20 rfl ?_
    exact hQ ▸ rtL (v := q17.1.toInt64)  hx hb hr hlk hP hS (by rw [← (Option.some.inj hres)]) (by rw [← (Option.some.inj hres)]) dX6_ways_21
  unfold fX6_ways at hres
  refine lv_aload_n hx hb dX6_ways_0 rfl (lv_at hl 0 rfl) ?_
  refine lv_iload_n hx hb dX6_ways_1 rfl (lv_at hl 1 rfl) ?_
  obtain ⟨q2, e2, hres⟩ := obd hres
  refine cvI (q0 := 0) (ci := 6) hx hb hml hown hts hEo hE hK hP hS (kX6_isTale l D a cI cJ cS hd hEo sv kep bef isk fnd man nex wor sng hea lat tap tpd her flt vlu bit lon cel btw x1 q2 e2) gX6_ways_X6_isTale rfl hdX6_isTale rfl rfl rfl ⟨rfl, rfl⟩ ⟨Nat.le_of_ble_eq_true rfl, Nat.le_of_ble_eq_true rfl⟩ ⟨Nat.zero_le _, Nat.zero_le _⟩ rfl hl.1 rfl (Nat.le_of_ble_eq_true rfl) dX6_ways_2 (fun H locs hP hS => ?_)
  refine lv_if_eq (tgt := 15) hx hb dX6_ways_5 (by decide) (fun c5 => ?_) (fun c5 => ?_)
  · have hres := (itl hres).1 c5
    exact b15 fnd man nex hres _ _ _ hP hS (lv_sub hl [0] rfl)
  · have hres := (itl hres).2 c5
    refine lv_iload_n hx hb dX6_ways_8 rfl (lv_at hl 2 rfl) ?_
    refine csI hx hb hml hown hts hEo hE hK hP hS (kX6_isWords l D a cI cJ cS hd hEo sv kep bef isk fnd man nex wor sng hea lat tap tpd her flt vlu bit lon cel btw x2) gX6_ways_X6_isWords rfl hdX6_isWords ⟨rfl, rfl⟩ ⟨Nat.le_of_ble_eq_true rfl, Nat.le_of_ble_eq_true rfl⟩ ⟨Nat.zero_le _, Nat.zero_le _⟩ rfl hl.1 rfl (Nat.le_of_ble_eq_true rfl) dX6_ways_9 (fun H locs hP hS => ?_)
    refine lv_if_ne (tgt := 22) hx hb dX6_ways_12 (by decide) (fun c12 => ?_) (fun c12 => ?_)
    · have hres := (itl hres).2 c12
      refine lv_aload_n hx hb dX6_ways_22 rfl (lv_at hl 0 rfl) ?_
      refine lv_iload_n hx hb dX6_ways_23 rfl (lv_at hl 1 rfl) ?_
      refine lv_aload_n hx hb dX6_ways_24 rfl (lv_at hl 0 rfl) ?_
      refine lv_iload_n hx hb dX6_ways_25 rfl (lv_at hl 1 rfl) ?_
      obtain ⟨q26, e26, hres⟩ := obd hres
      refine cvI (q0 := 0) (ci := 6) hx hb hml hown hts hEo hE hK hP hS (kX6_long_ l D a cI cJ cS hd hEo sv kep bef isk fnd man nex wor sng hea lat tap tpd her flt vlu bit lon cel btw x1 q26 e26) gX6_ways_X6_long_ rfl hdX6_long_ rfl rfl rfl ⟨rfl, rfl⟩ ⟨Nat.le_of_ble_eq_true rfl, Nat.le_of_ble_eq_true rfl⟩ ⟨Nat.zero_le _, Nat.zero_le _⟩ rfl hl.1 rfl (Nat.le_of_ble_eq_true rfl) dX6_ways_26 (fun H locs hP hS => ?_)
      obtain ⟨q29, e29, hres⟩ := obd hres
      refine cvV (q0 := 0) (ci := 6) hx hb hml hown hts hEo hE hK hP hS (kX6_counts l D a cI cJ cS hd hEo sv kep bef isk fnd man nex wor sng hea lat tap tpd her flt vlu bit lon cel btw x1 q26 q29 e29) gX6_ways_X6_counts rfl hdX6_counts rfl rfl rfl ⟨rfl, rfl⟩ ⟨Nat.le_of_ble_eq_true rfl, Nat.le_of_ble_eq_true rfl⟩ ⟨Nat.zero_le _, Nat.zero_le _⟩ rfl hl.1 rfl (Nat.le_of_ble_eq_true rfl) dX6_ways_29 (fun H locs hP hS => ?_)
      refine lv_aload_n hx hb dX6_ways_32 rfl (lv_at hl 0 rfl) ?_
      refine gM_this6_many hx hb hown hw6 hK hP u1 dX6_ways_33 ?_
      refine lv_iload_n hx hb dX6_ways_36 rfl (lv_at hl 2 rfl) ?_
      obtain ⟨i37, hres⟩ := gdi hres
      refine lM_man hx hb hK hP i37 dX6_ways_37 ?_
      exact hQ ▸ rtL (v := q29.1 x2.toNatClampNeg)  hx hb hr hlk hP hS (by rw [← (Option.some.inj hres)]) (by rw [← (Option.some.inj hres)]) dX6_ways_38
    · have hres := (itl hres).1 c12
      exact b15 fnd man nex hres _ _ _ hP hS (lv_sub hl [0] rfl)
def fX6_ones_l4 (x0 : Int32) (K4 : Int32 → Int32 → Option (Int32)) (x1 : Int32) (x2 : Int32) : Option (Int32) :=
  if (25 : Int32) ≤ x2 then some x1 else K4 (x1 + ((x0 >>> (x2 &&& 31)) &&& (1 : Int32))) (x2 + 1)
def fX6_ones (x0 : Int32) : Option (Int32) :=
  fix2 (fX6_ones_l4 x0) 2000 (0 : Int32) (0 : Int32)
abbrev rX6_ones : Room := { frames := 0, cells := 0, slots := 0, locals := 0 }
set_option maxHeartbeats 4000000 in
set_option maxRecDepth 100000 in
theorem kX6_ones (l : Launch) (D : va_G) (a : Nat → Nat) (cI cJ cS : ClassId) (hd : aok a 16) {Env : (Nat → Prop) → State → Heap → Prop} (hEo : envOK Env) (sv kep bef : Nat → Int32) (isk : Int32) (fnd : Nat → Int32) (man nex : Nat → Int64) (wor sng hea lat tap : Nat → Int32) (tpd her flt vlu : Int32) (bit lon : Nat → Int32) (cel btw : Nat → Int64) (x0 : Int32) (res : Int32) (hres : fX6_ones x0 = some res) : CtI l D (tyL cI cJ cS) 16 a Env yX6_ones wsX6_ones rX6_ones [.int x0] (wM a cI cJ cS sv kep bef isk fnd man nex wor sng hea lat tap tpd her flt vlu bit lon cel btw) (wM a cI cJ cS sv kep bef isk fnd man nex wor sng hea lat tap tpd her flt vlu bit lon cel btw) res := by
  refine CtI_mk (cc := cX6_ones) (maxL := 3) (ret := (some .int)) (by decide) rfl (Nat.le_of_ble_eq_true rfl) ?_
  intro p e s m args below meth c ls hx hb hr hlk hml hown hts hP hK hE hl
  have hS : va_S (adA a 16 s.heap.size) s.heap s.heap [] := va_S.rf
  have hl : lv_has ls 3 [(0, .int x0)] := hl
  have hown : s.vm.findClass RX6 = some m.cls := hown
  obtain ⟨Q, hQ⟩ : ∃ Q, Q = mqI below D 16 a args s (wM a cI cJ cS sv kep bef isk fnd man nex wor sng hea lat tap tpd her flt vlu bit lon cel btw) res := ⟨_, rfl⟩
  rw [← hQ]
  have b4 : ∀  (n : Nat) (x1 : Int32) (x2 : Int32), fix2 (fX6_ones_l4 x0) n x1 x2 = some res → ∀ (H : Heap) (locs : List Loc) (ls : Array Slot), va_P D vwCl (wM a cI cJ cS sv kep bef isk fnd man nex wor sng hea lat tap tpd her flt vlu bit lon cel btw) H → va_S (adA a 16 s.heap.size) s.heap H locs → lv_has ls 3 [(0, .int x0), (1, .int x1), (2, .int x2)] → W p l e rX6_ones s m args below meth c H locs 0 0 Q (F0 m 4 ls []) := by
    refine fix2_r ?_
    intro K4 hK4 x1 x2 hres H locs ls hP hS hl
    unfold fX6_ones_l4 at hres
    refine lv_iload_n hx hb dX6_ones_4 rfl (lv_at hl 2 rfl) ?_
    refine lv_bipush (v := 25) hx hb dX6_ones_5 (by decide) ?_
    refine lv_icmp_ge (tgt := 24) hx hb dX6_ones_7 (by decide) (fun c7 => ?_) (fun c7 => ?_)
    · have hres := (itl hres).1 c7
      refine lv_iload_n hx hb dX6_ones_24 rfl (lv_at hl 1 rfl) ?_
      exact hQ ▸ rtI (v := x1)  hx hb hr hlk hP hS (by rw [← (Option.some.inj hres)]) rfl dX6_ones_25
    · have hres := (itl hres).2 c7
      refine lv_iload_n hx hb dX6_ones_10 rfl (lv_at hl 1 rfl) ?_
      refine lv_iload_n hx hb dX6_ones_11 rfl (lv_at hl 0 rfl) ?_
      refine lv_iload_n hx hb dX6_ones_12 rfl (lv_at hl 2 rfl) ?_
      refine lv_ishr hx hb dX6_ones_13 ?_
      refine lv_iconst (v := 1) hx hb dX6_ones_14 (by decide) ?_
      refine lv_iand hx hb dX6_ones_15 ?_
      refine lv_iadd hx hb dX6_ones_16 ?_
      refine lv_istore_n (lv' := [(1, .int (x1 + ((x0 >>> (x2 &&& 31)) &&& (1 : Int32)))), (0, .int x0), (2, .int x2)]) hx hb dX6_ones_17 rfl hl (by decide) rfl (fun ls hl => ?_)
      refine lv_iinc (v := x2 + 1) (lv' := [(2, .int (x2 + 1)), (1, .int (x1 + ((x0 >>> (x2 &&& 31)) &&& (1 : Int32)))), (0, .int x0)]) hx hb dX6_ones_18 hl (k := 2) rfl (congrArg (fun z => x2 + z) (by decide)) (by decide) rfl (fun ls hl => ?_)
      refine lv_goto (tgt := 4) hx hb dX6_ones_21 (by decide) ?_
      exact hK4 (x1 + ((x0 >>> (x2 &&& 31)) &&& (1 : Int32))) (x2 + 1) hres _ _ _ hP hS (lv_sub hl [2, 1, 0] rfl)
  unfold fX6_ones at hres
  refine lv_iconst (v := 0) hx hb dX6_ones_0 (by decide) ?_
  refine lv_istore_n (lv' := [(1, .int (0 : Int32)), (0, .int x0)]) hx hb dX6_ones_1 rfl hl (by decide) rfl (fun ls hl => ?_)
  refine lv_iconst (v := 0) hx hb dX6_ones_2 (by decide) ?_
  refine lv_istore_n (lv' := [(2, .int (0 : Int32)), (1, .int (0 : Int32)), (0, .int x0)]) hx hb dX6_ones_3 rfl hl (by decide) rfl (fun ls hl => ?_)
  exact b4  2000 (0 : Int32) (0 : Int32) hres _ _ _ hP hS (lv_sub hl [2, 1, 0] rfl)
def fX6_allWays_l20 (sv : Nat → Int32) (fnd : Nat → Int32) (x1 : Int32) (K20 : Int64 → Int32 → Option (Int64 × (Nat → Int32))) (x2 : Int64) (x4 : Int32) : Option (Int64 × (Nat → Int32)) :=
 (fX6_long_ sv x1).bind fun q24 => if q24 ≤ x4 then some (x2, fnd) else (fX6_nth sv x1 x4).bind fun q36 => (fX6_lengths sv q36).bind fun q39 => (fX6_ones q39).bind fun q42 => K20 (x2 * q42.toInt64) (x4 + 1)
def fX6_allWays (sv : Nat → Int32) (fnd : Nat → Int32) (x1 : Int32) : Option (Int64 × (Nat → Int32)) :=
 (fX6_isTale sv x1).bind fun q2 => if (bI q2) = 0 then (fX6_no fnd (0 : Int32)).bind fun q10 => some (q10.1.toInt64, q10.2) else fix2 (fX6_allWays_l20 sv fnd x1) 2000 (1 : Int64) (0 : Int32)
theorem hdX6_ones : yX6_ones.cls ≠ "java/lang/invoke/MethodHandle" ∧ yX6_ones.cls ≠ "java/lang/invoke/VarHandle" ∧ (parseMethodDescriptor yX6_ones.desc).map (fun d => d.parameters.length) = some 1 := by decide +kernel
abbrev rX6_allWays : Room := { frames := 3, cells := 0, slots := 0, locals := 69 }
set_option maxHeartbeats 4000000 in
set_option maxRecDepth 100000 in
theorem kX6_allWays (l : Launch) (D : va_G) (a : Nat → Nat) (cI cJ cS : ClassId) (hd : aok a 16) {Env : (Nat → Prop) → State → Heap → Prop} (hEo : envOK Env) (sv kep bef : Nat → Int32) (isk : Int32) (fnd : Nat → Int32) (man nex : Nat → Int64) (wor sng hea lat tap : Nat → Int32) (tpd her flt vlu : Int32) (bit lon : Nat → Int32) (cel btw : Nat → Int64) (x1 : Int32) (res : Int64 × (Nat → Int32)) (hres : fX6_allWays sv fnd x1 = some res) : CtL l D (tyL cI cJ cS) 16 a Env yX6_allWays wsX6_allWays rX6_allWays [.ref (a 0), .int x1] (wM a cI cJ cS sv kep bef isk fnd man nex wor sng hea lat tap tpd her flt vlu bit lon cel btw) (wM a cI cJ cS sv kep bef isk res.2 man nex wor sng hea lat tap tpd her flt vlu bit lon cel btw) res.1 := by
  refine CtL_mk (cc := cX6_allWays) (maxL := 5) (ret := (some .long)) (by decide) rfl (Nat.le_of_ble_eq_true rfl) ?_
  intro p e s m args below meth c ls hx hb hr hlk hml hown hts hP hK hE hl
  have hS : va_S (adA a 16 s.heap.size) s.heap s.heap [] := va_S.rf
  have hl : lv_has ls 5 [(0, .ref (a 0)), (1, .int x1)] := hl
  have hown : s.vm.findClass RX6 = some m.cls := hown
  obtain ⟨Q, hQ⟩ : ∃ Q, Q = mqL below D 16 a args s (wM a cI cJ cS sv kep bef isk res.2 man nex wor sng hea lat tap tpd her flt vlu bit lon cel btw) res.1 := ⟨_, rfl⟩
  rw [← hQ]
  have b20 : ∀ (fnd : Nat → Int32) (n : Nat) (x2 : Int64) (x4 : Int32), fix2 (fX6_allWays_l20 sv fnd x1) n x2 x4 = some res → ∀ (H : Heap) (locs : List Loc) (ls : Array Slot), va_P D vwCl (wM a cI cJ cS sv kep bef isk fnd man nex wor sng hea lat tap tpd her flt vlu bit lon cel btw) H → va_S (adA a 16 s.heap.size) s.heap H locs → lv_has ls 5 [(0, .ref (a 0)), (1, .int x1), (2, .long x2), (4, .int x4)] → W p l e rX6_allWays s m args below meth c H locs 0 0 Q (F0 m 20 ls []) := by
    intro fnd
    refine fix2_r ?_
    intro K20 hK20 x2 x4 hres H locs ls hP hS hl
    unfold fX6_allWays_l20 at hres
    refine lv_iload hx hb dX6_allWays_20 (lv_at hl 3 rfl) ?_
    refine lv_aload_n hx hb dX6_allWays_22 rfl (lv_at hl 0 rfl) ?_
    refine lv_iload_n hx hb dX6_allWays_23 rfl (lv_at hl 1 rfl) ?_
    obtain ⟨q24, e24, hres⟩ := obd hres
    refine cvI (q0 := 0) (ci := 6) hx hb hml hown hts hEo hE hK hP hS (kX6_long_ l D a cI cJ cS hd hEo sv kep bef isk fnd man nex wor sng hea lat tap tpd her flt vlu bit lon cel btw x1 q24 e24) gX6_allWays_X6_long_ rfl hdX6_long_ rfl rfl rfl ⟨rfl, rfl⟩ ⟨Nat.le_of_ble_eq_true rfl, Nat.le_of_ble_eq_true rfl⟩ ⟨Nat.zero_le _, Nat.zero_le _⟩ rfl hl.1 rfl (Nat.le_of_ble_eq_true rfl) dX6_allWays_24 (fun H locs hP hS => ?_)
    refine lv_icmp_ge (tgt := 54) hx hb dX6_allWays_27 (by decide) (fun c27 => ?_) (fun c27 => ?_)
    · have hres := (itl hres).1 c27
      refine lv_lload_n hx hb dX6_allWays_54 rfl (lv_at hl 2 rfl) ?_
      exact hQ ▸ rtL (v := x2)  hx hb hr hlk hP hS (by rw [← (Option.some.inj hres)]) (by rw [← (Option.some.inj hres)]) dX6_allWays_55
    · have hres := (itl hres).2 c27
      refine lv_lload_n hx hb dX6_allWays_30 rfl (lv_at hl 2 rfl) ?_
      refine lv_aload_n hx hb dX6_allWays_31 rfl (lv_at hl 0 rfl) ?_
      refine lv_aload_n hx hb dX6_allWays_32 rfl (lv_at hl 0 rfl) ?_
      refine lv_iload_n hx hb dX6_allWays_33 rfl (lv_at hl 1 rfl) ?_
      refine lv_iload hx hb dX6_allWays_34 (lv_at hl 3 rfl) ?_
      obtain ⟨q36, e36, hres⟩ := obd hres
      refine cvI (q0 := 0) (ci := 6) hx hb hml hown hts hEo hE hK hP hS (kX6_nth l D a cI cJ cS hd hEo sv kep bef isk fnd man nex wor sng hea lat tap tpd her flt vlu bit lon cel btw x1 x4 q36 e36) gX6_allWays_X6_nth rfl hdX6_nth rfl rfl rfl ⟨rfl, rfl⟩ ⟨Nat.le_of_ble_eq_true rfl, Nat.le_of_ble_eq_true rfl⟩ ⟨Nat.zero_le _, Nat.zero_le _⟩ rfl hl.1 rfl (Nat.le_of_ble_eq_true rfl) dX6_allWays_36 (fun H locs hP hS => ?_)
      obtain ⟨q39, e39, hres⟩ := obd hres
      refine cvI (q0 := 0) (ci := 6) hx hb hml hown hts hEo hE hK hP hS (kX6_lengths l D a cI cJ cS hd hEo sv kep bef isk fnd man nex wor sng hea lat tap tpd her flt vlu bit lon cel btw q36 q39 e39) gX6_allWays_X6_lengths rfl hdX6_lengths rfl rfl rfl ⟨rfl, rfl⟩ ⟨Nat.le_of_ble_eq_true rfl, Nat.le_of_ble_eq_true rfl⟩ ⟨Nat.zero_le _, Nat.zero_le _⟩ rfl hl.1 rfl (Nat.le_of_ble_eq_true rfl) dX6_allWays_39 (fun H locs hP hS => ?_)
      obtain ⟨q42, e42, hres⟩ := obd hres
      refine csI hx hb hml hown hts hEo hE hK hP hS (kX6_ones l D a cI cJ cS hd hEo sv kep bef isk fnd man nex wor sng hea lat tap tpd her flt vlu bit lon cel btw q39 q42 e42) gX6_allWays_X6_ones rfl hdX6_ones ⟨rfl, rfl⟩ ⟨Nat.le_of_ble_eq_true rfl, Nat.le_of_ble_eq_true rfl⟩ ⟨Nat.zero_le _, Nat.zero_le _⟩ rfl hl.1 rfl (Nat.le_of_ble_eq_true rfl) dX6_allWays_42 (fun H locs hP hS => ?_)
      refine lv_i2l hx hb dX6_allWays_45 rfl ?_
      refine lv_lmul hx hb dX6_allWays_46 ?_
      refine lv_lstore_n (lv' := [(2, .long (x2 * q42.toInt64)), (0, .ref (a 0)), (1, .int x1), (4, .int x4)]) hx hb dX6_allWays_47 rfl hl (by decide) rfl (fun ls hl => ?_)
      refine lv_iinc (v := x4 + 1) (lv' := [(4, .int (x4 + 1)), (2, .long (x2 * q42.toInt64)), (0, .ref (a 0)), (1, .int x1)]) hx hb dX6_allWays_48 hl (k := 3) rfl (congrArg (fun z => x4 + z) (by decide)) (by decide) rfl (fun ls hl => ?_)
      refine lv_goto (tgt := 20) hx hb dX6_allWays_51 (by decide) ?_
      exact hK20 (x2 * q42.toInt64) (x4 + 1) hres _ _ _ hP hS (lv_sub hl [2, 3, 1, 0] rfl)
  unfold fX6_allWays at hres
  refine lv_aload_n hx hb dX6_allWays_0 rfl (lv_at hl 0 rfl) ?_
  refine lv_iload_n hx hb dX6_allWays_1 rfl (lv_at hl 1 rfl) ?_
  obtain ⟨q2, e2, hres⟩ := obd hres
  refine cvI (q0 := 0) (ci := 6) hx hb hml hown hts hEo hE hK hP hS (kX6_isTale l D a cI cJ cS hd hEo sv kep bef isk fnd man nex wor sng hea lat tap tpd her flt vlu bit lon cel btw x1 q2 e2) gX6_allWays_X6_isTale rfl hdX6_isTale rfl rfl rfl ⟨rfl, rfl⟩ ⟨Nat.le_of_ble_eq_true rfl, Nat.le_of_ble_eq_true rfl⟩ ⟨Nat.zero_le _, Nat.zero_le _⟩ rfl hl.1 rfl (Nat.le_of_ble_eq_true rfl) dX6_allWays_2 (fun H locs hP hS => ?_)
  refine lv_if_ne (tgt := 15) hx hb dX6_allWays_5 (by decide) (fun c5 => ?_) (fun c5 => ?_)
  · have hres := (itl hres).2 c5
    refine lv_lconst (v := 1) hx hb dX6_allWays_15 (by decide) ?_
    refine lv_lstore_n (lv' := [(2, .long (1 : Int64)), (0, .ref (a 0)), (1, .int x1)]) hx hb dX6_allWays_16 rfl hl (by decide) rfl (fun ls hl => ?_)
    refine lv_iconst (v := 0) hx hb dX6_allWays_17 (by decide) ?_
    refine lv_istore (lv' := [(4, .int (0 : Int32)), (2, .long (1 : Int64)), (0, .ref (a 0)), (1, .int x1)]) hx hb dX6_allWays_18 hl (by decide) rfl (fun ls hl => ?_)
    exact b20 fnd 2000 (1 : Int64) (0 : Int32) hres _ _ _ hP hS (lv_sub hl [2, 3, 1, 0] rfl)
  · have hres := (itl hres).1 c5
    refine lv_aload_n hx hb dX6_allWays_8 rfl (lv_at hl 0 rfl) ?_
    refine lv_iconst (v := 0) hx hb dX6_allWays_9 (by decide) ?_
    obtain ⟨q10, e10, hres⟩ := obd hres
    refine cvI (q0 := 0) (ci := 6) hx hb hml hown hts hEo hE hK hP hS (kX6_no l D a cI cJ cS hd hEo sv kep bef isk fnd man nex wor sng hea lat tap tpd her flt vlu bit lon cel btw (0 : Int32) q10 e10) gX6_allWays_X6_no rfl hdX6_no rfl rfl rfl ⟨rfl, rfl⟩ ⟨Nat.le_of_ble_eq_true rfl, Nat.le_of_ble_eq_true rfl⟩ ⟨Nat.zero_le _, Nat.zero_le _⟩ rfl hl.1 rfl (Nat.le_of_ble_eq_true rfl) dX6_allWays_10 (fun H locs hP hS => ?_)
    refine lv_i2l hx hb dX6_allWays_13 rfl ?_
    exact hQ ▸ rtL (v := q10.1.toInt64)  hx hb hr hlk hP hS (by rw [← (Option.some.inj hres)]) (by rw [← (Option.some.inj hres)]) dX6_allWays_14
def fX6_length_b17 (fnd : Nat → Int32) (man : Nat → Int64) (nex : Nat → Int64) : Option (Int32 × (Nat → Int32) × (Nat → Int64) × (Nat → Int64)) :=
 (fX6_no fnd (0 : Int32)).bind fun q19 => some (q19.1, q19.2, man, nex)
def fX6_length_b124 (K98 : Int32 → Int32 → Option (Int32 × (Nat → Int32) × (Nat → Int64) × (Nat → Int64))) (x6 : Int32) (z0 : Int32) (z1 : Bool) : Option (Int32 × (Nat → Int32) × (Nat → Int64) × (Nat → Int64)) :=
  K98 (z0 + (bI z1)) (x6 + 1)
def fX6_length_b133 (fnd : Nat → Int32) (man : Nat → Int64) (nex : Nat → Int64) (x2 : Int32) (x3 : Int32) (x4 : Int32) (x5 : Int32) : Option (Int32 × (Nat → Int32) × (Nat → Int64) × (Nat → Int64)) :=
  if x2 = 0 then some (x3, fnd, man, nex) else if x2 = (1 : Int32) then some (x4, fnd, man, nex) else some (x5, fnd, man, nex)
def fX6_length_l98 (fnd : Nat → Int32) (man : Nat → Int64) (nex : Nat → Int64) (x2 : Int32) (x3 : Int32) (x4 : Int32) (K98 : Int32 → Int32 → Option (Int32 × (Nat → Int32) × (Nat → Int64) × (Nat → Int64))) (x5 : Int32) (x6 : Int32) : Option (Int32 × (Nat → Int32) × (Nat → Int64) × (Nat → Int64)) :=
  if x4 < x6 then fX6_length_b133 fnd man nex x2 x3 x4 x5 else gd (ib x6 121) (if (lg_cmp (man x6.toNatClampNeg) (0 : Int64)) = 0 then fX6_length_b124 K98 x6 x5 true else fX6_length_b124 K98 x6 x5 false)
def fX6_length_b92 (fnd : Nat → Int32) (man : Nat → Int64) (nex : Nat → Int64) (x2 : Int32) (x3 : Int32) (x4 : Int32) : Option (Int32 × (Nat → Int32) × (Nat → Int64) × (Nat → Int64)) :=
  fix2 (fX6_length_l98 fnd man nex x2 x3 x4) 2000 (0 : Int32) x3
def fX6_length_l74 (fnd : Nat → Int32) (man : Nat → Int64) (nex : Nat → Int64) (x2 : Int32) (x3 : Int32) (K74 : Int32 → Option (Int32 × (Nat → Int32) × (Nat → Int64) × (Nat → Int64))) (x4 : Int32) : Option (Int32 × (Nat → Int32) × (Nat → Int64) × (Nat → Int64)) :=
  gd (ib x4 121) (if (lg_cmp (man x4.toNatClampNeg) (0 : Int64)) = 0 then K74 (x4 + (-1)) else fX6_length_b92 fnd man nex x2 x3 x4)
def fX6_length_b58 (fnd : Nat → Int32) (man : Nat → Int64) (nex : Nat → Int64) (x2 : Int32) (x3 : Int32) : Option (Int32 × (Nat → Int32) × (Nat → Int64) × (Nat → Int64)) :=
  if x3 ≤ (120 : Int32) then fix1 (fX6_length_l74 fnd man nex x2 x3) 2000 (120 : Int32) else (fX6_no fnd (3 : Int32)).bind fun q66 => some (q66.1, q66.2, man, nex)
def fX6_length_l35 (fnd : Nat → Int32) (man : Nat → Int64) (nex : Nat → Int64) (x2 : Int32) (K35 : Int32 → Option (Int32 × (Nat → Int32) × (Nat → Int64) × (Nat → Int64))) (x3 : Int32) : Option (Int32 × (Nat → Int32) × (Nat → Int64) × (Nat → Int64)) :=
  if (120 : Int32) < x3 then fX6_length_b58 fnd man nex x2 x3 else gd (ib x3 121) (if (lg_cmp (man x3.toNatClampNeg) (0 : Int64)) = 0 then K35 (x3 + 1) else fX6_length_b58 fnd man nex x2 x3)
def fX6_length (sv : Nat → Int32) (fnd : Nat → Int32) (man : Nat → Int64) (nex : Nat → Int64) (x1 : Int32) (x2 : Int32) : Option (Int32 × (Nat → Int32) × (Nat → Int64) × (Nat → Int64)) :=
 (fX6_isTale sv x1).bind fun q2 => if (bI q2) = 0 then fX6_length_b17 fnd man nex else if (bI (fX6_in x2 (0 : Int32) (2 : Int32))) = 0 then fX6_length_b17 fnd man nex else (fX6_long_ sv x1).bind fun q27 => (fX6_counts sv man nex x1 q27).bind fun q30 => fix1 (fX6_length_l35 fnd q30.1 q30.2 x2) 2000 (0 : Int32)
abbrev rX6_length : Room := { frames := 3, cells := 0, slots := 0, locals := 71 }
set_option maxHeartbeats 4000000 in
set_option maxRecDepth 100000 in
theorem kX6_length (l : Launch) (D : va_G) (a : Nat → Nat) (cI cJ cS : ClassId) (hd : aok a 16) {Env : (Nat → Prop) → State → Heap → Prop} (hEo : envOK Env) (sv kep bef : Nat → Int32) (isk : Int32) (fnd : Nat → Int32) (man nex : Nat → Int64) (wor sng hea lat tap : Nat → Int32) (tpd her flt vlu : Int32) (bit lon : Nat → Int32) (cel btw : Nat → Int64) (x1 : Int32) (x2 : Int32) (res : Int32 × (Nat → Int32) × (Nat → Int64) × (Nat → Int64)) (hres : fX6_length sv fnd man nex x1 x2 = some res) : CtI l D (tyL cI cJ cS) 16 a Env yX6_length wsX6_length rX6_length [.ref (a 0), .int x1, .int x2] (wM a cI cJ cS sv kep bef isk fnd man nex wor sng hea lat tap tpd her flt vlu bit lon cel btw) (wM a cI cJ cS sv kep bef isk res.2.1 res.2.2.1 res.2.2.2 wor sng hea lat tap tpd her flt vlu bit lon cel btw) res.1 := by
  refine CtI_mk (cc := cX6_length) (maxL := 7) (ret := (some .int)) (by decide) rfl (Nat.le_of_ble_eq_true rfl) ?_
  intro p e s m args below meth c ls hx hb hr hlk hml hown hts hP hK hE hl
  have hS : va_S (adA a 16 s.heap.size) s.heap s.heap [] := va_S.rf
  have hl : lv_has ls 7 [(0, .ref (a 0)), (1, .int x1), (2, .int x2)] := hl
  have hown : s.vm.findClass RX6 = some m.cls := hown
  have hw6 : ∀ w ∈ wsX60, w.before args s = true := fun w h => hts w (List.mem_cons_of_mem _ (List.mem_append_right _ h))
  have u1 : (Cond.fieldLink RX6 22 "YearWordsModel" "many" "[J").before args s = true := hts _ (List.mem_of_getElem? (i := 1) (by decide +kernel))
  obtain ⟨Q, hQ⟩ : ∃ Q, Q = mqI below D 16 a args s (wM a cI cJ cS sv kep bef isk res.2.1 res.2.2.1 res.2.2.2 wor sng hea lat tap tpd her flt vlu bit lon cel btw) res.1 := ⟨_, rfl⟩
  rw [← hQ]
  have b17 : ∀ (fnd : Nat → Int32) (man : Nat → Int64) (nex : Nat → Int64), fX6_length_b17 fnd man nex = some res → ∀ (H : Heap) (locs : List Loc) (ls : Array Slot), va_P D vwCl (wM a cI cJ cS sv kep bef isk fnd man nex wor sng hea lat tap tpd her flt vlu bit lon cel btw) H → va_S (adA a 16 s.heap.size) s.heap H locs → lv_has ls 7 [(0, .ref (a 0))] → W p l e rX6_length s m args below meth c H locs 0 0 Q (F0 m 17 ls []) := by
    intro fnd man nex hres H locs ls hP hS hl
    unfold fX6_length_b17 at hres
    refine lv_aload_n hx hb dX6_length_17 rfl (lv_at hl 0 rfl) ?_
    refine lv_iconst (v := 0) hx hb dX6_length_18 (by decide) ?_
    obtain ⟨q19, e19, hres⟩ := obd hres
    refine cvI (q0 := 0) (ci := 6) hx hb hml hown hts hEo hE hK hP hS (kX6_no l D a cI cJ cS hd hEo sv kep bef isk fnd man nex wor sng hea lat tap tpd her flt vlu bit lon cel btw (0 : Int32) q19 e19) gX6_length_X6_no rfl hdX6_no rfl rfl rfl ⟨rfl, rfl⟩ ⟨Nat.le_of_ble_eq_true rfl, Nat.le_of_ble_eq_true rfl⟩ ⟨Nat.zero_le _, Nat.zero_le _⟩ rfl hl.1 rfl (Nat.le_of_ble_eq_true rfl) dX6_length_19 (fun H locs hP hS => ?_)
    exact hQ ▸ rtI (v := q19.1)  hx hb hr hlk hP hS (by rw [← (Option.some.inj hres)]) (by rw [← (Option.some.inj hres)]) dX6_length_22
  have b133 : ∀ (fnd : Nat → Int32) (man : Nat → Int64) (nex : Nat → Int64) (x3 : Int32) (x4 : Int32) (x5 : Int32), fX6_length_b133 fnd man nex x2 x3 x4 x5 = some res → ∀ (H : Heap) (locs : List Loc) (ls : Array Slot), va_P D vwCl (wM a cI cJ cS sv kep bef isk fnd man nex wor sng hea lat tap tpd her flt vlu bit lon cel btw) H → va_S (adA a 16 s.heap.size) s.heap H locs → lv_has ls 7 [(0, .ref (a 0)), (2, .int x2), (3, .int x3), (4, .int x4), (5, .int x5)] → W p l e rX6_length s m args below meth c H locs 0 0 Q (F0 m 133 ls []) := by
    intro fnd man nex x3 x4 x5 hres H locs ls hP hS hl
    unfold fX6_length_b133 at hres
    refine lv_iload_n hx hb dX6_length_133 rfl (lv_at hl 1 rfl) ?_
    refine lv_if_ne (tgt := 141) hx hb dX6_length_134 (by decide) (fun c134 => ?_) (fun c134 => ?_)
    · have hres := (itl hres).2 c134
      refine lv_iload_n hx hb dX6_length_141 rfl (lv_at hl 1 rfl) ?_
      refine lv_iconst (v := 1) hx hb dX6_length_142 (by decide) ?_
      refine lv_icmp_ne (tgt := 151) hx hb dX6_length_143 (by decide) (fun c143 => ?_) (fun c143 => ?_)
      · have hres := (itl hres).2 c143
        refine lv_iload hx hb dX6_length_151 (lv_at hl 4 rfl) ?_
        exact hQ ▸ rtI (v := x5)  hx hb hr hlk hP hS (by rw [← (Option.some.inj hres)]) (by rw [← (Option.some.inj hres)]) dX6_length_153
      · have hres := (itl hres).1 c143
        refine lv_iload hx hb dX6_length_146 (lv_at hl 3 rfl) ?_
        refine lv_goto (tgt := 153) hx hb dX6_length_148 (by decide) ?_
        exact hQ ▸ rtI (v := x4)  hx hb hr hlk hP hS (by rw [← (Option.some.inj hres)]) (by rw [← (Option.some.inj hres)]) dX6_length_153
    · have hres := (itl hres).1 c134
      refine lv_iload_n hx hb dX6_length_137 rfl (lv_at hl 2 rfl) ?_
      refine lv_goto (tgt := 153) hx hb dX6_length_138 (by decide) ?_
      exact hQ ▸ rtI (v := x3)  hx hb hr hlk hP hS (by rw [← (Option.some.inj hres)]) (by rw [← (Option.some.inj hres)]) dX6_length_153
  have b98 : ∀ (fnd : Nat → Int32) (man : Nat → Int64) (nex : Nat → Int64) (x3 : Int32) (x4 : Int32) (n : Nat) (x5 : Int32) (x6 : Int32), fix2 (fX6_length_l98 fnd man nex x2 x3 x4) n x5 x6 = some res → ∀ (H : Heap) (locs : List Loc) (ls : Array Slot), va_P D vwCl (wM a cI cJ cS sv kep bef isk fnd man nex wor sng hea lat tap tpd her flt vlu bit lon cel btw) H → va_S (adA a 16 s.heap.size) s.heap H locs → lv_has ls 7 [(0, .ref (a 0)), (2, .int x2), (3, .int x3), (4, .int x4), (5, .int x5), (6, .int x6)] → W p l e rX6_length s m args below meth c H locs 0 0 Q (F0 m 98 ls []) := by
    intro fnd man nex x3 x4
    refine fix2_r ?_
    intro K98 hK98 x5 x6 hres H locs ls hP hS hl
    have b124 : ∀ (x6 : Int32) (z0 : Int32) (z1 : Bool), fX6_length_b124 K98 x6 z0 z1 = some res → ∀ (H : Heap) (locs : List Loc) (ls : Array Slot), va_P D vwCl (wM a cI cJ cS sv kep bef isk fnd man nex wor sng hea lat tap tpd her flt vlu bit lon cel btw) H → va_S (adA a 16 s.heap.size) s.heap H locs → lv_has ls 7 [(0, .ref (a 0)), (2, .int x2), (3, .int x3), (4, .int x4), (6, .int x6)] → W p l e rX6_length s m args below meth c H locs 0 0 Q (F0 m 124 ls [.int (bI z1), .int z0]) := by
      intro x6 z0 z1 hres H locs ls hP hS hl
      unfold fX6_length_b124 at hres
      refine lv_iadd hx hb dX6_length_124 ?_
      refine lv_istore (lv' := [(5, .int (z0 + (bI z1))), (0, .ref (a 0)), (2, .int x2), (3, .int x3), (4, .int x4), (6, .int x6)]) hx hb dX6_length_125 hl (by decide) rfl (fun ls hl => ?_)
      refine lv_iinc (v := x6 + 1) (lv' := [(6, .int (x6 + 1)), (5, .int (z0 + (bI z1))), (0, .ref (a 0)), (2, .int x2), (3, .int x3), (4, .int x4)]) hx hb dX6_length_127 hl (k := 5) rfl (congrArg (fun z => x6 + z) (by decide)) (by decide) rfl (fun ls hl => ?_)
      refine lv_goto (tgt := 98) hx hb dX6_length_130 (by decide) ?_
      exact hK98 (z0 + (bI z1)) (x6 + 1) hres _ _ _ hP hS (lv_sub hl [2, 3, 4, 5, 1, 0] rfl)
    unfold fX6_length_l98 at hres
    refine lv_iload hx hb dX6_length_98 (lv_at hl 5 rfl) ?_
    refine lv_iload hx hb dX6_length_100 (lv_at hl 3 rfl) ?_
    refine lv_icmp_gt (tgt := 133) hx hb dX6_length_102 (by decide) (fun c102 => ?_) (fun c102 => ?_)
    · have hres := (itl hres).1 c102
      exact b133 fnd man nex x3 x4 x5 hres _ _ _ hP hS (lv_sub hl [0, 1, 2, 3, 4] rfl)
    · have hres := (itl hres).2 c102
      refine lv_iload hx hb dX6_length_105 (lv_at hl 4 rfl) ?_
      refine lv_aload_n hx hb dX6_length_107 rfl (lv_at hl 0 rfl) ?_
      refine gM_this6_many hx hb hown hw6 hK hP u1 dX6_length_108 ?_
      refine lv_iload hx hb dX6_length_111 (lv_at hl 5 rfl) ?_
      obtain ⟨i113, hres⟩ := gdi hres
      refine lM_man hx hb hK hP i113 dX6_length_113 ?_
      refine lv_lconst (v := 0) hx hb dX6_length_114 (by decide) ?_
      refine W.lcmp hx hb dX6_length_115 ?_
      refine lv_if_ne (tgt := 123) hx hb dX6_length_116 (by decide) (fun c116 => ?_) (fun c116 => ?_)
      · have hres := (itl hres).2 c116
        refine lv_iconst (v := 0) hx hb dX6_length_123 (by decide) ?_
        exact b124 x6 x5 false hres _ _ _ hP hS (lv_sub hl [0, 1, 2, 3, 5] rfl)
      · have hres := (itl hres).1 c116
        refine lv_iconst (v := 1) hx hb dX6_length_119 (by decide) ?_
        refine lv_goto (tgt := 124) hx hb dX6_length_120 (by decide) ?_
        exact b124 x6 x5 true hres _ _ _ hP hS (lv_sub hl [0, 1, 2, 3, 5] rfl)
  have b92 : ∀ (fnd : Nat → Int32) (man : Nat → Int64) (nex : Nat → Int64) (x3 : Int32) (x4 : Int32), fX6_length_b92 fnd man nex x2 x3 x4 = some res → ∀ (H : Heap) (locs : List Loc) (ls : Array Slot), va_P D vwCl (wM a cI cJ cS sv kep bef isk fnd man nex wor sng hea lat tap tpd her flt vlu bit lon cel btw) H → va_S (adA a 16 s.heap.size) s.heap H locs → lv_has ls 7 [(0, .ref (a 0)), (2, .int x2), (3, .int x3), (4, .int x4)] → W p l e rX6_length s m args below meth c H locs 0 0 Q (F0 m 92 ls []) := by
    intro fnd man nex x3 x4 hres H locs ls hP hS hl
    unfold fX6_length_b92 at hres
    refine lv_iconst (v := 0) hx hb dX6_length_92 (by decide) ?_
    refine lv_istore (lv' := [(5, .int (0 : Int32)), (0, .ref (a 0)), (2, .int x2), (3, .int x3), (4, .int x4)]) hx hb dX6_length_93 hl (by decide) rfl (fun ls hl => ?_)
    refine lv_iload_n hx hb dX6_length_95 rfl (lv_at hl 3 rfl) ?_
    refine lv_istore (lv' := [(6, .int x3), (5, .int (0 : Int32)), (0, .ref (a 0)), (2, .int x2), (3, .int x3), (4, .int x4)]) hx hb dX6_length_96 hl (by decide) rfl (fun ls hl => ?_)
    exact b98 fnd man nex x3 x4 2000 (0 : Int32) x3 hres _ _ _ hP hS (lv_sub hl [2, 3, 4, 5, 1, 0] rfl)
  have b74 : ∀ (fnd : Nat → Int32) (man : Nat → Int64) (nex : Nat → Int64) (x3 : Int32) (n : Nat) (x4 : Int32), fix1 (fX6_length_l74 fnd man nex x2 x3) n x4 = some res → ∀ (H : Heap) (locs : List Loc) (ls : Array Slot), va_P D vwCl (wM a cI cJ cS sv kep bef isk fnd man nex wor sng hea lat tap tpd her flt vlu bit lon cel btw) H → va_S (adA a 16 s.heap.size) s.heap H locs → lv_has ls 7 [(0, .ref (a 0)), (2, .int x2), (3, .int x3), (4, .int x4)] → W p l e rX6_length s m args below meth c H locs 0 0 Q (F0 m 74 ls []) := by
    intro fnd man nex x3
    refine fix1_r ?_
    intro K74 hK74 x4 hres H locs ls hP hS hl
    unfold fX6_length_l74 at hres
    refine lv_aload_n hx hb dX6_length_74 rfl (lv_at hl 0 rfl) ?_
    refine gM_this6_many hx hb hown hw6 hK hP u1 dX6_length_75 ?_
    refine lv_iload hx hb dX6_length_78 (lv_at hl 3 rfl) ?_
    obtain ⟨i80, hres⟩ := gdi hres
    refine lM_man hx hb hK hP i80 dX6_length_80 ?_
    refine lv_lconst (v := 0) hx hb dX6_length_81 (by decide) ?_
    refine W.lcmp hx hb dX6_length_82 ?_
    refine lv_if_ne (tgt := 92) hx hb dX6_length_83 (by decide) (fun c83 => ?_) (fun c83 => ?_)
    · have hres := (itl hres).2 c83
      exact b92 fnd man nex x3 x4 hres _ _ _ hP hS (lv_sub hl [0, 1, 2, 3] rfl)
    · have hres := (itl hres).1 c83
      refine lv_iinc (v := x4 + (-1)) (lv' := [(4, .int (x4 + (-1))), (0, .ref (a 0)), (2, .int x2), (3, .int x3)]) hx hb dX6_length_86 hl (k := 3) rfl (congrArg (fun z => x4 + z) (by decide)) (by decide) rfl (fun ls hl => ?_)
      refine lv_goto (tgt := 74) hx hb dX6_length_89 (by decide) ?_
      exact hK74 (x4 + (-1)) hres _ _ _ hP hS (lv_sub hl [1, 2, 3, 0] rfl)
  have b58 : ∀ (fnd : Nat → Int32) (man : Nat → Int64) (nex : Nat → Int64) (x3 : Int32), fX6_length_b58 fnd man nex x2 x3 = some res → ∀ (H : Heap) (locs : List Loc) (ls : Array Slot), va_P D vwCl (wM a cI cJ cS sv kep bef isk fnd man nex wor sng hea lat tap tpd her flt vlu bit lon cel btw) H → va_S (adA a 16 s.heap.size) s.heap H locs → lv_has ls 7 [(0, .ref (a 0)), (2, .int x2), (3, .int x3)] → W p l e rX6_length s m args below meth c H locs 0 0 Q (F0 m 58 ls []) := by
    intro fnd man nex x3 hres H locs ls hP hS hl
    unfold fX6_length_b58 at hres
    refine lv_iload_n hx hb dX6_length_58 rfl (lv_at hl 2 rfl) ?_
    refine lv_bipush (v := 120) hx hb dX6_length_59 (by decide) ?_
    refine lv_icmp_le (tgt := 70) hx hb dX6_length_61 (by decide) (fun c61 => ?_) (fun c61 => ?_)
    · have hres := (itl hres).1 c61
      refine lv_bipush (v := 120) hx hb dX6_length_70 (by decide) ?_
      refine lv_istore (lv' := [(4, .int (120 : Int32)), (0, .ref (a 0)), (2, .int x2), (3, .int x3)]) hx hb dX6_length_72 hl (by decide) rfl (fun ls hl => ?_)
      exact b74 fnd man nex x3 2000 (120 : Int32) hres _ _ _ hP hS (lv_sub hl [1, 2, 3, 0] rfl)
    · have hres := (itl hres).2 c61
      refine lv_aload_n hx hb dX6_length_64 rfl (lv_at hl 0 rfl) ?_
      refine lv_iconst (v := 3) hx hb dX6_length_65 (by decide) ?_
      obtain ⟨q66, e66, hres⟩ := obd hres
      refine cvI (q0 := 0) (ci := 6) hx hb hml hown hts hEo hE hK hP hS (kX6_no l D a cI cJ cS hd hEo sv kep bef isk fnd man nex wor sng hea lat tap tpd her flt vlu bit lon cel btw (3 : Int32) q66 e66) gX6_length_X6_no rfl hdX6_no rfl rfl rfl ⟨rfl, rfl⟩ ⟨Nat.le_of_ble_eq_true rfl, Nat.le_of_ble_eq_true rfl⟩ ⟨Nat.zero_le _, Nat.zero_le _⟩ rfl hl.1 rfl (Nat.le_of_ble_eq_true rfl) dX6_length_66 (fun H locs hP hS => ?_)
      exact hQ ▸ rtI (v := q66.1)  hx hb hr hlk hP hS (by rw [← (Option.some.inj hres)]) (by rw [← (Option.some.inj hres)]) dX6_length_69
  have b35 : ∀ (fnd : Nat → Int32) (man : Nat → Int64) (nex : Nat → Int64) (n : Nat) (x3 : Int32), fix1 (fX6_length_l35 fnd man nex x2) n x3 = some res → ∀ (H : Heap) (locs : List Loc) (ls : Array Slot), va_P D vwCl (wM a cI cJ cS sv kep bef isk fnd man nex wor sng hea lat tap tpd her flt vlu bit lon cel btw) H → va_S (adA a 16 s.heap.size) s.heap H locs → lv_has ls 7 [(0, .ref (a 0)), (2, .int x2), (3, .int x3)] → W p l e rX6_length s m args below meth c H locs 0 0 Q (F0 m 35 ls []) := by
    intro fnd man nex
    refine fix1_r ?_
    intro K35 hK35 x3 hres H locs ls hP hS hl
    unfold fX6_length_l35 at hres
    refine lv_iload_n hx hb dX6_length_35 rfl (lv_at hl 2 rfl) ?_
    refine lv_bipush (v := 120) hx hb dX6_length_36 (by decide) ?_
    refine lv_icmp_gt (tgt := 58) hx hb dX6_length_38 (by decide) (fun c38 => ?_) (fun c38 => ?_)
    · have hres := (itl hres).1 c38
      exact b58 fnd man nex x3 hres _ _ _ hP hS (lv_sub hl [0, 1, 2] rfl)
    · have hres := (itl hres).2 c38
      refine lv_aload_n hx hb dX6_length_41 rfl (lv_at hl 0 rfl) ?_
      refine gM_this6_many hx hb hown hw6 hK hP u1 dX6_length_42 ?_
      refine lv_iload_n hx hb dX6_length_45 rfl (lv_at hl 2 rfl) ?_
      obtain ⟨i46, hres⟩ := gdi hres
      refine lM_man hx hb hK hP i46 dX6_length_46 ?_
      refine lv_lconst (v := 0) hx hb dX6_length_47 (by decide) ?_
      refine W.lcmp hx hb dX6_length_48 ?_
      refine lv_if_ne (tgt := 58) hx hb dX6_length_49 (by decide) (fun c49 => ?_) (fun c49 => ?_)
      · have hres := (itl hres).2 c49
        exact b58 fnd man nex x3 hres _ _ _ hP hS (lv_sub hl [0, 1, 2] rfl)
      · have hres := (itl hres).1 c49
        refine lv_iinc (v := x3 + 1) (lv' := [(3, .int (x3 + 1)), (0, .ref (a 0)), (2, .int x2)]) hx hb dX6_length_52 hl (k := 2) rfl (congrArg (fun z => x3 + z) (by decide)) (by decide) rfl (fun ls hl => ?_)
        refine lv_goto (tgt := 35) hx hb dX6_length_55 (by decide) ?_
        exact hK35 (x3 + 1) hres _ _ _ hP hS (lv_sub hl [1, 2, 0] rfl)
  unfold fX6_length at hres
  refine lv_aload_n hx hb dX6_length_0 rfl (lv_at hl 0 rfl) ?_
  refine lv_iload_n hx hb dX6_length_1 rfl (lv_at hl 1 rfl) ?_
  obtain ⟨q2, e2, hres⟩ := obd hres
  refine cvI (q0 := 0) (ci := 6) hx hb hml hown hts hEo hE hK hP hS (kX6_isTale l D a cI cJ cS hd hEo sv kep bef isk fnd man nex wor sng hea lat tap tpd her flt vlu bit lon cel btw x1 q2 e2) gX6_length_X6_isTale rfl hdX6_isTale rfl rfl rfl ⟨rfl, rfl⟩ ⟨Nat.le_of_ble_eq_true rfl, Nat.le_of_ble_eq_true rfl⟩ ⟨Nat.zero_le _, Nat.zero_le _⟩ rfl hl.1 rfl (Nat.le_of_ble_eq_true rfl) dX6_length_2 (fun H locs hP hS => ?_)
  refine lv_if_eq (tgt := 17) hx hb dX6_length_5 (by decide) (fun c5 => ?_) (fun c5 => ?_)
  · have hres := (itl hres).1 c5
    exact b17 fnd man nex hres _ _ _ hP hS (lv_sub hl [0] rfl)
  · have hres := (itl hres).2 c5
    refine lv_iload_n hx hb dX6_length_8 rfl (lv_at hl 2 rfl) ?_
    refine lv_iconst (v := 0) hx hb dX6_length_9 (by decide) ?_
    refine lv_iconst (v := 2) hx hb dX6_length_10 (by decide) ?_
    refine csI hx hb hml hown hts hEo hE hK hP hS (kX6_in l D a cI cJ cS hd hEo sv kep bef isk fnd man nex wor sng hea lat tap tpd her flt vlu bit lon cel btw x2 (0 : Int32) (2 : Int32)) gX6_length_X6_in rfl hdX6_in ⟨rfl, rfl⟩ ⟨Nat.le_of_ble_eq_true rfl, Nat.le_of_ble_eq_true rfl⟩ ⟨Nat.zero_le _, Nat.zero_le _⟩ rfl hl.1 rfl (Nat.le_of_ble_eq_true rfl) dX6_length_11 (fun H locs hP hS => ?_)
    refine lv_if_ne (tgt := 23) hx hb dX6_length_14 (by decide) (fun c14 => ?_) (fun c14 => ?_)
    · have hres := (itl hres).2 c14
      refine lv_aload_n hx hb dX6_length_23 rfl (lv_at hl 0 rfl) ?_
      refine lv_iload_n hx hb dX6_length_24 rfl (lv_at hl 1 rfl) ?_
      refine lv_aload_n hx hb dX6_length_25 rfl (lv_at hl 0 rfl) ?_
      refine lv_iload_n hx hb dX6_length_26 rfl (lv_at hl 1 rfl) ?_
      obtain ⟨q27, e27, hres⟩ := obd hres
      refine cvI (q0 := 0) (ci := 6) hx hb hml hown hts hEo hE hK hP hS (kX6_long_ l D a cI cJ cS hd hEo sv kep bef isk fnd man nex wor sng hea lat tap tpd her flt vlu bit lon cel btw x1 q27 e27) gX6_length_X6_long_ rfl hdX6_long_ rfl rfl rfl ⟨rfl, rfl⟩ ⟨Nat.le_of_ble_eq_true rfl, Nat.le_of_ble_eq_true rfl⟩ ⟨Nat.zero_le _, Nat.zero_le _⟩ rfl hl.1 rfl (Nat.le_of_ble_eq_true rfl) dX6_length_27 (fun H locs hP hS => ?_)
      obtain ⟨q30, e30, hres⟩ := obd hres
      refine cvV (q0 := 0) (ci := 6) hx hb hml hown hts hEo hE hK hP hS (kX6_counts l D a cI cJ cS hd hEo sv kep bef isk fnd man nex wor sng hea lat tap tpd her flt vlu bit lon cel btw x1 q27 q30 e30) gX6_length_X6_counts rfl hdX6_counts rfl rfl rfl ⟨rfl, rfl⟩ ⟨Nat.le_of_ble_eq_true rfl, Nat.le_of_ble_eq_true rfl⟩ ⟨Nat.zero_le _, Nat.zero_le _⟩ rfl hl.1 rfl (Nat.le_of_ble_eq_true rfl) dX6_length_30 (fun H locs hP hS => ?_)
      refine lv_iconst (v := 0) hx hb dX6_length_33 (by decide) ?_
      refine lv_istore_n (lv' := [(3, .int (0 : Int32)), (0, .ref (a 0)), (1, .int x1), (2, .int x2)]) hx hb dX6_length_34 rfl hl (by decide) rfl (fun ls hl => ?_)
      exact b35 fnd q30.1 q30.2 2000 (0 : Int32) hres _ _ _ hP hS (lv_sub hl [1, 3, 0] rfl)
    · have hres := (itl hres).1 c14
      exact b17 fnd man nex hres _ _ _ hP hS (lv_sub hl [0] rfl)
def fX6_worthAt (wor : Nat → Int32) (x1 : Int32) (x2 : Int32) : Option (Int32) :=
  if 0 ≤ x2 then gd (ib (((121 : Int32) * x1) + x2) 1331) (some (wor (((121 : Int32) * x1) + x2).toNatClampNeg)) else some (-1000000 : Int32)
abbrev rX6_worthAt : Room := { frames := 0, cells := 0, slots := 0, locals := 0 }
set_option maxHeartbeats 4000000 in
set_option maxRecDepth 100000 in
theorem kX6_worthAt (l : Launch) (D : va_G) (a : Nat → Nat) (cI cJ cS : ClassId) (hd : aok a 16) {Env : (Nat → Prop) → State → Heap → Prop} (hEo : envOK Env) (sv kep bef : Nat → Int32) (isk : Int32) (fnd : Nat → Int32) (man nex : Nat → Int64) (wor sng hea lat tap : Nat → Int32) (tpd her flt vlu : Int32) (bit lon : Nat → Int32) (cel btw : Nat → Int64) (x1 : Int32) (x2 : Int32) (res : Int32) (hres : fX6_worthAt wor x1 x2 = some res) : CtI l D (tyL cI cJ cS) 16 a Env yX6_worthAt wsX6_worthAt rX6_worthAt [.ref (a 0), .int x1, .int x2] (wM a cI cJ cS sv kep bef isk fnd man nex wor sng hea lat tap tpd her flt vlu bit lon cel btw) (wM a cI cJ cS sv kep bef isk fnd man nex wor sng hea lat tap tpd her flt vlu bit lon cel btw) res := by
  refine CtI_mk (cc := cX6_worthAt) (maxL := 3) (ret := (some .int)) (by decide) rfl (Nat.le_of_ble_eq_true rfl) ?_
  intro p e s m args below meth c ls hx hb hr hlk hml hown hts hP hK hE hl
  have hS : va_S (adA a 16 s.heap.size) s.heap s.heap [] := va_S.rf
  have hl : lv_has ls 3 [(0, .ref (a 0)), (1, .int x1), (2, .int x2)] := hl
  have hown : s.vm.findClass RX6 = some m.cls := hown
  have hw6 : ∀ w ∈ wsX60, w.before args s = true := fun w h => hts w (List.mem_cons_of_mem _ (List.mem_append_right _ h))
  have u1 : (Cond.constant RX6 124 (-1000000)).before args s = true := hts _ (List.mem_of_getElem? (i := 1) (by decide +kernel))
  have u2 : (Cond.fieldLink RX6 29 "YearWordsModel" "worths" "[I").before args s = true := hts _ (List.mem_of_getElem? (i := 2) (by decide +kernel))
  obtain ⟨Q, hQ⟩ : ∃ Q, Q = mqI below D 16 a args s (wM a cI cJ cS sv kep bef isk fnd man nex wor sng hea lat tap tpd her flt vlu bit lon cel btw) res := ⟨_, rfl⟩
  rw [← hQ]
  unfold fX6_worthAt at hres
  refine lv_iload_n hx hb dX6_worthAt_0 rfl (lv_at hl 2 rfl) ?_
  refine lv_if_ge (tgt := 9) hx hb dX6_worthAt_1 (by decide) (fun c1 => ?_) (fun c1 => ?_)
  · have hres := (itl hres).1 c1
    refine lv_aload_n hx hb dX6_worthAt_9 rfl (lv_at hl 0 rfl) ?_
    refine gM_this6_worths hx hb hown hw6 hK hP u2 dX6_worthAt_10 ?_
    refine lv_bipush (v := 121) hx hb dX6_worthAt_13 (by decide) ?_
    refine lv_iload_n hx hb dX6_worthAt_15 rfl (lv_at hl 1 rfl) ?_
    refine lv_imul hx hb dX6_worthAt_16 ?_
    refine lv_iload_n hx hb dX6_worthAt_17 rfl (lv_at hl 2 rfl) ?_
    refine lv_iadd hx hb dX6_worthAt_18 ?_
    obtain ⟨i19, hres⟩ := gdi hres
    refine lM_wor hx hb hK hP i19 dX6_worthAt_19 ?_
    exact hQ ▸ rtI (v := wor (((121 : Int32) * x1) + x2).toNatClampNeg)  hx hb hr hlk hP hS (by rw [← (Option.some.inj hres)]) rfl dX6_worthAt_20
  · have hres := (itl hres).2 c1
    refine lv_ldc hx hb hown u1 dX6_worthAt_4 ?_
    refine lv_goto (tgt := 20) hx hb dX6_worthAt_6 (by decide) ?_
    exact hQ ▸ rtI (v := (-1000000 : Int32))  hx hb hr hlk hP hS (by rw [← (Option.some.inj hres)]) rfl dX6_worthAt_20
def fX6_weighs_b34 (K8 : Int32 → (Nat → Int32) → Option ((Nat → Int32))) (wor : Nat → Int32) (x3 : Int32) (z1 : Int32) (z2 : Int32) : Option ((Nat → Int32)) :=
  gd (ib z1 1331) (K8 (x3 + 1) (upd wor z1.toNatClampNeg z2))
def fX6_weighs_b164 (K74 : Int32 → Int32 → Option ((Nat → Int32))) (x7 : Int32) (z0 : Int32) : Option ((Nat → Int32)) :=
  K74 z0 (x7 + 1)
def fX6_weighs_b141 (K74 : Int32 → Int32 → Option ((Nat → Int32))) (sv : Nat → Int32) (x4 : Int32) (x6 : Int32) (x7 : Int32) (x8 : Int32) (z0 : Bool) : Option ((Nat → Int32)) :=
  if (bI z0) = 0 then fX6_weighs_b164 K74 x7 x6 else (fX6_valued sv x4 x7).bind fun q153 => fX6_weighs_b164 K74 x7 (q153 + x8)
def fX6_weighs_b140 (K74 : Int32 → Int32 → Option ((Nat → Int32))) (sv : Nat → Int32) (x4 : Int32) (x6 : Int32) (x7 : Int32) (x8 : Int32) : Option ((Nat → Int32)) :=
  fX6_weighs_b141 K74 sv x4 x6 x7 x8 false
def fX6_weighs_b172 (K60 : Int32 → (Nat → Int32) → Option ((Nat → Int32))) (wor : Nat → Int32) (x3 : Int32) (x5 : Int32) (x6 : Int32) : Option ((Nat → Int32)) :=
  gd (ib (((121 : Int32) * x3) + x5) 1331) (K60 (x5 + 1) (upd wor (((121 : Int32) * x3) + x5).toNatClampNeg x6))
def fX6_weighs_l74 (K60 : Int32 → (Nat → Int32) → Option ((Nat → Int32))) (sv : Nat → Int32) (wor : Nat → Int32) (x3 : Int32) (x4 : Int32) (x5 : Int32) (K74 : Int32 → Int32 → Option ((Nat → Int32))) (x6 : Int32) (x7 : Int32) : Option ((Nat → Int32)) :=
  if x5 < x7 then fX6_weighs_b172 K60 wor x3 x5 x6 else if (25 : Int32) ≤ x7 then fX6_weighs_b172 K60 wor x3 x5 x6 else (fX6_worthAt wor (x3 + (1 : Int32)) (x5 - x7)).bind fun q97 => (fX6_isLength sv x4 x7).bind fun q107 => if (bI q107) = 0 then fX6_weighs_b140 K74 sv x4 x6 x7 q97 else if q97 ≤ (-1000000 : Int32) then fX6_weighs_b140 K74 sv x4 x6 x7 q97 else (fX6_valued sv x4 x7).bind fun q125 => if (q125 + q97) ≤ x6 then fX6_weighs_b140 K74 sv x4 x6 x7 q97 else fX6_weighs_b141 K74 sv x4 x6 x7 q97 true
def fX6_weighs_b192 (K45 : Int32 → (Nat → Int32) → Option ((Nat → Int32))) (wor : Nat → Int32) (x3 : Int32) : Option ((Nat → Int32)) :=
  K45 (x3 + (-1)) wor
def fX6_weighs_l60 (K45 : Int32 → (Nat → Int32) → Option ((Nat → Int32))) (sv : Nat → Int32) (x3 : Int32) (x4 : Int32) (K60 : Int32 → (Nat → Int32) → Option ((Nat → Int32))) (x5 : Int32) (wor : Nat → Int32) : Option ((Nat → Int32)) :=
  if (120 : Int32) < x5 then fX6_weighs_b192 K45 wor x3 else fix2 (fX6_weighs_l74 K60 sv wor x3 x4 x5) 2000 (-1000000 : Int32) (0 : Int32)
def fX6_weighs_l45 (sv : Nat → Int32) (x1 : Int32) (K45 : Int32 → (Nat → Int32) → Option ((Nat → Int32))) (x3 : Int32) (wor : Nat → Int32) : Option ((Nat → Int32)) :=
  if x3 < 0 then some wor else (fX6_nth sv x1 x3).bind fun q52 => fix2 (fX6_weighs_l60 K45 sv x3 q52) 2000 (0 : Int32) wor
def fX6_weighs_b41 (sv : Nat → Int32) (wor : Nat → Int32) (x1 : Int32) (x2 : Int32) : Option ((Nat → Int32)) :=
  fix2 (fX6_weighs_l45 sv x1) 2000 (x2 - (1 : Int32)) wor
def fX6_weighs_l8 (sv : Nat → Int32) (x1 : Int32) (x2 : Int32) (K8 : Int32 → (Nat → Int32) → Option ((Nat → Int32))) (x3 : Int32) (wor : Nat → Int32) : Option ((Nat → Int32)) :=
  if (120 : Int32) < x3 then fX6_weighs_b41 sv wor x1 x2 else if x3 = 0 then fX6_weighs_b34 K8 wor x3 (((121 : Int32) * x2) + x3) (0 : Int32) else fX6_weighs_b34 K8 wor x3 (((121 : Int32) * x2) + x3) (-1000000 : Int32)
def fX6_weighs (sv : Nat → Int32) (wor : Nat → Int32) (x1 : Int32) : Option ((Nat → Int32)) :=
 (fX6_long_ sv x1).bind fun q2 => fix2 (fX6_weighs_l8 sv x1 q2) 2000 (0 : Int32) wor
theorem hdX6_worthAt : yX6_worthAt.cls = RX6 ∧ yX6_worthAt.cls ≠ "java/lang/invoke/MethodHandle" ∧ yX6_worthAt.cls ≠ "java/lang/invoke/VarHandle" ∧ (parseMethodDescriptor yX6_worthAt.desc).map (fun d => d.parameters.length) = some 2 := by decide +kernel
abbrev rX6_weighs : Room := { frames := 2, cells := 0, slots := 0, locals := 46 }
set_option maxHeartbeats 4000000 in
set_option maxRecDepth 100000 in
theorem kX6_weighs (l : Launch) (D : va_G) (a : Nat → Nat) (cI cJ cS : ClassId) (hd : aok a 16) {Env : (Nat → Prop) → State → Heap → Prop} (hEo : envOK Env) (sv kep bef : Nat → Int32) (isk : Int32) (fnd : Nat → Int32) (man nex : Nat → Int64) (wor sng hea lat tap : Nat → Int32) (tpd her flt vlu : Int32) (bit lon : Nat → Int32) (cel btw : Nat → Int64) (x1 : Int32) (res : (Nat → Int32)) (hres : fX6_weighs sv wor x1 = some res) : CtV l D (tyL cI cJ cS) 16 a Env yX6_weighs wsX6_weighs rX6_weighs [.ref (a 0), .int x1] (wM a cI cJ cS sv kep bef isk fnd man nex wor sng hea lat tap tpd her flt vlu bit lon cel btw) (wM a cI cJ cS sv kep bef isk fnd man nex res sng hea lat tap tpd her flt vlu bit lon cel btw) := by
  refine CtV_mk (cc := cX6_weighs) (maxL := 10) (ret := none) (by decide) rfl (Nat.le_of_ble_eq_true rfl) ?_
  intro p e s m args below meth c ls hx hb hr hlk hml hown hts hP hK hE hl
  have hS : va_S (adA a 16 s.heap.size) s.heap s.heap [] := va_S.rf
  have hl : lv_has ls 10 [(0, .ref (a 0)), (1, .int x1)] := hl
  have hown : s.vm.findClass RX6 = some m.cls := hown
  have hw6 : ∀ w ∈ wsX60, w.before args s = true := fun w h => hts w (List.mem_cons_of_mem _ (List.mem_append_right _ h))
  have u1 : (Cond.fieldLink RX6 29 "YearWordsModel" "worths" "[I").before args s = true := hts _ (List.mem_of_getElem? (i := 1) (by decide +kernel))
  have u2 : (Cond.constant RX6 124 (-1000000)).before args s = true := hts _ (List.mem_of_getElem? (i := 2) (by decide +kernel))
  obtain ⟨Q, hQ⟩ : ∃ Q, Q = mqV below D 16 a args s (wM a cI cJ cS sv kep bef isk fnd man nex res sng hea lat tap tpd her flt vlu bit lon cel btw) := ⟨_, rfl⟩
  rw [← hQ]
  have b45 : ∀  (n : Nat) (x3 : Int32) (wor : Nat → Int32), fix2 (fX6_weighs_l45 sv x1) n x3 wor = some res → ∀ (H : Heap) (locs : List Loc) (ls : Array Slot), va_P D vwCl (wM a cI cJ cS sv kep bef isk fnd man nex wor sng hea lat tap tpd her flt vlu bit lon cel btw) H → va_S (adA a 16 s.heap.size) s.heap H locs → lv_has ls 10 [(0, .ref (a 0)), (1, .int x1), (3, .int x3)] → W p l e rX6_weighs s m args below meth c H locs 0 0 Q (F0 m 45 ls []) := by
    refine fix2_r ?_
    intro K45 hK45 x3 wor hres H locs ls hP hS hl
    have b192 : ∀ (wor : Nat → Int32) (x3 : Int32), fX6_weighs_b192 K45 wor x3 = some res → ∀ (H : Heap) (locs : List Loc) (ls : Array Slot), va_P D vwCl (wM a cI cJ cS sv kep bef isk fnd man nex wor sng hea lat tap tpd her flt vlu bit lon cel btw) H → va_S (adA a 16 s.heap.size) s.heap H locs → lv_has ls 10 [(0, .ref (a 0)), (1, .int x1), (3, .int x3)] → W p l e rX6_weighs s m args below meth c H locs 0 0 Q (F0 m 192 ls []) := by
      intro wor x3 hres H locs ls hP hS hl
      unfold fX6_weighs_b192 at hres
      refine lv_iinc (v := x3 + (-1)) (lv' := [(3, .int (x3 + (-1))), (0, .ref (a 0)), (1, .int x1)]) hx hb dX6_weighs_192 hl (k := 2) rfl (congrArg (fun z => x3 + z) (by decide)) (by decide) rfl (fun ls hl => ?_)
      refine lv_goto (tgt := 45) hx hb dX6_weighs_195 (by decide) ?_
      exact hK45 (x3 + (-1)) wor hres _ _ _ hP hS (lv_sub hl [1, 2, 0] rfl)
    have b60 : ∀ (x3 : Int32) (x4 : Int32) (n : Nat) (x5 : Int32) (wor : Nat → Int32), fix2 (fX6_weighs_l60 K45 sv x3 x4) n x5 wor = some res → ∀ (H : Heap) (locs : List Loc) (ls : Array Slot), va_P D vwCl (wM a cI cJ cS sv kep bef isk fnd man nex wor sng hea lat tap tpd her flt vlu bit lon cel btw) H → va_S (adA a 16 s.heap.size) s.heap H locs → lv_has ls 10 [(0, .ref (a 0)), (1, .int x1), (3, .int x3), (4, .int x4), (5, .int x5)] → W p l e rX6_weighs s m args below meth c H locs 0 0 Q (F0 m 60 ls []) := by
      intro x3 x4
      refine fix2_r ?_
      intro K60 hK60 x5 wor hres H locs ls hP hS hl
      have b172 : ∀ (wor : Nat → Int32) (x5 : Int32) (x6 : Int32), fX6_weighs_b172 K60 wor x3 x5 x6 = some res → ∀ (H : Heap) (locs : List Loc) (ls : Array Slot), va_P D vwCl (wM a cI cJ cS sv kep bef isk fnd man nex wor sng hea lat tap tpd her flt vlu bit lon cel btw) H → va_S (adA a 16 s.heap.size) s.heap H locs → lv_has ls 10 [(0, .ref (a 0)), (1, .int x1), (3, .int x3), (4, .int x4), (5, .int x5), (6, .int x6)] → W p l e rX6_weighs s m args below meth c H locs 0 0 Q (F0 m 172 ls []) := by
        intro wor x5 x6 hres H locs ls hP hS hl
        unfold fX6_weighs_b172 at hres
        refine lv_aload_n hx hb dX6_weighs_172 rfl (lv_at hl 0 rfl) ?_
        refine gM_this6_worths hx hb hown hw6 hK hP u1 dX6_weighs_173 ?_
        refine lv_bipush (v := 121) hx hb dX6_weighs_176 (by decide) ?_
        refine lv_iload_n hx hb dX6_weighs_178 rfl (lv_at hl 2 rfl) ?_
        refine lv_imul hx hb dX6_weighs_179 ?_
        refine lv_iload hx hb dX6_weighs_180 (lv_at hl 4 rfl) ?_
        refine lv_iadd hx hb dX6_weighs_182 ?_
        refine lv_iload hx hb dX6_weighs_183 (lv_at hl 5 rfl) ?_
        obtain ⟨i185, hres⟩ := gdi hres
        refine sM_wor hx hb hK hP hd hS i185 dX6_weighs_185 (fun H locs hP hS => ?_)
        refine lv_iinc (v := x5 + 1) (lv' := [(5, .int (x5 + 1)), (0, .ref (a 0)), (1, .int x1), (3, .int x3), (4, .int x4), (6, .int x6)]) hx hb dX6_weighs_186 hl (k := 4) rfl (congrArg (fun z => x5 + z) (by decide)) (by decide) rfl (fun ls hl => ?_)
        refine lv_goto (tgt := 60) hx hb dX6_weighs_189 (by decide) ?_
        exact hK60 (x5 + 1) (upd wor (((121 : Int32) * x3) + x5).toNatClampNeg x6) hres _ _ _ hP hS (lv_sub hl [1, 2, 3, 4, 0] rfl)
      have b74 : ∀ (wor : Nat → Int32) (x5 : Int32) (n : Nat) (x6 : Int32) (x7 : Int32), fix2 (fX6_weighs_l74 K60 sv wor x3 x4 x5) n x6 x7 = some res → ∀ (H : Heap) (locs : List Loc) (ls : Array Slot), va_P D vwCl (wM a cI cJ cS sv kep bef isk fnd man nex wor sng hea lat tap tpd her flt vlu bit lon cel btw) H → va_S (adA a 16 s.heap.size) s.heap H locs → lv_has ls 10 [(0, .ref (a 0)), (1, .int x1), (3, .int x3), (4, .int x4), (5, .int x5), (6, .int x6), (7, .int x7)] → W p l e rX6_weighs s m args below meth c H locs 0 0 Q (F0 m 74 ls []) := by
        intro wor x5
        refine fix2_r ?_
        intro K74 hK74 x6 x7 hres H locs ls hP hS hl
        have b164 : ∀ (x7 : Int32) (z0 : Int32), fX6_weighs_b164 K74 x7 z0 = some res → ∀ (H : Heap) (locs : List Loc) (ls : Array Slot), va_P D vwCl (wM a cI cJ cS sv kep bef isk fnd man nex wor sng hea lat tap tpd her flt vlu bit lon cel btw) H → va_S (adA a 16 s.heap.size) s.heap H locs → lv_has ls 10 [(0, .ref (a 0)), (1, .int x1), (3, .int x3), (4, .int x4), (5, .int x5), (7, .int x7)] → W p l e rX6_weighs s m args below meth c H locs 0 0 Q (F0 m 164 ls [.int z0]) := by
          intro x7 z0 hres H locs ls hP hS hl
          unfold fX6_weighs_b164 at hres
          refine lv_istore (lv' := [(6, .int z0), (0, .ref (a 0)), (1, .int x1), (3, .int x3), (4, .int x4), (5, .int x5), (7, .int x7)]) hx hb dX6_weighs_164 hl (by decide) rfl (fun ls hl => ?_)
          refine lv_iinc (v := x7 + 1) (lv' := [(7, .int (x7 + 1)), (6, .int z0), (0, .ref (a 0)), (1, .int x1), (3, .int x3), (4, .int x4), (5, .int x5)]) hx hb dX6_weighs_166 hl (k := 6) rfl (congrArg (fun z => x7 + z) (by decide)) (by decide) rfl (fun ls hl => ?_)
          refine lv_goto (tgt := 74) hx hb dX6_weighs_169 (by decide) ?_
          exact hK74 z0 (x7 + 1) hres _ _ _ hP hS (lv_sub hl [2, 3, 4, 5, 6, 1, 0] rfl)
        have b141 : ∀ (x6 : Int32) (x7 : Int32) (x8 : Int32) (z0 : Bool), fX6_weighs_b141 K74 sv x4 x6 x7 x8 z0 = some res → ∀ (H : Heap) (locs : List Loc) (ls : Array Slot), va_P D vwCl (wM a cI cJ cS sv kep bef isk fnd man nex wor sng hea lat tap tpd her flt vlu bit lon cel btw) H → va_S (adA a 16 s.heap.size) s.heap H locs → lv_has ls 10 [(0, .ref (a 0)), (1, .int x1), (3, .int x3), (4, .int x4), (5, .int x5), (6, .int x6), (7, .int x7), (8, .int x8)] → W p l e rX6_weighs s m args below meth c H locs 0 0 Q (F0 m 141 ls [.int (bI z0)]) := by
          intro x6 x7 x8 z0 hres H locs ls hP hS hl
          unfold fX6_weighs_b141 at hres
          refine lv_istore (lv' := [(9, .int (bI z0)), (0, .ref (a 0)), (1, .int x1), (3, .int x3), (4, .int x4), (5, .int x5), (6, .int x6), (7, .int x7), (8, .int x8)]) hx hb dX6_weighs_141 hl (by decide) rfl (fun ls hl => ?_)
          refine lv_iload hx hb dX6_weighs_143 (lv_at hl 0 rfl) ?_
          refine lv_if_eq (tgt := 162) hx hb dX6_weighs_145 (by decide) (fun c145 => ?_) (fun c145 => ?_)
          · have hres := (itl hres).1 c145
            refine lv_iload hx hb dX6_weighs_162 (lv_at hl 6 rfl) ?_
            exact b164 x7 x6 hres _ _ _ hP hS (lv_sub hl [1, 2, 3, 4, 5, 7] rfl)
          · have hres := (itl hres).2 c145
            refine lv_aload_n hx hb dX6_weighs_148 rfl (lv_at hl 1 rfl) ?_
            refine lv_iload hx hb dX6_weighs_149 (lv_at hl 4 rfl) ?_
            refine lv_iload hx hb dX6_weighs_151 (lv_at hl 7 rfl) ?_
            obtain ⟨q153, e153, hres⟩ := obd hres
            refine cvI (q0 := 0) (ci := 6) hx hb hml hown hts hEo hE hK hP hS (kX6_valued l D a cI cJ cS hd hEo sv kep bef isk fnd man nex wor sng hea lat tap tpd her flt vlu bit lon cel btw x4 x7 q153 e153) gX6_weighs_X6_valued rfl hdX6_valued rfl rfl rfl ⟨rfl, rfl⟩ ⟨Nat.le_of_ble_eq_true rfl, Nat.le_of_ble_eq_true rfl⟩ ⟨Nat.zero_le _, Nat.zero_le _⟩ rfl hl.1 rfl (Nat.le_of_ble_eq_true rfl) dX6_weighs_153 (fun H locs hP hS => ?_)
            refine lv_iload hx hb dX6_weighs_156 (lv_at hl 8 rfl) ?_
            refine lv_iadd hx hb dX6_weighs_158 ?_
            refine lv_goto (tgt := 164) hx hb dX6_weighs_159 (by decide) ?_
            exact b164 x7 (q153 + x8) hres _ _ _ hP hS (lv_sub hl [1, 2, 3, 4, 5, 7] rfl)
        have b140 : ∀ (x6 : Int32) (x7 : Int32) (x8 : Int32), fX6_weighs_b140 K74 sv x4 x6 x7 x8 = some res → ∀ (H : Heap) (locs : List Loc) (ls : Array Slot), va_P D vwCl (wM a cI cJ cS sv kep bef isk fnd man nex wor sng hea lat tap tpd her flt vlu bit lon cel btw) H → va_S (adA a 16 s.heap.size) s.heap H locs → lv_has ls 10 [(0, .ref (a 0)), (1, .int x1), (3, .int x3), (4, .int x4), (5, .int x5), (6, .int x6), (7, .int x7), (8, .int x8)] → W p l e rX6_weighs s m args below meth c H locs 0 0 Q (F0 m 140 ls []) := by
          intro x6 x7 x8 hres H locs ls hP hS hl
          unfold fX6_weighs_b140 at hres
          refine lv_iconst (v := 0) hx hb dX6_weighs_140 (by decide) ?_
          exact b141 x6 x7 x8 false hres _ _ _ hP hS (lv_sub hl [0, 1, 2, 3, 4, 5, 6, 7] rfl)
        unfold fX6_weighs_l74 at hres
        refine lv_iload hx hb dX6_weighs_74 (lv_at hl 6 rfl) ?_
        refine lv_iload hx hb dX6_weighs_76 (lv_at hl 4 rfl) ?_
        refine lv_icmp_gt (tgt := 172) hx hb dX6_weighs_78 (by decide) (fun c78 => ?_) (fun c78 => ?_)
        · have hres := (itl hres).1 c78
          exact b172 wor x5 x6 hres _ _ _ hP hS (lv_sub hl [0, 1, 2, 3, 4, 5] rfl)
        · have hres := (itl hres).2 c78
          refine lv_iload hx hb dX6_weighs_81 (lv_at hl 6 rfl) ?_
          refine lv_bipush (v := 25) hx hb dX6_weighs_83 (by decide) ?_
          refine lv_icmp_ge (tgt := 172) hx hb dX6_weighs_85 (by decide) (fun c85 => ?_) (fun c85 => ?_)
          · have hres := (itl hres).1 c85
            exact b172 wor x5 x6 hres _ _ _ hP hS (lv_sub hl [0, 1, 2, 3, 4, 5] rfl)
          · have hres := (itl hres).2 c85
            refine lv_aload_n hx hb dX6_weighs_88 rfl (lv_at hl 0 rfl) ?_
            refine lv_iload_n hx hb dX6_weighs_89 rfl (lv_at hl 2 rfl) ?_
            refine lv_iconst (v := 1) hx hb dX6_weighs_90 (by decide) ?_
            refine lv_iadd hx hb dX6_weighs_91 ?_
            refine lv_iload hx hb dX6_weighs_92 (lv_at hl 4 rfl) ?_
            refine lv_iload hx hb dX6_weighs_94 (lv_at hl 6 rfl) ?_
            refine lv_isub hx hb dX6_weighs_96 ?_
            obtain ⟨q97, e97, hres⟩ := obd hres
            refine cvI (q0 := 0) (ci := 6) hx hb hml hown hts hEo hE hK hP hS (kX6_worthAt l D a cI cJ cS hd hEo sv kep bef isk fnd man nex wor sng hea lat tap tpd her flt vlu bit lon cel btw (x3 + (1 : Int32)) (x5 - x7) q97 e97) gX6_weighs_X6_worthAt rfl hdX6_worthAt rfl rfl rfl ⟨rfl, rfl⟩ ⟨Nat.le_of_ble_eq_true rfl, Nat.le_of_ble_eq_true rfl⟩ ⟨Nat.zero_le _, Nat.zero_le _⟩ rfl hl.1 rfl (Nat.le_of_ble_eq_true rfl) dX6_weighs_97 (fun H locs hP hS => ?_)
            refine lv_istore (lv' := [(8, .int q97), (0, .ref (a 0)), (1, .int x1), (3, .int x3), (4, .int x4), (5, .int x5), (6, .int x6), (7, .int x7)]) hx hb dX6_weighs_100 hl (by decide) rfl (fun ls hl => ?_)
            refine lv_aload_n hx hb dX6_weighs_102 rfl (lv_at hl 1 rfl) ?_
            refine lv_iload hx hb dX6_weighs_103 (lv_at hl 4 rfl) ?_
            refine lv_iload hx hb dX6_weighs_105 (lv_at hl 7 rfl) ?_
            obtain ⟨q107, e107, hres⟩ := obd hres
            refine cvI (q0 := 0) (ci := 6) hx hb hml hown hts hEo hE hK hP hS (kX6_isLength l D a cI cJ cS hd hEo sv kep bef isk fnd man nex wor sng hea lat tap tpd her flt vlu bit lon cel btw x4 x7 q107 e107) gX6_weighs_X6_isLength rfl hdX6_isLength rfl rfl rfl ⟨rfl, rfl⟩ ⟨Nat.le_of_ble_eq_true rfl, Nat.le_of_ble_eq_true rfl⟩ ⟨Nat.zero_le _, Nat.zero_le _⟩ rfl hl.1 rfl (Nat.le_of_ble_eq_true rfl) dX6_weighs_107 (fun H locs hP hS => ?_)
            refine lv_if_eq (tgt := 140) hx hb dX6_weighs_110 (by decide) (fun c110 => ?_) (fun c110 => ?_)
            · have hres := (itl hres).1 c110
              exact b140 x6 x7 q97 hres _ _ _ hP hS (lv_sub hl [1, 2, 3, 4, 5, 6, 7, 0] rfl)
            · have hres := (itl hres).2 c110
              refine lv_iload hx hb dX6_weighs_113 (lv_at hl 0 rfl) ?_
              refine lv_ldc hx hb hown u2 dX6_weighs_115 ?_
              refine lv_icmp_le (tgt := 140) hx hb dX6_weighs_117 (by decide) (fun c117 => ?_) (fun c117 => ?_)
              · have hres := (itl hres).1 c117
                exact b140 x6 x7 q97 hres _ _ _ hP hS (lv_sub hl [1, 2, 3, 4, 5, 6, 7, 0] rfl)
              · have hres := (itl hres).2 c117
                refine lv_aload_n hx hb dX6_weighs_120 rfl (lv_at hl 1 rfl) ?_
                refine lv_iload hx hb dX6_weighs_121 (lv_at hl 4 rfl) ?_
                refine lv_iload hx hb dX6_weighs_123 (lv_at hl 7 rfl) ?_
                obtain ⟨q125, e125, hres⟩ := obd hres
                refine cvI (q0 := 0) (ci := 6) hx hb hml hown hts hEo hE hK hP hS (kX6_valued l D a cI cJ cS hd hEo sv kep bef isk fnd man nex wor sng hea lat tap tpd her flt vlu bit lon cel btw x4 x7 q125 e125) gX6_weighs_X6_valued rfl hdX6_valued rfl rfl rfl ⟨rfl, rfl⟩ ⟨Nat.le_of_ble_eq_true rfl, Nat.le_of_ble_eq_true rfl⟩ ⟨Nat.zero_le _, Nat.zero_le _⟩ rfl hl.1 rfl (Nat.le_of_ble_eq_true rfl) dX6_weighs_125 (fun H locs hP hS => ?_)
                refine lv_iload hx hb dX6_weighs_128 (lv_at hl 0 rfl) ?_
                refine lv_iadd hx hb dX6_weighs_130 ?_
                refine lv_iload hx hb dX6_weighs_131 (lv_at hl 6 rfl) ?_
                refine lv_icmp_le (tgt := 140) hx hb dX6_weighs_133 (by decide) (fun c133 => ?_) (fun c133 => ?_)
                · have hres := (itl hres).1 c133
                  exact b140 x6 x7 q97 hres _ _ _ hP hS (lv_sub hl [1, 2, 3, 4, 5, 6, 7, 0] rfl)
                · have hres := (itl hres).2 c133
                  refine lv_iconst (v := 1) hx hb dX6_weighs_136 (by decide) ?_
                  refine lv_goto (tgt := 141) hx hb dX6_weighs_137 (by decide) ?_
                  exact b141 x6 x7 q97 true hres _ _ _ hP hS (lv_sub hl [1, 2, 3, 4, 5, 6, 7, 0] rfl)
      unfold fX6_weighs_l60 at hres
      refine lv_iload hx hb dX6_weighs_60 (lv_at hl 4 rfl) ?_
      refine lv_bipush (v := 120) hx hb dX6_weighs_62 (by decide) ?_
      refine lv_icmp_gt (tgt := 192) hx hb dX6_weighs_64 (by decide) (fun c64 => ?_) (fun c64 => ?_)
      · have hres := (itl hres).1 c64
        exact b192 wor x3 hres _ _ _ hP hS (lv_sub hl [0, 1, 2] rfl)
      · have hres := (itl hres).2 c64
        refine lv_ldc hx hb hown u2 dX6_weighs_67 ?_
        refine lv_istore (lv' := [(6, .int (-1000000 : Int32)), (0, .ref (a 0)), (1, .int x1), (3, .int x3), (4, .int x4), (5, .int x5)]) hx hb dX6_weighs_69 hl (by decide) rfl (fun ls hl => ?_)
        refine lv_iconst (v := 0) hx hb dX6_weighs_71 (by decide) ?_
        refine lv_istore (lv' := [(7, .int (0 : Int32)), (6, .int (-1000000 : Int32)), (0, .ref (a 0)), (1, .int x1), (3, .int x3), (4, .int x4), (5, .int x5)]) hx hb dX6_weighs_72 hl (by decide) rfl (fun ls hl => ?_)
        exact b74 wor x5 2000 (-1000000 : Int32) (0 : Int32) hres _ _ _ hP hS (lv_sub hl [2, 3, 4, 5, 6, 1, 0] rfl)
    unfold fX6_weighs_l45 at hres
    refine lv_iload_n hx hb dX6_weighs_45 rfl (lv_at hl 2 rfl) ?_
    refine lv_if_lt (tgt := 198) hx hb dX6_weighs_46 (by decide) (fun c46 => ?_) (fun c46 => ?_)
    · have hres := (itl hres).1 c46
      exact hQ ▸ rtV hx hb hr hlk hP hS (by rw [← (Option.some.inj hres)]) dX6_weighs_198
    · have hres := (itl hres).2 c46
      refine lv_aload_n hx hb dX6_weighs_49 rfl (lv_at hl 0 rfl) ?_
      refine lv_iload_n hx hb dX6_weighs_50 rfl (lv_at hl 1 rfl) ?_
      refine lv_iload_n hx hb dX6_weighs_51 rfl (lv_at hl 2 rfl) ?_
      obtain ⟨q52, e52, hres⟩ := obd hres
      refine cvI (q0 := 0) (ci := 6) hx hb hml hown hts hEo hE hK hP hS (kX6_nth l D a cI cJ cS hd hEo sv kep bef isk fnd man nex wor sng hea lat tap tpd her flt vlu bit lon cel btw x1 x3 q52 e52) gX6_weighs_X6_nth rfl hdX6_nth rfl rfl rfl ⟨rfl, rfl⟩ ⟨Nat.le_of_ble_eq_true rfl, Nat.le_of_ble_eq_true rfl⟩ ⟨Nat.zero_le _, Nat.zero_le _⟩ rfl hl.1 rfl (Nat.le_of_ble_eq_true rfl) dX6_weighs_52 (fun H locs hP hS => ?_)
      refine lv_istore (lv' := [(4, .int q52), (0, .ref (a 0)), (1, .int x1), (3, .int x3)]) hx hb dX6_weighs_55 hl (by decide) rfl (fun ls hl => ?_)
      refine lv_iconst (v := 0) hx hb dX6_weighs_57 (by decide) ?_
      refine lv_istore (lv' := [(5, .int (0 : Int32)), (4, .int q52), (0, .ref (a 0)), (1, .int x1), (3, .int x3)]) hx hb dX6_weighs_58 hl (by decide) rfl (fun ls hl => ?_)
      exact b60 x3 q52 2000 (0 : Int32) wor hres _ _ _ hP hS (lv_sub hl [2, 3, 4, 1, 0] rfl)
  have b41 : ∀ (wor : Nat → Int32) (x2 : Int32), fX6_weighs_b41 sv wor x1 x2 = some res → ∀ (H : Heap) (locs : List Loc) (ls : Array Slot), va_P D vwCl (wM a cI cJ cS sv kep bef isk fnd man nex wor sng hea lat tap tpd her flt vlu bit lon cel btw) H → va_S (adA a 16 s.heap.size) s.heap H locs → lv_has ls 10 [(0, .ref (a 0)), (1, .int x1), (2, .int x2)] → W p l e rX6_weighs s m args below meth c H locs 0 0 Q (F0 m 41 ls []) := by
    intro wor x2 hres H locs ls hP hS hl
    unfold fX6_weighs_b41 at hres
    refine lv_iload_n hx hb dX6_weighs_41 rfl (lv_at hl 2 rfl) ?_
    refine lv_iconst (v := 1) hx hb dX6_weighs_42 (by decide) ?_
    refine lv_isub hx hb dX6_weighs_43 ?_
    refine lv_istore_n (lv' := [(3, .int (x2 - (1 : Int32))), (0, .ref (a 0)), (1, .int x1), (2, .int x2)]) hx hb dX6_weighs_44 rfl hl (by decide) rfl (fun ls hl => ?_)
    exact b45  2000 (x2 - (1 : Int32)) wor hres _ _ _ hP hS (lv_sub hl [1, 2, 0] rfl)
  have b8 : ∀ (x2 : Int32) (n : Nat) (x3 : Int32) (wor : Nat → Int32), fix2 (fX6_weighs_l8 sv x1 x2) n x3 wor = some res → ∀ (H : Heap) (locs : List Loc) (ls : Array Slot), va_P D vwCl (wM a cI cJ cS sv kep bef isk fnd man nex wor sng hea lat tap tpd her flt vlu bit lon cel btw) H → va_S (adA a 16 s.heap.size) s.heap H locs → lv_has ls 10 [(0, .ref (a 0)), (1, .int x1), (2, .int x2), (3, .int x3)] → W p l e rX6_weighs s m args below meth c H locs 0 0 Q (F0 m 8 ls []) := by
    intro x2
    refine fix2_r ?_
    intro K8 hK8 x3 wor hres H locs ls hP hS hl
    have b34 : ∀ (wor : Nat → Int32) (x3 : Int32) (z1 : Int32) (z2 : Int32), fX6_weighs_b34 K8 wor x3 z1 z2 = some res → ∀ (H : Heap) (locs : List Loc) (ls : Array Slot), va_P D vwCl (wM a cI cJ cS sv kep bef isk fnd man nex wor sng hea lat tap tpd her flt vlu bit lon cel btw) H → va_S (adA a 16 s.heap.size) s.heap H locs → lv_has ls 10 [(0, .ref (a 0)), (1, .int x1), (2, .int x2), (3, .int x3)] → W p l e rX6_weighs s m args below meth c H locs 0 0 Q (F0 m 34 ls [.int z2, .int z1, .ref (a 7)]) := by
      intro wor x3 z1 z2 hres H locs ls hP hS hl
      unfold fX6_weighs_b34 at hres
      obtain ⟨i34, hres⟩ := gdi hres
      refine sM_wor hx hb hK hP hd hS i34 dX6_weighs_34 (fun H locs hP hS => ?_)
      refine lv_iinc (v := x3 + 1) (lv' := [(3, .int (x3 + 1)), (0, .ref (a 0)), (1, .int x1), (2, .int x2)]) hx hb dX6_weighs_35 hl (k := 3) rfl (congrArg (fun z => x3 + z) (by decide)) (by decide) rfl (fun ls hl => ?_)
      refine lv_goto (tgt := 8) hx hb dX6_weighs_38 (by decide) ?_
      exact hK8 (x3 + 1) (upd wor z1.toNatClampNeg z2) hres _ _ _ hP hS (lv_sub hl [1, 2, 3, 0] rfl)
    unfold fX6_weighs_l8 at hres
    refine lv_iload_n hx hb dX6_weighs_8 rfl (lv_at hl 3 rfl) ?_
    refine lv_bipush (v := 120) hx hb dX6_weighs_9 (by decide) ?_
    refine lv_icmp_gt (tgt := 41) hx hb dX6_weighs_11 (by decide) (fun c11 => ?_) (fun c11 => ?_)
    · have hres := (itl hres).1 c11
      exact b41 wor x2 hres _ _ _ hP hS (lv_sub hl [0, 1, 2] rfl)
    · have hres := (itl hres).2 c11
      refine lv_aload_n hx hb dX6_weighs_14 rfl (lv_at hl 0 rfl) ?_
      refine gM_this6_worths hx hb hown hw6 hK hP u1 dX6_weighs_15 ?_
      refine lv_bipush (v := 121) hx hb dX6_weighs_18 (by decide) ?_
      refine lv_iload_n hx hb dX6_weighs_20 rfl (lv_at hl 2 rfl) ?_
      refine lv_imul hx hb dX6_weighs_21 ?_
      refine lv_iload_n hx hb dX6_weighs_22 rfl (lv_at hl 3 rfl) ?_
      refine lv_iadd hx hb dX6_weighs_23 ?_
      refine lv_iload_n hx hb dX6_weighs_24 rfl (lv_at hl 3 rfl) ?_
      refine lv_if_ne (tgt := 32) hx hb dX6_weighs_25 (by decide) (fun c25 => ?_) (fun c25 => ?_)
      · have hres := (itl hres).2 c25
        refine lv_ldc hx hb hown u2 dX6_weighs_32 ?_
        exact b34 wor x3 (((121 : Int32) * x2) + x3) (-1000000 : Int32) hres _ _ _ hP hS (lv_sub hl [0, 1, 2, 3] rfl)
      · have hres := (itl hres).1 c25
        refine lv_iconst (v := 0) hx hb dX6_weighs_28 (by decide) ?_
        refine lv_goto (tgt := 34) hx hb dX6_weighs_29 (by decide) ?_
        exact b34 wor x3 (((121 : Int32) * x2) + x3) (0 : Int32) hres _ _ _ hP hS (lv_sub hl [0, 1, 2, 3] rfl)
  unfold fX6_weighs at hres
  refine lv_aload_n hx hb dX6_weighs_0 rfl (lv_at hl 0 rfl) ?_
  refine lv_iload_n hx hb dX6_weighs_1 rfl (lv_at hl 1 rfl) ?_
  obtain ⟨q2, e2, hres⟩ := obd hres
  refine cvI (q0 := 0) (ci := 6) hx hb hml hown hts hEo hE hK hP hS (kX6_long_ l D a cI cJ cS hd hEo sv kep bef isk fnd man nex wor sng hea lat tap tpd her flt vlu bit lon cel btw x1 q2 e2) gX6_weighs_X6_long_ rfl hdX6_long_ rfl rfl rfl ⟨rfl, rfl⟩ ⟨Nat.le_of_ble_eq_true rfl, Nat.le_of_ble_eq_true rfl⟩ ⟨Nat.zero_le _, Nat.zero_le _⟩ rfl hl.1 rfl (Nat.le_of_ble_eq_true rfl) dX6_weighs_2 (fun H locs hP hS => ?_)
  refine lv_istore_n (lv' := [(2, .int q2), (0, .ref (a 0)), (1, .int x1)]) hx hb dX6_weighs_5 rfl hl (by decide) rfl (fun ls hl => ?_)
  refine lv_iconst (v := 0) hx hb dX6_weighs_6 (by decide) ?_
  refine lv_istore_n (lv' := [(3, .int (0 : Int32)), (2, .int q2), (0, .ref (a 0)), (1, .int x1)]) hx hb dX6_weighs_7 rfl hl (by decide) rfl (fun ls hl => ?_)
  exact b8 q2 2000 (0 : Int32) wor hres _ _ _ hP hS (lv_sub hl [2, 3, 1, 0] rfl)
def fX6_says_b104 (K45 : Int32 → Option (Bool × (Nat → Int32) × (Nat → Int32))) (x6 : Int32) : Option (Bool × (Nat → Int32) × (Nat → Int32)) :=
  K45 (x6 + 1)
def fX6_says_b110 (K23 : Int32 → Int32 → (Nat → Int32) → Option (Bool × (Nat → Int32) × (Nat → Int32))) (sng : Nat → Int32) (x3 : Int32) (x4 : Int32) (x6 : Int32) : Option (Bool × (Nat → Int32) × (Nat → Int32)) :=
  gd (ib x4 10) (K23 (x3 - x6) (x4 + 1) (upd sng x4.toNatClampNeg x6))
def fX6_says_l45 (K23 : Int32 → Int32 → (Nat → Int32) → Option (Bool × (Nat → Int32) × (Nat → Int32))) (sv : Nat → Int32) (wor : Nat → Int32) (sng : Nat → Int32) (x3 : Int32) (x4 : Int32) (x5 : Int32) (K45 : Int32 → Option (Bool × (Nat → Int32) × (Nat → Int32))) (x6 : Int32) : Option (Bool × (Nat → Int32) × (Nat → Int32)) :=
 (fX6_isLength sv x5 x6).bind fun q50 => if (bI q50) = 0 then fX6_says_b104 K45 x6 else (fX6_worthAt wor (x4 + (1 : Int32)) (x3 - x6)).bind fun q65 => if q65 ≤ (-1000000 : Int32) then fX6_says_b104 K45 x6 else (fX6_valued sv x5 x6).bind fun q78 => (fX6_worthAt wor (x4 + (1 : Int32)) (x3 - x6)).bind fun q90 => (fX6_worthAt wor x4 x3).bind fun q98 => if (q78 + q90) = q98 then fX6_says_b110 K23 sng x3 x4 x6 else fX6_says_b104 K45 x6
def fX6_says_l23 (sv : Nat → Int32) (wor : Nat → Int32) (x1 : Int32) (K23 : Int32 → Int32 → (Nat → Int32) → Option (Bool × (Nat → Int32) × (Nat → Int32))) (x3 : Int32) (x4 : Int32) (sng : Nat → Int32) : Option (Bool × (Nat → Int32) × (Nat → Int32)) :=
 (fX6_long_ sv x1).bind fun q27 => if q27 ≤ x4 then some (true, wor, sng) else (fX6_nth sv x1 x4).bind fun q37 => fix1 (fX6_says_l45 K23 sv wor sng x3 x4 q37) 2000 (0 : Int32)
def fX6_says (sv : Nat → Int32) (wor : Nat → Int32) (sng : Nat → Int32) (x1 : Int32) (x2 : Int32) : Option (Bool × (Nat → Int32) × (Nat → Int32)) :=
 (fX6_weighs sv wor x1).bind fun q2 => (fX6_worthAt q2 (0 : Int32) x2).bind fun q8 => if q8 = (-1000000 : Int32) then some (false, q2, sng) else fix3 (fX6_says_l23 sv q2 x1) 2000 x2 (0 : Int32) sng
theorem hdX6_weighs : yX6_weighs.cls = RX6 ∧ yX6_weighs.cls ≠ "java/lang/invoke/MethodHandle" ∧ yX6_weighs.cls ≠ "java/lang/invoke/VarHandle" ∧ (parseMethodDescriptor yX6_weighs.desc).map (fun d => d.parameters.length) = some 1 := by decide +kernel
abbrev rX6_says : Room := { frames := 3, cells := 0, slots := 0, locals := 75 }
set_option maxHeartbeats 4000000 in
set_option maxRecDepth 100000 in
theorem kX6_says (l : Launch) (D : va_G) (a : Nat → Nat) (cI cJ cS : ClassId) (hd : aok a 16) {Env : (Nat → Prop) → State → Heap → Prop} (hEo : envOK Env) (sv kep bef : Nat → Int32) (isk : Int32) (fnd : Nat → Int32) (man nex : Nat → Int64) (wor sng hea lat tap : Nat → Int32) (tpd her flt vlu : Int32) (bit lon : Nat → Int32) (cel btw : Nat → Int64) (x1 : Int32) (x2 : Int32) (res : Bool × (Nat → Int32) × (Nat → Int32)) (hres : fX6_says sv wor sng x1 x2 = some res) : CtI l D (tyL cI cJ cS) 16 a Env yX6_says wsX6_says rX6_says [.ref (a 0), .int x1, .int x2] (wM a cI cJ cS sv kep bef isk fnd man nex wor sng hea lat tap tpd her flt vlu bit lon cel btw) (wM a cI cJ cS sv kep bef isk fnd man nex res.2.1 res.2.2 hea lat tap tpd her flt vlu bit lon cel btw) (bI res.1) := by
  refine CtI_mk (cc := cX6_says) (maxL := 7) (ret := (some .boolean)) (by decide) rfl (Nat.le_of_ble_eq_true rfl) ?_
  intro p e s m args below meth c ls hx hb hr hlk hml hown hts hP hK hE hl
  have hS : va_S (adA a 16 s.heap.size) s.heap s.heap [] := va_S.rf
  have hl : lv_has ls 7 [(0, .ref (a 0)), (1, .int x1), (2, .int x2)] := hl
  have hown : s.vm.findClass RX6 = some m.cls := hown
  have hw6 : ∀ w ∈ wsX60, w.before args s = true := fun w h => hts w (List.mem_cons_of_mem _ (List.mem_append_right _ h))
  have u1 : (Cond.constant RX6 124 (-1000000)).before args s = true := hts _ (List.mem_of_getElem? (i := 1) (by decide +kernel))
  have u2 : (Cond.fieldLink RX6 32 "YearWordsModel" "saying" "[I").before args s = true := hts _ (List.mem_of_getElem? (i := 2) (by decide +kernel))
  obtain ⟨Q, hQ⟩ : ∃ Q, Q = mqI below D 16 a args s (wM a cI cJ cS sv kep bef isk fnd man nex res.2.1 res.2.2 hea lat tap tpd her flt vlu bit lon cel btw) (bI res.1) := ⟨_, rfl⟩
  rw [← hQ]
  have b23 : ∀ (wor : Nat → Int32) (n : Nat) (x3 : Int32) (x4 : Int32) (sng : Nat → Int32), fix3 (fX6_says_l23 sv wor x1) n x3 x4 sng = some res → ∀ (H : Heap) (locs : List Loc) (ls : Array Slot), va_P D vwCl (wM a cI cJ cS sv kep bef isk fnd man nex wor sng hea lat tap tpd her flt vlu bit lon cel btw) H → va_S (adA a 16 s.heap.size) s.heap H locs → lv_has ls 7 [(0, .ref (a 0)), (1, .int x1), (3, .int x3), (4, .int x4)] → W p l e rX6_says s m args below meth c H locs 0 0 Q (F0 m 23 ls []) := by
    intro wor
    refine fix3_r ?_
    intro K23 hK23 x3 x4 sng hres H locs ls hP hS hl
    have b110 : ∀ (sng : Nat → Int32) (x3 : Int32) (x4 : Int32) (x6 : Int32), fX6_says_b110 K23 sng x3 x4 x6 = some res → ∀ (H : Heap) (locs : List Loc) (ls : Array Slot), va_P D vwCl (wM a cI cJ cS sv kep bef isk fnd man nex wor sng hea lat tap tpd her flt vlu bit lon cel btw) H → va_S (adA a 16 s.heap.size) s.heap H locs → lv_has ls 7 [(0, .ref (a 0)), (1, .int x1), (3, .int x3), (4, .int x4), (6, .int x6)] → W p l e rX6_says s m args below meth c H locs 0 0 Q (F0 m 110 ls []) := by
      intro sng x3 x4 x6 hres H locs ls hP hS hl
      unfold fX6_says_b110 at hres
      refine lv_aload_n hx hb dX6_says_110 rfl (lv_at hl 0 rfl) ?_
      refine gM_this6_saying hx hb hown hw6 hK hP u2 dX6_says_111 ?_
      refine lv_iload hx hb dX6_says_114 (lv_at hl 3 rfl) ?_
      refine lv_iload hx hb dX6_says_116 (lv_at hl 4 rfl) ?_
      obtain ⟨i118, hres⟩ := gdi hres
      refine sM_sng hx hb hK hP hd hS i118 dX6_says_118 (fun H locs hP hS => ?_)
      refine lv_iload_n hx hb dX6_says_119 rfl (lv_at hl 2 rfl) ?_
      refine lv_iload hx hb dX6_says_120 (lv_at hl 4 rfl) ?_
      refine lv_isub hx hb dX6_says_122 ?_
      refine lv_istore_n (lv' := [(3, .int (x3 - x6)), (0, .ref (a 0)), (1, .int x1), (4, .int x4), (6, .int x6)]) hx hb dX6_says_123 rfl hl (by decide) rfl (fun ls hl => ?_)
      refine lv_iinc (v := x4 + 1) (lv' := [(4, .int (x4 + 1)), (3, .int (x3 - x6)), (0, .ref (a 0)), (1, .int x1), (6, .int x6)]) hx hb dX6_says_124 hl (k := 3) rfl (congrArg (fun z => x4 + z) (by decide)) (by decide) rfl (fun ls hl => ?_)
      refine lv_goto (tgt := 23) hx hb dX6_says_127 (by decide) ?_
      exact hK23 (x3 - x6) (x4 + 1) (upd sng x4.toNatClampNeg x6) hres _ _ _ hP hS (lv_sub hl [2, 3, 1, 0] rfl)
    have b45 : ∀ (sng : Nat → Int32) (x3 : Int32) (x4 : Int32) (x5 : Int32) (n : Nat) (x6 : Int32), fix1 (fX6_says_l45 K23 sv wor sng x3 x4 x5) n x6 = some res → ∀ (H : Heap) (locs : List Loc) (ls : Array Slot), va_P D vwCl (wM a cI cJ cS sv kep bef isk fnd man nex wor sng hea lat tap tpd her flt vlu bit lon cel btw) H → va_S (adA a 16 s.heap.size) s.heap H locs → lv_has ls 7 [(0, .ref (a 0)), (1, .int x1), (3, .int x3), (4, .int x4), (5, .int x5), (6, .int x6)] → W p l e rX6_says s m args below meth c H locs 0 0 Q (F0 m 45 ls []) := by
      intro sng x3 x4 x5
      refine fix1_r ?_
      intro K45 hK45 x6 hres H locs ls hP hS hl
      have b104 : ∀ (x6 : Int32), fX6_says_b104 K45 x6 = some res → ∀ (H : Heap) (locs : List Loc) (ls : Array Slot), va_P D vwCl (wM a cI cJ cS sv kep bef isk fnd man nex wor sng hea lat tap tpd her flt vlu bit lon cel btw) H → va_S (adA a 16 s.heap.size) s.heap H locs → lv_has ls 7 [(0, .ref (a 0)), (1, .int x1), (3, .int x3), (4, .int x4), (5, .int x5), (6, .int x6)] → W p l e rX6_says s m args below meth c H locs 0 0 Q (F0 m 104 ls []) := by
        intro x6 hres H locs ls hP hS hl
        unfold fX6_says_b104 at hres
        refine lv_iinc (v := x6 + 1) (lv' := [(6, .int (x6 + 1)), (0, .ref (a 0)), (1, .int x1), (3, .int x3), (4, .int x4), (5, .int x5)]) hx hb dX6_says_104 hl (k := 5) rfl (congrArg (fun z => x6 + z) (by decide)) (by decide) rfl (fun ls hl => ?_)
        refine lv_goto (tgt := 45) hx hb dX6_says_107 (by decide) ?_
        exact hK45 (x6 + 1) hres _ _ _ hP hS (lv_sub hl [1, 2, 3, 4, 5, 0] rfl)
      unfold fX6_says_l45 at hres
      refine lv_aload_n hx hb dX6_says_45 rfl (lv_at hl 0 rfl) ?_
      refine lv_iload hx hb dX6_says_46 (lv_at hl 4 rfl) ?_
      refine lv_iload hx hb dX6_says_48 (lv_at hl 5 rfl) ?_
      obtain ⟨q50, e50, hres⟩ := obd hres
      refine cvI (q0 := 0) (ci := 6) hx hb hml hown hts hEo hE hK hP hS (kX6_isLength l D a cI cJ cS hd hEo sv kep bef isk fnd man nex wor sng hea lat tap tpd her flt vlu bit lon cel btw x5 x6 q50 e50) gX6_says_X6_isLength rfl hdX6_isLength rfl rfl rfl ⟨rfl, rfl⟩ ⟨Nat.le_of_ble_eq_true rfl, Nat.le_of_ble_eq_true rfl⟩ ⟨Nat.zero_le _, Nat.zero_le _⟩ rfl hl.1 rfl (Nat.le_of_ble_eq_true rfl) dX6_says_50 (fun H locs hP hS => ?_)
      refine lv_if_eq (tgt := 104) hx hb dX6_says_53 (by decide) (fun c53 => ?_) (fun c53 => ?_)
      · have hres := (itl hres).1 c53
        exact b104 x6 hres _ _ _ hP hS (lv_sub hl [0, 1, 2, 3, 4, 5] rfl)
      · have hres := (itl hres).2 c53
        refine lv_aload_n hx hb dX6_says_56 rfl (lv_at hl 0 rfl) ?_
        refine lv_iload hx hb dX6_says_57 (lv_at hl 3 rfl) ?_
        refine lv_iconst (v := 1) hx hb dX6_says_59 (by decide) ?_
        refine lv_iadd hx hb dX6_says_60 ?_
        refine lv_iload_n hx hb dX6_says_61 rfl (lv_at hl 2 rfl) ?_
        refine lv_iload hx hb dX6_says_62 (lv_at hl 5 rfl) ?_
        refine lv_isub hx hb dX6_says_64 ?_
        obtain ⟨q65, e65, hres⟩ := obd hres
        refine cvI (q0 := 0) (ci := 6) hx hb hml hown hts hEo hE hK hP hS (kX6_worthAt l D a cI cJ cS hd hEo sv kep bef isk fnd man nex wor sng hea lat tap tpd her flt vlu bit lon cel btw (x4 + (1 : Int32)) (x3 - x6) q65 e65) gX6_says_X6_worthAt rfl hdX6_worthAt rfl rfl rfl ⟨rfl, rfl⟩ ⟨Nat.le_of_ble_eq_true rfl, Nat.le_of_ble_eq_true rfl⟩ ⟨Nat.zero_le _, Nat.zero_le _⟩ rfl hl.1 rfl (Nat.le_of_ble_eq_true rfl) dX6_says_65 (fun H locs hP hS => ?_)
        refine lv_ldc hx hb hown u1 dX6_says_68 ?_
        refine lv_icmp_le (tgt := 104) hx hb dX6_says_70 (by decide) (fun c70 => ?_) (fun c70 => ?_)
        · have hres := (itl hres).1 c70
          exact b104 x6 hres _ _ _ hP hS (lv_sub hl [0, 1, 2, 3, 4, 5] rfl)
        · have hres := (itl hres).2 c70
          refine lv_aload_n hx hb dX6_says_73 rfl (lv_at hl 0 rfl) ?_
          refine lv_iload hx hb dX6_says_74 (lv_at hl 4 rfl) ?_
          refine lv_iload hx hb dX6_says_76 (lv_at hl 5 rfl) ?_
          obtain ⟨q78, e78, hres⟩ := obd hres
          refine cvI (q0 := 0) (ci := 6) hx hb hml hown hts hEo hE hK hP hS (kX6_valued l D a cI cJ cS hd hEo sv kep bef isk fnd man nex wor sng hea lat tap tpd her flt vlu bit lon cel btw x5 x6 q78 e78) gX6_says_X6_valued rfl hdX6_valued rfl rfl rfl ⟨rfl, rfl⟩ ⟨Nat.le_of_ble_eq_true rfl, Nat.le_of_ble_eq_true rfl⟩ ⟨Nat.zero_le _, Nat.zero_le _⟩ rfl hl.1 rfl (Nat.le_of_ble_eq_true rfl) dX6_says_78 (fun H locs hP hS => ?_)
          refine lv_aload_n hx hb dX6_says_81 rfl (lv_at hl 0 rfl) ?_
          refine lv_iload hx hb dX6_says_82 (lv_at hl 3 rfl) ?_
          refine lv_iconst (v := 1) hx hb dX6_says_84 (by decide) ?_
          refine lv_iadd hx hb dX6_says_85 ?_
          refine lv_iload_n hx hb dX6_says_86 rfl (lv_at hl 2 rfl) ?_
          refine lv_iload hx hb dX6_says_87 (lv_at hl 5 rfl) ?_
          refine lv_isub hx hb dX6_says_89 ?_
          obtain ⟨q90, e90, hres⟩ := obd hres
          refine cvI (q0 := 0) (ci := 6) hx hb hml hown hts hEo hE hK hP hS (kX6_worthAt l D a cI cJ cS hd hEo sv kep bef isk fnd man nex wor sng hea lat tap tpd her flt vlu bit lon cel btw (x4 + (1 : Int32)) (x3 - x6) q90 e90) gX6_says_X6_worthAt rfl hdX6_worthAt rfl rfl rfl ⟨rfl, rfl⟩ ⟨Nat.le_of_ble_eq_true rfl, Nat.le_of_ble_eq_true rfl⟩ ⟨Nat.zero_le _, Nat.zero_le _⟩ rfl hl.1 rfl (Nat.le_of_ble_eq_true rfl) dX6_says_90 (fun H locs hP hS => ?_)
          refine lv_iadd hx hb dX6_says_93 ?_
          refine lv_aload_n hx hb dX6_says_94 rfl (lv_at hl 0 rfl) ?_
          refine lv_iload hx hb dX6_says_95 (lv_at hl 3 rfl) ?_
          refine lv_iload_n hx hb dX6_says_97 rfl (lv_at hl 2 rfl) ?_
          obtain ⟨q98, e98, hres⟩ := obd hres
          refine cvI (q0 := 0) (ci := 6) hx hb hml hown hts hEo hE hK hP hS (kX6_worthAt l D a cI cJ cS hd hEo sv kep bef isk fnd man nex wor sng hea lat tap tpd her flt vlu bit lon cel btw x4 x3 q98 e98) gX6_says_X6_worthAt rfl hdX6_worthAt rfl rfl rfl ⟨rfl, rfl⟩ ⟨Nat.le_of_ble_eq_true rfl, Nat.le_of_ble_eq_true rfl⟩ ⟨Nat.zero_le _, Nat.zero_le _⟩ rfl hl.1 rfl (Nat.le_of_ble_eq_true rfl) dX6_says_98 (fun H locs hP hS => ?_)
          refine lv_icmp_eq (tgt := 110) hx hb dX6_says_101 (by decide) (fun c101 => ?_) (fun c101 => ?_)
          · have hres := (itl hres).1 c101
            exact b110 sng x3 x4 x6 hres _ _ _ hP hS (lv_sub hl [0, 1, 2, 3, 5] rfl)
          · have hres := (itl hres).2 c101
            exact b104 x6 hres _ _ _ hP hS (lv_sub hl [0, 1, 2, 3, 4, 5] rfl)
    unfold fX6_says_l23 at hres
    refine lv_iload hx hb dX6_says_23 (lv_at hl 3 rfl) ?_
    refine lv_aload_n hx hb dX6_says_25 rfl (lv_at hl 0 rfl) ?_
    refine lv_iload_n hx hb dX6_says_26 rfl (lv_at hl 1 rfl) ?_
    obtain ⟨q27, e27, hres⟩ := obd hres
    refine cvI (q0 := 0) (ci := 6) hx hb hml hown hts hEo hE hK hP hS (kX6_long_ l D a cI cJ cS hd hEo sv kep bef isk fnd man nex wor sng hea lat tap tpd her flt vlu bit lon cel btw x1 q27 e27) gX6_says_X6_long_ rfl hdX6_long_ rfl rfl rfl ⟨rfl, rfl⟩ ⟨Nat.le_of_ble_eq_true rfl, Nat.le_of_ble_eq_true rfl⟩ ⟨Nat.zero_le _, Nat.zero_le _⟩ rfl hl.1 rfl (Nat.le_of_ble_eq_true rfl) dX6_says_27 (fun H locs hP hS => ?_)
    refine lv_icmp_ge (tgt := 130) hx hb dX6_says_30 (by decide) (fun c30 => ?_) (fun c30 => ?_)
    · have hres := (itl hres).1 c30
      refine lv_iconst (v := 1) hx hb dX6_says_130 (by decide) ?_
      exact hQ ▸ rtZ (v := true)  hx hb hr hlk hP hS (by rw [← (Option.some.inj hres)]) (by rw [← (Option.some.inj hres)]) dX6_says_131
    · have hres := (itl hres).2 c30
      refine lv_aload_n hx hb dX6_says_33 rfl (lv_at hl 0 rfl) ?_
      refine lv_iload_n hx hb dX6_says_34 rfl (lv_at hl 1 rfl) ?_
      refine lv_iload hx hb dX6_says_35 (lv_at hl 3 rfl) ?_
      obtain ⟨q37, e37, hres⟩ := obd hres
      refine cvI (q0 := 0) (ci := 6) hx hb hml hown hts hEo hE hK hP hS (kX6_nth l D a cI cJ cS hd hEo sv kep bef isk fnd man nex wor sng hea lat tap tpd her flt vlu bit lon cel btw x1 x4 q37 e37) gX6_says_X6_nth rfl hdX6_nth rfl rfl rfl ⟨rfl, rfl⟩ ⟨Nat.le_of_ble_eq_true rfl, Nat.le_of_ble_eq_true rfl⟩ ⟨Nat.zero_le _, Nat.zero_le _⟩ rfl hl.1 rfl (Nat.le_of_ble_eq_true rfl) dX6_says_37 (fun H locs hP hS => ?_)
      refine lv_istore (lv' := [(5, .int q37), (0, .ref (a 0)), (1, .int x1), (3, .int x3), (4, .int x4)]) hx hb dX6_says_40 hl (by decide) rfl (fun ls hl => ?_)
      refine lv_iconst (v := 0) hx hb dX6_says_42 (by decide) ?_
      refine lv_istore (lv' := [(6, .int (0 : Int32)), (5, .int q37), (0, .ref (a 0)), (1, .int x1), (3, .int x3), (4, .int x4)]) hx hb dX6_says_43 hl (by decide) rfl (fun ls hl => ?_)
      exact b45 sng x3 x4 q37 2000 (0 : Int32) hres _ _ _ hP hS (lv_sub hl [2, 3, 4, 5, 1, 0] rfl)
  unfold fX6_says at hres
  refine lv_aload_n hx hb dX6_says_0 rfl (lv_at hl 0 rfl) ?_
  refine lv_iload_n hx hb dX6_says_1 rfl (lv_at hl 1 rfl) ?_
  obtain ⟨q2, e2, hres⟩ := obd hres
  refine cvV (q0 := 0) (ci := 6) hx hb hml hown hts hEo hE hK hP hS (kX6_weighs l D a cI cJ cS hd hEo sv kep bef isk fnd man nex wor sng hea lat tap tpd her flt vlu bit lon cel btw x1 q2 e2) gX6_says_X6_weighs rfl hdX6_weighs rfl rfl rfl ⟨rfl, rfl⟩ ⟨Nat.le_of_ble_eq_true rfl, Nat.le_of_ble_eq_true rfl⟩ ⟨Nat.zero_le _, Nat.zero_le _⟩ rfl hl.1 rfl (Nat.le_of_ble_eq_true rfl) dX6_says_2 (fun H locs hP hS => ?_)
  refine lv_aload_n hx hb dX6_says_5 rfl (lv_at hl 0 rfl) ?_
  refine lv_iconst (v := 0) hx hb dX6_says_6 (by decide) ?_
  refine lv_iload_n hx hb dX6_says_7 rfl (lv_at hl 2 rfl) ?_
  obtain ⟨q8, e8, hres⟩ := obd hres
  refine cvI (q0 := 0) (ci := 6) hx hb hml hown hts hEo hE hK hP hS (kX6_worthAt l D a cI cJ cS hd hEo sv kep bef isk fnd man nex q2 sng hea lat tap tpd her flt vlu bit lon cel btw (0 : Int32) x2 q8 e8) gX6_says_X6_worthAt rfl hdX6_worthAt rfl rfl rfl ⟨rfl, rfl⟩ ⟨Nat.le_of_ble_eq_true rfl, Nat.le_of_ble_eq_true rfl⟩ ⟨Nat.zero_le _, Nat.zero_le _⟩ rfl hl.1 rfl (Nat.le_of_ble_eq_true rfl) dX6_says_8 (fun H locs hP hS => ?_)
  refine lv_ldc hx hb hown u1 dX6_says_11 ?_
  refine lv_icmp_ne (tgt := 18) hx hb dX6_says_13 (by decide) (fun c13 => ?_) (fun c13 => ?_)
  · have hres := (itl hres).2 c13
    refine lv_iload_n hx hb dX6_says_18 rfl (lv_at hl 2 rfl) ?_
    refine lv_istore_n (lv' := [(3, .int x2), (0, .ref (a 0)), (1, .int x1), (2, .int x2)]) hx hb dX6_says_19 rfl hl (by decide) rfl (fun ls hl => ?_)
    refine lv_iconst (v := 0) hx hb dX6_says_20 (by decide) ?_
    refine lv_istore (lv' := [(4, .int (0 : Int32)), (3, .int x2), (0, .ref (a 0)), (1, .int x1), (2, .int x2)]) hx hb dX6_says_21 hl (by decide) rfl (fun ls hl => ?_)
    exact b23 q2 2000 x2 (0 : Int32) sng hres _ _ _ hP hS (lv_sub hl [2, 3, 1, 0] rfl)
  · have hres := (itl hres).1 c13
    refine lv_iconst (v := 0) hx hb dX6_says_16 (by decide) ?_
    exact hQ ▸ rtZ (v := false)  hx hb hr hlk hP hS (by rw [← (Option.some.inj hres)]) (by rw [← (Option.some.inj hres)]) dX6_says_17
def fX6_best_b25 (fnd : Nat → Int32) (wor : Nat → Int32) (sng : Nat → Int32) : Option (Int32 × (Nat → Int32) × (Nat → Int32) × (Nat → Int32)) :=
 (fX6_no fnd (0 : Int32)).bind fun q27 => some (q27.1, q27.2, wor, sng)
def fX6_best_b49 (fnd : Nat → Int32) (wor : Nat → Int32) (sng : Nat → Int32) : Option (Int32 × (Nat → Int32) × (Nat → Int32) × (Nat → Int32)) :=
 (fX6_no fnd (3 : Int32)).bind fun q51 => some (q51.1, q51.2, wor, sng)
def fX6_best (sv : Nat → Int32) (fnd : Nat → Int32) (wor : Nat → Int32) (sng : Nat → Int32) (x1 : Int32) (x2 : Int32) (x3 : Int32) : Option (Int32 × (Nat → Int32) × (Nat → Int32) × (Nat → Int32)) :=
 (fX6_isTale sv x1).bind fun q2 => if (bI q2) = 0 then fX6_best_b25 fnd wor sng else if (bI (fX6_isWords x2)) = 0 then fX6_best_b25 fnd wor sng else if (bI (fX6_in x3 (-1 : Int32) (9 : Int32))) = 0 then fX6_best_b25 fnd wor sng else (fX6_says sv wor sng x1 x2).bind fun q34 => if (bI q34.1) = 0 then fX6_best_b49 fnd q34.2.1 q34.2.2 else (fX6_long_ sv x1).bind fun q43 => if x3 < q43 then if x3 = (-1 : Int32) then (fX6_worthAt q34.2.1 (0 : Int32) x2).bind fun q63 => some (q63, fnd, q34.2.1, q34.2.2) else gd (ib x3 10) (some (q34.2.2 x3.toNatClampNeg, fnd, q34.2.1, q34.2.2)) else fX6_best_b49 fnd q34.2.1 q34.2.2
theorem hdX6_says : yX6_says.cls = RX6 ∧ yX6_says.cls ≠ "java/lang/invoke/MethodHandle" ∧ yX6_says.cls ≠ "java/lang/invoke/VarHandle" ∧ (parseMethodDescriptor yX6_says.desc).map (fun d => d.parameters.length) = some 2 := by decide +kernel
abbrev rX6_best : Room := { frames := 4, cells := 0, slots := 0, locals := 101 }
set_option maxHeartbeats 4000000 in
set_option maxRecDepth 100000 in
theorem kX6_best (l : Launch) (D : va_G) (a : Nat → Nat) (cI cJ cS : ClassId) (hd : aok a 16) {Env : (Nat → Prop) → State → Heap → Prop} (hEo : envOK Env) (sv kep bef : Nat → Int32) (isk : Int32) (fnd : Nat → Int32) (man nex : Nat → Int64) (wor sng hea lat tap : Nat → Int32) (tpd her flt vlu : Int32) (bit lon : Nat → Int32) (cel btw : Nat → Int64) (x1 : Int32) (x2 : Int32) (x3 : Int32) (res : Int32 × (Nat → Int32) × (Nat → Int32) × (Nat → Int32)) (hres : fX6_best sv fnd wor sng x1 x2 x3 = some res) : CtI l D (tyL cI cJ cS) 16 a Env yX6_best wsX6_best rX6_best [.ref (a 0), .int x1, .int x2, .int x3] (wM a cI cJ cS sv kep bef isk fnd man nex wor sng hea lat tap tpd her flt vlu bit lon cel btw) (wM a cI cJ cS sv kep bef isk res.2.1 man nex res.2.2.1 res.2.2.2 hea lat tap tpd her flt vlu bit lon cel btw) res.1 := by
  refine CtI_mk (cc := cX6_best) (maxL := 4) (ret := (some .int)) (by decide) rfl (Nat.le_of_ble_eq_true rfl) ?_
  intro p e s m args below meth c ls hx hb hr hlk hml hown hts hP hK hE hl
  have hS : va_S (adA a 16 s.heap.size) s.heap s.heap [] := va_S.rf
  have hl : lv_has ls 4 [(0, .ref (a 0)), (1, .int x1), (2, .int x2), (3, .int x3)] := hl
  have hown : s.vm.findClass RX6 = some m.cls := hown
  have hw6 : ∀ w ∈ wsX60, w.before args s = true := fun w h => hts w (List.mem_cons_of_mem _ (List.mem_append_right _ h))
  have u1 : (Cond.fieldLink RX6 32 "YearWordsModel" "saying" "[I").before args s = true := hts _ (List.mem_of_getElem? (i := 1) (by decide +kernel))
  obtain ⟨Q, hQ⟩ : ∃ Q, Q = mqI below D 16 a args s (wM a cI cJ cS sv kep bef isk res.2.1 man nex res.2.2.1 res.2.2.2 hea lat tap tpd her flt vlu bit lon cel btw) res.1 := ⟨_, rfl⟩
  rw [← hQ]
  have b25 : ∀ (fnd : Nat → Int32) (wor : Nat → Int32) (sng : Nat → Int32), fX6_best_b25 fnd wor sng = some res → ∀ (H : Heap) (locs : List Loc) (ls : Array Slot), va_P D vwCl (wM a cI cJ cS sv kep bef isk fnd man nex wor sng hea lat tap tpd her flt vlu bit lon cel btw) H → va_S (adA a 16 s.heap.size) s.heap H locs → lv_has ls 4 [(0, .ref (a 0))] → W p l e rX6_best s m args below meth c H locs 0 0 Q (F0 m 25 ls []) := by
    intro fnd wor sng hres H locs ls hP hS hl
    unfold fX6_best_b25 at hres
    refine lv_aload_n hx hb dX6_best_25 rfl (lv_at hl 0 rfl) ?_
    refine lv_iconst (v := 0) hx hb dX6_best_26 (by decide) ?_
    obtain ⟨q27, e27, hres⟩ := obd hres
    refine cvI (q0 := 0) (ci := 6) hx hb hml hown hts hEo hE hK hP hS (kX6_no l D a cI cJ cS hd hEo sv kep bef isk fnd man nex wor sng hea lat tap tpd her flt vlu bit lon cel btw (0 : Int32) q27 e27) gX6_best_X6_no rfl hdX6_no rfl rfl rfl ⟨rfl, rfl⟩ ⟨Nat.le_of_ble_eq_true rfl, Nat.le_of_ble_eq_true rfl⟩ ⟨Nat.zero_le _, Nat.zero_le _⟩ rfl hl.1 rfl (Nat.le_of_ble_eq_true rfl) dX6_best_27 (fun H locs hP hS => ?_)
    exact hQ ▸ rtI (v := q27.1)  hx hb hr hlk hP hS (by rw [← (Option.some.inj hres)]) (by rw [← (Option.some.inj hres)]) dX6_best_30
  have b49 : ∀ (fnd : Nat → Int32) (wor : Nat → Int32) (sng : Nat → Int32), fX6_best_b49 fnd wor sng = some res → ∀ (H : Heap) (locs : List Loc) (ls : Array Slot), va_P D vwCl (wM a cI cJ cS sv kep bef isk fnd man nex wor sng hea lat tap tpd her flt vlu bit lon cel btw) H → va_S (adA a 16 s.heap.size) s.heap H locs → lv_has ls 4 [(0, .ref (a 0))] → W p l e rX6_best s m args below meth c H locs 0 0 Q (F0 m 49 ls []) := by
    intro fnd wor sng hres H locs ls hP hS hl
    unfold fX6_best_b49 at hres
    refine lv_aload_n hx hb dX6_best_49 rfl (lv_at hl 0 rfl) ?_
    refine lv_iconst (v := 3) hx hb dX6_best_50 (by decide) ?_
    obtain ⟨q51, e51, hres⟩ := obd hres
    refine cvI (q0 := 0) (ci := 6) hx hb hml hown hts hEo hE hK hP hS (kX6_no l D a cI cJ cS hd hEo sv kep bef isk fnd man nex wor sng hea lat tap tpd her flt vlu bit lon cel btw (3 : Int32) q51 e51) gX6_best_X6_no rfl hdX6_no rfl rfl rfl ⟨rfl, rfl⟩ ⟨Nat.le_of_ble_eq_true rfl, Nat.le_of_ble_eq_true rfl⟩ ⟨Nat.zero_le _, Nat.zero_le _⟩ rfl hl.1 rfl (Nat.le_of_ble_eq_true rfl) dX6_best_51 (fun H locs hP hS => ?_)
    exact hQ ▸ rtI (v := q51.1)  hx hb hr hlk hP hS (by rw [← (Option.some.inj hres)]) (by rw [← (Option.some.inj hres)]) dX6_best_54
  unfold fX6_best at hres
  refine lv_aload_n hx hb dX6_best_0 rfl (lv_at hl 0 rfl) ?_
  refine lv_iload_n hx hb dX6_best_1 rfl (lv_at hl 1 rfl) ?_
  obtain ⟨q2, e2, hres⟩ := obd hres
  refine cvI (q0 := 0) (ci := 6) hx hb hml hown hts hEo hE hK hP hS (kX6_isTale l D a cI cJ cS hd hEo sv kep bef isk fnd man nex wor sng hea lat tap tpd her flt vlu bit lon cel btw x1 q2 e2) gX6_best_X6_isTale rfl hdX6_isTale rfl rfl rfl ⟨rfl, rfl⟩ ⟨Nat.le_of_ble_eq_true rfl, Nat.le_of_ble_eq_true rfl⟩ ⟨Nat.zero_le _, Nat.zero_le _⟩ rfl hl.1 rfl (Nat.le_of_ble_eq_true rfl) dX6_best_2 (fun H locs hP hS => ?_)
  refine lv_if_eq (tgt := 25) hx hb dX6_best_5 (by decide) (fun c5 => ?_) (fun c5 => ?_)
  · have hres := (itl hres).1 c5
    exact b25 fnd wor sng hres _ _ _ hP hS (lv_sub hl [0] rfl)
  · have hres := (itl hres).2 c5
    refine lv_iload_n hx hb dX6_best_8 rfl (lv_at hl 2 rfl) ?_
    refine csI hx hb hml hown hts hEo hE hK hP hS (kX6_isWords l D a cI cJ cS hd hEo sv kep bef isk fnd man nex wor sng hea lat tap tpd her flt vlu bit lon cel btw x2) gX6_best_X6_isWords rfl hdX6_isWords ⟨rfl, rfl⟩ ⟨Nat.le_of_ble_eq_true rfl, Nat.le_of_ble_eq_true rfl⟩ ⟨Nat.zero_le _, Nat.zero_le _⟩ rfl hl.1 rfl (Nat.le_of_ble_eq_true rfl) dX6_best_9 (fun H locs hP hS => ?_)
    refine lv_if_eq (tgt := 25) hx hb dX6_best_12 (by decide) (fun c12 => ?_) (fun c12 => ?_)
    · have hres := (itl hres).1 c12
      exact b25 fnd wor sng hres _ _ _ hP hS (lv_sub hl [0] rfl)
    · have hres := (itl hres).2 c12
      refine lv_iload_n hx hb dX6_best_15 rfl (lv_at hl 3 rfl) ?_
      refine lv_iconst (v := (-1)) hx hb dX6_best_16 (by decide) ?_
      refine lv_bipush (v := 9) hx hb dX6_best_17 (by decide) ?_
      refine csI hx hb hml hown hts hEo hE hK hP hS (kX6_in l D a cI cJ cS hd hEo sv kep bef isk fnd man nex wor sng hea lat tap tpd her flt vlu bit lon cel btw x3 (-1 : Int32) (9 : Int32)) gX6_best_X6_in rfl hdX6_in ⟨rfl, rfl⟩ ⟨Nat.le_of_ble_eq_true rfl, Nat.le_of_ble_eq_true rfl⟩ ⟨Nat.zero_le _, Nat.zero_le _⟩ rfl hl.1 rfl (Nat.le_of_ble_eq_true rfl) dX6_best_19 (fun H locs hP hS => ?_)
      refine lv_if_ne (tgt := 31) hx hb dX6_best_22 (by decide) (fun c22 => ?_) (fun c22 => ?_)
      · have hres := (itl hres).2 c22
        refine lv_aload_n hx hb dX6_best_31 rfl (lv_at hl 0 rfl) ?_
        refine lv_iload_n hx hb dX6_best_32 rfl (lv_at hl 1 rfl) ?_
        refine lv_iload_n hx hb dX6_best_33 rfl (lv_at hl 2 rfl) ?_
        obtain ⟨q34, e34, hres⟩ := obd hres
        refine cvI (q0 := 0) (ci := 6) hx hb hml hown hts hEo hE hK hP hS (kX6_says l D a cI cJ cS hd hEo sv kep bef isk fnd man nex wor sng hea lat tap tpd her flt vlu bit lon cel btw x1 x2 q34 e34) gX6_best_X6_says rfl hdX6_says rfl rfl rfl ⟨rfl, rfl⟩ ⟨Nat.le_of_ble_eq_true rfl, Nat.le_of_ble_eq_true rfl⟩ ⟨Nat.zero_le _, Nat.zero_le _⟩ rfl hl.1 rfl (Nat.le_of_ble_eq_true rfl) dX6_best_34 (fun H locs hP hS => ?_)
        refine lv_if_eq (tgt := 49) hx hb dX6_best_37 (by decide) (fun c37 => ?_) (fun c37 => ?_)
        · have hres := (itl hres).1 c37
          exact b49 fnd q34.2.1 q34.2.2 hres _ _ _ hP hS (lv_sub hl [0] rfl)
        · have hres := (itl hres).2 c37
          refine lv_iload_n hx hb dX6_best_40 rfl (lv_at hl 3 rfl) ?_
          refine lv_aload_n hx hb dX6_best_41 rfl (lv_at hl 0 rfl) ?_
          refine lv_iload_n hx hb dX6_best_42 rfl (lv_at hl 1 rfl) ?_
          obtain ⟨q43, e43, hres⟩ := obd hres
          refine cvI (q0 := 0) (ci := 6) hx hb hml hown hts hEo hE hK hP hS (kX6_long_ l D a cI cJ cS hd hEo sv kep bef isk fnd man nex q34.2.1 q34.2.2 hea lat tap tpd her flt vlu bit lon cel btw x1 q43 e43) gX6_best_X6_long_ rfl hdX6_long_ rfl rfl rfl ⟨rfl, rfl⟩ ⟨Nat.le_of_ble_eq_true rfl, Nat.le_of_ble_eq_true rfl⟩ ⟨Nat.zero_le _, Nat.zero_le _⟩ rfl hl.1 rfl (Nat.le_of_ble_eq_true rfl) dX6_best_43 (fun H locs hP hS => ?_)
          refine lv_icmp_lt (tgt := 55) hx hb dX6_best_46 (by decide) (fun c46 => ?_) (fun c46 => ?_)
          · have hres := (itl hres).1 c46
            refine lv_iload_n hx hb dX6_best_55 rfl (lv_at hl 3 rfl) ?_
            refine lv_iconst (v := (-1)) hx hb dX6_best_56 (by decide) ?_
            refine lv_icmp_ne (tgt := 69) hx hb dX6_best_57 (by decide) (fun c57 => ?_) (fun c57 => ?_)
            · have hres := (itl hres).2 c57
              refine lv_aload_n hx hb dX6_best_69 rfl (lv_at hl 0 rfl) ?_
              refine gM_this6_saying hx hb hown hw6 hK hP u1 dX6_best_70 ?_
              refine lv_iload_n hx hb dX6_best_73 rfl (lv_at hl 3 rfl) ?_
              obtain ⟨i74, hres⟩ := gdi hres
              refine lM_sng hx hb hK hP i74 dX6_best_74 ?_
              exact hQ ▸ rtI (v := q34.2.2 x3.toNatClampNeg)  hx hb hr hlk hP hS (by rw [← (Option.some.inj hres)]) (by rw [← (Option.some.inj hres)]) dX6_best_75
            · have hres := (itl hres).1 c57
              refine lv_aload_n hx hb dX6_best_60 rfl (lv_at hl 0 rfl) ?_
              refine lv_iconst (v := 0) hx hb dX6_best_61 (by decide) ?_
              refine lv_iload_n hx hb dX6_best_62 rfl (lv_at hl 2 rfl) ?_
              obtain ⟨q63, e63, hres⟩ := obd hres
              refine cvI (q0 := 0) (ci := 6) hx hb hml hown hts hEo hE hK hP hS (kX6_worthAt l D a cI cJ cS hd hEo sv kep bef isk fnd man nex q34.2.1 q34.2.2 hea lat tap tpd her flt vlu bit lon cel btw (0 : Int32) x2 q63 e63) gX6_best_X6_worthAt rfl hdX6_worthAt rfl rfl rfl ⟨rfl, rfl⟩ ⟨Nat.le_of_ble_eq_true rfl, Nat.le_of_ble_eq_true rfl⟩ ⟨Nat.zero_le _, Nat.zero_le _⟩ rfl hl.1 rfl (Nat.le_of_ble_eq_true rfl) dX6_best_63 (fun H locs hP hS => ?_)
              refine lv_goto (tgt := 75) hx hb dX6_best_66 (by decide) ?_
              exact hQ ▸ rtI (v := q63)  hx hb hr hlk hP hS (by rw [← (Option.some.inj hres)]) (by rw [← (Option.some.inj hres)]) dX6_best_75
          · have hres := (itl hres).2 c46
            exact b49 fnd q34.2.1 q34.2.2 hres _ _ _ hP hS (lv_sub hl [0] rfl)
      · have hres := (itl hres).1 c22
        exact b25 fnd wor sng hres _ _ _ hP hS (lv_sub hl [0] rfl)
def fX6_richest_b49 (K23 : Int32 → Int32 → Option (Int32 × (Nat → Int32) × (Nat → Int32))) (x3 : Int32) (z0 : Int32) : Option (Int32 × (Nat → Int32) × (Nat → Int32)) :=
  K23 z0 (x3 + 1)
def fX6_richest_b56 (fnd : Nat → Int32) (wor : Nat → Int32) (x2 : Int32) : Option (Int32 × (Nat → Int32) × (Nat → Int32)) :=
 (fX6_worthAt wor (0 : Int32) x2).bind fun q59 => if q59 = (-1000000 : Int32) then (fX6_no fnd (3 : Int32)).bind fun q69 => some (q69.1, q69.2, wor) else some (x2, fnd, wor)
def fX6_richest_l23 (fnd : Nat → Int32) (wor : Nat → Int32) (K23 : Int32 → Int32 → Option (Int32 × (Nat → Int32) × (Nat → Int32))) (x2 : Int32) (x3 : Int32) : Option (Int32 × (Nat → Int32) × (Nat → Int32)) :=
  if (120 : Int32) < x3 then fX6_richest_b56 fnd wor x2 else (fX6_worthAt wor (0 : Int32) x3).bind fun q32 => (fX6_worthAt wor (0 : Int32) x2).bind fun q38 => if q32 ≤ q38 then fX6_richest_b49 K23 x3 x2 else fX6_richest_b49 K23 x3 x3
def fX6_richest (sv : Nat → Int32) (fnd : Nat → Int32) (wor : Nat → Int32) (x1 : Int32) : Option (Int32 × (Nat → Int32) × (Nat → Int32)) :=
 (fX6_isTale sv x1).bind fun q2 => if (bI q2) = 0 then (fX6_no fnd (0 : Int32)).bind fun q10 => some (q10.1, q10.2, wor) else (fX6_weighs sv wor x1).bind fun q16 => fix2 (fX6_richest_l23 fnd q16) 2000 (0 : Int32) (1 : Int32)
abbrev rX6_richest : Room := { frames := 3, cells := 0, slots := 0, locals := 75 }
set_option maxHeartbeats 4000000 in
set_option maxRecDepth 100000 in
theorem kX6_richest (l : Launch) (D : va_G) (a : Nat → Nat) (cI cJ cS : ClassId) (hd : aok a 16) {Env : (Nat → Prop) → State → Heap → Prop} (hEo : envOK Env) (sv kep bef : Nat → Int32) (isk : Int32) (fnd : Nat → Int32) (man nex : Nat → Int64) (wor sng hea lat tap : Nat → Int32) (tpd her flt vlu : Int32) (bit lon : Nat → Int32) (cel btw : Nat → Int64) (x1 : Int32) (res : Int32 × (Nat → Int32) × (Nat → Int32)) (hres : fX6_richest sv fnd wor x1 = some res) : CtI l D (tyL cI cJ cS) 16 a Env yX6_richest wsX6_richest rX6_richest [.ref (a 0), .int x1] (wM a cI cJ cS sv kep bef isk fnd man nex wor sng hea lat tap tpd her flt vlu bit lon cel btw) (wM a cI cJ cS sv kep bef isk res.2.1 man nex res.2.2 sng hea lat tap tpd her flt vlu bit lon cel btw) res.1 := by
  refine CtI_mk (cc := cX6_richest) (maxL := 4) (ret := (some .int)) (by decide) rfl (Nat.le_of_ble_eq_true rfl) ?_
  intro p e s m args below meth c ls hx hb hr hlk hml hown hts hP hK hE hl
  have hS : va_S (adA a 16 s.heap.size) s.heap s.heap [] := va_S.rf
  have hl : lv_has ls 4 [(0, .ref (a 0)), (1, .int x1)] := hl
  have hown : s.vm.findClass RX6 = some m.cls := hown
  have u1 : (Cond.constant RX6 124 (-1000000)).before args s = true := hts _ (List.mem_of_getElem? (i := 1) (by decide +kernel))
  obtain ⟨Q, hQ⟩ : ∃ Q, Q = mqI below D 16 a args s (wM a cI cJ cS sv kep bef isk res.2.1 man nex res.2.2 sng hea lat tap tpd her flt vlu bit lon cel btw) res.1 := ⟨_, rfl⟩
  rw [← hQ]
  have b56 : ∀ (fnd : Nat → Int32) (wor : Nat → Int32) (x2 : Int32), fX6_richest_b56 fnd wor x2 = some res → ∀ (H : Heap) (locs : List Loc) (ls : Array Slot), va_P D vwCl (wM a cI cJ cS sv kep bef isk fnd man nex wor sng hea lat tap tpd her flt vlu bit lon cel btw) H → va_S (adA a 16 s.heap.size) s.heap H locs → lv_has ls 4 [(0, .ref (a 0)), (2, .int x2)] → W p l e rX6_richest s m args below meth c H locs 0 0 Q (F0 m 56 ls []) := by
    intro fnd wor x2 hres H locs ls hP hS hl
    unfold fX6_richest_b56 at hres
    refine lv_aload_n hx hb dX6_richest_56 rfl (lv_at hl 0 rfl) ?_
    refine lv_iconst (v := 0) hx hb dX6_richest_57 (by decide) ?_
    refine lv_iload_n hx hb dX6_richest_58 rfl (lv_at hl 1 rfl) ?_
    obtain ⟨q59, e59, hres⟩ := obd hres
    refine cvI (q0 := 0) (ci := 6) hx hb hml hown hts hEo hE hK hP hS (kX6_worthAt l D a cI cJ cS hd hEo sv kep bef isk fnd man nex wor sng hea lat tap tpd her flt vlu bit lon cel btw (0 : Int32) x2 q59 e59) gX6_richest_X6_worthAt rfl hdX6_worthAt rfl rfl rfl ⟨rfl, rfl⟩ ⟨Nat.le_of_ble_eq_true rfl, Nat.le_of_ble_eq_true rfl⟩ ⟨Nat.zero_le _, Nat.zero_le _⟩ rfl hl.1 rfl (Nat.le_of_ble_eq_true rfl) dX6_richest_59 (fun H locs hP hS => ?_)
    refine lv_ldc hx hb hown u1 dX6_richest_62 ?_
    refine lv_icmp_ne (tgt := 75) hx hb dX6_richest_64 (by decide) (fun c64 => ?_) (fun c64 => ?_)
    · have hres := (itl hres).2 c64
      refine lv_iload_n hx hb dX6_richest_75 rfl (lv_at hl 1 rfl) ?_
      exact hQ ▸ rtI (v := x2)  hx hb hr hlk hP hS (by rw [← (Option.some.inj hres)]) (by rw [← (Option.some.inj hres)]) dX6_richest_76
    · have hres := (itl hres).1 c64
      refine lv_aload_n hx hb dX6_richest_67 rfl (lv_at hl 0 rfl) ?_
      refine lv_iconst (v := 3) hx hb dX6_richest_68 (by decide) ?_
      obtain ⟨q69, e69, hres⟩ := obd hres
      refine cvI (q0 := 0) (ci := 6) hx hb hml hown hts hEo hE hK hP hS (kX6_no l D a cI cJ cS hd hEo sv kep bef isk fnd man nex wor sng hea lat tap tpd her flt vlu bit lon cel btw (3 : Int32) q69 e69) gX6_richest_X6_no rfl hdX6_no rfl rfl rfl ⟨rfl, rfl⟩ ⟨Nat.le_of_ble_eq_true rfl, Nat.le_of_ble_eq_true rfl⟩ ⟨Nat.zero_le _, Nat.zero_le _⟩ rfl hl.1 rfl (Nat.le_of_ble_eq_true rfl) dX6_richest_69 (fun H locs hP hS => ?_)
      refine lv_goto (tgt := 76) hx hb dX6_richest_72 (by decide) ?_
      exact hQ ▸ rtI (v := q69.1)  hx hb hr hlk hP hS (by rw [← (Option.some.inj hres)]) (by rw [← (Option.some.inj hres)]) dX6_richest_76
  have b23 : ∀ (fnd : Nat → Int32) (wor : Nat → Int32) (n : Nat) (x2 : Int32) (x3 : Int32), fix2 (fX6_richest_l23 fnd wor) n x2 x3 = some res → ∀ (H : Heap) (locs : List Loc) (ls : Array Slot), va_P D vwCl (wM a cI cJ cS sv kep bef isk fnd man nex wor sng hea lat tap tpd her flt vlu bit lon cel btw) H → va_S (adA a 16 s.heap.size) s.heap H locs → lv_has ls 4 [(0, .ref (a 0)), (2, .int x2), (3, .int x3)] → W p l e rX6_richest s m args below meth c H locs 0 0 Q (F0 m 23 ls []) := by
    intro fnd wor
    refine fix2_r ?_
    intro K23 hK23 x2 x3 hres H locs ls hP hS hl
    have b49 : ∀ (x3 : Int32) (z0 : Int32), fX6_richest_b49 K23 x3 z0 = some res → ∀ (H : Heap) (locs : List Loc) (ls : Array Slot), va_P D vwCl (wM a cI cJ cS sv kep bef isk fnd man nex wor sng hea lat tap tpd her flt vlu bit lon cel btw) H → va_S (adA a 16 s.heap.size) s.heap H locs → lv_has ls 4 [(0, .ref (a 0)), (3, .int x3)] → W p l e rX6_richest s m args below meth c H locs 0 0 Q (F0 m 49 ls [.int z0]) := by
      intro x3 z0 hres H locs ls hP hS hl
      unfold fX6_richest_b49 at hres
      refine lv_istore_n (lv' := [(2, .int z0), (0, .ref (a 0)), (3, .int x3)]) hx hb dX6_richest_49 rfl hl (by decide) rfl (fun ls hl => ?_)
      refine lv_iinc (v := x3 + 1) (lv' := [(3, .int (x3 + 1)), (2, .int z0), (0, .ref (a 0))]) hx hb dX6_richest_50 hl (k := 2) rfl (congrArg (fun z => x3 + z) (by decide)) (by decide) rfl (fun ls hl => ?_)
      refine lv_goto (tgt := 23) hx hb dX6_richest_53 (by decide) ?_
      exact hK23 z0 (x3 + 1) hres _ _ _ hP hS (lv_sub hl [2, 1, 0] rfl)
    unfold fX6_richest_l23 at hres
    refine lv_iload_n hx hb dX6_richest_23 rfl (lv_at hl 2 rfl) ?_
    refine lv_bipush (v := 120) hx hb dX6_richest_24 (by decide) ?_
    refine lv_icmp_gt (tgt := 56) hx hb dX6_richest_26 (by decide) (fun c26 => ?_) (fun c26 => ?_)
    · have hres := (itl hres).1 c26
      exact b56 fnd wor x2 hres _ _ _ hP hS (lv_sub hl [0, 1] rfl)
    · have hres := (itl hres).2 c26
      refine lv_aload_n hx hb dX6_richest_29 rfl (lv_at hl 0 rfl) ?_
      refine lv_iconst (v := 0) hx hb dX6_richest_30 (by decide) ?_
      refine lv_iload_n hx hb dX6_richest_31 rfl (lv_at hl 2 rfl) ?_
      obtain ⟨q32, e32, hres⟩ := obd hres
      refine cvI (q0 := 0) (ci := 6) hx hb hml hown hts hEo hE hK hP hS (kX6_worthAt l D a cI cJ cS hd hEo sv kep bef isk fnd man nex wor sng hea lat tap tpd her flt vlu bit lon cel btw (0 : Int32) x3 q32 e32) gX6_richest_X6_worthAt rfl hdX6_worthAt rfl rfl rfl ⟨rfl, rfl⟩ ⟨Nat.le_of_ble_eq_true rfl, Nat.le_of_ble_eq_true rfl⟩ ⟨Nat.zero_le _, Nat.zero_le _⟩ rfl hl.1 rfl (Nat.le_of_ble_eq_true rfl) dX6_richest_32 (fun H locs hP hS => ?_)
      refine lv_aload_n hx hb dX6_richest_35 rfl (lv_at hl 0 rfl) ?_
      refine lv_iconst (v := 0) hx hb dX6_richest_36 (by decide) ?_
      refine lv_iload_n hx hb dX6_richest_37 rfl (lv_at hl 1 rfl) ?_
      obtain ⟨q38, e38, hres⟩ := obd hres
      refine cvI (q0 := 0) (ci := 6) hx hb hml hown hts hEo hE hK hP hS (kX6_worthAt l D a cI cJ cS hd hEo sv kep bef isk fnd man nex wor sng hea lat tap tpd her flt vlu bit lon cel btw (0 : Int32) x2 q38 e38) gX6_richest_X6_worthAt rfl hdX6_worthAt rfl rfl rfl ⟨rfl, rfl⟩ ⟨Nat.le_of_ble_eq_true rfl, Nat.le_of_ble_eq_true rfl⟩ ⟨Nat.zero_le _, Nat.zero_le _⟩ rfl hl.1 rfl (Nat.le_of_ble_eq_true rfl) dX6_richest_38 (fun H locs hP hS => ?_)
      refine lv_icmp_le (tgt := 48) hx hb dX6_richest_41 (by decide) (fun c41 => ?_) (fun c41 => ?_)
      · have hres := (itl hres).1 c41
        refine lv_iload_n hx hb dX6_richest_48 rfl (lv_at hl 1 rfl) ?_
        exact b49 x3 x2 hres _ _ _ hP hS (lv_sub hl [0, 2] rfl)
      · have hres := (itl hres).2 c41
        refine lv_iload_n hx hb dX6_richest_44 rfl (lv_at hl 2 rfl) ?_
        refine lv_goto (tgt := 49) hx hb dX6_richest_45 (by decide) ?_
        exact b49 x3 x3 hres _ _ _ hP hS (lv_sub hl [0, 2] rfl)
  unfold fX6_richest at hres
  refine lv_aload_n hx hb dX6_richest_0 rfl (lv_at hl 0 rfl) ?_
  refine lv_iload_n hx hb dX6_richest_1 rfl (lv_at hl 1 rfl) ?_
  obtain ⟨q2, e2, hres⟩ := obd hres
  refine cvI (q0 := 0) (ci := 6) hx hb hml hown hts hEo hE hK hP hS (kX6_isTale l D a cI cJ cS hd hEo sv kep bef isk fnd man nex wor sng hea lat tap tpd her flt vlu bit lon cel btw x1 q2 e2) gX6_richest_X6_isTale rfl hdX6_isTale rfl rfl rfl ⟨rfl, rfl⟩ ⟨Nat.le_of_ble_eq_true rfl, Nat.le_of_ble_eq_true rfl⟩ ⟨Nat.zero_le _, Nat.zero_le _⟩ rfl hl.1 rfl (Nat.le_of_ble_eq_true rfl) dX6_richest_2 (fun H locs hP hS => ?_)
  refine lv_if_ne (tgt := 14) hx hb dX6_richest_5 (by decide) (fun c5 => ?_) (fun c5 => ?_)
  · have hres := (itl hres).2 c5
    refine lv_aload_n hx hb dX6_richest_14 rfl (lv_at hl 0 rfl) ?_
    refine lv_iload_n hx hb dX6_richest_15 rfl (lv_at hl 1 rfl) ?_
    obtain ⟨q16, e16, hres⟩ := obd hres
    refine cvV (q0 := 0) (ci := 6) hx hb hml hown hts hEo hE hK hP hS (kX6_weighs l D a cI cJ cS hd hEo sv kep bef isk fnd man nex wor sng hea lat tap tpd her flt vlu bit lon cel btw x1 q16 e16) gX6_richest_X6_weighs rfl hdX6_weighs rfl rfl rfl ⟨rfl, rfl⟩ ⟨Nat.le_of_ble_eq_true rfl, Nat.le_of_ble_eq_true rfl⟩ ⟨Nat.zero_le _, Nat.zero_le _⟩ rfl hl.1 rfl (Nat.le_of_ble_eq_true rfl) dX6_richest_16 (fun H locs hP hS => ?_)
    refine lv_iconst (v := 0) hx hb dX6_richest_19 (by decide) ?_
    refine lv_istore_n (lv' := [(2, .int (0 : Int32)), (0, .ref (a 0)), (1, .int x1)]) hx hb dX6_richest_20 rfl hl (by decide) rfl (fun ls hl => ?_)
    refine lv_iconst (v := 1) hx hb dX6_richest_21 (by decide) ?_
    refine lv_istore_n (lv' := [(3, .int (1 : Int32)), (2, .int (0 : Int32)), (0, .ref (a 0)), (1, .int x1)]) hx hb dX6_richest_22 rfl hl (by decide) rfl (fun ls hl => ?_)
    exact b23 fnd q16 2000 (0 : Int32) (1 : Int32) hres _ _ _ hP hS (lv_sub hl [2, 1, 0] rfl)
  · have hres := (itl hres).1 c5
    refine lv_aload_n hx hb dX6_richest_8 rfl (lv_at hl 0 rfl) ?_
    refine lv_iconst (v := 0) hx hb dX6_richest_9 (by decide) ?_
    obtain ⟨q10, e10, hres⟩ := obd hres
    refine cvI (q0 := 0) (ci := 6) hx hb hml hown hts hEo hE hK hP hS (kX6_no l D a cI cJ cS hd hEo sv kep bef isk fnd man nex wor sng hea lat tap tpd her flt vlu bit lon cel btw (0 : Int32) q10 e10) gX6_richest_X6_no rfl hdX6_no rfl rfl rfl ⟨rfl, rfl⟩ ⟨Nat.le_of_ble_eq_true rfl, Nat.le_of_ble_eq_true rfl⟩ ⟨Nat.zero_le _, Nat.zero_le _⟩ rfl hl.1 rfl (Nat.le_of_ble_eq_true rfl) dX6_richest_10 (fun H locs hP hS => ?_)
    exact hQ ▸ rtI (v := q10.1)  hx hb hr hlk hP hS (by rw [← (Option.some.inj hres)]) (by rw [← (Option.some.inj hres)]) dX6_richest_13
def fX6_fills_b15 (fnd : Nat → Int32) (man : Nat → Int64) (nex : Nat → Int64) : Option (Int32 × (Nat → Int32) × (Nat → Int64) × (Nat → Int64)) :=
 (fX6_no fnd (0 : Int32)).bind fun q17 => some (q17.1, q17.2, man, nex)
def fX6_fills_b118 (K79 : Int32 → Option (Int32 × (Nat → Int32) × (Nat → Int64) × (Nat → Int64))) (x4 : Int32) : Option (Int32 × (Nat → Int32) × (Nat → Int64) × (Nat → Int64)) :=
  K79 (x4 + 1)
def fX6_fills_b124 (K66 : Int32 → Option (Int32 × (Nat → Int32) × (Nat → Int64) × (Nat → Int64))) (x3 : Int32) : Option (Int32 × (Nat → Int32) × (Nat → Int64) × (Nat → Int64)) :=
  K66 (x3 + 1)
def fX6_fills_l79 (K66 : Int32 → Option (Int32 × (Nat → Int32) × (Nat → Int64) × (Nat → Int64))) (sv : Nat → Int32) (fnd : Nat → Int32) (man : Nat → Int64) (nex : Nat → Int64) (x2 : Int32) (x3 : Int32) (K79 : Int32 → Option (Int32 × (Nat → Int32) × (Nat → Int64) × (Nat → Int64))) (x4 : Int32) : Option (Int32 × (Nat → Int32) × (Nat → Int64) × (Nat → Int64)) :=
  if x2 < x4 then fX6_fills_b124 K66 x3 else if (25 : Int32) ≤ x4 then fX6_fills_b124 K66 x3 else (fX6_isLength sv x3 x4).bind fun q96 => if (bI q96) = 0 then fX6_fills_b118 K79 x4 else gd (ib (x2 - x4) 121) (if (lg_cmp (man (x2 - x4).toNatClampNeg) (0 : Int64)) ≤ 0 then fX6_fills_b118 K79 x4 else some (x3, fnd, man, nex))
def fX6_fills_b130 (fnd : Nat → Int32) (man : Nat → Int64) (nex : Nat → Int64) : Option (Int32 × (Nat → Int32) × (Nat → Int64) × (Nat → Int64)) :=
 (fX6_no fnd (3 : Int32)).bind fun q132 => some (q132.1, q132.2, man, nex)
def fX6_fills_l66 (sv : Nat → Int32) (fnd : Nat → Int32) (man : Nat → Int64) (nex : Nat → Int64) (x2 : Int32) (K66 : Int32 → Option (Int32 × (Nat → Int32) × (Nat → Int64) × (Nat → Int64))) (x3 : Int32) : Option (Int32 × (Nat → Int32) × (Nat → Int64) × (Nat → Int64)) :=
  if (sv (1 : Int32).toNatClampNeg) ≤ x3 then fX6_fills_b130 fnd man nex else fix1 (fX6_fills_l79 K66 sv fnd man nex x2 x3) 2000 (0 : Int32)
def fX6_fills (sv : Nat → Int32) (fnd : Nat → Int32) (man : Nat → Int64) (nex : Nat → Int64) (x1 : Int32) (x2 : Int32) : Option (Int32 × (Nat → Int32) × (Nat → Int64) × (Nat → Int64)) :=
 (fX6_isTale sv x1).bind fun q2 => if (bI q2) = 0 then fX6_fills_b15 fnd man nex else if (bI (fX6_isWords x2)) = 0 then fX6_fills_b15 fnd man nex else (fX6_long_ sv x1).bind fun q23 => if q23 = (10 : Int32) then (fX6_no fnd (1 : Int32)).bind fun q33 => some (q33.1, q33.2, man, nex) else (fX6_long_ sv x1).bind fun q41 => (fX6_counts sv man nex x1 q41).bind fun q44 => gd (ib x2 121) (if (lg_cmp (q44.1 x2.toNatClampNeg) (0 : Int64)) ≤ 0 then fix1 (fX6_fills_l66 sv fnd q44.1 q44.2 x2) 2000 (0 : Int32) else (fX6_no fnd (4 : Int32)).bind fun q60 => some (q60.1, q60.2, q44.1, q44.2))
abbrev rX6_fills : Room := { frames := 3, cells := 0, slots := 0, locals := 71 }
set_option maxHeartbeats 4000000 in
set_option maxRecDepth 100000 in
theorem kX6_fills (l : Launch) (D : va_G) (a : Nat → Nat) (cI cJ cS : ClassId) (hd : aok a 16) {Env : (Nat → Prop) → State → Heap → Prop} (hEo : envOK Env) (sv kep bef : Nat → Int32) (isk : Int32) (fnd : Nat → Int32) (man nex : Nat → Int64) (wor sng hea lat tap : Nat → Int32) (tpd her flt vlu : Int32) (bit lon : Nat → Int32) (cel btw : Nat → Int64) (x1 : Int32) (x2 : Int32) (res : Int32 × (Nat → Int32) × (Nat → Int64) × (Nat → Int64)) (hres : fX6_fills sv fnd man nex x1 x2 = some res) : CtI l D (tyL cI cJ cS) 16 a Env yX6_fills wsX6_fills rX6_fills [.ref (a 0), .int x1, .int x2] (wM a cI cJ cS sv kep bef isk fnd man nex wor sng hea lat tap tpd her flt vlu bit lon cel btw) (wM a cI cJ cS sv kep bef isk res.2.1 res.2.2.1 res.2.2.2 wor sng hea lat tap tpd her flt vlu bit lon cel btw) res.1 := by
  refine CtI_mk (cc := cX6_fills) (maxL := 5) (ret := (some .int)) (by decide) rfl (Nat.le_of_ble_eq_true rfl) ?_
  intro p e s m args below meth c ls hx hb hr hlk hml hown hts hP hK hE hl
  have hS : va_S (adA a 16 s.heap.size) s.heap s.heap [] := va_S.rf
  have hl : lv_has ls 5 [(0, .ref (a 0)), (1, .int x1), (2, .int x2)] := hl
  have hown : s.vm.findClass RX6 = some m.cls := hown
  have hw6 : ∀ w ∈ wsX60, w.before args s = true := fun w h => hts w (List.mem_cons_of_mem _ (List.mem_append_right _ h))
  have u1 : (Cond.fieldLink RX6 22 "YearWordsModel" "many" "[J").before args s = true := hts _ (List.mem_of_getElem? (i := 1) (by decide +kernel))
  have u2 : (Cond.fieldLink RX6 9 "YearWordsModel" "s" "[I").before args s = true := hts _ (List.mem_of_getElem? (i := 2) (by decide +kernel))
  obtain ⟨Q, hQ⟩ : ∃ Q, Q = mqI below D 16 a args s (wM a cI cJ cS sv kep bef isk res.2.1 res.2.2.1 res.2.2.2 wor sng hea lat tap tpd her flt vlu bit lon cel btw) res.1 := ⟨_, rfl⟩
  rw [← hQ]
  have b15 : ∀ (fnd : Nat → Int32) (man : Nat → Int64) (nex : Nat → Int64), fX6_fills_b15 fnd man nex = some res → ∀ (H : Heap) (locs : List Loc) (ls : Array Slot), va_P D vwCl (wM a cI cJ cS sv kep bef isk fnd man nex wor sng hea lat tap tpd her flt vlu bit lon cel btw) H → va_S (adA a 16 s.heap.size) s.heap H locs → lv_has ls 5 [(0, .ref (a 0))] → W p l e rX6_fills s m args below meth c H locs 0 0 Q (F0 m 15 ls []) := by
    intro fnd man nex hres H locs ls hP hS hl
    unfold fX6_fills_b15 at hres
    refine lv_aload_n hx hb dX6_fills_15 rfl (lv_at hl 0 rfl) ?_
    refine lv_iconst (v := 0) hx hb dX6_fills_16 (by decide) ?_
    obtain ⟨q17, e17, hres⟩ := obd hres
    refine cvI (q0 := 0) (ci := 6) hx hb hml hown hts hEo hE hK hP hS (kX6_no l D a cI cJ cS hd hEo sv kep bef isk fnd man nex wor sng hea lat tap tpd her flt vlu bit lon cel btw (0 : Int32) q17 e17) gX6_fills_X6_no rfl hdX6_no rfl rfl rfl ⟨rfl, rfl⟩ ⟨Nat.le_of_ble_eq_true rfl, Nat.le_of_ble_eq_true rfl⟩ ⟨Nat.zero_le _, Nat.zero_le _⟩ rfl hl.1 rfl (Nat.le_of_ble_eq_true rfl) dX6_fills_17 (fun H locs hP hS => ?_)
    exact hQ ▸ rtI (v := q17.1)  hx hb hr hlk hP hS (by rw [← (Option.some.inj hres)]) (by rw [← (Option.some.inj hres)]) dX6_fills_20
  have b130 : ∀ (fnd : Nat → Int32) (man : Nat → Int64) (nex : Nat → Int64), fX6_fills_b130 fnd man nex = some res → ∀ (H : Heap) (locs : List Loc) (ls : Array Slot), va_P D vwCl (wM a cI cJ cS sv kep bef isk fnd man nex wor sng hea lat tap tpd her flt vlu bit lon cel btw) H → va_S (adA a 16 s.heap.size) s.heap H locs → lv_has ls 5 [(0, .ref (a 0))] → W p l e rX6_fills s m args below meth c H locs 0 0 Q (F0 m 130 ls []) := by
    intro fnd man nex hres H locs ls hP hS hl
    unfold fX6_fills_b130 at hres
    refine lv_aload_n hx hb dX6_fills_130 rfl (lv_at hl 0 rfl) ?_
    refine lv_iconst (v := 3) hx hb dX6_fills_131 (by decide) ?_
    obtain ⟨q132, e132, hres⟩ := obd hres
    refine cvI (q0 := 0) (ci := 6) hx hb hml hown hts hEo hE hK hP hS (kX6_no l D a cI cJ cS hd hEo sv kep bef isk fnd man nex wor sng hea lat tap tpd her flt vlu bit lon cel btw (3 : Int32) q132 e132) gX6_fills_X6_no rfl hdX6_no rfl rfl rfl ⟨rfl, rfl⟩ ⟨Nat.le_of_ble_eq_true rfl, Nat.le_of_ble_eq_true rfl⟩ ⟨Nat.zero_le _, Nat.zero_le _⟩ rfl hl.1 rfl (Nat.le_of_ble_eq_true rfl) dX6_fills_132 (fun H locs hP hS => ?_)
    exact hQ ▸ rtI (v := q132.1)  hx hb hr hlk hP hS (by rw [← (Option.some.inj hres)]) (by rw [← (Option.some.inj hres)]) dX6_fills_135
  have b66 : ∀ (fnd : Nat → Int32) (man : Nat → Int64) (nex : Nat → Int64) (n : Nat) (x3 : Int32), fix1 (fX6_fills_l66 sv fnd man nex x2) n x3 = some res → ∀ (H : Heap) (locs : List Loc) (ls : Array Slot), va_P D vwCl (wM a cI cJ cS sv kep bef isk fnd man nex wor sng hea lat tap tpd her flt vlu bit lon cel btw) H → va_S (adA a 16 s.heap.size) s.heap H locs → lv_has ls 5 [(0, .ref (a 0)), (2, .int x2), (3, .int x3)] → W p l e rX6_fills s m args below meth c H locs 0 0 Q (F0 m 66 ls []) := by
    intro fnd man nex
    refine fix1_r ?_
    intro K66 hK66 x3 hres H locs ls hP hS hl
    have b124 : ∀ (x3 : Int32), fX6_fills_b124 K66 x3 = some res → ∀ (H : Heap) (locs : List Loc) (ls : Array Slot), va_P D vwCl (wM a cI cJ cS sv kep bef isk fnd man nex wor sng hea lat tap tpd her flt vlu bit lon cel btw) H → va_S (adA a 16 s.heap.size) s.heap H locs → lv_has ls 5 [(0, .ref (a 0)), (2, .int x2), (3, .int x3)] → W p l e rX6_fills s m args below meth c H locs 0 0 Q (F0 m 124 ls []) := by
      intro x3 hres H locs ls hP hS hl
      unfold fX6_fills_b124 at hres
      refine lv_iinc (v := x3 + 1) (lv' := [(3, .int (x3 + 1)), (0, .ref (a 0)), (2, .int x2)]) hx hb dX6_fills_124 hl (k := 2) rfl (congrArg (fun z => x3 + z) (by decide)) (by decide) rfl (fun ls hl => ?_)
      refine lv_goto (tgt := 66) hx hb dX6_fills_127 (by decide) ?_
      exact hK66 (x3 + 1) hres _ _ _ hP hS (lv_sub hl [1, 2, 0] rfl)
    have b79 : ∀ (x3 : Int32) (n : Nat) (x4 : Int32), fix1 (fX6_fills_l79 K66 sv fnd man nex x2 x3) n x4 = some res → ∀ (H : Heap) (locs : List Loc) (ls : Array Slot), va_P D vwCl (wM a cI cJ cS sv kep bef isk fnd man nex wor sng hea lat tap tpd her flt vlu bit lon cel btw) H → va_S (adA a 16 s.heap.size) s.heap H locs → lv_has ls 5 [(0, .ref (a 0)), (2, .int x2), (3, .int x3), (4, .int x4)] → W p l e rX6_fills s m args below meth c H locs 0 0 Q (F0 m 79 ls []) := by
      intro x3
      refine fix1_r ?_
      intro K79 hK79 x4 hres H locs ls hP hS hl
      have b118 : ∀ (x4 : Int32), fX6_fills_b118 K79 x4 = some res → ∀ (H : Heap) (locs : List Loc) (ls : Array Slot), va_P D vwCl (wM a cI cJ cS sv kep bef isk fnd man nex wor sng hea lat tap tpd her flt vlu bit lon cel btw) H → va_S (adA a 16 s.heap.size) s.heap H locs → lv_has ls 5 [(0, .ref (a 0)), (2, .int x2), (3, .int x3), (4, .int x4)] → W p l e rX6_fills s m args below meth c H locs 0 0 Q (F0 m 118 ls []) := by
        intro x4 hres H locs ls hP hS hl
        unfold fX6_fills_b118 at hres
        refine lv_iinc (v := x4 + 1) (lv' := [(4, .int (x4 + 1)), (0, .ref (a 0)), (2, .int x2), (3, .int x3)]) hx hb dX6_fills_118 hl (k := 3) rfl (congrArg (fun z => x4 + z) (by decide)) (by decide) rfl (fun ls hl => ?_)
        refine lv_goto (tgt := 79) hx hb dX6_fills_121 (by decide) ?_
        exact hK79 (x4 + 1) hres _ _ _ hP hS (lv_sub hl [1, 2, 3, 0] rfl)
      unfold fX6_fills_l79 at hres
      refine lv_iload hx hb dX6_fills_79 (lv_at hl 3 rfl) ?_
      refine lv_iload_n hx hb dX6_fills_81 rfl (lv_at hl 1 rfl) ?_
      refine lv_icmp_gt (tgt := 124) hx hb dX6_fills_82 (by decide) (fun c82 => ?_) (fun c82 => ?_)
      · have hres := (itl hres).1 c82
        exact b124 x3 hres _ _ _ hP hS (lv_sub hl [0, 1, 2] rfl)
      · have hres := (itl hres).2 c82
        refine lv_iload hx hb dX6_fills_85 (lv_at hl 3 rfl) ?_
        refine lv_bipush (v := 25) hx hb dX6_fills_87 (by decide) ?_
        refine lv_icmp_ge (tgt := 124) hx hb dX6_fills_89 (by decide) (fun c89 => ?_) (fun c89 => ?_)
        · have hres := (itl hres).1 c89
          exact b124 x3 hres _ _ _ hP hS (lv_sub hl [0, 1, 2] rfl)
        · have hres := (itl hres).2 c89
          refine lv_aload_n hx hb dX6_fills_92 rfl (lv_at hl 0 rfl) ?_
          refine lv_iload_n hx hb dX6_fills_93 rfl (lv_at hl 2 rfl) ?_
          refine lv_iload hx hb dX6_fills_94 (lv_at hl 3 rfl) ?_
          obtain ⟨q96, e96, hres⟩ := obd hres
          refine cvI (q0 := 0) (ci := 6) hx hb hml hown hts hEo hE hK hP hS (kX6_isLength l D a cI cJ cS hd hEo sv kep bef isk fnd man nex wor sng hea lat tap tpd her flt vlu bit lon cel btw x3 x4 q96 e96) gX6_fills_X6_isLength rfl hdX6_isLength rfl rfl rfl ⟨rfl, rfl⟩ ⟨Nat.le_of_ble_eq_true rfl, Nat.le_of_ble_eq_true rfl⟩ ⟨Nat.zero_le _, Nat.zero_le _⟩ rfl hl.1 rfl (Nat.le_of_ble_eq_true rfl) dX6_fills_96 (fun H locs hP hS => ?_)
          refine lv_if_eq (tgt := 118) hx hb dX6_fills_99 (by decide) (fun c99 => ?_) (fun c99 => ?_)
          · have hres := (itl hres).1 c99
            exact b118 x4 hres _ _ _ hP hS (lv_sub hl [0, 1, 2, 3] rfl)
          · have hres := (itl hres).2 c99
            refine lv_aload_n hx hb dX6_fills_102 rfl (lv_at hl 0 rfl) ?_
            refine gM_this6_many hx hb hown hw6 hK hP u1 dX6_fills_103 ?_
            refine lv_iload_n hx hb dX6_fills_106 rfl (lv_at hl 1 rfl) ?_
            refine lv_iload hx hb dX6_fills_107 (lv_at hl 3 rfl) ?_
            refine lv_isub hx hb dX6_fills_109 ?_
            obtain ⟨i110, hres⟩ := gdi hres
            refine lM_man hx hb hK hP i110 dX6_fills_110 ?_
            refine lv_lconst (v := 0) hx hb dX6_fills_111 (by decide) ?_
            refine W.lcmp hx hb dX6_fills_112 ?_
            refine lv_if_le (tgt := 118) hx hb dX6_fills_113 (by decide) (fun c113 => ?_) (fun c113 => ?_)
            · have hres := (itl hres).1 c113
              exact b118 x4 hres _ _ _ hP hS (lv_sub hl [0, 1, 2, 3] rfl)
            · have hres := (itl hres).2 c113
              refine lv_iload_n hx hb dX6_fills_116 rfl (lv_at hl 2 rfl) ?_
              exact hQ ▸ rtI (v := x3)  hx hb hr hlk hP hS (by rw [← (Option.some.inj hres)]) (by rw [← (Option.some.inj hres)]) dX6_fills_117
    unfold fX6_fills_l66 at hres
    refine lv_iload_n hx hb dX6_fills_66 rfl (lv_at hl 2 rfl) ?_
    refine lv_aload_n hx hb dX6_fills_67 rfl (lv_at hl 0 rfl) ?_
    refine gM_this6_s hx hb hown hw6 hK hP u2 dX6_fills_68 ?_
    refine lv_iconst (v := 1) hx hb dX6_fills_71 (by decide) ?_
    have i72 : vp_in (1 : Int32) 166 := ib_in (by decide)
    refine lM_sv hx hb hK hP i72 dX6_fills_72 ?_
    refine lv_icmp_ge (tgt := 130) hx hb dX6_fills_73 (by decide) (fun c73 => ?_) (fun c73 => ?_)
    · have hres := (itl hres).1 c73
      exact b130 fnd man nex hres _ _ _ hP hS (lv_sub hl [0] rfl)
    · have hres := (itl hres).2 c73
      refine lv_iconst (v := 0) hx hb dX6_fills_76 (by decide) ?_
      refine lv_istore (lv' := [(4, .int (0 : Int32)), (0, .ref (a 0)), (2, .int x2), (3, .int x3)]) hx hb dX6_fills_77 hl (by decide) rfl (fun ls hl => ?_)
      exact b79 x3 2000 (0 : Int32) hres _ _ _ hP hS (lv_sub hl [1, 2, 3, 0] rfl)
  unfold fX6_fills at hres
  refine lv_aload_n hx hb dX6_fills_0 rfl (lv_at hl 0 rfl) ?_
  refine lv_iload_n hx hb dX6_fills_1 rfl (lv_at hl 1 rfl) ?_
  obtain ⟨q2, e2, hres⟩ := obd hres
  refine cvI (q0 := 0) (ci := 6) hx hb hml hown hts hEo hE hK hP hS (kX6_isTale l D a cI cJ cS hd hEo sv kep bef isk fnd man nex wor sng hea lat tap tpd her flt vlu bit lon cel btw x1 q2 e2) gX6_fills_X6_isTale rfl hdX6_isTale rfl rfl rfl ⟨rfl, rfl⟩ ⟨Nat.le_of_ble_eq_true rfl, Nat.le_of_ble_eq_true rfl⟩ ⟨Nat.zero_le _, Nat.zero_le _⟩ rfl hl.1 rfl (Nat.le_of_ble_eq_true rfl) dX6_fills_2 (fun H locs hP hS => ?_)
  refine lv_if_eq (tgt := 15) hx hb dX6_fills_5 (by decide) (fun c5 => ?_) (fun c5 => ?_)
  · have hres := (itl hres).1 c5
    exact b15 fnd man nex hres _ _ _ hP hS (lv_sub hl [0] rfl)
  · have hres := (itl hres).2 c5
    refine lv_iload_n hx hb dX6_fills_8 rfl (lv_at hl 2 rfl) ?_
    refine csI hx hb hml hown hts hEo hE hK hP hS (kX6_isWords l D a cI cJ cS hd hEo sv kep bef isk fnd man nex wor sng hea lat tap tpd her flt vlu bit lon cel btw x2) gX6_fills_X6_isWords rfl hdX6_isWords ⟨rfl, rfl⟩ ⟨Nat.le_of_ble_eq_true rfl, Nat.le_of_ble_eq_true rfl⟩ ⟨Nat.zero_le _, Nat.zero_le _⟩ rfl hl.1 rfl (Nat.le_of_ble_eq_true rfl) dX6_fills_9 (fun H locs hP hS => ?_)
    refine lv_if_ne (tgt := 21) hx hb dX6_fills_12 (by decide) (fun c12 => ?_) (fun c12 => ?_)
    · have hres := (itl hres).2 c12
      refine lv_aload_n hx hb dX6_fills_21 rfl (lv_at hl 0 rfl) ?_
      refine lv_iload_n hx hb dX6_fills_22 rfl (lv_at hl 1 rfl) ?_
      obtain ⟨q23, e23, hres⟩ := obd hres
      refine cvI (q0 := 0) (ci := 6) hx hb hml hown hts hEo hE hK hP hS (kX6_long_ l D a cI cJ cS hd hEo sv kep bef isk fnd man nex wor sng hea lat tap tpd her flt vlu bit lon cel btw x1 q23 e23) gX6_fills_X6_long_ rfl hdX6_long_ rfl rfl rfl ⟨rfl, rfl⟩ ⟨Nat.le_of_ble_eq_true rfl, Nat.le_of_ble_eq_true rfl⟩ ⟨Nat.zero_le _, Nat.zero_le _⟩ rfl hl.1 rfl (Nat.le_of_ble_eq_true rfl) dX6_fills_23 (fun H locs hP hS => ?_)
      refine lv_bipush (v := 10) hx hb dX6_fills_26 (by decide) ?_
      refine lv_icmp_ne (tgt := 37) hx hb dX6_fills_28 (by decide) (fun c28 => ?_) (fun c28 => ?_)
      · have hres := (itl hres).2 c28
        refine lv_aload_n hx hb dX6_fills_37 rfl (lv_at hl 0 rfl) ?_
        refine lv_iload_n hx hb dX6_fills_38 rfl (lv_at hl 1 rfl) ?_
        refine lv_aload_n hx hb dX6_fills_39 rfl (lv_at hl 0 rfl) ?_
        refine lv_iload_n hx hb dX6_fills_40 rfl (lv_at hl 1 rfl) ?_
        obtain ⟨q41, e41, hres⟩ := obd hres
        refine cvI (q0 := 0) (ci := 6) hx hb hml hown hts hEo hE hK hP hS (kX6_long_ l D a cI cJ cS hd hEo sv kep bef isk fnd man nex wor sng hea lat tap tpd her flt vlu bit lon cel btw x1 q41 e41) gX6_fills_X6_long_ rfl hdX6_long_ rfl rfl rfl ⟨rfl, rfl⟩ ⟨Nat.le_of_ble_eq_true rfl, Nat.le_of_ble_eq_true rfl⟩ ⟨Nat.zero_le _, Nat.zero_le _⟩ rfl hl.1 rfl (Nat.le_of_ble_eq_true rfl) dX6_fills_41 (fun H locs hP hS => ?_)
        obtain ⟨q44, e44, hres⟩ := obd hres
        refine cvV (q0 := 0) (ci := 6) hx hb hml hown hts hEo hE hK hP hS (kX6_counts l D a cI cJ cS hd hEo sv kep bef isk fnd man nex wor sng hea lat tap tpd her flt vlu bit lon cel btw x1 q41 q44 e44) gX6_fills_X6_counts rfl hdX6_counts rfl rfl rfl ⟨rfl, rfl⟩ ⟨Nat.le_of_ble_eq_true rfl, Nat.le_of_ble_eq_true rfl⟩ ⟨Nat.zero_le _, Nat.zero_le _⟩ rfl hl.1 rfl (Nat.le_of_ble_eq_true rfl) dX6_fills_44 (fun H locs hP hS => ?_)
        refine lv_aload_n hx hb dX6_fills_47 rfl (lv_at hl 0 rfl) ?_
        refine gM_this6_many hx hb hown hw6 hK hP u1 dX6_fills_48 ?_
        refine lv_iload_n hx hb dX6_fills_51 rfl (lv_at hl 2 rfl) ?_
        obtain ⟨i52, hres⟩ := gdi hres
        refine lM_man hx hb hK hP i52 dX6_fills_52 ?_
        refine lv_lconst (v := 0) hx hb dX6_fills_53 (by decide) ?_
        refine W.lcmp hx hb dX6_fills_54 ?_
        refine lv_if_le (tgt := 64) hx hb dX6_fills_55 (by decide) (fun c55 => ?_) (fun c55 => ?_)
        · have hres := (itl hres).1 c55
          refine lv_iconst (v := 0) hx hb dX6_fills_64 (by decide) ?_
          refine lv_istore_n (lv' := [(3, .int (0 : Int32)), (0, .ref (a 0)), (1, .int x1), (2, .int x2)]) hx hb dX6_fills_65 rfl hl (by decide) rfl (fun ls hl => ?_)
          exact b66 fnd q44.1 q44.2 2000 (0 : Int32) hres _ _ _ hP hS (lv_sub hl [1, 3, 0] rfl)
        · have hres := (itl hres).2 c55
          refine lv_aload_n hx hb dX6_fills_58 rfl (lv_at hl 0 rfl) ?_
          refine lv_iconst (v := 4) hx hb dX6_fills_59 (by decide) ?_
          obtain ⟨q60, e60, hres⟩ := obd hres
          refine cvI (q0 := 0) (ci := 6) hx hb hml hown hts hEo hE hK hP hS (kX6_no l D a cI cJ cS hd hEo sv kep bef isk fnd q44.1 q44.2 wor sng hea lat tap tpd her flt vlu bit lon cel btw (4 : Int32) q60 e60) gX6_fills_X6_no rfl hdX6_no rfl rfl rfl ⟨rfl, rfl⟩ ⟨Nat.le_of_ble_eq_true rfl, Nat.le_of_ble_eq_true rfl⟩ ⟨Nat.zero_le _, Nat.zero_le _⟩ rfl hl.1 rfl (Nat.le_of_ble_eq_true rfl) dX6_fills_60 (fun H locs hP hS => ?_)
          exact hQ ▸ rtI (v := q60.1)  hx hb hr hlk hP hS (by rw [← (Option.some.inj hres)]) (by rw [← (Option.some.inj hres)]) dX6_fills_63
      · have hres := (itl hres).1 c28
        refine lv_aload_n hx hb dX6_fills_31 rfl (lv_at hl 0 rfl) ?_
        refine lv_iconst (v := 1) hx hb dX6_fills_32 (by decide) ?_
        obtain ⟨q33, e33, hres⟩ := obd hres
        refine cvI (q0 := 0) (ci := 6) hx hb hml hown hts hEo hE hK hP hS (kX6_no l D a cI cJ cS hd hEo sv kep bef isk fnd man nex wor sng hea lat tap tpd her flt vlu bit lon cel btw (1 : Int32) q33 e33) gX6_fills_X6_no rfl hdX6_no rfl rfl rfl ⟨rfl, rfl⟩ ⟨Nat.le_of_ble_eq_true rfl, Nat.le_of_ble_eq_true rfl⟩ ⟨Nat.zero_le _, Nat.zero_le _⟩ rfl hl.1 rfl (Nat.le_of_ble_eq_true rfl) dX6_fills_33 (fun H locs hP hS => ?_)
        exact hQ ▸ rtI (v := q33.1)  hx hb hr hlk hP hS (by rw [← (Option.some.inj hres)]) (by rw [← (Option.some.inj hres)]) dX6_fills_36
    · have hres := (itl hres).1 c12
      exact b15 fnd man nex hres _ _ _ hP hS (lv_sub hl [0] rfl)
