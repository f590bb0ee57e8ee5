def fX6_hearer (sv : Nat → Int32) (fnd : Nat → Int32) (x1 : Int32) : Option (Int32 × (Nat → Int32) × (Nat → Int32)) :=
  if (bI (fX6_isAge x1)) = 0 then (fX6_no fnd (0 : Int32)).bind fun q9 => some (q9.1, sv, q9.2) else if (sv (3 : Int32).toNatClampNeg) = (10 : Int32) then (fX6_no fnd (1 : Int32)).bind fun q26 => some (q26.1, sv, q26.2) else gd (ib ((156 : Int32) + (sv (3 : Int32).toNatClampNeg)) 166) (some (((upd (upd sv ((156 : Int32) + (sv (3 : Int32).toNatClampNeg)).toNatClampNeg x1) (3 : Int32).toNatClampNeg (((upd sv ((156 : Int32) + (sv (3 : Int32).toNatClampNeg)).toNatClampNeg x1) (3 : Int32).toNatClampNeg) + (1 : Int32))) (3 : Int32).toNatClampNeg) - (1 : Int32), upd (upd sv ((156 : Int32) + (sv (3 : Int32).toNatClampNeg)).toNatClampNeg x1) (3 : Int32).toNatClampNeg (((upd sv ((156 : Int32) + (sv (3 : Int32).toNatClampNeg)).toNatClampNeg x1) (3 : Int32).toNatClampNeg) + (1 : Int32)), fnd))
theorem hdX6_isAge : yX6_isAge.cls ≠ "java/lang/invoke/MethodHandle" ∧ yX6_isAge.cls ≠ "java/lang/invoke/VarHandle" ∧ (parseMethodDescriptor yX6_isAge.desc).map (fun d => d.parameters.length) = some 1 := by decide +kernel
abbrev rX6_hearer : Room := { frames := 2, cells := 0, slots := 0, locals := 42 }
set_option maxHeartbeats 4000000 in
set_option maxRecDepth 100000 in
theorem kX6_hearer (l : Launch) (D : va_G) (a : Nat → Nat) (cI cJ cS : ClassId) (hd : aok a 16) {Env : (Nat → Prop) → State → Heap → Prop} (hEo : envOK Env) (sv kep bef : Nat → Int32) (isk : Int32) (fnd : Nat → Int32) (man nex : Nat → Int64) (wor sng hea lat tap : Nat → Int32) (tpd her flt vlu : Int32) (bit lon : Nat → Int32) (cel btw : Nat → Int64) (x1 : Int32) (res : Int32 × (Nat → Int32) × (Nat → Int32)) (hres : fX6_hearer sv fnd x1 = some res) : CtI l D (tyL cI cJ cS) 16 a Env yX6_hearer wsX6_hearer rX6_hearer [.ref (a 0), .int x1] (wM a cI cJ cS sv kep bef isk fnd man nex wor sng hea lat tap tpd her flt vlu bit lon cel btw) (wM a cI cJ cS res.2.1 kep bef isk res.2.2 man nex wor sng hea lat tap tpd her flt vlu bit lon cel btw) res.1 := by
  refine CtI_mk (cc := cX6_hearer) (maxL := 2) (ret := (some .int)) (by decide) rfl (Nat.le_of_ble_eq_true rfl) ?_
  intro p e s m args below meth c ls hx hb hr hlk hml hown hts hP hK hE hl
  have hS : va_S (adA a 16 s.heap.size) s.heap s.heap [] := va_S.rf
  have hl : lv_has ls 2 [(0, .ref (a 0)), (1, .int x1)] := hl
  have hown : s.vm.findClass RX6 = some m.cls := hown
  have hw6 : ∀ w ∈ wsX60, w.before args s = true := fun w h => hts w (List.mem_cons_of_mem _ (List.mem_append_right _ h))
  have u1 : (Cond.fieldLink RX6 9 "YearWordsModel" "s" "[I").before args s = true := hts _ (List.mem_of_getElem? (i := 1) (by decide +kernel))
  obtain ⟨Q, hQ⟩ : ∃ Q, Q = mqI below D 16 a args s (wM a cI cJ cS res.2.1 kep bef isk res.2.2 man nex wor sng hea lat tap tpd her flt vlu bit lon cel btw) res.1 := ⟨_, rfl⟩
  rw [← hQ]
  unfold fX6_hearer at hres
  refine lv_iload_n hx hb dX6_hearer_0 rfl (lv_at hl 1 rfl) ?_
  refine csI hx hb hml hown hts hEo hE hK hP hS (kX6_isAge l D a cI cJ cS hd hEo sv kep bef isk fnd man nex wor sng hea lat tap tpd her flt vlu bit lon cel btw x1) gX6_hearer_X6_isAge rfl hdX6_isAge ⟨rfl, rfl⟩ ⟨Nat.le_of_ble_eq_true rfl, Nat.le_of_ble_eq_true rfl⟩ ⟨Nat.zero_le _, Nat.zero_le _⟩ rfl hl.1 rfl (Nat.le_of_ble_eq_true rfl) dX6_hearer_1 (fun H locs hP hS => ?_)
  refine lv_if_ne (tgt := 13) hx hb dX6_hearer_4 (by decide) (fun c4 => ?_) (fun c4 => ?_)
  · have hres := (itl hres).2 c4
    refine lv_aload_n hx hb dX6_hearer_13 rfl (lv_at hl 0 rfl) ?_
    refine gM_this6_s hx hb hown hw6 hK hP u1 dX6_hearer_14 ?_
    refine lv_iconst (v := 3) hx hb dX6_hearer_17 (by decide) ?_
    have i18 : vp_in (3 : Int32) 166 := ib_in (by decide)
    refine lM_sv hx hb hK hP i18 dX6_hearer_18 ?_
    refine lv_bipush (v := 10) hx hb dX6_hearer_19 (by decide) ?_
    refine lv_icmp_ne (tgt := 30) hx hb dX6_hearer_21 (by decide) (fun c21 => ?_) (fun c21 => ?_)
    · have hres := (itl hres).2 c21
      refine lv_aload_n hx hb dX6_hearer_30 rfl (lv_at hl 0 rfl) ?_
      refine gM_this6_s hx hb hown hw6 hK hP u1 dX6_hearer_31 ?_
      refine lv_sipush (v := 156) hx hb dX6_hearer_34 (by decide) ?_
      refine lv_aload_n hx hb dX6_hearer_37 rfl (lv_at hl 0 rfl) ?_
      refine gM_this6_s hx hb hown hw6 hK hP u1 dX6_hearer_38 ?_
      refine lv_iconst (v := 3) hx hb dX6_hearer_41 (by decide) ?_
      have i42 : vp_in (3 : Int32) 166 := ib_in (by decide)
      refine lM_sv hx hb hK hP i42 dX6_hearer_42 ?_
      refine lv_iadd hx hb dX6_hearer_43 ?_
      refine lv_iload_n hx hb dX6_hearer_44 rfl (lv_at hl 1 rfl) ?_
      obtain ⟨i45, hres⟩ := gdi hres
      refine sM_sv hx hb hK hP hd hS i45 dX6_hearer_45 (fun H locs hP hS => ?_)
      refine lv_aload_n hx hb dX6_hearer_46 rfl (lv_at hl 0 rfl) ?_
      refine gM_this6_s hx hb hown hw6 hK hP u1 dX6_hearer_47 ?_
      refine lv_iconst (v := 3) hx hb dX6_hearer_50 (by decide) ?_
      refine lv_dup2_11 hx hb dX6_hearer_51 rfl rfl ?_
      have i52 : vp_in (3 : Int32) 166 := ib_in (by decide)
      refine lM_sv hx hb hK hP i52 dX6_hearer_52 ?_
      refine lv_iconst (v := 1) hx hb dX6_hearer_53 (by decide) ?_
      refine lv_iadd hx hb dX6_hearer_54 ?_
      have i55 : vp_in (3 : Int32) 166 := ib_in (by decide)
      refine sM_sv hx hb hK hP hd hS i55 dX6_hearer_55 (fun H locs hP hS => ?_)
      refine lv_aload_n hx hb dX6_hearer_56 rfl (lv_at hl 0 rfl) ?_
      refine gM_this6_s hx hb hown hw6 hK hP u1 dX6_hearer_57 ?_
      refine lv_iconst (v := 3) hx hb dX6_hearer_60 (by decide) ?_
      have i61 : vp_in (3 : Int32) 166 := ib_in (by decide)
      refine lM_sv hx hb hK hP i61 dX6_hearer_61 ?_
      refine lv_iconst (v := 1) hx hb dX6_hearer_62 (by decide) ?_
      refine lv_isub hx hb dX6_hearer_63 ?_
      exact hQ ▸ rtI (v := ((upd (upd sv ((156 : Int32) + (sv (3 : Int32).toNatClampNeg)).toNatClampNeg x1) (3 : Int32).toNatClampNeg (((upd sv ((156 : Int32) + (sv (3 : Int32).toNatClampNeg)).toNatClampNeg x1) (3 : Int32).toNatClampNeg) + (1 : Int32))) (3 : Int32).toNatClampNeg) - (1 : Int32))  hx hb hr hlk hP hS (by rw [← (Option.some.inj hres)]) (by rw [← (Option.some.inj hres)]) dX6_hearer_64
    · have hres := (itl hres).1 c21
      refine lv_aload_n hx hb dX6_hearer_24 rfl (lv_at hl 0 rfl) ?_
      refine lv_iconst (v := 1) hx hb dX6_hearer_25 (by decide) ?_
      obtain ⟨q26, e26, hres⟩ := obd hres
      refine cvI (q0 := 0) (ci := 6) hx hb hml hown hts hEo hE hK hP hS (kX6_no l D a cI cJ cS hd hEo sv kep bef isk fnd man nex wor sng hea lat tap tpd her flt vlu bit lon cel btw (1 : Int32) q26 e26) gX6_hearer_X6_no rfl hdX6_no rfl rfl rfl ⟨rfl, rfl⟩ ⟨Nat.le_of_ble_eq_true rfl, Nat.le_of_ble_eq_true rfl⟩ ⟨Nat.zero_le _, Nat.zero_le _⟩ rfl hl.1 rfl (Nat.le_of_ble_eq_true rfl) dX6_hearer_26 (fun H locs hP hS => ?_)
      exact hQ ▸ rtI (v := q26.1)  hx hb hr hlk hP hS (by rw [← (Option.some.inj hres)]) (by rw [← (Option.some.inj hres)]) dX6_hearer_29
  · have hres := (itl hres).1 c4
    refine lv_aload_n hx hb dX6_hearer_7 rfl (lv_at hl 0 rfl) ?_
    refine lv_iconst (v := 0) hx hb dX6_hearer_8 (by decide) ?_
    obtain ⟨q9, e9, hres⟩ := obd hres
    refine cvI (q0 := 0) (ci := 6) hx hb hml hown hts hEo hE hK hP hS (kX6_no l D a cI cJ cS hd hEo sv kep bef isk fnd man nex wor sng hea lat tap tpd her flt vlu bit lon cel btw (0 : Int32) q9 e9) gX6_hearer_X6_no rfl hdX6_no rfl rfl rfl ⟨rfl, rfl⟩ ⟨Nat.le_of_ble_eq_true rfl, Nat.le_of_ble_eq_true rfl⟩ ⟨Nat.zero_le _, Nat.zero_le _⟩ rfl hl.1 rfl (Nat.le_of_ble_eq_true rfl) dX6_hearer_9 (fun H locs hP hS => ?_)
    exact hQ ▸ rtI (v := q9.1)  hx hb hr hlk hP hS (by rw [← (Option.some.inj hres)]) (by rw [← (Option.some.inj hres)]) dX6_hearer_12
def fX6_age_b28 (sv : Nat → Int32) (fnd : Nat → Int32) : Option (Int32 × (Nat → Int32) × (Nat → Int32)) :=
 (fX6_no fnd (0 : Int32)).bind fun q30 => some (q30.1, sv, q30.2)
def fX6_age (sv : Nat → Int32) (fnd : Nat → Int32) (x1 : Int32) (x2 : Int32) : Option (Int32 × (Nat → Int32) × (Nat → Int32)) :=
 (fX6_isHearer sv x1).bind fun q2 => if (bI q2) = 0 then fX6_age_b28 sv fnd else if (bI (fX6_isAge x2)) = 0 then fX6_age_b28 sv fnd else (fX6_puts sv ((156 : Int32) + x1) x2).bind fun q22 => some (q22.1, q22.2, fnd)
theorem hdX6_isHearer : yX6_isHearer.cls = RX6 ∧ yX6_isHearer.cls ≠ "java/lang/invoke/MethodHandle" ∧ yX6_isHearer.cls ≠ "java/lang/invoke/VarHandle" ∧ (parseMethodDescriptor yX6_isHearer.desc).map (fun d => d.parameters.length) = some 1 := by decide +kernel
abbrev rX6_age : Room := { frames := 2, cells := 0, slots := 0, locals := 43 }
set_option maxHeartbeats 4000000 in
set_option maxRecDepth 100000 in
theorem kX6_age (l : Launch) (D : va_G) (a : Nat → Nat) (cI cJ cS : ClassId) (hd : aok a 16) {Env : (Nat → Prop) → State → Heap → Prop} (hEo : envOK Env) (sv kep bef : Nat → Int32) (isk : Int32) (fnd : Nat → Int32) (man nex : Nat → Int64) (wor sng hea lat tap : Nat → Int32) (tpd her flt vlu : Int32) (bit lon : Nat → Int32) (cel btw : Nat → Int64) (x1 : Int32) (x2 : Int32) (res : Int32 × (Nat → Int32) × (Nat → Int32)) (hres : fX6_age sv fnd x1 x2 = some res) : CtI l D (tyL cI cJ cS) 16 a Env yX6_age wsX6_age rX6_age [.ref (a 0), .int x1, .int x2] (wM a cI cJ cS sv kep bef isk fnd man nex wor sng hea lat tap tpd her flt vlu bit lon cel btw) (wM a cI cJ cS res.2.1 kep bef isk res.2.2 man nex wor sng hea lat tap tpd her flt vlu bit lon cel btw) res.1 := by
  refine CtI_mk (cc := cX6_age) (maxL := 3) (ret := (some .int)) (by decide) rfl (Nat.le_of_ble_eq_true rfl) ?_
  intro p e s m args below meth c ls hx hb hr hlk hml hown hts hP hK hE hl
  have hS : va_S (adA a 16 s.heap.size) s.heap s.heap [] := va_S.rf
  have hl : lv_has ls 3 [(0, .ref (a 0)), (1, .int x1), (2, .int x2)] := hl
  have hown : s.vm.findClass RX6 = some m.cls := hown
  obtain ⟨Q, hQ⟩ : ∃ Q, Q = mqI below D 16 a args s (wM a cI cJ cS res.2.1 kep bef isk res.2.2 man nex wor sng hea lat tap tpd her flt vlu bit lon cel btw) res.1 := ⟨_, rfl⟩
  rw [← hQ]
  have b28 : ∀ (sv : Nat → Int32) (fnd : Nat → Int32), fX6_age_b28 sv fnd = some res → ∀ (H : Heap) (locs : List Loc) (ls : Array Slot), va_P D vwCl (wM a cI cJ cS sv kep bef isk fnd man nex wor sng hea lat tap tpd her flt vlu bit lon cel btw) H → va_S (adA a 16 s.heap.size) s.heap H locs → lv_has ls 3 [(0, .ref (a 0))] → W p l e rX6_age s m args below meth c H locs 0 0 Q (F0 m 28 ls []) := by
    intro sv fnd hres H locs ls hP hS hl
    unfold fX6_age_b28 at hres
    refine lv_aload_n hx hb dX6_age_28 rfl (lv_at hl 0 rfl) ?_
    refine lv_iconst (v := 0) hx hb dX6_age_29 (by decide) ?_
    obtain ⟨q30, e30, hres⟩ := obd hres
    refine cvI (q0 := 0) (ci := 6) hx hb hml hown hts hEo hE hK hP hS (kX6_no l D a cI cJ cS hd hEo sv kep bef isk fnd man nex wor sng hea lat tap tpd her flt vlu bit lon cel btw (0 : Int32) q30 e30) gX6_age_X6_no rfl hdX6_no rfl rfl rfl ⟨rfl, rfl⟩ ⟨Nat.le_of_ble_eq_true rfl, Nat.le_of_ble_eq_true rfl⟩ ⟨Nat.zero_le _, Nat.zero_le _⟩ rfl hl.1 rfl (Nat.le_of_ble_eq_true rfl) dX6_age_30 (fun H locs hP hS => ?_)
    exact hQ ▸ rtI (v := q30.1)  hx hb hr hlk hP hS (by rw [← (Option.some.inj hres)]) (by rw [← (Option.some.inj hres)]) dX6_age_33
  unfold fX6_age at hres
  refine lv_aload_n hx hb dX6_age_0 rfl (lv_at hl 0 rfl) ?_
  refine lv_iload_n hx hb dX6_age_1 rfl (lv_at hl 1 rfl) ?_
  obtain ⟨q2, e2, hres⟩ := obd hres
  refine cvI (q0 := 0) (ci := 6) hx hb hml hown hts hEo hE hK hP hS (kX6_isHearer l D a cI cJ cS hd hEo sv kep bef isk fnd man nex wor sng hea lat tap tpd her flt vlu bit lon cel btw x1 q2 e2) gX6_age_X6_isHearer rfl hdX6_isHearer rfl rfl rfl ⟨rfl, rfl⟩ ⟨Nat.le_of_ble_eq_true rfl, Nat.le_of_ble_eq_true rfl⟩ ⟨Nat.zero_le _, Nat.zero_le _⟩ rfl hl.1 rfl (Nat.le_of_ble_eq_true rfl) dX6_age_2 (fun H locs hP hS => ?_)
  refine lv_if_eq (tgt := 28) hx hb dX6_age_5 (by decide) (fun c5 => ?_) (fun c5 => ?_)
  · have hres := (itl hres).1 c5
    exact b28 sv fnd hres _ _ _ hP hS (lv_sub hl [0] rfl)
  · have hres := (itl hres).2 c5
    refine lv_iload_n hx hb dX6_age_8 rfl (lv_at hl 2 rfl) ?_
    refine csI hx hb hml hown hts hEo hE hK hP hS (kX6_isAge l D a cI cJ cS hd hEo sv kep bef isk fnd man nex wor sng hea lat tap tpd her flt vlu bit lon cel btw x2) gX6_age_X6_isAge rfl hdX6_isAge ⟨rfl, rfl⟩ ⟨Nat.le_of_ble_eq_true rfl, Nat.le_of_ble_eq_true rfl⟩ ⟨Nat.zero_le _, Nat.zero_le _⟩ rfl hl.1 rfl (Nat.le_of_ble_eq_true rfl) dX6_age_9 (fun H locs hP hS => ?_)
    refine lv_if_eq (tgt := 28) hx hb dX6_age_12 (by decide) (fun c12 => ?_) (fun c12 => ?_)
    · have hres := (itl hres).1 c12
      exact b28 sv fnd hres _ _ _ hP hS (lv_sub hl [0] rfl)
    · have hres := (itl hres).2 c12
      refine lv_aload_n hx hb dX6_age_15 rfl (lv_at hl 0 rfl) ?_
      refine lv_sipush (v := 156) hx hb dX6_age_16 (by decide) ?_
      refine lv_iload_n hx hb dX6_age_19 rfl (lv_at hl 1 rfl) ?_
      refine lv_iadd hx hb dX6_age_20 ?_
      refine lv_iload_n hx hb dX6_age_21 rfl (lv_at hl 2 rfl) ?_
      obtain ⟨q22, e22, hres⟩ := obd hres
      refine cvI (q0 := 0) (ci := 6) hx hb hml hown hts hEo hE hK hP hS (kX6_puts l D a cI cJ cS hd hEo sv kep bef isk fnd man nex wor sng hea lat tap tpd her flt vlu bit lon cel btw ((156 : Int32) + x1) x2 q22 e22) gX6_age_X6_puts rfl hdX6_puts rfl rfl rfl ⟨rfl, rfl⟩ ⟨Nat.le_of_ble_eq_true rfl, Nat.le_of_ble_eq_true rfl⟩ ⟨Nat.zero_le _, Nat.zero_le _⟩ rfl hl.1 rfl (Nat.le_of_ble_eq_true rfl) dX6_age_22 (fun H locs hP hS => ?_)
      refine lv_goto (tgt := 33) hx hb dX6_age_25 (by decide) ?_
      exact hQ ▸ rtI (v := q22.1)  hx hb hr hlk hP hS (by rw [← (Option.some.inj hres)]) (by rw [← (Option.some.inj hres)]) dX6_age_33
def fX6_ageOf (sv : Nat → Int32) (fnd : Nat → Int32) (x1 : Int32) : Option (Int32 × (Nat → Int32)) :=
 (fX6_isHearer sv x1).bind fun q2 => if (bI q2) = 0 then (fX6_no fnd (0 : Int32)).bind fun q23 => some (q23.1, q23.2) else gd (ib ((156 : Int32) + x1) 166) (some (sv ((156 : Int32) + x1).toNatClampNeg, fnd))
abbrev rX6_ageOf : Room := { frames := 2, cells := 0, slots := 0, locals := 43 }
set_option maxHeartbeats 4000000 in
set_option maxRecDepth 100000 in
theorem kX6_ageOf (l : Launch) (D : va_G) (a : Nat → Nat) (cI cJ cS : ClassId) (hd : aok a 16) {Env : (Nat → Prop) → State → Heap → Prop} (hEo : envOK Env) (sv kep bef : Nat → Int32) (isk : Int32) (fnd : Nat → Int32) (man nex : Nat → Int64) (wor sng hea lat tap : Nat → Int32) (tpd her flt vlu : Int32) (bit lon : Nat → Int32) (cel btw : Nat → Int64) (x1 : Int32) (res : Int32 × (Nat → Int32)) (hres : fX6_ageOf sv fnd x1 = some res) : CtI l D (tyL cI cJ cS) 16 a Env yX6_ageOf wsX6_ageOf rX6_ageOf [.ref (a 0), .int x1] (wM a cI cJ cS sv kep bef isk fnd man nex wor sng hea lat tap tpd her flt vlu bit lon cel btw) (wM a cI cJ cS sv kep bef isk res.2 man nex wor sng hea lat tap tpd her flt vlu bit lon cel btw) res.1 := by
  refine CtI_mk (cc := cX6_ageOf) (maxL := 2) (ret := (some .int)) (by decide) rfl (Nat.le_of_ble_eq_true rfl) ?_
  intro p e s m args below meth c ls hx hb hr hlk hml hown hts hP hK hE hl
  have hS : va_S (adA a 16 s.heap.size) s.heap s.heap [] := va_S.rf
  have hl : lv_has ls 2 [(0, .ref (a 0)), (1, .int x1)] := hl
  have hown : s.vm.findClass RX6 = some m.cls := hown
  have hw6 : ∀ w ∈ wsX60, w.before args s = true := fun w h => hts w (List.mem_cons_of_mem _ (List.mem_append_right _ h))
  have u1 : (Cond.fieldLink RX6 9 "YearWordsModel" "s" "[I").before args s = true := hts _ (List.mem_of_getElem? (i := 1) (by decide +kernel))
  obtain ⟨Q, hQ⟩ : ∃ Q, Q = mqI below D 16 a args s (wM a cI cJ cS sv kep bef isk res.2 man nex wor sng hea lat tap tpd her flt vlu bit lon cel btw) res.1 := ⟨_, rfl⟩
  rw [← hQ]
  unfold fX6_ageOf at hres
  refine lv_aload_n hx hb dX6_ageOf_0 rfl (lv_at hl 0 rfl) ?_
  refine lv_iload_n hx hb dX6_ageOf_1 rfl (lv_at hl 1 rfl) ?_
  obtain ⟨q2, e2, hres⟩ := obd hres
  refine cvI (q0 := 0) (ci := 6) hx hb hml hown hts hEo hE hK hP hS (kX6_isHearer l D a cI cJ cS hd hEo sv kep bef isk fnd man nex wor sng hea lat tap tpd her flt vlu bit lon cel btw x1 q2 e2) gX6_ageOf_X6_isHearer rfl hdX6_isHearer rfl rfl rfl ⟨rfl, rfl⟩ ⟨Nat.le_of_ble_eq_true rfl, Nat.le_of_ble_eq_true rfl⟩ ⟨Nat.zero_le _, Nat.zero_le _⟩ rfl hl.1 rfl (Nat.le_of_ble_eq_true rfl) dX6_ageOf_2 (fun H locs hP hS => ?_)
  refine lv_if_eq (tgt := 21) hx hb dX6_ageOf_5 (by decide) (fun c5 => ?_) (fun c5 => ?_)
  · have hres := (itl hres).1 c5
    refine lv_aload_n hx hb dX6_ageOf_21 rfl (lv_at hl 0 rfl) ?_
    refine lv_iconst (v := 0) hx hb dX6_ageOf_22 (by decide) ?_
    obtain ⟨q23, e23, hres⟩ := obd hres
    refine cvI (q0 := 0) (ci := 6) hx hb hml hown hts hEo hE hK hP hS (kX6_no l D a cI cJ cS hd hEo sv kep bef isk fnd man nex wor sng hea lat tap tpd her flt vlu bit lon cel btw (0 : Int32) q23 e23) gX6_ageOf_X6_no rfl hdX6_no rfl rfl rfl ⟨rfl, rfl⟩ ⟨Nat.le_of_ble_eq_true rfl, Nat.le_of_ble_eq_true rfl⟩ ⟨Nat.zero_le _, Nat.zero_le _⟩ rfl hl.1 rfl (Nat.le_of_ble_eq_true rfl) dX6_ageOf_23 (fun H locs hP hS => ?_)
    exact hQ ▸ rtI (v := q23.1)  hx hb hr hlk hP hS (by rw [← (Option.some.inj hres)]) (by rw [← (Option.some.inj hres)]) dX6_ageOf_26
  · have hres := (itl hres).2 c5
    refine lv_aload_n hx hb dX6_ageOf_8 rfl (lv_at hl 0 rfl) ?_
    refine gM_this6_s hx hb hown hw6 hK hP u1 dX6_ageOf_9 ?_
    refine lv_sipush (v := 156) hx hb dX6_ageOf_12 (by decide) ?_
    refine lv_iload_n hx hb dX6_ageOf_15 rfl (lv_at hl 1 rfl) ?_
    refine lv_iadd hx hb dX6_ageOf_16 ?_
    obtain ⟨i17, hres⟩ := gdi hres
    refine lM_sv hx hb hK hP i17 dX6_ageOf_17 ?_
    refine lv_goto (tgt := 26) hx hb dX6_ageOf_18 (by decide) ?_
    exact hQ ▸ rtI (v := sv ((156 : Int32) + x1).toNatClampNeg)  hx hb hr hlk hP hS (by rw [← (Option.some.inj hres)]) (by rw [← (Option.some.inj hres)]) dX6_ageOf_26
def fX6_toWhom_b52 (K14 : Int32 → Int32 → Option (Int32 × (Nat → Int64) × (Nat → Int64))) (x3 : Int32) (z0 : Int32) (z1 : Int32) : Option (Int32 × (Nat → Int64) × (Nat → Int64)) :=
  K14 (z0 ||| z1) (x3 + 1)
def fX6_toWhom_l14 (sv : Nat → Int32) (man : Nat → Int64) (nex : Nat → Int64) (K14 : Int32 → Int32 → Option (Int32 × (Nat → Int64) × (Nat → Int64))) (x2 : Int32) (x3 : Int32) : Option (Int32 × (Nat → Int64) × (Nat → Int64)) :=
  if (sv (3 : Int32).toNatClampNeg) ≤ x3 then some (x2, man, nex) else gd (ib ((156 : Int32) + x3) 166) (gd (ib (sv ((156 : Int32) + x3).toNatClampNeg) 121) (if (lg_cmp (man (sv ((156 : Int32) + x3).toNatClampNeg).toNatClampNeg) (0 : Int64)) ≤ 0 then fX6_toWhom_b52 K14 x3 x2 (0 : Int32) else fX6_toWhom_b52 K14 x3 x2 ((1 : Int32) <<< (x3 &&& 31))))
def fX6_toWhom (sv : Nat → Int32) (man : Nat → Int64) (nex : Nat → Int64) (x1 : Int32) : Option (Int32 × (Nat → Int64) × (Nat → Int64)) :=
 (fX6_long_ sv x1).bind fun q4 => (fX6_counts sv man nex x1 q4).bind fun q7 => fix2 (fX6_toWhom_l14 sv q7.1 q7.2) 2000 (0 : Int32) (0 : Int32)
abbrev rX6_toWhom : Room := { frames := 3, cells := 0, slots := 0, locals := 71 }
set_option maxHeartbeats 4000000 in
set_option maxRecDepth 100000 in
theorem kX6_toWhom (l : Launch) (D : va_G) (a : Nat → Nat) (cI cJ cS : ClassId) (hd : aok a 16) {Env : (Nat → Prop) → State → Heap → Prop} (hEo : envOK Env) (sv kep bef : Nat → Int32) (isk : Int32) (fnd : Nat → Int32) (man nex : Nat → Int64) (wor sng hea lat tap : Nat → Int32) (tpd her flt vlu : Int32) (bit lon : Nat → Int32) (cel btw : Nat → Int64) (x1 : Int32) (res : Int32 × (Nat → Int64) × (Nat → Int64)) (hres : fX6_toWhom sv man nex x1 = some res) : CtI l D (tyL cI cJ cS) 16 a Env yX6_toWhom wsX6_toWhom rX6_toWhom [.ref (a 0), .int x1] (wM a cI cJ cS sv kep bef isk fnd man nex wor sng hea lat tap tpd her flt vlu bit lon cel btw) (wM a cI cJ cS sv kep bef isk fnd res.2.1 res.2.2 wor sng hea lat tap tpd her flt vlu bit lon cel btw) res.1 := by
  refine CtI_mk (cc := cX6_toWhom) (maxL := 4) (ret := (some .int)) (by decide) rfl (Nat.le_of_ble_eq_true rfl) ?_
  intro p e s m args below meth c ls hx hb hr hlk hml hown hts hP hK hE hl
  have hS : va_S (adA a 16 s.heap.size) s.heap s.heap [] := va_S.rf
  have hl : lv_has ls 4 [(0, .ref (a 0)), (1, .int x1)] := hl
  have hown : s.vm.findClass RX6 = some m.cls := hown
  have hw6 : ∀ w ∈ wsX60, w.before args s = true := fun w h => hts w (List.mem_cons_of_mem _ (List.mem_append_right _ h))
  have u1 : (Cond.fieldLink RX6 9 "YearWordsModel" "s" "[I").before args s = true := hts _ (List.mem_of_getElem? (i := 1) (by decide +kernel))
  have u2 : (Cond.fieldLink RX6 22 "YearWordsModel" "many" "[J").before args s = true := hts _ (List.mem_of_getElem? (i := 2) (by decide +kernel))
  obtain ⟨Q, hQ⟩ : ∃ Q, Q = mqI below D 16 a args s (wM a cI cJ cS sv kep bef isk fnd res.2.1 res.2.2 wor sng hea lat tap tpd her flt vlu bit lon cel btw) res.1 := ⟨_, rfl⟩
  rw [← hQ]
  have b14 : ∀ (man : Nat → Int64) (nex : Nat → Int64) (n : Nat) (x2 : Int32) (x3 : Int32), fix2 (fX6_toWhom_l14 sv man nex) n x2 x3 = some res → ∀ (H : Heap) (locs : List Loc) (ls : Array Slot), va_P D vwCl (wM a cI cJ cS sv kep bef isk fnd man nex wor sng hea lat tap tpd her flt vlu bit lon cel btw) H → va_S (adA a 16 s.heap.size) s.heap H locs → lv_has ls 4 [(0, .ref (a 0)), (2, .int x2), (3, .int x3)] → W p l e rX6_toWhom s m args below meth c H locs 0 0 Q (F0 m 14 ls []) := by
    intro man nex
    refine fix2_r ?_
    intro K14 hK14 x2 x3 hres H locs ls hP hS hl
    have b52 : ∀ (x3 : Int32) (z0 : Int32) (z1 : Int32), fX6_toWhom_b52 K14 x3 z0 z1 = some res → ∀ (H : Heap) (locs : List Loc) (ls : Array Slot), va_P D vwCl (wM a cI cJ cS sv kep bef isk fnd man nex wor sng hea lat tap tpd her flt vlu bit lon cel btw) H → va_S (adA a 16 s.heap.size) s.heap H locs → lv_has ls 4 [(0, .ref (a 0)), (3, .int x3)] → W p l e rX6_toWhom s m args below meth c H locs 0 0 Q (F0 m 52 ls [.int z1, .int z0]) := by
      intro x3 z0 z1 hres H locs ls hP hS hl
      unfold fX6_toWhom_b52 at hres
      refine lv_ior hx hb dX6_toWhom_52 ?_
      refine lv_istore_n (lv' := [(2, .int (z0 ||| z1)), (0, .ref (a 0)), (3, .int x3)]) hx hb dX6_toWhom_53 rfl hl (by decide) rfl (fun ls hl => ?_)
      refine lv_iinc (v := x3 + 1) (lv' := [(3, .int (x3 + 1)), (2, .int (z0 ||| z1)), (0, .ref (a 0))]) hx hb dX6_toWhom_54 hl (k := 2) rfl (congrArg (fun z => x3 + z) (by decide)) (by decide) rfl (fun ls hl => ?_)
      refine lv_goto (tgt := 14) hx hb dX6_toWhom_57 (by decide) ?_
      exact hK14 (z0 ||| z1) (x3 + 1) hres _ _ _ hP hS (lv_sub hl [2, 1, 0] rfl)
    unfold fX6_toWhom_l14 at hres
    refine lv_iload_n hx hb dX6_toWhom_14 rfl (lv_at hl 2 rfl) ?_
    refine lv_aload_n hx hb dX6_toWhom_15 rfl (lv_at hl 0 rfl) ?_
    refine gM_this6_s hx hb hown hw6 hK hP u1 dX6_toWhom_16 ?_
    refine lv_iconst (v := 3) hx hb dX6_toWhom_19 (by decide) ?_
    have i20 : vp_in (3 : Int32) 166 := ib_in (by decide)
    refine lM_sv hx hb hK hP i20 dX6_toWhom_20 ?_
    refine lv_icmp_ge (tgt := 60) hx hb dX6_toWhom_21 (by decide) (fun c21 => ?_) (fun c21 => ?_)
    · have hres := (itl hres).1 c21
      refine lv_iload_n hx hb dX6_toWhom_60 rfl (lv_at hl 1 rfl) ?_
      exact hQ ▸ rtI (v := x2)  hx hb hr hlk hP hS (by rw [← (Option.some.inj hres)]) (by rw [← (Option.some.inj hres)]) dX6_toWhom_61
    · have hres := (itl hres).2 c21
      refine lv_iload_n hx hb dX6_toWhom_24 rfl (lv_at hl 1 rfl) ?_
      refine lv_aload_n hx hb dX6_toWhom_25 rfl (lv_at hl 0 rfl) ?_
      refine gM_this6_many hx hb hown hw6 hK hP u2 dX6_toWhom_26 ?_
      refine lv_aload_n hx hb dX6_toWhom_29 rfl (lv_at hl 0 rfl) ?_
      refine gM_this6_s hx hb hown hw6 hK hP u1 dX6_toWhom_30 ?_
      refine lv_sipush (v := 156) hx hb dX6_toWhom_33 (by decide) ?_
      refine lv_iload_n hx hb dX6_toWhom_36 rfl (lv_at hl 2 rfl) ?_
      refine lv_iadd hx hb dX6_toWhom_37 ?_
      obtain ⟨i38, hres⟩ := gdi hres
      refine lM_sv hx hb hK hP i38 dX6_toWhom_38 ?_
      obtain ⟨i39, hres⟩ := gdi hres
      refine lM_man hx hb hK hP i39 dX6_toWhom_39 ?_
      refine lv_lconst (v := 0) hx hb dX6_toWhom_40 (by decide) ?_
      refine W.lcmp hx hb dX6_toWhom_41 ?_
      refine lv_if_le (tgt := 51) hx hb dX6_toWhom_42 (by decide) (fun c42 => ?_) (fun c42 => ?_)
      · have hres := (itl hres).1 c42
        refine lv_iconst (v := 0) hx hb dX6_toWhom_51 (by decide) ?_
        exact b52 x3 x2 (0 : Int32) hres _ _ _ hP hS (lv_sub hl [0, 2] rfl)
      · have hres := (itl hres).2 c42
        refine lv_iconst (v := 1) hx hb dX6_toWhom_45 (by decide) ?_
        refine lv_iload_n hx hb dX6_toWhom_46 rfl (lv_at hl 2 rfl) ?_
        refine lv_ishl hx hb dX6_toWhom_47 ?_
        refine lv_goto (tgt := 52) hx hb dX6_toWhom_48 (by decide) ?_
        exact b52 x3 x2 ((1 : Int32) <<< (x3 &&& 31)) hres _ _ _ hP hS (lv_sub hl [0, 2] rfl)
  unfold fX6_toWhom at hres
  refine lv_aload_n hx hb dX6_toWhom_0 rfl (lv_at hl 0 rfl) ?_
  refine lv_iload_n hx hb dX6_toWhom_1 rfl (lv_at hl 1 rfl) ?_
  refine lv_aload_n hx hb dX6_toWhom_2 rfl (lv_at hl 0 rfl) ?_
  refine lv_iload_n hx hb dX6_toWhom_3 rfl (lv_at hl 1 rfl) ?_
  obtain ⟨q4, e4, hres⟩ := obd hres
  refine cvI (q0 := 0) (ci := 6) hx hb hml hown hts hEo hE hK hP hS (kX6_long_ l D a cI cJ cS hd hEo sv kep bef isk fnd man nex wor sng hea lat tap tpd her flt vlu bit lon cel btw x1 q4 e4) gX6_toWhom_X6_long_ rfl hdX6_long_ rfl rfl rfl ⟨rfl, rfl⟩ ⟨Nat.le_of_ble_eq_true rfl, Nat.le_of_ble_eq_true rfl⟩ ⟨Nat.zero_le _, Nat.zero_le _⟩ rfl hl.1 rfl (Nat.le_of_ble_eq_true rfl) dX6_toWhom_4 (fun H locs hP hS => ?_)
  obtain ⟨q7, e7, hres⟩ := obd hres
  refine cvV (q0 := 0) (ci := 6) hx hb hml hown hts hEo hE hK hP hS (kX6_counts l D a cI cJ cS hd hEo sv kep bef isk fnd man nex wor sng hea lat tap tpd her flt vlu bit lon cel btw x1 q4 q7 e7) gX6_toWhom_X6_counts rfl hdX6_counts rfl rfl rfl ⟨rfl, rfl⟩ ⟨Nat.le_of_ble_eq_true rfl, Nat.le_of_ble_eq_true rfl⟩ ⟨Nat.zero_le _, Nat.zero_le _⟩ rfl hl.1 rfl (Nat.le_of_ble_eq_true rfl) dX6_toWhom_7 (fun H locs hP hS => ?_)
  refine lv_iconst (v := 0) hx hb dX6_toWhom_10 (by decide) ?_
  refine lv_istore_n (lv' := [(2, .int (0 : Int32)), (0, .ref (a 0)), (1, .int x1)]) hx hb dX6_toWhom_11 rfl hl (by decide) rfl (fun ls hl => ?_)
  refine lv_iconst (v := 0) hx hb dX6_toWhom_12 (by decide) ?_
  refine lv_istore_n (lv' := [(3, .int (0 : Int32)), (2, .int (0 : Int32)), (0, .ref (a 0)), (1, .int x1)]) hx hb dX6_toWhom_13 rfl hl (by decide) rfl (fun ls hl => ?_)
  exact b14 q7.1 q7.2 2000 (0 : Int32) (0 : Int32) hres _ _ _ hP hS (lv_sub hl [2, 1, 0] rfl)
def fX6_to (sv : Nat → Int32) (fnd : Nat → Int32) (man : Nat → Int64) (nex : Nat → Int64) (x1 : Int32) : Option (Int32 × (Nat → Int32) × (Nat → Int64) × (Nat → Int64)) :=
 (fX6_isTale sv x1).bind fun q2 => if (bI q2) = 0 then (fX6_no fnd (0 : Int32)).bind fun q18 => some (q18.1, q18.2, man, nex) else (fX6_toWhom sv man nex x1).bind fun q10 => some (q10.1, fnd, q10.2.1, q10.2.2)
theorem hdX6_toWhom : yX6_toWhom.cls = RX6 ∧ yX6_toWhom.cls ≠ "java/lang/invoke/MethodHandle" ∧ yX6_toWhom.cls ≠ "java/lang/invoke/VarHandle" ∧ (parseMethodDescriptor yX6_toWhom.desc).map (fun d => d.parameters.length) = some 1 := by decide +kernel
abbrev rX6_to : Room := { frames := 4, cells := 0, slots := 0, locals := 94 }
set_option maxHeartbeats 4000000 in
set_option maxRecDepth 100000 in
theorem kX6_to (l : Launch) (D : va_G) (a : Nat → Nat) (cI cJ cS : ClassId) (hd : aok a 16) {Env : (Nat → Prop) → State → Heap → Prop} (hEo : envOK Env) (sv kep bef : Nat → Int32) (isk : Int32) (fnd : Nat → Int32) (man nex : Nat → Int64) (wor sng hea lat tap : Nat → Int32) (tpd her flt vlu : Int32) (bit lon : Nat → Int32) (cel btw : Nat → Int64) (x1 : Int32) (res : Int32 × (Nat → Int32) × (Nat → Int64) × (Nat → Int64)) (hres : fX6_to sv fnd man nex x1 = some res) : CtI l D (tyL cI cJ cS) 16 a Env yX6_to wsX6_to rX6_to [.ref (a 0), .int x1] (wM a cI cJ cS sv kep bef isk fnd man nex wor sng hea lat tap tpd her flt vlu bit lon cel btw) (wM a cI cJ cS sv kep bef isk res.2.1 res.2.2.1 res.2.2.2 wor sng hea lat tap tpd her flt vlu bit lon cel btw) res.1 := by
  refine CtI_mk (cc := cX6_to) (maxL := 2) (ret := (some .int)) (by decide) rfl (Nat.le_of_ble_eq_true rfl) ?_
  intro p e s m args below meth c ls hx hb hr hlk hml hown hts hP hK hE hl
  have hS : va_S (adA a 16 s.heap.size) s.heap s.heap [] := va_S.rf
  have hl : lv_has ls 2 [(0, .ref (a 0)), (1, .int x1)] := hl
  have hown : s.vm.findClass RX6 = some m.cls := hown
  obtain ⟨Q, hQ⟩ : ∃ Q, Q = mqI below D 16 a args s (wM a cI cJ cS sv kep bef isk res.2.1 res.2.2.1 res.2.2.2 wor sng hea lat tap tpd her flt vlu bit lon cel btw) res.1 := ⟨_, rfl⟩
  rw [← hQ]
  unfold fX6_to at hres
  refine lv_aload_n hx hb dX6_to_0 rfl (lv_at hl 0 rfl) ?_
  refine lv_iload_n hx hb dX6_to_1 rfl (lv_at hl 1 rfl) ?_
  obtain ⟨q2, e2, hres⟩ := obd hres
  refine cvI (q0 := 0) (ci := 6) hx hb hml hown hts hEo hE hK hP hS (kX6_isTale l D a cI cJ cS hd hEo sv kep bef isk fnd man nex wor sng hea lat tap tpd her flt vlu bit lon cel btw x1 q2 e2) gX6_to_X6_isTale rfl hdX6_isTale rfl rfl rfl ⟨rfl, rfl⟩ ⟨Nat.le_of_ble_eq_true rfl, Nat.le_of_ble_eq_true rfl⟩ ⟨Nat.zero_le _, Nat.zero_le _⟩ rfl hl.1 rfl (Nat.le_of_ble_eq_true rfl) dX6_to_2 (fun H locs hP hS => ?_)
  refine lv_if_eq (tgt := 16) hx hb dX6_to_5 (by decide) (fun c5 => ?_) (fun c5 => ?_)
  · have hres := (itl hres).1 c5
    refine lv_aload_n hx hb dX6_to_16 rfl (lv_at hl 0 rfl) ?_
    refine lv_iconst (v := 0) hx hb dX6_to_17 (by decide) ?_
    obtain ⟨q18, e18, hres⟩ := obd hres
    refine cvI (q0 := 0) (ci := 6) hx hb hml hown hts hEo hE hK hP hS (kX6_no l D a cI cJ cS hd hEo sv kep bef isk fnd man nex wor sng hea lat tap tpd her flt vlu bit lon cel btw (0 : Int32) q18 e18) gX6_to_X6_no rfl hdX6_no rfl rfl rfl ⟨rfl, rfl⟩ ⟨Nat.le_of_ble_eq_true rfl, Nat.le_of_ble_eq_true rfl⟩ ⟨Nat.zero_le _, Nat.zero_le _⟩ rfl hl.1 rfl (Nat.le_of_ble_eq_true rfl) dX6_to_18 (fun H locs hP hS => ?_)
    exact hQ ▸ rtI (v := q18.1)  hx hb hr hlk hP hS (by rw [← (Option.some.inj hres)]) (by rw [← (Option.some.inj hres)]) dX6_to_21
  · have hres := (itl hres).2 c5
    refine lv_aload_n hx hb dX6_to_8 rfl (lv_at hl 0 rfl) ?_
    refine lv_iload_n hx hb dX6_to_9 rfl (lv_at hl 1 rfl) ?_
    obtain ⟨q10, e10, hres⟩ := obd hres
    refine cvI (q0 := 0) (ci := 6) hx hb hml hown hts hEo hE hK hP hS (kX6_toWhom l D a cI cJ cS hd hEo sv kep bef isk fnd man nex wor sng hea lat tap tpd her flt vlu bit lon cel btw x1 q10 e10) gX6_to_X6_toWhom rfl hdX6_toWhom rfl rfl rfl ⟨rfl, rfl⟩ ⟨Nat.le_of_ble_eq_true rfl, Nat.le_of_ble_eq_true rfl⟩ ⟨Nat.zero_le _, Nat.zero_le _⟩ rfl hl.1 rfl (Nat.le_of_ble_eq_true rfl) dX6_to_10 (fun H locs hP hS => ?_)
    refine lv_goto (tgt := 21) hx hb dX6_to_13 (by decide) ?_
    exact hQ ▸ rtI (v := q10.1)  hx hb hr hlk hP hS (by rw [← (Option.some.inj hres)]) (by rw [← (Option.some.inj hres)]) dX6_to_21
def fX6_tales_b59 (K18 : Int32 → Int32 → (Nat → Int64) → (Nat → Int64) → Option (Int32 × (Nat → Int32) × (Nat → Int64) × (Nat → Int64))) (man : Nat → Int64) (nex : Nat → Int64) (x3 : Int32) (z0 : Int32) (z1 : Int32) : Option (Int32 × (Nat → Int32) × (Nat → Int64) × (Nat → Int64)) :=
  K18 (z0 ||| z1) (x3 + 1) man nex
def fX6_tales_l18 (sv : Nat → Int32) (fnd : Nat → Int32) (x1 : Int32) (K18 : Int32 → Int32 → (Nat → Int64) → (Nat → Int64) → Option (Int32 × (Nat → Int32) × (Nat → Int64) × (Nat → Int64))) (x2 : Int32) (x3 : Int32) (man : Nat → Int64) (nex : Nat → Int64) : Option (Int32 × (Nat → Int32) × (Nat → Int64) × (Nat → Int64)) :=
  if (sv (2 : Int32).toNatClampNeg) ≤ x3 then some (x2, fnd, man, nex) else (fX6_long_ sv x3).bind fun q33 => gd (ib ((156 : Int32) + x1) 166) ((fX6_canBe sv man nex x3 q33 (sv ((156 : Int32) + x1).toNatClampNeg)).bind fun q46 => if (bI q46.1) = 0 then fX6_tales_b59 K18 q46.2.1 q46.2.2 x3 x2 (0 : Int32) else fX6_tales_b59 K18 q46.2.1 q46.2.2 x3 x2 ((1 : Int32) <<< (x3 &&& 31)))
def fX6_tales (sv : Nat → Int32) (fnd : Nat → Int32) (man : Nat → Int64) (nex : Nat → Int64) (x1 : Int32) : Option (Int32 × (Nat → Int32) × (Nat → Int64) × (Nat → Int64)) :=
 (fX6_isHearer sv x1).bind fun q2 => if (bI q2) = 0 then (fX6_no fnd (0 : Int32)).bind fun q10 => some (q10.1, q10.2, man, nex) else fix4 (fX6_tales_l18 sv fnd x1) 2000 (0 : Int32) (0 : Int32) man nex
theorem hdX6_canBe : yX6_canBe.cls = RX6 ∧ yX6_canBe.cls ≠ "java/lang/invoke/MethodHandle" ∧ yX6_canBe.cls ≠ "java/lang/invoke/VarHandle" ∧ (parseMethodDescriptor yX6_canBe.desc).map (fun d => d.parameters.length) = some 3 := by decide +kernel
abbrev rX6_tales : Room := { frames := 4, cells := 0, slots := 0, locals := 94 }
set_option maxHeartbeats 4000000 in
set_option maxRecDepth 100000 in
theorem kX6_tales (l : Launch) (D : va_G) (a : Nat → Nat) (cI cJ cS : ClassId) (hd : aok a 16) {Env : (Nat → Prop) → State → Heap → Prop} (hEo : envOK Env) (sv kep bef : Nat → Int32) (isk : Int32) (fnd : Nat → Int32) (man nex : Nat → Int64) (wor sng hea lat tap : Nat → Int32) (tpd her flt vlu : Int32) (bit lon : Nat → Int32) (cel btw : Nat → Int64) (x1 : Int32) (res : Int32 × (Nat → Int32) × (Nat → Int64) × (Nat → Int64)) (hres : fX6_tales sv fnd man nex x1 = some res) : CtI l D (tyL cI cJ cS) 16 a Env yX6_tales wsX6_tales rX6_tales [.ref (a 0), .int x1] (wM a cI cJ cS sv kep bef isk fnd man nex wor sng hea lat tap tpd her flt vlu bit lon cel btw) (wM a cI cJ cS sv kep bef isk res.2.1 res.2.2.1 res.2.2.2 wor sng hea lat tap tpd her flt vlu bit lon cel btw) res.1 := by
  refine CtI_mk (cc := cX6_tales) (maxL := 4) (ret := (some .int)) (by decide) rfl (Nat.le_of_ble_eq_true rfl) ?_
  intro p e s m args below meth c ls hx hb hr hlk hml hown hts hP hK hE hl
  have hS : va_S (adA a 16 s.heap.size) s.heap s.heap [] := va_S.rf
  have hl : lv_has ls 4 [(0, .ref (a 0)), (1, .int x1)] := hl
  have hown : s.vm.findClass RX6 = some m.cls := hown
  have hw6 : ∀ w ∈ wsX60, w.before args s = true := fun w h => hts w (List.mem_cons_of_mem _ (List.mem_append_right _ h))
  have u1 : (Cond.fieldLink RX6 9 "YearWordsModel" "s" "[I").before args s = true := hts _ (List.mem_of_getElem? (i := 1) (by decide +kernel))
  obtain ⟨Q, hQ⟩ : ∃ Q, Q = mqI below D 16 a args s (wM a cI cJ cS sv kep bef isk res.2.1 res.2.2.1 res.2.2.2 wor sng hea lat tap tpd her flt vlu bit lon cel btw) res.1 := ⟨_, rfl⟩
  rw [← hQ]
  have b18 : ∀ (fnd : Nat → Int32) (n : Nat) (x2 : Int32) (x3 : Int32) (man : Nat → Int64) (nex : Nat → Int64), fix4 (fX6_tales_l18 sv fnd x1) n x2 x3 man nex = some res → ∀ (H : Heap) (locs : List Loc) (ls : Array Slot), va_P D vwCl (wM a cI cJ cS sv kep bef isk fnd man nex wor sng hea lat tap tpd her flt vlu bit lon cel btw) H → va_S (adA a 16 s.heap.size) s.heap H locs → lv_has ls 4 [(0, .ref (a 0)), (1, .int x1), (2, .int x2), (3, .int x3)] → W p l e rX6_tales s m args below meth c H locs 0 0 Q (F0 m 18 ls []) := by
    intro fnd
    refine fix4_r ?_
    intro K18 hK18 x2 x3 man nex hres H locs ls hP hS hl
    have b59 : ∀ (man : Nat → Int64) (nex : Nat → Int64) (x3 : Int32) (z0 : Int32) (z1 : Int32), fX6_tales_b59 K18 man nex x3 z0 z1 = some res → ∀ (H : Heap) (locs : List Loc) (ls : Array Slot), va_P D vwCl (wM a cI cJ cS sv kep bef isk fnd man nex wor sng hea lat tap tpd her flt vlu bit lon cel btw) H → va_S (adA a 16 s.heap.size) s.heap H locs → lv_has ls 4 [(0, .ref (a 0)), (1, .int x1), (3, .int x3)] → W p l e rX6_tales s m args below meth c H locs 0 0 Q (F0 m 59 ls [.int z1, .int z0]) := by
      intro man nex x3 z0 z1 hres H locs ls hP hS hl
      unfold fX6_tales_b59 at hres
      refine lv_ior hx hb dX6_tales_59 ?_
      refine lv_istore_n (lv' := [(2, .int (z0 ||| z1)), (0, .ref (a 0)), (1, .int x1), (3, .int x3)]) hx hb dX6_tales_60 rfl hl (by decide) rfl (fun ls hl => ?_)
      refine lv_iinc (v := x3 + 1) (lv' := [(3, .int (x3 + 1)), (2, .int (z0 ||| z1)), (0, .ref (a 0)), (1, .int x1)]) hx hb dX6_tales_61 hl (k := 3) rfl (congrArg (fun z => x3 + z) (by decide)) (by decide) rfl (fun ls hl => ?_)
      refine lv_goto (tgt := 18) hx hb dX6_tales_64 (by decide) ?_
      exact hK18 (z0 ||| z1) (x3 + 1) man nex hres _ _ _ hP hS (lv_sub hl [2, 3, 1, 0] rfl)
    unfold fX6_tales_l18 at hres
    refine lv_iload_n hx hb dX6_tales_18 rfl (lv_at hl 3 rfl) ?_
    refine lv_aload_n hx hb dX6_tales_19 rfl (lv_at hl 0 rfl) ?_
    refine gM_this6_s hx hb hown hw6 hK hP u1 dX6_tales_20 ?_
    refine lv_iconst (v := 2) hx hb dX6_tales_23 (by decide) ?_
    have i24 : vp_in (2 : Int32) 166 := ib_in (by decide)
    refine lM_sv hx hb hK hP i24 dX6_tales_24 ?_
    refine lv_icmp_ge (tgt := 67) hx hb dX6_tales_25 (by decide) (fun c25 => ?_) (fun c25 => ?_)
    · have hres := (itl hres).1 c25
      refine lv_iload_n hx hb dX6_tales_67 rfl (lv_at hl 2 rfl) ?_
      exact hQ ▸ rtI (v := x2)  hx hb hr hlk hP hS (by rw [← (Option.some.inj hres)]) (by rw [← (Option.some.inj hres)]) dX6_tales_68
    · have hres := (itl hres).2 c25
      refine lv_iload_n hx hb dX6_tales_28 rfl (lv_at hl 2 rfl) ?_
      refine lv_aload_n hx hb dX6_tales_29 rfl (lv_at hl 0 rfl) ?_
      refine lv_iload_n hx hb dX6_tales_30 rfl (lv_at hl 3 rfl) ?_
      refine lv_aload_n hx hb dX6_tales_31 rfl (lv_at hl 0 rfl) ?_
      refine lv_iload_n hx hb dX6_tales_32 rfl (lv_at hl 3 rfl) ?_
      obtain ⟨q33, e33, hres⟩ := obd hres
      refine cvI (q0 := 0) (ci := 6) hx hb hml hown hts hEo hE hK hP hS (kX6_long_ l D a cI cJ cS hd hEo sv kep bef isk fnd man nex wor sng hea lat tap tpd her flt vlu bit lon cel btw x3 q33 e33) gX6_tales_X6_long_ rfl hdX6_long_ rfl rfl rfl ⟨rfl, rfl⟩ ⟨Nat.le_of_ble_eq_true rfl, Nat.le_of_ble_eq_true rfl⟩ ⟨Nat.zero_le _, Nat.zero_le _⟩ rfl hl.1 rfl (Nat.le_of_ble_eq_true rfl) dX6_tales_33 (fun H locs hP hS => ?_)
      refine lv_aload_n hx hb dX6_tales_36 rfl (lv_at hl 0 rfl) ?_
      refine gM_this6_s hx hb hown hw6 hK hP u1 dX6_tales_37 ?_
      refine lv_sipush (v := 156) hx hb dX6_tales_40 (by decide) ?_
      refine lv_iload_n hx hb dX6_tales_43 rfl (lv_at hl 1 rfl) ?_
      refine lv_iadd hx hb dX6_tales_44 ?_
      obtain ⟨i45, hres⟩ := gdi hres
      refine lM_sv hx hb hK hP i45 dX6_tales_45 ?_
      obtain ⟨q46, e46, hres⟩ := obd hres
      refine cvI (q0 := 0) (ci := 6) hx hb hml hown hts hEo hE hK hP hS (kX6_canBe l D a cI cJ cS hd hEo sv kep bef isk fnd man nex wor sng hea lat tap tpd her flt vlu bit lon cel btw x3 q33 (sv ((156 : Int32) + x1).toNatClampNeg) q46 e46) gX6_tales_X6_canBe rfl hdX6_canBe rfl rfl rfl ⟨rfl, rfl⟩ ⟨Nat.le_of_ble_eq_true rfl, Nat.le_of_ble_eq_true rfl⟩ ⟨Nat.zero_le _, Nat.zero_le _⟩ rfl hl.1 rfl (Nat.le_of_ble_eq_true rfl) dX6_tales_46 (fun H locs hP hS => ?_)
      refine lv_if_eq (tgt := 58) hx hb dX6_tales_49 (by decide) (fun c49 => ?_) (fun c49 => ?_)
      · have hres := (itl hres).1 c49
        refine lv_iconst (v := 0) hx hb dX6_tales_58 (by decide) ?_
        exact b59 q46.2.1 q46.2.2 x3 x2 (0 : Int32) hres _ _ _ hP hS (lv_sub hl [0, 1, 3] rfl)
      · have hres := (itl hres).2 c49
        refine lv_iconst (v := 1) hx hb dX6_tales_52 (by decide) ?_
        refine lv_iload_n hx hb dX6_tales_53 rfl (lv_at hl 3 rfl) ?_
        refine lv_ishl hx hb dX6_tales_54 ?_
        refine lv_goto (tgt := 59) hx hb dX6_tales_55 (by decide) ?_
        exact b59 q46.2.1 q46.2.2 x3 x2 ((1 : Int32) <<< (x3 &&& 31)) hres _ _ _ hP hS (lv_sub hl [0, 1, 3] rfl)
  unfold fX6_tales at hres
  refine lv_aload_n hx hb dX6_tales_0 rfl (lv_at hl 0 rfl) ?_
  refine lv_iload_n hx hb dX6_tales_1 rfl (lv_at hl 1 rfl) ?_
  obtain ⟨q2, e2, hres⟩ := obd hres
  refine cvI (q0 := 0) (ci := 6) hx hb hml hown hts hEo hE hK hP hS (kX6_isHearer l D a cI cJ cS hd hEo sv kep bef isk fnd man nex wor sng hea lat tap tpd her flt vlu bit lon cel btw x1 q2 e2) gX6_tales_X6_isHearer rfl hdX6_isHearer rfl rfl rfl ⟨rfl, rfl⟩ ⟨Nat.le_of_ble_eq_true rfl, Nat.le_of_ble_eq_true rfl⟩ ⟨Nat.zero_le _, Nat.zero_le _⟩ rfl hl.1 rfl (Nat.le_of_ble_eq_true rfl) dX6_tales_2 (fun H locs hP hS => ?_)
  refine lv_if_ne (tgt := 14) hx hb dX6_tales_5 (by decide) (fun c5 => ?_) (fun c5 => ?_)
  · have hres := (itl hres).2 c5
    refine lv_iconst (v := 0) hx hb dX6_tales_14 (by decide) ?_
    refine lv_istore_n (lv' := [(2, .int (0 : Int32)), (0, .ref (a 0)), (1, .int x1)]) hx hb dX6_tales_15 rfl hl (by decide) rfl (fun ls hl => ?_)
    refine lv_iconst (v := 0) hx hb dX6_tales_16 (by decide) ?_
    refine lv_istore_n (lv' := [(3, .int (0 : Int32)), (2, .int (0 : Int32)), (0, .ref (a 0)), (1, .int x1)]) hx hb dX6_tales_17 rfl hl (by decide) rfl (fun ls hl => ?_)
    exact b18 fnd 2000 (0 : Int32) (0 : Int32) man nex hres _ _ _ hP hS (lv_sub hl [2, 3, 1, 0] rfl)
  · have hres := (itl hres).1 c5
    refine lv_aload_n hx hb dX6_tales_8 rfl (lv_at hl 0 rfl) ?_
    refine lv_iconst (v := 0) hx hb dX6_tales_9 (by decide) ?_
    obtain ⟨q10, e10, hres⟩ := obd hres
    refine cvI (q0 := 0) (ci := 6) hx hb hml hown hts hEo hE hK hP hS (kX6_no l D a cI cJ cS hd hEo sv kep bef isk fnd man nex wor sng hea lat tap tpd her flt vlu bit lon cel btw (0 : Int32) q10 e10) gX6_tales_X6_no rfl hdX6_no rfl rfl rfl ⟨rfl, rfl⟩ ⟨Nat.le_of_ble_eq_true rfl, Nat.le_of_ble_eq_true rfl⟩ ⟨Nat.zero_le _, Nat.zero_le _⟩ rfl hl.1 rfl (Nat.le_of_ble_eq_true rfl) dX6_tales_10 (fun H locs hP hS => ?_)
    exact hQ ▸ rtI (v := q10.1)  hx hb hr hlk hP hS (by rw [← (Option.some.inj hres)]) (by rw [← (Option.some.inj hres)]) dX6_tales_13
def fX6_older (x0 : Int32) (x1 : Int32) : Int32 :=
  if (x0 + x1) ≤ (99 : Int32) then (x0 + x1) else (99 : Int32)
abbrev rX6_older : Room := { frames := 0, cells := 0, slots := 0, locals := 0 }
set_option maxHeartbeats 4000000 in
set_option maxRecDepth 100000 in
theorem kX6_older (l : Launch) (D : va_G) (a : Nat → Nat) (cI cJ cS : ClassId) (hd : aok a 16) {Env : (Nat → Prop) → State → Heap → Prop} (hEo : envOK Env) (sv kep bef : Nat → Int32) (isk : Int32) (fnd : Nat → Int32) (man nex : Nat → Int64) (wor sng hea lat tap : Nat → Int32) (tpd her flt vlu : Int32) (bit lon : Nat → Int32) (cel btw : Nat → Int64) (x0 : Int32) (x1 : Int32) : CtI l D (tyL cI cJ cS) 16 a Env yX6_older wsX6_older rX6_older [.int x0, .int x1] (wM a cI cJ cS sv kep bef isk fnd man nex wor sng hea lat tap tpd her flt vlu bit lon cel btw) (wM a cI cJ cS sv kep bef isk fnd man nex wor sng hea lat tap tpd her flt vlu bit lon cel btw) (fX6_older x0 x1) := by
  generalize hres : fX6_older x0 x1 = res
  refine CtI_mk (cc := cX6_older) (maxL := 2) (ret := (some .int)) (by decide) rfl (Nat.le_of_ble_eq_true rfl) ?_
  intro p e s m args below meth c ls hx hb hr hlk hml hown hts hP hK hE hl
  have hS : va_S (adA a 16 s.heap.size) s.heap s.heap [] := va_S.rf
  have hl : lv_has ls 2 [(0, .int x0), (1, .int x1)] := hl
  have hown : s.vm.findClass RX6 = some m.cls := hown
  obtain ⟨Q, hQ⟩ : ∃ Q, Q = mqI below D 16 a args s (wM a cI cJ cS sv kep bef isk fnd man nex wor sng hea lat tap tpd her flt vlu bit lon cel btw) res := ⟨_, rfl⟩
  rw [← hQ]
  unfold fX6_older at hres
  refine lv_iload_n hx hb dX6_older_0 rfl (lv_at hl 0 rfl) ?_
  refine lv_iload_n hx hb dX6_older_1 rfl (lv_at hl 1 rfl) ?_
  refine lv_iadd hx hb dX6_older_2 ?_
  refine lv_bipush (v := 99) hx hb dX6_older_3 (by decide) ?_
  refine lv_icmp_le (tgt := 13) hx hb dX6_older_5 (by decide) (fun c5 => ?_) (fun c5 => ?_)
  · have hres := (itl hres).1 c5
    refine lv_iload_n hx hb dX6_older_13 rfl (lv_at hl 0 rfl) ?_
    refine lv_iload_n hx hb dX6_older_14 rfl (lv_at hl 1 rfl) ?_
    refine lv_iadd hx hb dX6_older_15 ?_
    exact hQ ▸ rtI (v := x0 + x1)  hx hb hr hlk hP hS (by rw [← hres]) rfl dX6_older_16
  · have hres := (itl hres).2 c5
    refine lv_bipush (v := 99) hx hb dX6_older_8 (by decide) ?_
    refine lv_goto (tgt := 16) hx hb dX6_older_10 (by decide) ?_
    exact hQ ▸ rtI (v := (99 : Int32))  hx hb hr hlk hP hS (by rw [← hres]) rfl dX6_older_16
def fX6_years_b126 (K63 : Int32 → Int32 → Option (Int32 × (Nat → Int32) × (Nat → Int32) × (Nat → Int64) × (Nat → Int64))) (x4 : Int32) (z0 : Int32) (z1 : Bool) : Option (Int32 × (Nat → Int32) × (Nat → Int32) × (Nat → Int64) × (Nat → Int64)) :=
  K63 (z0 + (bI z1)) (x4 + 1)
def fX6_years_b125 (K63 : Int32 → Int32 → Option (Int32 × (Nat → Int32) × (Nat → Int32) × (Nat → Int64) × (Nat → Int64))) (x4 : Int32) (z0 : Int32) : Option (Int32 × (Nat → Int32) × (Nat → Int32) × (Nat → Int64) × (Nat → Int64)) :=
  fX6_years_b126 K63 x4 z0 false
def fX6_years_b134 (K40 : Int32 → Int32 → (Nat → Int64) → (Nat → Int64) → Option (Int32 × (Nat → Int32) × (Nat → Int32) × (Nat → Int64) × (Nat → Int64))) (man : Nat → Int64) (nex : Nat → Int64) (x2 : Int32) (x3 : Int32) : Option (Int32 × (Nat → Int32) × (Nat → Int32) × (Nat → Int64) × (Nat → Int64)) :=
  K40 x2 (x3 + 1) man nex
def fX6_years_l63 (K40 : Int32 → Int32 → (Nat → Int64) → (Nat → Int64) → Option (Int32 × (Nat → Int32) × (Nat → Int32) × (Nat → Int64) × (Nat → Int64))) (sv : Nat → Int32) (man : Nat → Int64) (nex : Nat → Int64) (x1 : Int32) (x3 : Int32) (K63 : Int32 → Int32 → Option (Int32 × (Nat → Int32) × (Nat → Int32) × (Nat → Int64) × (Nat → Int64))) (x2 : Int32) (x4 : Int32) : Option (Int32 × (Nat → Int32) × (Nat → Int32) × (Nat → Int64) × (Nat → Int64)) :=
  if (sv (3 : Int32).toNatClampNeg) ≤ x4 then fX6_years_b134 K40 man nex x2 x3 else gd (ib ((156 : Int32) + x4) 166) (gd (ib (sv ((156 : Int32) + x4).toNatClampNeg) 121) (if (lg_cmp (man (sv ((156 : Int32) + x4).toNatClampNeg).toNatClampNeg) (0 : Int64)) ≤ 0 then fX6_years_b125 K63 x4 x2 else gd (ib ((156 : Int32) + x4) 166) (gd (ib (fX6_older (sv ((156 : Int32) + x4).toNatClampNeg) x1) 121) (if (lg_cmp (man (fX6_older (sv ((156 : Int32) + x4).toNatClampNeg) x1).toNatClampNeg) (0 : Int64)) = 0 then fX6_years_b126 K63 x4 x2 true else fX6_years_b125 K63 x4 x2))))
def fX6_years_b182 (sv : Nat → Int32) (fnd : Nat → Int32) (man : Nat → Int64) (nex : Nat → Int64) (x1 : Int32) (x2 : Int32) : Option (Int32 × (Nat → Int32) × (Nat → Int32) × (Nat → Int64) × (Nat → Int64)) :=
  some (x2, upd sv (0 : Int32).toNatClampNeg ((sv (0 : Int32).toNatClampNeg) + x1), fnd, man, nex)
def fX6_years_l142 (fnd : Nat → Int32) (man : Nat → Int64) (nex : Nat → Int64) (x1 : Int32) (x2 : Int32) (K142 : Int32 → (Nat → Int32) → Option (Int32 × (Nat → Int32) × (Nat → Int32) × (Nat → Int64) × (Nat → Int64))) (x3 : Int32) (sv : Nat → Int32) : Option (Int32 × (Nat → Int32) × (Nat → Int32) × (Nat → Int64) × (Nat → Int64)) :=
  if (sv (3 : Int32).toNatClampNeg) ≤ x3 then fX6_years_b182 sv fnd man nex x1 x2 else gd (ib ((156 : Int32) + x3) 166) (gd (ib ((156 : Int32) + x3) 166) (K142 (x3 + 1) (upd sv ((156 : Int32) + x3).toNatClampNeg (fX6_older (sv ((156 : Int32) + x3).toNatClampNeg) x1))))
def fX6_years_b140 (sv : Nat → Int32) (fnd : Nat → Int32) (man : Nat → Int64) (nex : Nat → Int64) (x1 : Int32) (x2 : Int32) : Option (Int32 × (Nat → Int32) × (Nat → Int32) × (Nat → Int64) × (Nat → Int64)) :=
  fix2 (fX6_years_l142 fnd man nex x1 x2) 2000 (0 : Int32) sv
def fX6_years_l40 (sv : Nat → Int32) (fnd : Nat → Int32) (x1 : Int32) (K40 : Int32 → Int32 → (Nat → Int64) → (Nat → Int64) → Option (Int32 × (Nat → Int32) × (Nat → Int32) × (Nat → Int64) × (Nat → Int64))) (x2 : Int32) (x3 : Int32) (man : Nat → Int64) (nex : Nat → Int64) : Option (Int32 × (Nat → Int32) × (Nat → Int32) × (Nat → Int64) × (Nat → Int64)) :=
  if (sv (2 : Int32).toNatClampNeg) ≤ x3 then fX6_years_b140 sv fnd man nex x1 x2 else (fX6_long_ sv x3).bind fun q54 => (fX6_counts sv man nex x3 q54).bind fun q57 => fix2 (fX6_years_l63 K40 sv q57.1 q57.2 x1 x3) 2000 x2 (0 : Int32)
def fX6_years (sv : Nat → Int32) (fnd : Nat → Int32) (man : Nat → Int64) (nex : Nat → Int64) (x1 : Int32) : Option (Int32 × (Nat → Int32) × (Nat → Int32) × (Nat → Int64) × (Nat → Int64)) :=
  if (bI (fX6_in x1 (1 : Int32) (60 : Int32))) = 0 then (fX6_no fnd (0 : Int32)).bind fun q12 => some (q12.1, sv, q12.2, man, nex) else if ((sv (0 : Int32).toNatClampNeg) + x1) ≤ (999 : Int32) then fix4 (fX6_years_l40 sv fnd x1) 2000 (0 : Int32) (0 : Int32) man nex else (fX6_no fnd (4 : Int32)).bind fun q32 => some (q32.1, sv, q32.2, man, nex)
theorem hdX6_older : yX6_older.cls ≠ "java/lang/invoke/MethodHandle" ∧ yX6_older.cls ≠ "java/lang/invoke/VarHandle" ∧ (parseMethodDescriptor yX6_older.desc).map (fun d => d.parameters.length) = some 2 := by decide +kernel
abbrev rX6_years : Room := { frames := 3, cells := 0, slots := 0, locals := 71 }
set_option maxHeartbeats 4000000 in
set_option maxRecDepth 100000 in
theorem kX6_years (l : Launch) (D : va_G) (a : Nat → Nat) (cI cJ cS : ClassId) (hd : aok a 16) {Env : (Nat → Prop) → State → Heap → Prop} (hEo : envOK Env) (sv kep bef : Nat → Int32) (isk : Int32) (fnd : Nat → Int32) (man nex : Nat → Int64) (wor sng hea lat tap : Nat → Int32) (tpd her flt vlu : Int32) (bit lon : Nat → Int32) (cel btw : Nat → Int64) (x1 : Int32) (res : Int32 × (Nat → Int32) × (Nat → Int32) × (Nat → Int64) × (Nat → Int64)) (hres : fX6_years sv fnd man nex x1 = some res) : CtI l D (tyL cI cJ cS) 16 a Env yX6_years wsX6_years rX6_years [.ref (a 0), .int x1] (wM a cI cJ cS sv kep bef isk fnd man nex wor sng hea lat tap tpd her flt vlu bit lon cel btw) (wM a cI cJ cS res.2.1 kep bef isk res.2.2.1 res.2.2.2.1 res.2.2.2.2 wor sng hea lat tap tpd her flt vlu bit lon cel btw) res.1 := by
  refine CtI_mk (cc := cX6_years) (maxL := 5) (ret := (some .int)) (by decide) rfl (Nat.le_of_ble_eq_true rfl) ?_
  intro p e s m args below meth c ls hx hb hr hlk hml hown hts hP hK hE hl
  have hS : va_S (adA a 16 s.heap.size) s.heap s.heap [] := va_S.rf
  have hl : lv_has ls 5 [(0, .ref (a 0)), (1, .int x1)] := hl
  have hown : s.vm.findClass RX6 = some m.cls := hown
  have hw6 : ∀ w ∈ wsX60, w.before args s = true := fun w h => hts w (List.mem_cons_of_mem _ (List.mem_append_right _ h))
  have u1 : (Cond.fieldLink RX6 9 "YearWordsModel" "s" "[I").before args s = true := hts _ (List.mem_of_getElem? (i := 1) (by decide +kernel))
  have u2 : (Cond.fieldLink RX6 22 "YearWordsModel" "many" "[J").before args s = true := hts _ (List.mem_of_getElem? (i := 2) (by decide +kernel))
  obtain ⟨Q, hQ⟩ : ∃ Q, Q = mqI below D 16 a args s (wM a cI cJ cS res.2.1 kep bef isk res.2.2.1 res.2.2.2.1 res.2.2.2.2 wor sng hea lat tap tpd her flt vlu bit lon cel btw) res.1 := ⟨_, rfl⟩
  rw [← hQ]
  have b182 : ∀ (sv : Nat → Int32) (fnd : Nat → Int32) (man : Nat → Int64) (nex : Nat → Int64) (x2 : Int32), fX6_years_b182 sv fnd man nex x1 x2 = some res → ∀ (H : Heap) (locs : List Loc) (ls : Array Slot), va_P D vwCl (wM a cI cJ cS sv kep bef isk fnd man nex wor sng hea lat tap tpd her flt vlu bit lon cel btw) H → va_S (adA a 16 s.heap.size) s.heap H locs → lv_has ls 5 [(0, .ref (a 0)), (1, .int x1), (2, .int x2)] → W p l e rX6_years s m args below meth c H locs 0 0 Q (F0 m 182 ls []) := by
    intro sv fnd man nex x2 hres H locs ls hP hS hl
    unfold fX6_years_b182 at hres
    refine lv_aload_n hx hb dX6_years_182 rfl (lv_at hl 0 rfl) ?_
    refine gM_this6_s hx hb hown hw6 hK hP u1 dX6_years_183 ?_
    refine lv_iconst (v := 0) hx hb dX6_years_186 (by decide) ?_
    refine lv_dup2_11 hx hb dX6_years_187 rfl rfl ?_
    have i188 : vp_in (0 : Int32) 166 := ib_in (by decide)
    refine lM_sv hx hb hK hP i188 dX6_years_188 ?_
    refine lv_iload_n hx hb dX6_years_189 rfl (lv_at hl 1 rfl) ?_
    refine lv_iadd hx hb dX6_years_190 ?_
    have i191 : vp_in (0 : Int32) 166 := ib_in (by decide)
    refine sM_sv hx hb hK hP hd hS i191 dX6_years_191 (fun H locs hP hS => ?_)
    refine lv_iload_n hx hb dX6_years_192 rfl (lv_at hl 2 rfl) ?_
    exact hQ ▸ rtI (v := x2)  hx hb hr hlk hP hS (by rw [← (Option.some.inj hres)]) (by rw [← (Option.some.inj hres)]) dX6_years_193
  have b142 : ∀ (fnd : Nat → Int32) (man : Nat → Int64) (nex : Nat → Int64) (x2 : Int32) (n : Nat) (x3 : Int32) (sv : Nat → Int32), fix2 (fX6_years_l142 fnd man nex x1 x2) n x3 sv = some res → ∀ (H : Heap) (locs : List Loc) (ls : Array Slot), va_P D vwCl (wM a cI cJ cS sv kep bef isk fnd man nex wor sng hea lat tap tpd her flt vlu bit lon cel btw) H → va_S (adA a 16 s.heap.size) s.heap H locs → lv_has ls 5 [(0, .ref (a 0)), (1, .int x1), (2, .int x2), (3, .int x3)] → W p l e rX6_years s m args below meth c H locs 0 0 Q (F0 m 142 ls []) := by
    intro fnd man nex x2
    refine fix2_r ?_
    intro K142 hK142 x3 sv hres H locs ls hP hS hl
    unfold fX6_years_l142 at hres
    refine lv_iload_n hx hb dX6_years_142 rfl (lv_at hl 3 rfl) ?_
    refine lv_aload_n hx hb dX6_years_143 rfl (lv_at hl 0 rfl) ?_
    refine gM_this6_s hx hb hown hw6 hK hP u1 dX6_years_144 ?_
    refine lv_iconst (v := 3) hx hb dX6_years_147 (by decide) ?_
    have i148 : vp_in (3 : Int32) 166 := ib_in (by decide)
    refine lM_sv hx hb hK hP i148 dX6_years_148 ?_
    refine lv_icmp_ge (tgt := 182) hx hb dX6_years_149 (by decide) (fun c149 => ?_) (fun c149 => ?_)
    · have hres := (itl hres).1 c149
      exact b182 sv fnd man nex x2 hres _ _ _ hP hS (lv_sub hl [0, 1, 2] rfl)
    · have hres := (itl hres).2 c149
      refine lv_aload_n hx hb dX6_years_152 rfl (lv_at hl 0 rfl) ?_
      refine gM_this6_s hx hb hown hw6 hK hP u1 dX6_years_153 ?_
      refine lv_sipush (v := 156) hx hb dX6_years_156 (by decide) ?_
      refine lv_iload_n hx hb dX6_years_159 rfl (lv_at hl 3 rfl) ?_
      refine lv_iadd hx hb dX6_years_160 ?_
      refine lv_aload_n hx hb dX6_years_161 rfl (lv_at hl 0 rfl) ?_
      refine gM_this6_s hx hb hown hw6 hK hP u1 dX6_years_162 ?_
      refine lv_sipush (v := 156) hx hb dX6_years_165 (by decide) ?_
      refine lv_iload_n hx hb dX6_years_168 rfl (lv_at hl 3 rfl) ?_
      refine lv_iadd hx hb dX6_years_169 ?_
      obtain ⟨i170, hres⟩ := gdi hres
      refine lM_sv hx hb hK hP i170 dX6_years_170 ?_
      refine lv_iload_n hx hb dX6_years_171 rfl (lv_at hl 1 rfl) ?_
      refine csI hx hb hml hown hts hEo hE hK hP hS (kX6_older l D a cI cJ cS hd hEo sv kep bef isk fnd man nex wor sng hea lat tap tpd her flt vlu bit lon cel btw (sv ((156 : Int32) + x3).toNatClampNeg) x1) gX6_years_X6_older rfl hdX6_older ⟨rfl, rfl⟩ ⟨Nat.le_of_ble_eq_true rfl, Nat.le_of_ble_eq_true rfl⟩ ⟨Nat.zero_le _, Nat.zero_le _⟩ rfl hl.1 rfl (Nat.le_of_ble_eq_true rfl) dX6_years_172 (fun H locs hP hS => ?_)
      obtain ⟨i175, hres⟩ := gdi hres
      refine sM_sv hx hb hK hP hd hS i175 dX6_years_175 (fun H locs hP hS => ?_)
      refine lv_iinc (v := x3 + 1) (lv' := [(3, .int (x3 + 1)), (0, .ref (a 0)), (1, .int x1), (2, .int x2)]) hx hb dX6_years_176 hl (k := 3) rfl (congrArg (fun z => x3 + z) (by decide)) (by decide) rfl (fun ls hl => ?_)
      refine lv_goto (tgt := 142) hx hb dX6_years_179 (by decide) ?_
      exact hK142 (x3 + 1) (upd sv ((156 : Int32) + x3).toNatClampNeg (fX6_older (sv ((156 : Int32) + x3).toNatClampNeg) x1)) hres _ _ _ hP hS (lv_sub hl [1, 2, 3, 0] rfl)
  have b140 : ∀ (sv : Nat → Int32) (fnd : Nat → Int32) (man : Nat → Int64) (nex : Nat → Int64) (x2 : Int32), fX6_years_b140 sv fnd man nex x1 x2 = some res → ∀ (H : Heap) (locs : List Loc) (ls : Array Slot), va_P D vwCl (wM a cI cJ cS sv kep bef isk fnd man nex wor sng hea lat tap tpd her flt vlu bit lon cel btw) H → va_S (adA a 16 s.heap.size) s.heap H locs → lv_has ls 5 [(0, .ref (a 0)), (1, .int x1), (2, .int x2)] → W p l e rX6_years s m args below meth c H locs 0 0 Q (F0 m 140 ls []) := by
    intro sv fnd man nex x2 hres H locs ls hP hS hl
    unfold fX6_years_b140 at hres
    refine lv_iconst (v := 0) hx hb dX6_years_140 (by decide) ?_
    refine lv_istore_n (lv' := [(3, .int (0 : Int32)), (0, .ref (a 0)), (1, .int x1), (2, .int x2)]) hx hb dX6_years_141 rfl hl (by decide) rfl (fun ls hl => ?_)
    exact b142 fnd man nex x2 2000 (0 : Int32) sv hres _ _ _ hP hS (lv_sub hl [1, 2, 3, 0] rfl)
  have b40 : ∀ (sv : Nat → Int32) (fnd : Nat → Int32) (n : Nat) (x2 : Int32) (x3 : Int32) (man : Nat → Int64) (nex : Nat → Int64), fix4 (fX6_years_l40 sv fnd x1) n x2 x3 man nex = some res → ∀ (H : Heap) (locs : List Loc) (ls : Array Slot), va_P D vwCl (wM a cI cJ cS sv kep bef isk fnd man nex wor sng hea lat tap tpd her flt vlu bit lon cel btw) H → va_S (adA a 16 s.heap.size) s.heap H locs → lv_has ls 5 [(0, .ref (a 0)), (1, .int x1), (2, .int x2), (3, .int x3)] → W p l e rX6_years s m args below meth c H locs 0 0 Q (F0 m 40 ls []) := by
    intro sv fnd
    refine fix4_r ?_
    intro K40 hK40 x2 x3 man nex hres H locs ls hP hS hl
    have b134 : ∀ (man : Nat → Int64) (nex : Nat → Int64) (x2 : Int32) (x3 : Int32), fX6_years_b134 K40 man nex x2 x3 = some res → ∀ (H : Heap) (locs : List Loc) (ls : Array Slot), va_P D vwCl (wM a cI cJ cS sv kep bef isk fnd man nex wor sng hea lat tap tpd her flt vlu bit lon cel btw) H → va_S (adA a 16 s.heap.size) s.heap H locs → lv_has ls 5 [(0, .ref (a 0)), (1, .int x1), (2, .int x2), (3, .int x3)] → W p l e rX6_years s m args below meth c H locs 0 0 Q (F0 m 134 ls []) := by
      intro man nex x2 x3 hres H locs ls hP hS hl
      unfold fX6_years_b134 at hres
      refine lv_iinc (v := x3 + 1) (lv' := [(3, .int (x3 + 1)), (0, .ref (a 0)), (1, .int x1), (2, .int x2)]) hx hb dX6_years_134 hl (k := 3) rfl (congrArg (fun z => x3 + z) (by decide)) (by decide) rfl (fun ls hl => ?_)
      refine lv_goto (tgt := 40) hx hb dX6_years_137 (by decide) ?_
      exact hK40 x2 (x3 + 1) man nex hres _ _ _ hP hS (lv_sub hl [1, 2, 3, 0] rfl)
    have b63 : ∀ (man : Nat → Int64) (nex : Nat → Int64) (x3 : Int32) (n : Nat) (x2 : Int32) (x4 : Int32), fix2 (fX6_years_l63 K40 sv man nex x1 x3) n x2 x4 = some res → ∀ (H : Heap) (locs : List Loc) (ls : Array Slot), va_P D vwCl (wM a cI cJ cS sv kep bef isk fnd man nex wor sng hea lat tap tpd her flt vlu bit lon cel btw) H → va_S (adA a 16 s.heap.size) s.heap H locs → lv_has ls 5 [(0, .ref (a 0)), (1, .int x1), (2, .int x2), (3, .int x3), (4, .int x4)] → W p l e rX6_years s m args below meth c H locs 0 0 Q (F0 m 63 ls []) := by
      intro man nex x3
      refine fix2_r ?_
      intro K63 hK63 x2 x4 hres H locs ls hP hS hl
      have b126 : ∀ (x4 : Int32) (z0 : Int32) (z1 : Bool), fX6_years_b126 K63 x4 z0 z1 = some res → ∀ (H : Heap) (locs : List Loc) (ls : Array Slot), va_P D vwCl (wM a cI cJ cS sv kep bef isk fnd man nex wor sng hea lat tap tpd her flt vlu bit lon cel btw) H → va_S (adA a 16 s.heap.size) s.heap H locs → lv_has ls 5 [(0, .ref (a 0)), (1, .int x1), (3, .int x3), (4, .int x4)] → W p l e rX6_years s m args below meth c H locs 0 0 Q (F0 m 126 ls [.int (bI z1), .int z0]) := by
        intro x4 z0 z1 hres H locs ls hP hS hl
        unfold fX6_years_b126 at hres
        refine lv_iadd hx hb dX6_years_126 ?_
        refine lv_istore_n (lv' := [(2, .int (z0 + (bI z1))), (0, .ref (a 0)), (1, .int x1), (3, .int x3), (4, .int x4)]) hx hb dX6_years_127 rfl hl (by decide) rfl (fun ls hl => ?_)
        refine lv_iinc (v := x4 + 1) (lv' := [(4, .int (x4 + 1)), (2, .int (z0 + (bI z1))), (0, .ref (a 0)), (1, .int x1), (3, .int x3)]) hx hb dX6_years_128 hl (k := 4) rfl (congrArg (fun z => x4 + z) (by decide)) (by decide) rfl (fun ls hl => ?_)
        refine lv_goto (tgt := 63) hx hb dX6_years_131 (by decide) ?_
        exact hK63 (z0 + (bI z1)) (x4 + 1) hres _ _ _ hP hS (lv_sub hl [2, 3, 1, 4, 0] rfl)
      have b125 : ∀ (x4 : Int32) (z0 : Int32), fX6_years_b125 K63 x4 z0 = some res → ∀ (H : Heap) (locs : List Loc) (ls : Array Slot), va_P D vwCl (wM a cI cJ cS sv kep bef isk fnd man nex wor sng hea lat tap tpd her flt vlu bit lon cel btw) H → va_S (adA a 16 s.heap.size) s.heap H locs → lv_has ls 5 [(0, .ref (a 0)), (1, .int x1), (3, .int x3), (4, .int x4)] → W p l e rX6_years s m args below meth c H locs 0 0 Q (F0 m 125 ls [.int z0]) := by
        intro x4 z0 hres H locs ls hP hS hl
        unfold fX6_years_b125 at hres
        refine lv_iconst (v := 0) hx hb dX6_years_125 (by decide) ?_
        exact b126 x4 z0 false hres _ _ _ hP hS (lv_sub hl [0, 1, 2, 3] rfl)
      unfold fX6_years_l63 at hres
      refine lv_iload hx hb dX6_years_63 (lv_at hl 4 rfl) ?_
      refine lv_aload_n hx hb dX6_years_65 rfl (lv_at hl 0 rfl) ?_
      refine gM_this6_s hx hb hown hw6 hK hP u1 dX6_years_66 ?_
      refine lv_iconst (v := 3) hx hb dX6_years_69 (by decide) ?_
      have i70 : vp_in (3 : Int32) 166 := ib_in (by decide)
      refine lM_sv hx hb hK hP i70 dX6_years_70 ?_
      refine lv_icmp_ge (tgt := 134) hx hb dX6_years_71 (by decide) (fun c71 => ?_) (fun c71 => ?_)
      · have hres := (itl hres).1 c71
        exact b134 man nex x2 x3 hres _ _ _ hP hS (lv_sub hl [0, 1, 2, 3] rfl)
      · have hres := (itl hres).2 c71
        refine lv_iload_n hx hb dX6_years_74 rfl (lv_at hl 2 rfl) ?_
        refine lv_aload_n hx hb dX6_years_75 rfl (lv_at hl 0 rfl) ?_
        refine gM_this6_many hx hb hown hw6 hK hP u2 dX6_years_76 ?_
        refine lv_aload_n hx hb dX6_years_79 rfl (lv_at hl 0 rfl) ?_
        refine gM_this6_s hx hb hown hw6 hK hP u1 dX6_years_80 ?_
        refine lv_sipush (v := 156) hx hb dX6_years_83 (by decide) ?_
        refine lv_iload hx hb dX6_years_86 (lv_at hl 4 rfl) ?_
        refine lv_iadd hx hb dX6_years_88 ?_
        obtain ⟨i89, hres⟩ := gdi hres
        refine lM_sv hx hb hK hP i89 dX6_years_89 ?_
        obtain ⟨i90, hres⟩ := gdi hres
        refine lM_man hx hb hK hP i90 dX6_years_90 ?_
        refine lv_lconst (v := 0) hx hb dX6_years_91 (by decide) ?_
        refine W.lcmp hx hb dX6_years_92 ?_
        refine lv_if_le (tgt := 125) hx hb dX6_years_93 (by decide) (fun c93 => ?_) (fun c93 => ?_)
        · have hres := (itl hres).1 c93
          exact b125 x4 x2 hres _ _ _ hP hS (lv_sub hl [0, 1, 3, 4] rfl)
        · have hres := (itl hres).2 c93
          refine lv_aload_n hx hb dX6_years_96 rfl (lv_at hl 0 rfl) ?_
          refine gM_this6_many hx hb hown hw6 hK hP u2 dX6_years_97 ?_
          refine lv_aload_n hx hb dX6_years_100 rfl (lv_at hl 0 rfl) ?_
          refine gM_this6_s hx hb hown hw6 hK hP u1 dX6_years_101 ?_
          refine lv_sipush (v := 156) hx hb dX6_years_104 (by decide) ?_
          refine lv_iload hx hb dX6_years_107 (lv_at hl 4 rfl) ?_
          refine lv_iadd hx hb dX6_years_109 ?_
          obtain ⟨i110, hres⟩ := gdi hres
          refine lM_sv hx hb hK hP i110 dX6_years_110 ?_
          refine lv_iload_n hx hb dX6_years_111 rfl (lv_at hl 1 rfl) ?_
          refine csI hx hb hml hown hts hEo hE hK hP hS (kX6_older l D a cI cJ cS hd hEo sv kep bef isk fnd man nex wor sng hea lat tap tpd her flt vlu bit lon cel btw (sv ((156 : Int32) + x4).toNatClampNeg) x1) gX6_years_X6_older rfl hdX6_older ⟨rfl, rfl⟩ ⟨Nat.le_of_ble_eq_true rfl, Nat.le_of_ble_eq_true rfl⟩ ⟨Nat.zero_le _, Nat.zero_le _⟩ rfl hl.1 rfl (Nat.le_of_ble_eq_true rfl) dX6_years_112 (fun H locs hP hS => ?_)
          obtain ⟨i115, hres⟩ := gdi hres
          refine lM_man hx hb hK hP i115 dX6_years_115 ?_
          refine lv_lconst (v := 0) hx hb dX6_years_116 (by decide) ?_
          refine W.lcmp hx hb dX6_years_117 ?_
          refine lv_if_ne (tgt := 125) hx hb dX6_years_118 (by decide) (fun c118 => ?_) (fun c118 => ?_)
          · have hres := (itl hres).2 c118
            exact b125 x4 x2 hres _ _ _ hP hS (lv_sub hl [0, 1, 3, 4] rfl)
          · have hres := (itl hres).1 c118
            refine lv_iconst (v := 1) hx hb dX6_years_121 (by decide) ?_
            refine lv_goto (tgt := 126) hx hb dX6_years_122 (by decide) ?_
            exact b126 x4 x2 true hres _ _ _ hP hS (lv_sub hl [0, 1, 3, 4] rfl)
    unfold fX6_years_l40 at hres
    refine lv_iload_n hx hb dX6_years_40 rfl (lv_at hl 3 rfl) ?_
    refine lv_aload_n hx hb dX6_years_41 rfl (lv_at hl 0 rfl) ?_
    refine gM_this6_s hx hb hown hw6 hK hP u1 dX6_years_42 ?_
    refine lv_iconst (v := 2) hx hb dX6_years_45 (by decide) ?_
    have i46 : vp_in (2 : Int32) 166 := ib_in (by decide)
    refine lM_sv hx hb hK hP i46 dX6_years_46 ?_
    refine lv_icmp_ge (tgt := 140) hx hb dX6_years_47 (by decide) (fun c47 => ?_) (fun c47 => ?_)
    · have hres := (itl hres).1 c47
      exact b140 sv fnd man nex x2 hres _ _ _ hP hS (lv_sub hl [0, 1, 2] rfl)
    · have hres := (itl hres).2 c47
      refine lv_aload_n hx hb dX6_years_50 rfl (lv_at hl 0 rfl) ?_
      refine lv_iload_n hx hb dX6_years_51 rfl (lv_at hl 3 rfl) ?_
      refine lv_aload_n hx hb dX6_years_52 rfl (lv_at hl 0 rfl) ?_
      refine lv_iload_n hx hb dX6_years_53 rfl (lv_at hl 3 rfl) ?_
      obtain ⟨q54, e54, hres⟩ := obd hres
      refine cvI (q0 := 0) (ci := 6) hx hb hml hown hts hEo hE hK hP hS (kX6_long_ l D a cI cJ cS hd hEo sv kep bef isk fnd man nex wor sng hea lat tap tpd her flt vlu bit lon cel btw x3 q54 e54) gX6_years_X6_long_ rfl hdX6_long_ rfl rfl rfl ⟨rfl, rfl⟩ ⟨Nat.le_of_ble_eq_true rfl, Nat.le_of_ble_eq_true rfl⟩ ⟨Nat.zero_le _, Nat.zero_le _⟩ rfl hl.1 rfl (Nat.le_of_ble_eq_true rfl) dX6_years_54 (fun H locs hP hS => ?_)
      obtain ⟨q57, e57, hres⟩ := obd hres
      refine cvV (q0 := 0) (ci := 6) hx hb hml hown hts hEo hE hK hP hS (kX6_counts l D a cI cJ cS hd hEo sv kep bef isk fnd man nex wor sng hea lat tap tpd her flt vlu bit lon cel btw x3 q54 q57 e57) gX6_years_X6_counts rfl hdX6_counts rfl rfl rfl ⟨rfl, rfl⟩ ⟨Nat.le_of_ble_eq_true rfl, Nat.le_of_ble_eq_true rfl⟩ ⟨Nat.zero_le _, Nat.zero_le _⟩ rfl hl.1 rfl (Nat.le_of_ble_eq_true rfl) dX6_years_57 (fun H locs hP hS => ?_)
      refine lv_iconst (v := 0) hx hb dX6_years_60 (by decide) ?_
      refine lv_istore (lv' := [(4, .int (0 : Int32)), (0, .ref (a 0)), (1, .int x1), (2, .int x2), (3, .int x3)]) hx hb dX6_years_61 hl (by decide) rfl (fun ls hl => ?_)
      exact b63 q57.1 q57.2 x3 2000 x2 (0 : Int32) hres _ _ _ hP hS (lv_sub hl [1, 2, 3, 4, 0] rfl)
  unfold fX6_years at hres
  refine lv_iload_n hx hb dX6_years_0 rfl (lv_at hl 1 rfl) ?_
  refine lv_iconst (v := 1) hx hb dX6_years_1 (by decide) ?_
  refine lv_bipush (v := 60) hx hb dX6_years_2 (by decide) ?_
  refine csI hx hb hml hown hts hEo hE hK hP hS (kX6_in l D a cI cJ cS hd hEo sv kep bef isk fnd man nex wor sng hea lat tap tpd her flt vlu bit lon cel btw x1 (1 : Int32) (60 : Int32)) gX6_years_X6_in rfl hdX6_in ⟨rfl, rfl⟩ ⟨Nat.le_of_ble_eq_true rfl, Nat.le_of_ble_eq_true rfl⟩ ⟨Nat.zero_le _, Nat.zero_le _⟩ rfl hl.1 rfl (Nat.le_of_ble_eq_true rfl) dX6_years_4 (fun H locs hP hS => ?_)
  refine lv_if_ne (tgt := 16) hx hb dX6_years_7 (by decide) (fun c7 => ?_) (fun c7 => ?_)
  · have hres := (itl hres).2 c7
    refine lv_aload_n hx hb dX6_years_16 rfl (lv_at hl 0 rfl) ?_
    refine gM_this6_s hx hb hown hw6 hK hP u1 dX6_years_17 ?_
    refine lv_iconst (v := 0) hx hb dX6_years_20 (by decide) ?_
    have i21 : vp_in (0 : Int32) 166 := ib_in (by decide)
    refine lM_sv hx hb hK hP i21 dX6_years_21 ?_
    refine lv_iload_n hx hb dX6_years_22 rfl (lv_at hl 1 rfl) ?_
    refine lv_iadd hx hb dX6_years_23 ?_
    refine lv_sipush (v := 999) hx hb dX6_years_24 (by decide) ?_
    refine lv_icmp_le (tgt := 36) hx hb dX6_years_27 (by decide) (fun c27 => ?_) (fun c27 => ?_)
    · have hres := (itl hres).1 c27
      refine lv_iconst (v := 0) hx hb dX6_years_36 (by decide) ?_
      refine lv_istore_n (lv' := [(2, .int (0 : Int32)), (0, .ref (a 0)), (1, .int x1)]) hx hb dX6_years_37 rfl hl (by decide) rfl (fun ls hl => ?_)
      refine lv_iconst (v := 0) hx hb dX6_years_38 (by decide) ?_
      refine lv_istore_n (lv' := [(3, .int (0 : Int32)), (2, .int (0 : Int32)), (0, .ref (a 0)), (1, .int x1)]) hx hb dX6_years_39 rfl hl (by decide) rfl (fun ls hl => ?_)
      exact b40 sv fnd 2000 (0 : Int32) (0 : Int32) man nex hres _ _ _ hP hS (lv_sub hl [2, 3, 1, 0] rfl)
    · have hres := (itl hres).2 c27
      refine lv_aload_n hx hb dX6_years_30 rfl (lv_at hl 0 rfl) ?_
      refine lv_iconst (v := 4) hx hb dX6_years_31 (by decide) ?_
      obtain ⟨q32, e32, hres⟩ := obd hres
      refine cvI (q0 := 0) (ci := 6) hx hb hml hown hts hEo hE hK hP hS (kX6_no l D a cI cJ cS hd hEo sv kep bef isk fnd man nex wor sng hea lat tap tpd her flt vlu bit lon cel btw (4 : Int32) q32 e32) gX6_years_X6_no rfl hdX6_no rfl rfl rfl ⟨rfl, rfl⟩ ⟨Nat.le_of_ble_eq_true rfl, Nat.le_of_ble_eq_true rfl⟩ ⟨Nat.zero_le _, Nat.zero_le _⟩ rfl hl.1 rfl (Nat.le_of_ble_eq_true rfl) dX6_years_32 (fun H locs hP hS => ?_)
      exact hQ ▸ rtI (v := q32.1)  hx hb hr hlk hP hS (by rw [← (Option.some.inj hres)]) (by rw [← (Option.some.inj hres)]) dX6_years_35
  · have hres := (itl hres).1 c7
    refine lv_aload_n hx hb dX6_years_10 rfl (lv_at hl 0 rfl) ?_
    refine lv_iconst (v := 0) hx hb dX6_years_11 (by decide) ?_
    obtain ⟨q12, e12, hres⟩ := obd hres
    refine cvI (q0 := 0) (ci := 6) hx hb hml hown hts hEo hE hK hP hS (kX6_no l D a cI cJ cS hd hEo sv kep bef isk fnd man nex wor sng hea lat tap tpd her flt vlu bit lon cel btw (0 : Int32) q12 e12) gX6_years_X6_no rfl hdX6_no rfl rfl rfl ⟨rfl, rfl⟩ ⟨Nat.le_of_ble_eq_true rfl, Nat.le_of_ble_eq_true rfl⟩ ⟨Nat.zero_le _, Nat.zero_le _⟩ rfl hl.1 rfl (Nat.le_of_ble_eq_true rfl) dX6_years_12 (fun H locs hP hS => ?_)
    exact hQ ▸ rtI (v := q12.1)  hx hb hr hlk hP hS (by rw [← (Option.some.inj hres)]) (by rw [← (Option.some.inj hres)]) dX6_years_15
def fX6_areTold (sv : Nat → Int32) (x1 : Int32) (x2 : Int32) : Option (Bool) :=
 (fX6_isTale sv x1).bind fun q2 => if (bI q2) = 0 then some false else (fX6_isHearer sv x2).bind fun q10 => if (bI q10) = 0 then some false else some true
abbrev rX6_areTold : Room := { frames := 2, cells := 0, slots := 0, locals := 43 }
set_option maxHeartbeats 4000000 in
set_option maxRecDepth 100000 in
theorem kX6_areTold (l : Launch) (D : va_G) (a : Nat → Nat) (cI cJ cS : ClassId) (hd : aok a 16) {Env : (Nat → Prop) → State → Heap → Prop} (hEo : envOK Env) (sv kep bef : Nat → Int32) (isk : Int32) (fnd : Nat → Int32) (man nex : Nat → Int64) (wor sng hea lat tap : Nat → Int32) (tpd her flt vlu : Int32) (bit lon : Nat → Int32) (cel btw : Nat → Int64) (x1 : Int32) (x2 : Int32) (res : Bool) (hres : fX6_areTold sv x1 x2 = some res) : CtI l D (tyL cI cJ cS) 16 a Env yX6_areTold wsX6_areTold rX6_areTold [.ref (a 0), .int x1, .int x2] (wM a cI cJ cS sv kep bef isk fnd man nex wor sng hea lat tap tpd her flt vlu bit lon cel btw) (wM a cI cJ cS sv kep bef isk fnd man nex wor sng hea lat tap tpd her flt vlu bit lon cel btw) (bI res) := by
  refine CtI_mk (cc := cX6_areTold) (maxL := 3) (ret := (some .boolean)) (by decide) rfl (Nat.le_of_ble_eq_true rfl) ?_
  intro p e s m args below meth c ls hx hb hr hlk hml hown hts hP hK hE hl
  have hS : va_S (adA a 16 s.heap.size) s.heap s.heap [] := va_S.rf
  have hl : lv_has ls 3 [(0, .ref (a 0)), (1, .int x1), (2, .int x2)] := hl
  have hown : s.vm.findClass RX6 = some m.cls := hown
  obtain ⟨Q, hQ⟩ : ∃ Q, Q = mqI below D 16 a args s (wM a cI cJ cS sv kep bef isk fnd man nex wor sng hea lat tap tpd her flt vlu bit lon cel btw) (bI res) := ⟨_, rfl⟩
  rw [← hQ]
  unfold fX6_areTold at hres
  refine lv_aload_n hx hb dX6_areTold_0 rfl (lv_at hl 0 rfl) ?_
  refine lv_iload_n hx hb dX6_areTold_1 rfl (lv_at hl 1 rfl) ?_
  obtain ⟨q2, e2, hres⟩ := obd hres
  refine cvI (q0 := 0) (ci := 6) hx hb hml hown hts hEo hE hK hP hS (kX6_isTale l D a cI cJ cS hd hEo sv kep bef isk fnd man nex wor sng hea lat tap tpd her flt vlu bit lon cel btw x1 q2 e2) gX6_areTold_X6_isTale rfl hdX6_isTale rfl rfl rfl ⟨rfl, rfl⟩ ⟨Nat.le_of_ble_eq_true rfl, Nat.le_of_ble_eq_true rfl⟩ ⟨Nat.zero_le _, Nat.zero_le _⟩ rfl hl.1 rfl (Nat.le_of_ble_eq_true rfl) dX6_areTold_2 (fun H locs hP hS => ?_)
  refine lv_if_eq (tgt := 20) hx hb dX6_areTold_5 (by decide) (fun c5 => ?_) (fun c5 => ?_)
  · have hres := (itl hres).1 c5
    refine lv_iconst (v := 0) hx hb dX6_areTold_20 (by decide) ?_
    exact hQ ▸ rtZ (v := false)  hx hb hr hlk hP hS (by rw [← (Option.some.inj hres)]) rfl dX6_areTold_21
  · have hres := (itl hres).2 c5
    refine lv_aload_n hx hb dX6_areTold_8 rfl (lv_at hl 0 rfl) ?_
    refine lv_iload_n hx hb dX6_areTold_9 rfl (lv_at hl 2 rfl) ?_
    obtain ⟨q10, e10, hres⟩ := obd hres
    refine cvI (q0 := 0) (ci := 6) hx hb hml hown hts hEo hE hK hP hS (kX6_isHearer l D a cI cJ cS hd hEo sv kep bef isk fnd man nex wor sng hea lat tap tpd her flt vlu bit lon cel btw x2 q10 e10) gX6_areTold_X6_isHearer rfl hdX6_isHearer rfl rfl rfl ⟨rfl, rfl⟩ ⟨Nat.le_of_ble_eq_true rfl, Nat.le_of_ble_eq_true rfl⟩ ⟨Nat.zero_le _, Nat.zero_le _⟩ rfl hl.1 rfl (Nat.le_of_ble_eq_true rfl) dX6_areTold_10 (fun H locs hP hS => ?_)
    refine lv_if_eq (tgt := 20) hx hb dX6_areTold_13 (by decide) (fun c13 => ?_) (fun c13 => ?_)
    · have hres := (itl hres).1 c13
      refine lv_iconst (v := 0) hx hb dX6_areTold_20 (by decide) ?_
      exact hQ ▸ rtZ (v := false)  hx hb hr hlk hP hS (by rw [← (Option.some.inj hres)]) rfl dX6_areTold_21
    · have hres := (itl hres).2 c13
      refine lv_iconst (v := 1) hx hb dX6_areTold_16 (by decide) ?_
      refine lv_goto (tgt := 21) hx hb dX6_areTold_17 (by decide) ?_
      exact hQ ▸ rtZ (v := true)  hx hb hr hlk hP hS (by rw [← (Option.some.inj hres)]) rfl dX6_areTold_21
def fX6_firstYear_b50 (K13 : Int32 → Option (Int32 × (Nat → Int64) × (Nat → Int64))) (man : Nat → Int64) (nex : Nat → Int64) (x3 : Bool) (x4 : Int32) (z0 : Bool) : Option (Int32 × (Nat → Int64) × (Nat → Int64)) :=
  if (bI z0) = (bI x3) then some (x4, man, nex) else K13 (x4 + 1)
def fX6_firstYear_l13 (sv : Nat → Int32) (man : Nat → Int64) (nex : Nat → Int64) (x2 : Int32) (x3 : Bool) (K13 : Int32 → Option (Int32 × (Nat → Int64) × (Nat → Int64))) (x4 : Int32) : Option (Int32 × (Nat → Int64) × (Nat → Int64)) :=
  if (99 : Int32) < x4 then some (x4, man, nex) else gd (ib ((156 : Int32) + x2) 166) (gd (ib (fX6_older (sv ((156 : Int32) + x2).toNatClampNeg) x4) 121) (if (lg_cmp (man (fX6_older (sv ((156 : Int32) + x2).toNatClampNeg) x4).toNatClampNeg) (0 : Int64)) ≤ 0 then fX6_firstYear_b50 K13 man nex x3 x4 false else fX6_firstYear_b50 K13 man nex x3 x4 true))
def fX6_firstYear (sv : Nat → Int32) (man : Nat → Int64) (nex : Nat → Int64) (x1 : Int32) (x2 : Int32) (x3 : Bool) : Option (Int32 × (Nat → Int64) × (Nat → Int64)) :=
 (fX6_long_ sv x1).bind fun q4 => (fX6_counts sv man nex x1 q4).bind fun q7 => fix1 (fX6_firstYear_l13 sv q7.1 q7.2 x2 x3) 2000 (0 : Int32)
abbrev rX6_firstYear : Room := { frames := 3, cells := 0, slots := 0, locals := 71 }
set_option maxHeartbeats 4000000 in
set_option maxRecDepth 100000 in
theorem kX6_firstYear (l : Launch) (D : va_G) (a : Nat → Nat) (cI cJ cS : ClassId) (hd : aok a 16) {Env : (Nat → Prop) → State → Heap → Prop} (hEo : envOK Env) (sv kep bef : Nat → Int32) (isk : Int32) (fnd : Nat → Int32) (man nex : Nat → Int64) (wor sng hea lat tap : Nat → Int32) (tpd her flt vlu : Int32) (bit lon : Nat → Int32) (cel btw : Nat → Int64) (x1 : Int32) (x2 : Int32) (x3 : Bool) (res : Int32 × (Nat → Int64) × (Nat → Int64)) (hres : fX6_firstYear sv man nex x1 x2 x3 = some res) : CtI l D (tyL cI cJ cS) 16 a Env yX6_firstYear wsX6_firstYear rX6_firstYear [.ref (a 0), .int x1, .int x2, .int (bI x3)] (wM a cI cJ cS sv kep bef isk fnd man nex wor sng hea lat tap tpd her flt vlu bit lon cel btw) (wM a cI cJ cS sv kep bef isk fnd res.2.1 res.2.2 wor sng hea lat tap tpd her flt vlu bit lon cel btw) res.1 := by
  refine CtI_mk (cc := cX6_firstYear) (maxL := 5) (ret := (some .int)) (by decide) rfl (Nat.le_of_ble_eq_true rfl) ?_
  intro p e s m args below meth c ls hx hb hr hlk hml hown hts hP hK hE hl
  have hS : va_S (adA a 16 s.heap.size) s.heap s.heap [] := va_S.rf
  have hl : lv_has ls 5 [(0, .ref (a 0)), (1, .int x1), (2, .int x2), (3, .int (bI x3))] := hl
  have hown : s.vm.findClass RX6 = some m.cls := hown
  have hw6 : ∀ w ∈ wsX60, w.before args s = true := fun w h => hts w (List.mem_cons_of_mem _ (List.mem_append_right _ h))
  have u1 : (Cond.fieldLink RX6 22 "YearWordsModel" "many" "[J").before args s = true := hts _ (List.mem_of_getElem? (i := 1) (by decide +kernel))
  have u2 : (Cond.fieldLink RX6 9 "YearWordsModel" "s" "[I").before args s = true := hts _ (List.mem_of_getElem? (i := 2) (by decide +kernel))
  obtain ⟨Q, hQ⟩ : ∃ Q, Q = mqI below D 16 a args s (wM a cI cJ cS sv kep bef isk fnd res.2.1 res.2.2 wor sng hea lat tap tpd her flt vlu bit lon cel btw) res.1 := ⟨_, rfl⟩
  rw [← hQ]
  have b13 : ∀ (man : Nat → Int64) (nex : Nat → Int64) (n : Nat) (x4 : Int32), fix1 (fX6_firstYear_l13 sv man nex x2 x3) n x4 = some res → ∀ (H : Heap) (locs : List Loc) (ls : Array Slot), va_P D vwCl (wM a cI cJ cS sv kep bef isk fnd man nex wor sng hea lat tap tpd her flt vlu bit lon cel btw) H → va_S (adA a 16 s.heap.size) s.heap H locs → lv_has ls 5 [(0, .ref (a 0)), (2, .int x2), (3, .int (bI x3)), (4, .int x4)] → W p l e rX6_firstYear s m args below meth c H locs 0 0 Q (F0 m 13 ls []) := by
    intro man nex
    refine fix1_r ?_
    intro K13 hK13 x4 hres H locs ls hP hS hl
    have b50 : ∀ (x4 : Int32) (z0 : Bool), fX6_firstYear_b50 K13 man nex x3 x4 z0 = some res → ∀ (H : Heap) (locs : List Loc) (ls : Array Slot), va_P D vwCl (wM a cI cJ cS sv kep bef isk fnd man nex wor sng hea lat tap tpd her flt vlu bit lon cel btw) H → va_S (adA a 16 s.heap.size) s.heap H locs → lv_has ls 5 [(0, .ref (a 0)), (2, .int x2), (3, .int (bI x3)), (4, .int x4)] → W p l e rX6_firstYear s m args below meth c H locs 0 0 Q (F0 m 50 ls [.int (bI z0)]) := by
      intro x4 z0 hres H locs ls hP hS hl
      unfold fX6_firstYear_b50 at hres
      refine lv_iload_n hx hb dX6_firstYear_50 rfl (lv_at hl 2 rfl) ?_
      refine lv_icmp_eq (tgt := 60) hx hb dX6_firstYear_51 (by decide) (fun c51 => ?_) (fun c51 => ?_)
      · have hres := (itl hres).1 c51
        refine lv_iload hx hb dX6_firstYear_60 (lv_at hl 3 rfl) ?_
        exact hQ ▸ rtI (v := x4)  hx hb hr hlk hP hS (by rw [← (Option.some.inj hres)]) (by rw [← (Option.some.inj hres)]) dX6_firstYear_62
      · have hres := (itl hres).2 c51
        refine lv_iinc (v := x4 + 1) (lv' := [(4, .int (x4 + 1)), (0, .ref (a 0)), (2, .int x2), (3, .int (bI x3))]) hx hb dX6_firstYear_54 hl (k := 3) rfl (congrArg (fun z => x4 + z) (by decide)) (by decide) rfl (fun ls hl => ?_)
        refine lv_goto (tgt := 13) hx hb dX6_firstYear_57 (by decide) ?_
        exact hK13 (x4 + 1) hres _ _ _ hP hS (lv_sub hl [1, 2, 3, 0] rfl)
    unfold fX6_firstYear_l13 at hres
    refine lv_iload hx hb dX6_firstYear_13 (lv_at hl 3 rfl) ?_
    refine lv_bipush (v := 99) hx hb dX6_firstYear_15 (by decide) ?_
    refine lv_icmp_gt (tgt := 60) hx hb dX6_firstYear_17 (by decide) (fun c17 => ?_) (fun c17 => ?_)
    · have hres := (itl hres).1 c17
      refine lv_iload hx hb dX6_firstYear_60 (lv_at hl 3 rfl) ?_
      exact hQ ▸ rtI (v := x4)  hx hb hr hlk hP hS (by rw [← (Option.some.inj hres)]) (by rw [← (Option.some.inj hres)]) dX6_firstYear_62
    · have hres := (itl hres).2 c17
      refine lv_aload_n hx hb dX6_firstYear_20 rfl (lv_at hl 0 rfl) ?_
      refine gM_this6_many hx hb hown hw6 hK hP u1 dX6_firstYear_21 ?_
      refine lv_aload_n hx hb dX6_firstYear_24 rfl (lv_at hl 0 rfl) ?_
      refine gM_this6_s hx hb hown hw6 hK hP u2 dX6_firstYear_25 ?_
      refine lv_sipush (v := 156) hx hb dX6_firstYear_28 (by decide) ?_
      refine lv_iload_n hx hb dX6_firstYear_31 rfl (lv_at hl 1 rfl) ?_
      refine lv_iadd hx hb dX6_firstYear_32 ?_
      obtain ⟨i33, hres⟩ := gdi hres
      refine lM_sv hx hb hK hP i33 dX6_firstYear_33 ?_
      refine lv_iload hx hb dX6_firstYear_34 (lv_at hl 3 rfl) ?_
      refine csI hx hb hml hown hts hEo hE hK hP hS (kX6_older l D a cI cJ cS hd hEo sv kep bef isk fnd man nex wor sng hea lat tap tpd her flt vlu bit lon cel btw (sv ((156 : Int32) + x2).toNatClampNeg) x4) gX6_firstYear_X6_older rfl hdX6_older ⟨rfl, rfl⟩ ⟨Nat.le_of_ble_eq_true rfl, Nat.le_of_ble_eq_true rfl⟩ ⟨Nat.zero_le _, Nat.zero_le _⟩ rfl hl.1 rfl (Nat.le_of_ble_eq_true rfl) dX6_firstYear_36 (fun H locs hP hS => ?_)
      obtain ⟨i39, hres⟩ := gdi hres
      refine lM_man hx hb hK hP i39 dX6_firstYear_39 ?_
      refine lv_lconst (v := 0) hx hb dX6_firstYear_40 (by decide) ?_
      refine W.lcmp hx hb dX6_firstYear_41 ?_
      refine lv_if_le (tgt := 49) hx hb dX6_firstYear_42 (by decide) (fun c42 => ?_) (fun c42 => ?_)
      · have hres := (itl hres).1 c42
        refine lv_iconst (v := 0) hx hb dX6_firstYear_49 (by decide) ?_
        exact b50 x4 false hres _ _ _ hP hS (lv_sub hl [0, 1, 2, 3] rfl)
      · have hres := (itl hres).2 c42
        refine lv_iconst (v := 1) hx hb dX6_firstYear_45 (by decide) ?_
        refine lv_goto (tgt := 50) hx hb dX6_firstYear_46 (by decide) ?_
        exact b50 x4 true hres _ _ _ hP hS (lv_sub hl [0, 1, 2, 3] rfl)
  unfold fX6_firstYear at hres
  refine lv_aload_n hx hb dX6_firstYear_0 rfl (lv_at hl 0 rfl) ?_
  refine lv_iload_n hx hb dX6_firstYear_1 rfl (lv_at hl 1 rfl) ?_
  refine lv_aload_n hx hb dX6_firstYear_2 rfl (lv_at hl 0 rfl) ?_
  refine lv_iload_n hx hb dX6_firstYear_3 rfl (lv_at hl 1 rfl) ?_
  obtain ⟨q4, e4, hres⟩ := obd hres
  refine cvI (q0 := 0) (ci := 6) hx hb hml hown hts hEo hE hK hP hS (kX6_long_ l D a cI cJ cS hd hEo sv kep bef isk fnd man nex wor sng hea lat tap tpd her flt vlu bit lon cel btw x1 q4 e4) gX6_firstYear_X6_long_ rfl hdX6_long_ rfl rfl rfl ⟨rfl, rfl⟩ ⟨Nat.le_of_ble_eq_true rfl, Nat.le_of_ble_eq_true rfl⟩ ⟨Nat.zero_le _, Nat.zero_le _⟩ rfl hl.1 rfl (Nat.le_of_ble_eq_true rfl) dX6_firstYear_4 (fun H locs hP hS => ?_)
  obtain ⟨q7, e7, hres⟩ := obd hres
  refine cvV (q0 := 0) (ci := 6) hx hb hml hown hts hEo hE hK hP hS (kX6_counts l D a cI cJ cS hd hEo sv kep bef isk fnd man nex wor sng hea lat tap tpd her flt vlu bit lon cel btw x1 q4 q7 e7) gX6_firstYear_X6_counts rfl hdX6_counts rfl rfl rfl ⟨rfl, rfl⟩ ⟨Nat.le_of_ble_eq_true rfl, Nat.le_of_ble_eq_true rfl⟩ ⟨Nat.zero_le _, Nat.zero_le _⟩ rfl hl.1 rfl (Nat.le_of_ble_eq_true rfl) dX6_firstYear_7 (fun H locs hP hS => ?_)
  refine lv_iconst (v := 0) hx hb dX6_firstYear_10 (by decide) ?_
  refine lv_istore (lv' := [(4, .int (0 : Int32)), (0, .ref (a 0)), (1, .int x1), (2, .int x2), (3, .int (bI x3))]) hx hb dX6_firstYear_11 hl (by decide) rfl (fun ls hl => ?_)
  exact b13 q7.1 q7.2 2000 (0 : Int32) hres _ _ _ hP hS (lv_sub hl [1, 3, 4, 0] rfl)
def fX6_when (sv : Nat → Int32) (fnd : Nat → Int32) (man : Nat → Int64) (nex : Nat → Int64) (x1 : Int32) (x2 : Int32) : Option (Int32 × (Nat → Int32) × (Nat → Int64) × (Nat → Int64)) :=
 (fX6_areTold sv x1 x2).bind fun q3 => if (bI q3) = 0 then (fX6_no fnd (0 : Int32)).bind fun q11 => some (q11.1, q11.2, man, nex) else (fX6_firstYear sv man nex x1 x2 true).bind fun q19 => if q19.1 ≤ (99 : Int32) then some (q19.1, fnd, q19.2.1, q19.2.2) else (fX6_no fnd (3 : Int32)).bind fun q31 => some (q31.1, q31.2, q19.2.1, q19.2.2)
theorem hdX6_areTold : yX6_areTold.cls = RX6 ∧ yX6_areTold.cls ≠ "java/lang/invoke/MethodHandle" ∧ yX6_areTold.cls ≠ "java/lang/invoke/VarHandle" ∧ (parseMethodDescriptor yX6_areTold.desc).map (fun d => d.parameters.length) = some 2 := by decide +kernel
theorem hdX6_firstYear : yX6_firstYear.cls = RX6 ∧ yX6_firstYear.cls ≠ "java/lang/invoke/MethodHandle" ∧ yX6_firstYear.cls ≠ "java/lang/invoke/VarHandle" ∧ (parseMethodDescriptor yX6_firstYear.desc).map (fun d => d.parameters.length) = some 3 := by decide +kernel
abbrev rX6_when : Room := { frames := 4, cells := 0, slots := 0, locals := 95 }
set_option maxHeartbeats 4000000 in
set_option maxRecDepth 100000 in
theorem kX6_when (l : Launch) (D : va_G) (a : Nat → Nat) (cI cJ cS : ClassId) (hd : aok a 16) {Env : (Nat → Prop) → State → Heap → Prop} (hEo : envOK Env) (sv kep bef : Nat → Int32) (isk : Int32) (fnd : Nat → Int32) (man nex : Nat → Int64) (wor sng hea lat tap : Nat → Int32) (tpd her flt vlu : Int32) (bit lon : Nat → Int32) (cel btw : Nat → Int64) (x1 : Int32) (x2 : Int32) (res : Int32 × (Nat → Int32) × (Nat → Int64) × (Nat → Int64)) (hres : fX6_when sv fnd man nex x1 x2 = some res) : CtI l D (tyL cI cJ cS) 16 a Env yX6_when wsX6_when rX6_when [.ref (a 0), .int x1, .int x2] (wM a cI cJ cS sv kep bef isk fnd man nex wor sng hea lat tap tpd her flt vlu bit lon cel btw) (wM a cI cJ cS sv kep bef isk res.2.1 res.2.2.1 res.2.2.2 wor sng hea lat tap tpd her flt vlu bit lon cel btw) res.1 := by
  refine CtI_mk (cc := cX6_when) (maxL := 4) (ret := (some .int)) (by decide) rfl (Nat.le_of_ble_eq_true rfl) ?_
  intro p e s m args below meth c ls hx hb hr hlk hml hown hts hP hK hE hl
  have hS : va_S (adA a 16 s.heap.size) s.heap s.heap [] := va_S.rf
  have hl : lv_has ls 4 [(0, .ref (a 0)), (1, .int x1), (2, .int x2)] := hl
  have hown : s.vm.findClass RX6 = some m.cls := hown
  obtain ⟨Q, hQ⟩ : ∃ Q, Q = mqI below D 16 a args s (wM a cI cJ cS sv kep bef isk res.2.1 res.2.2.1 res.2.2.2 wor sng hea lat tap tpd her flt vlu bit lon cel btw) res.1 := ⟨_, rfl⟩
  rw [← hQ]
  unfold fX6_when at hres
  refine lv_aload_n hx hb dX6_when_0 rfl (lv_at hl 0 rfl) ?_
  refine lv_iload_n hx hb dX6_when_1 rfl (lv_at hl 1 rfl) ?_
  refine lv_iload_n hx hb dX6_when_2 rfl (lv_at hl 2 rfl) ?_
  obtain ⟨q3, e3, hres⟩ := obd hres
  refine cvI (q0 := 0) (ci := 6) hx hb hml hown hts hEo hE hK hP hS (kX6_areTold l D a cI cJ cS hd hEo sv kep bef isk fnd man nex wor sng hea lat tap tpd her flt vlu bit lon cel btw x1 x2 q3 e3) gX6_when_X6_areTold rfl hdX6_areTold rfl rfl rfl ⟨rfl, rfl⟩ ⟨Nat.le_of_ble_eq_true rfl, Nat.le_of_ble_eq_true rfl⟩ ⟨Nat.zero_le _, Nat.zero_le _⟩ rfl hl.1 rfl (Nat.le_of_ble_eq_true rfl) dX6_when_3 (fun H locs hP hS => ?_)
  refine lv_if_ne (tgt := 15) hx hb dX6_when_6 (by decide) (fun c6 => ?_) (fun c6 => ?_)
  · have hres := (itl hres).2 c6
    refine lv_aload_n hx hb dX6_when_15 rfl (lv_at hl 0 rfl) ?_
    refine lv_iload_n hx hb dX6_when_16 rfl (lv_at hl 1 rfl) ?_
    refine lv_iload_n hx hb dX6_when_17 rfl (lv_at hl 2 rfl) ?_
    refine lv_iconst (v := 1) hx hb dX6_when_18 (by decide) ?_
    obtain ⟨q19, e19, hres⟩ := obd hres
    refine cvI (q0 := 0) (ci := 6) hx hb hml hown hts hEo hE hK hP hS (kX6_firstYear l D a cI cJ cS hd hEo sv kep bef isk fnd man nex wor sng hea lat tap tpd her flt vlu bit lon cel btw x1 x2 true q19 e19) gX6_when_X6_firstYear rfl hdX6_firstYear rfl rfl rfl ⟨rfl, rfl⟩ ⟨Nat.le_of_ble_eq_true rfl, Nat.le_of_ble_eq_true rfl⟩ ⟨Nat.zero_le _, Nat.zero_le _⟩ rfl hl.1 rfl (Nat.le_of_ble_eq_true rfl) dX6_when_19 (fun H locs hP hS => ?_)
    refine lv_istore_n (lv' := [(3, .int q19.1), (0, .ref (a 0)), (1, .int x1), (2, .int x2)]) hx hb dX6_when_22 rfl hl (by decide) rfl (fun ls hl => ?_)
    refine lv_iload_n hx hb dX6_when_23 rfl (lv_at hl 0 rfl) ?_
    refine lv_bipush (v := 99) hx hb dX6_when_24 (by decide) ?_
    refine lv_icmp_le (tgt := 37) hx hb dX6_when_26 (by decide) (fun c26 => ?_) (fun c26 => ?_)
    · have hres := (itl hres).1 c26
      refine lv_iload_n hx hb dX6_when_37 rfl (lv_at hl 0 rfl) ?_
      exact hQ ▸ rtI (v := q19.1)  hx hb hr hlk hP hS (by rw [← (Option.some.inj hres)]) (by rw [← (Option.some.inj hres)]) dX6_when_38
    · have hres := (itl hres).2 c26
      refine lv_aload_n hx hb dX6_when_29 rfl (lv_at hl 1 rfl) ?_
      refine lv_iconst (v := 3) hx hb dX6_when_30 (by decide) ?_
      obtain ⟨q31, e31, hres⟩ := obd hres
      refine cvI (q0 := 0) (ci := 6) hx hb hml hown hts hEo hE hK hP hS (kX6_no l D a cI cJ cS hd hEo sv kep bef isk fnd q19.2.1 q19.2.2 wor sng hea lat tap tpd her flt vlu bit lon cel btw (3 : Int32) q31 e31) gX6_when_X6_no rfl hdX6_no rfl rfl rfl ⟨rfl, rfl⟩ ⟨Nat.le_of_ble_eq_true rfl, Nat.le_of_ble_eq_true rfl⟩ ⟨Nat.zero_le _, Nat.zero_le _⟩ rfl hl.1 rfl (Nat.le_of_ble_eq_true rfl) dX6_when_31 (fun H locs hP hS => ?_)
      refine lv_goto (tgt := 38) hx hb dX6_when_34 (by decide) ?_
      exact hQ ▸ rtI (v := q31.1)  hx hb hr hlk hP hS (by rw [← (Option.some.inj hres)]) (by rw [← (Option.some.inj hres)]) dX6_when_38
  · have hres := (itl hres).1 c6
    refine lv_aload_n hx hb dX6_when_9 rfl (lv_at hl 0 rfl) ?_
    refine lv_iconst (v := 0) hx hb dX6_when_10 (by decide) ?_
    obtain ⟨q11, e11, hres⟩ := obd hres
    refine cvI (q0 := 0) (ci := 6) hx hb hml hown hts hEo hE hK hP hS (kX6_no l D a cI cJ cS hd hEo sv kep bef isk fnd man nex wor sng hea lat tap tpd her flt vlu bit lon cel btw (0 : Int32) q11 e11) gX6_when_X6_no rfl hdX6_no rfl rfl rfl ⟨rfl, rfl⟩ ⟨Nat.le_of_ble_eq_true rfl, Nat.le_of_ble_eq_true rfl⟩ ⟨Nat.zero_le _, Nat.zero_le _⟩ rfl hl.1 rfl (Nat.le_of_ble_eq_true rfl) dX6_when_11 (fun H locs hP hS => ?_)
    exact hQ ▸ rtI (v := q11.1)  hx hb hr hlk hP hS (by rw [← (Option.some.inj hres)]) (by rw [← (Option.some.inj hres)]) dX6_when_14
def fX6_till (sv : Nat → Int32) (fnd : Nat → Int32) (man : Nat → Int64) (nex : Nat → Int64) (x1 : Int32) (x2 : Int32) : Option (Int32 × (Nat → Int32) × (Nat → Int64) × (Nat → Int64)) :=
 (fX6_areTold sv x1 x2).bind fun q3 => if (bI q3) = 0 then (fX6_no fnd (0 : Int32)).bind fun q21 => some (q21.1, q21.2, man, nex) else (fX6_firstYear sv man nex x1 x2 false).bind fun q13 => some (q13.1, fnd, q13.2.1, q13.2.2)
abbrev rX6_till : Room := { frames := 4, cells := 0, slots := 0, locals := 95 }
set_option maxHeartbeats 4000000 in
set_option maxRecDepth 100000 in
theorem kX6_till (l : Launch) (D : va_G) (a : Nat → Nat) (cI cJ cS : ClassId) (hd : aok a 16) {Env : (Nat → Prop) → State → Heap → Prop} (hEo : envOK Env) (sv kep bef : Nat → Int32) (isk : Int32) (fnd : Nat → Int32) (man nex : Nat → Int64) (wor sng hea lat tap : Nat → Int32) (tpd her flt vlu : Int32) (bit lon : Nat → Int32) (cel btw : Nat → Int64) (x1 : Int32) (x2 : Int32) (res : Int32 × (Nat → Int32) × (Nat → Int64) × (Nat → Int64)) (hres : fX6_till sv fnd man nex x1 x2 = some res) : CtI l D (tyL cI cJ cS) 16 a Env yX6_till wsX6_till rX6_till [.ref (a 0), .int x1, .int x2] (wM a cI cJ cS sv kep bef isk fnd man nex wor sng hea lat tap tpd her flt vlu bit lon cel btw) (wM a cI cJ cS sv kep bef isk res.2.1 res.2.2.1 res.2.2.2 wor sng hea lat tap tpd her flt vlu bit lon cel btw) res.1 := by
  refine CtI_mk (cc := cX6_till) (maxL := 3) (ret := (some .int)) (by decide) rfl (Nat.le_of_ble_eq_true rfl) ?_
  intro p e s m args below meth c ls hx hb hr hlk hml hown hts hP hK hE hl
  have hS : va_S (adA a 16 s.heap.size) s.heap s.heap [] := va_S.rf
  have hl : lv_has ls 3 [(0, .ref (a 0)), (1, .int x1), (2, .int x2)] := hl
  have hown : s.vm.findClass RX6 = some m.cls := hown
  obtain ⟨Q, hQ⟩ : ∃ Q, Q = mqI below D 16 a args s (wM a cI cJ cS sv kep bef isk res.2.1 res.2.2.1 res.2.2.2 wor sng hea lat tap tpd her flt vlu bit lon cel btw) res.1 := ⟨_, rfl⟩
  rw [← hQ]
  unfold fX6_till at hres
  refine lv_aload_n hx hb dX6_till_0 rfl (lv_at hl 0 rfl) ?_
  refine lv_iload_n hx hb dX6_till_1 rfl (lv_at hl 1 rfl) ?_
  refine lv_iload_n hx hb dX6_till_2 rfl (lv_at hl 2 rfl) ?_
  obtain ⟨q3, e3, hres⟩ := obd hres
  refine cvI (q0 := 0) (ci := 6) hx hb hml hown hts hEo hE hK hP hS (kX6_areTold l D a cI cJ cS hd hEo sv kep bef isk fnd man nex wor sng hea lat tap tpd her flt vlu bit lon cel btw x1 x2 q3 e3) gX6_till_X6_areTold rfl hdX6_areTold rfl rfl rfl ⟨rfl, rfl⟩ ⟨Nat.le_of_ble_eq_true rfl, Nat.le_of_ble_eq_true rfl⟩ ⟨Nat.zero_le _, Nat.zero_le _⟩ rfl hl.1 rfl (Nat.le_of_ble_eq_true rfl) dX6_till_3 (fun H locs hP hS => ?_)
  refine lv_if_eq (tgt := 19) hx hb dX6_till_6 (by decide) (fun c6 => ?_) (fun c6 => ?_)
  · have hres := (itl hres).1 c6
    refine lv_aload_n hx hb dX6_till_19 rfl (lv_at hl 0 rfl) ?_
    refine lv_iconst (v := 0) hx hb dX6_till_20 (by decide) ?_
    obtain ⟨q21, e21, hres⟩ := obd hres
    refine cvI (q0 := 0) (ci := 6) hx hb hml hown hts hEo hE hK hP hS (kX6_no l D a cI cJ cS hd hEo sv kep bef isk fnd man nex wor sng hea lat tap tpd her flt vlu bit lon cel btw (0 : Int32) q21 e21) gX6_till_X6_no rfl hdX6_no rfl rfl rfl ⟨rfl, rfl⟩ ⟨Nat.le_of_ble_eq_true rfl, Nat.le_of_ble_eq_true rfl⟩ ⟨Nat.zero_le _, Nat.zero_le _⟩ rfl hl.1 rfl (Nat.le_of_ble_eq_true rfl) dX6_till_21 (fun H locs hP hS => ?_)
    exact hQ ▸ rtI (v := q21.1)  hx hb hr hlk hP hS (by rw [← (Option.some.inj hres)]) (by rw [← (Option.some.inj hres)]) dX6_till_24
  · have hres := (itl hres).2 c6
    refine lv_aload_n hx hb dX6_till_9 rfl (lv_at hl 0 rfl) ?_
    refine lv_iload_n hx hb dX6_till_10 rfl (lv_at hl 1 rfl) ?_
    refine lv_iload_n hx hb dX6_till_11 rfl (lv_at hl 2 rfl) ?_
    refine lv_iconst (v := 0) hx hb dX6_till_12 (by decide) ?_
    obtain ⟨q13, e13, hres⟩ := obd hres
    refine cvI (q0 := 0) (ci := 6) hx hb hml hown hts hEo hE hK hP hS (kX6_firstYear l D a cI cJ cS hd hEo sv kep bef isk fnd man nex wor sng hea lat tap tpd her flt vlu bit lon cel btw x1 x2 false q13 e13) gX6_till_X6_firstYear rfl hdX6_firstYear rfl rfl rfl ⟨rfl, rfl⟩ ⟨Nat.le_of_ble_eq_true rfl, Nat.le_of_ble_eq_true rfl⟩ ⟨Nat.zero_le _, Nat.zero_le _⟩ rfl hl.1 rfl (Nat.le_of_ble_eq_true rfl) dX6_till_13 (fun H locs hP hS => ?_)
    refine lv_goto (tgt := 24) hx hb dX6_till_16 (by decide) ?_
    exact hQ ▸ rtI (v := q13.1)  hx hb hr hlk hP hS (by rw [← (Option.some.inj hres)]) (by rw [← (Option.some.inj hres)]) dX6_till_24
def fX6_heard_b16 (fnd : Nat → Int32) (wor : Nat → Int32) (sng : Nat → Int32) : Option (Int32 × (Nat → Int32) × (Nat → Int32) × (Nat → Int32)) :=
 (fX6_no fnd (0 : Int32)).bind fun q18 => some (q18.1, q18.2, wor, sng)
def fX6_heard_l43 (sv : Nat → Int32) (fnd : Nat → Int32) (wor : Nat → Int32) (sng : Nat → Int32) (x1 : Int32) (x3 : Int32) (K43 : Int32 → Int32 → Option (Int32 × (Nat → Int32) × (Nat → Int32) × (Nat → Int32))) (x4 : Int32) (x5 : Int32) : Option (Int32 × (Nat → Int32) × (Nat → Int32) × (Nat → Int32)) :=
 (fX6_long_ sv x1).bind fun q47 => if q47 ≤ x5 then some (x5, fnd, wor, sng) else gd (ib x5 10) (gd (ib ((156 : Int32) + x3) 166) (if (sv ((156 : Int32) + x3).toNatClampNeg) < (x4 + (sng x5.toNatClampNeg)) then some (x5, fnd, wor, sng) else gd (ib x5 10) (K43 (x4 + (sng x5.toNatClampNeg)) (x5 + 1))))
def fX6_heard (sv : Nat → Int32) (fnd : Nat → Int32) (wor : Nat → Int32) (sng : Nat → Int32) (x1 : Int32) (x2 : Int32) (x3 : Int32) : Option (Int32 × (Nat → Int32) × (Nat → Int32) × (Nat → Int32)) :=
 (fX6_areTold sv x1 x3).bind fun q3 => if (bI q3) = 0 then fX6_heard_b16 fnd wor sng else if (bI (fX6_isWords x2)) = 0 then fX6_heard_b16 fnd wor sng else (fX6_says sv wor sng x1 x2).bind fun q25 => if (bI q25.1) = 0 then (fX6_no fnd (3 : Int32)).bind fun q33 => some (q33.1, q33.2, q25.2.1, q25.2.2) else fix2 (fX6_heard_l43 sv fnd q25.2.1 q25.2.2 x1 x3) 2000 (0 : Int32) (0 : Int32)
abbrev rX6_heard : Room := { frames := 4, cells := 0, slots := 0, locals := 101 }
set_option maxHeartbeats 4000000 in
set_option maxRecDepth 100000 in
theorem kX6_heard (l : Launch) (D : va_G) (a : Nat → Nat) (cI cJ cS : ClassId) (hd : aok a 16) {Env : (Nat → Prop) → State → Heap → Prop} (hEo : envOK Env) (sv kep bef : Nat → Int32) (isk : Int32) (fnd : Nat → Int32) (man nex : Nat → Int64) (wor sng hea lat tap : Nat → Int32) (tpd her flt vlu : Int32) (bit lon : Nat → Int32) (cel btw : Nat → Int64) (x1 : Int32) (x2 : Int32) (x3 : Int32) (res : Int32 × (Nat → Int32) × (Nat → Int32) × (Nat → Int32)) (hres : fX6_heard sv fnd wor sng x1 x2 x3 = some res) : CtI l D (tyL cI cJ cS) 16 a Env yX6_heard wsX6_heard rX6_heard [.ref (a 0), .int x1, .int x2, .int x3] (wM a cI cJ cS sv kep bef isk fnd man nex wor sng hea lat tap tpd her flt vlu bit lon cel btw) (wM a cI cJ cS sv kep bef isk res.2.1 man nex res.2.2.1 res.2.2.2 hea lat tap tpd her flt vlu bit lon cel btw) res.1 := by
  refine CtI_mk (cc := cX6_heard) (maxL := 6) (ret := (some .int)) (by decide) rfl (Nat.le_of_ble_eq_true rfl) ?_
  intro p e s m args below meth c ls hx hb hr hlk hml hown hts hP hK hE hl
  have hS : va_S (adA a 16 s.heap.size) s.heap s.heap [] := va_S.rf
  have hl : lv_has ls 6 [(0, .ref (a 0)), (1, .int x1), (2, .int x2), (3, .int x3)] := hl
  have hown : s.vm.findClass RX6 = some m.cls := hown
  have hw6 : ∀ w ∈ wsX60, w.before args s = true := fun w h => hts w (List.mem_cons_of_mem _ (List.mem_append_right _ h))
  have u1 : (Cond.fieldLink RX6 32 "YearWordsModel" "saying" "[I").before args s = true := hts _ (List.mem_of_getElem? (i := 1) (by decide +kernel))
  have u2 : (Cond.fieldLink RX6 9 "YearWordsModel" "s" "[I").before args s = true := hts _ (List.mem_of_getElem? (i := 2) (by decide +kernel))
  obtain ⟨Q, hQ⟩ : ∃ Q, Q = mqI below D 16 a args s (wM a cI cJ cS sv kep bef isk res.2.1 man nex res.2.2.1 res.2.2.2 hea lat tap tpd her flt vlu bit lon cel btw) res.1 := ⟨_, rfl⟩
  rw [← hQ]
  have b16 : ∀ (fnd : Nat → Int32) (wor : Nat → Int32) (sng : Nat → Int32), fX6_heard_b16 fnd wor sng = some res → ∀ (H : Heap) (locs : List Loc) (ls : Array Slot), va_P D vwCl (wM a cI cJ cS sv kep bef isk fnd man nex wor sng hea lat tap tpd her flt vlu bit lon cel btw) H → va_S (adA a 16 s.heap.size) s.heap H locs → lv_has ls 6 [(0, .ref (a 0))] → W p l e rX6_heard s m args below meth c H locs 0 0 Q (F0 m 16 ls []) := by
    intro fnd wor sng hres H locs ls hP hS hl
    unfold fX6_heard_b16 at hres
    refine lv_aload_n hx hb dX6_heard_16 rfl (lv_at hl 0 rfl) ?_
    refine lv_iconst (v := 0) hx hb dX6_heard_17 (by decide) ?_
    obtain ⟨q18, e18, hres⟩ := obd hres
    refine cvI (q0 := 0) (ci := 6) hx hb hml hown hts hEo hE hK hP hS (kX6_no l D a cI cJ cS hd hEo sv kep bef isk fnd man nex wor sng hea lat tap tpd her flt vlu bit lon cel btw (0 : Int32) q18 e18) gX6_heard_X6_no rfl hdX6_no rfl rfl rfl ⟨rfl, rfl⟩ ⟨Nat.le_of_ble_eq_true rfl, Nat.le_of_ble_eq_true rfl⟩ ⟨Nat.zero_le _, Nat.zero_le _⟩ rfl hl.1 rfl (Nat.le_of_ble_eq_true rfl) dX6_heard_18 (fun H locs hP hS => ?_)
    exact hQ ▸ rtI (v := q18.1)  hx hb hr hlk hP hS (by rw [← (Option.some.inj hres)]) (by rw [← (Option.some.inj hres)]) dX6_heard_21
  have b43 : ∀ (fnd : Nat → Int32) (wor : Nat → Int32) (sng : Nat → Int32) (n : Nat) (x4 : Int32) (x5 : Int32), fix2 (fX6_heard_l43 sv fnd wor sng x1 x3) n x4 x5 = some res → ∀ (H : Heap) (locs : List Loc) (ls : Array Slot), va_P D vwCl (wM a cI cJ cS sv kep bef isk fnd man nex wor sng hea lat tap tpd her flt vlu bit lon cel btw) H → va_S (adA a 16 s.heap.size) s.heap H locs → lv_has ls 6 [(0, .ref (a 0)), (1, .int x1), (3, .int x3), (4, .int x4), (5, .int x5)] → W p l e rX6_heard s m args below meth c H locs 0 0 Q (F0 m 43 ls []) := by
    intro fnd wor sng
    refine fix2_r ?_
    intro K43 hK43 x4 x5 hres H locs ls hP hS hl
    unfold fX6_heard_l43 at hres
    refine lv_iload hx hb dX6_heard_43 (lv_at hl 4 rfl) ?_
    refine lv_aload_n hx hb dX6_heard_45 rfl (lv_at hl 0 rfl) ?_
    refine lv_iload_n hx hb dX6_heard_46 rfl (lv_at hl 1 rfl) ?_
    obtain ⟨q47, e47, hres⟩ := obd hres
    refine cvI (q0 := 0) (ci := 6) hx hb hml hown hts hEo hE hK hP hS (kX6_long_ l D a cI cJ cS hd hEo sv kep bef isk fnd man nex wor sng hea lat tap tpd her flt vlu bit lon cel btw x1 q47 e47) gX6_heard_X6_long_ rfl hdX6_long_ rfl rfl rfl ⟨rfl, rfl⟩ ⟨Nat.le_of_ble_eq_true rfl, Nat.le_of_ble_eq_true rfl⟩ ⟨Nat.zero_le _, Nat.zero_le _⟩ rfl hl.1 rfl (Nat.le_of_ble_eq_true rfl) dX6_heard_47 (fun H locs hP hS => ?_)
    refine lv_icmp_ge (tgt := 94) hx hb dX6_heard_50 (by decide) (fun c50 => ?_) (fun c50 => ?_)
    · have hres := (itl hres).1 c50
      refine lv_iload hx hb dX6_heard_94 (lv_at hl 4 rfl) ?_
      exact hQ ▸ rtI (v := x5)  hx hb hr hlk hP hS (by rw [← (Option.some.inj hres)]) (by rw [← (Option.some.inj hres)]) dX6_heard_96
    · have hres := (itl hres).2 c50
      refine lv_iload hx hb dX6_heard_53 (lv_at hl 3 rfl) ?_
      refine lv_aload_n hx hb dX6_heard_55 rfl (lv_at hl 0 rfl) ?_
      refine gM_this6_saying hx hb hown hw6 hK hP u1 dX6_heard_56 ?_
      refine lv_iload hx hb dX6_heard_59 (lv_at hl 4 rfl) ?_
      obtain ⟨i61, hres⟩ := gdi hres
      refine lM_sng hx hb hK hP i61 dX6_heard_61 ?_
      refine lv_iadd hx hb dX6_heard_62 ?_
      refine lv_aload_n hx hb dX6_heard_63 rfl (lv_at hl 0 rfl) ?_
      refine gM_this6_s hx hb hown hw6 hK hP u2 dX6_heard_64 ?_
      refine lv_sipush (v := 156) hx hb dX6_heard_67 (by decide) ?_
      refine lv_iload_n hx hb dX6_heard_70 rfl (lv_at hl 2 rfl) ?_
      refine lv_iadd hx hb dX6_heard_71 ?_
      obtain ⟨i72, hres⟩ := gdi hres
      refine lM_sv hx hb hK hP i72 dX6_heard_72 ?_
      refine lv_icmp_gt (tgt := 94) hx hb dX6_heard_73 (by decide) (fun c73 => ?_) (fun c73 => ?_)
      · have hres := (itl hres).1 c73
        refine lv_iload hx hb dX6_heard_94 (lv_at hl 4 rfl) ?_
        exact hQ ▸ rtI (v := x5)  hx hb hr hlk hP hS (by rw [← (Option.some.inj hres)]) (by rw [← (Option.some.inj hres)]) dX6_heard_96
      · have hres := (itl hres).2 c73
        refine lv_iload hx hb dX6_heard_76 (lv_at hl 3 rfl) ?_
        refine lv_aload_n hx hb dX6_heard_78 rfl (lv_at hl 0 rfl) ?_
        refine gM_this6_saying hx hb hown hw6 hK hP u1 dX6_heard_79 ?_
        refine lv_iload hx hb dX6_heard_82 (lv_at hl 4 rfl) ?_
        obtain ⟨i84, hres⟩ := gdi hres
        refine lM_sng hx hb hK hP i84 dX6_heard_84 ?_
        refine lv_iadd hx hb dX6_heard_85 ?_
        refine lv_istore (lv' := [(4, .int (x4 + (sng x5.toNatClampNeg))), (0, .ref (a 0)), (1, .int x1), (3, .int x3), (5, .int x5)]) hx hb dX6_heard_86 hl (by decide) rfl (fun ls hl => ?_)
        refine lv_iinc (v := x5 + 1) (lv' := [(5, .int (x5 + 1)), (4, .int (x4 + (sng x5.toNatClampNeg))), (0, .ref (a 0)), (1, .int x1), (3, .int x3)]) hx hb dX6_heard_88 hl (k := 4) rfl (congrArg (fun z => x5 + z) (by decide)) (by decide) rfl (fun ls hl => ?_)
        refine lv_goto (tgt := 43) hx hb dX6_heard_91 (by decide) ?_
        exact hK43 (x4 + (sng x5.toNatClampNeg)) (x5 + 1) hres _ _ _ hP hS (lv_sub hl [2, 3, 4, 1, 0] rfl)
  unfold fX6_heard at hres
  refine lv_aload_n hx hb dX6_heard_0 rfl (lv_at hl 0 rfl) ?_
  refine lv_iload_n hx hb dX6_heard_1 rfl (lv_at hl 1 rfl) ?_
  refine lv_iload_n hx hb dX6_heard_2 rfl (lv_at hl 3 rfl) ?_
  obtain ⟨q3, e3, hres⟩ := obd hres
  refine cvI (q0 := 0) (ci := 6) hx hb hml hown hts hEo hE hK hP hS (kX6_areTold l D a cI cJ cS hd hEo sv kep bef isk fnd man nex wor sng hea lat tap tpd her flt vlu bit lon cel btw x1 x3 q3 e3) gX6_heard_X6_areTold rfl hdX6_areTold rfl rfl rfl ⟨rfl, rfl⟩ ⟨Nat.le_of_ble_eq_true rfl, Nat.le_of_ble_eq_true rfl⟩ ⟨Nat.zero_le _, Nat.zero_le _⟩ rfl hl.1 rfl (Nat.le_of_ble_eq_true rfl) dX6_heard_3 (fun H locs hP hS => ?_)
  refine lv_if_eq (tgt := 16) hx hb dX6_heard_6 (by decide) (fun c6 => ?_) (fun c6 => ?_)
  · have hres := (itl hres).1 c6
    exact b16 fnd wor sng hres _ _ _ hP hS (lv_sub hl [0] rfl)
  · have hres := (itl hres).2 c6
    refine lv_iload_n hx hb dX6_heard_9 rfl (lv_at hl 2 rfl) ?_
    refine csI hx hb hml hown hts hEo hE hK hP hS (kX6_isWords l D a cI cJ cS hd hEo sv kep bef isk fnd man nex wor sng hea lat tap tpd her flt vlu bit lon cel btw x2) gX6_heard_X6_isWords rfl hdX6_isWords ⟨rfl, rfl⟩ ⟨Nat.le_of_ble_eq_true rfl, Nat.le_of_ble_eq_true rfl⟩ ⟨Nat.zero_le _, Nat.zero_le _⟩ rfl hl.1 rfl (Nat.le_of_ble_eq_true rfl) dX6_heard_10 (fun H locs hP hS => ?_)
    refine lv_if_ne (tgt := 22) hx hb dX6_heard_13 (by decide) (fun c13 => ?_) (fun c13 => ?_)
    · have hres := (itl hres).2 c13
      refine lv_aload_n hx hb dX6_heard_22 rfl (lv_at hl 0 rfl) ?_
      refine lv_iload_n hx hb dX6_heard_23 rfl (lv_at hl 1 rfl) ?_
      refine lv_iload_n hx hb dX6_heard_24 rfl (lv_at hl 2 rfl) ?_
      obtain ⟨q25, e25, hres⟩ := obd hres
      refine cvI (q0 := 0) (ci := 6) hx hb hml hown hts hEo hE hK hP hS (kX6_says l D a cI cJ cS hd hEo sv kep bef isk fnd man nex wor sng hea lat tap tpd her flt vlu bit lon cel btw x1 x2 q25 e25) gX6_heard_X6_says rfl hdX6_says rfl rfl rfl ⟨rfl, rfl⟩ ⟨Nat.le_of_ble_eq_true rfl, Nat.le_of_ble_eq_true rfl⟩ ⟨Nat.zero_le _, Nat.zero_le _⟩ rfl hl.1 rfl (Nat.le_of_ble_eq_true rfl) dX6_heard_25 (fun H locs hP hS => ?_)
      refine lv_if_ne (tgt := 37) hx hb dX6_heard_28 (by decide) (fun c28 => ?_) (fun c28 => ?_)
      · have hres := (itl hres).2 c28
        refine lv_iconst (v := 0) hx hb dX6_heard_37 (by decide) ?_
        refine lv_istore (lv' := [(4, .int (0 : Int32)), (0, .ref (a 0)), (1, .int x1), (2, .int x2), (3, .int x3)]) hx hb dX6_heard_38 hl (by decide) rfl (fun ls hl => ?_)
        refine lv_iconst (v := 0) hx hb dX6_heard_40 (by decide) ?_
        refine lv_istore (lv' := [(5, .int (0 : Int32)), (4, .int (0 : Int32)), (0, .ref (a 0)), (1, .int x1), (2, .int x2), (3, .int x3)]) hx hb dX6_heard_41 hl (by decide) rfl (fun ls hl => ?_)
        exact b43 fnd q25.2.1 q25.2.2 2000 (0 : Int32) (0 : Int32) hres _ _ _ hP hS (lv_sub hl [2, 3, 5, 1, 0] rfl)
      · have hres := (itl hres).1 c28
        refine lv_aload_n hx hb dX6_heard_31 rfl (lv_at hl 0 rfl) ?_
        refine lv_iconst (v := 3) hx hb dX6_heard_32 (by decide) ?_
        obtain ⟨q33, e33, hres⟩ := obd hres
        refine cvI (q0 := 0) (ci := 6) hx hb hml hown hts hEo hE hK hP hS (kX6_no l D a cI cJ cS hd hEo sv kep bef isk fnd man nex q25.2.1 q25.2.2 hea lat tap tpd her flt vlu bit lon cel btw (3 : Int32) q33 e33) gX6_heard_X6_no rfl hdX6_no rfl rfl rfl ⟨rfl, rfl⟩ ⟨Nat.le_of_ble_eq_true rfl, Nat.le_of_ble_eq_true rfl⟩ ⟨Nat.zero_le _, Nat.zero_le _⟩ rfl hl.1 rfl (Nat.le_of_ble_eq_true rfl) dX6_heard_33 (fun H locs hP hS => ?_)
        exact hQ ▸ rtI (v := q33.1)  hx hb hr hlk hP hS (by rw [← (Option.some.inj hres)]) (by rw [← (Option.some.inj hres)]) dX6_heard_36
    · have hres := (itl hres).1 c13
      exact b16 fnd wor sng hres _ _ _ hP hS (lv_sub hl [0] rfl)
def fX6_hearing_b47 (K5 : Int32 → Int32 → Option (Int32)) (x4 : Int32) (z0 : Int32) (z1 : Bool) : Option (Int32) :=
  K5 (z0 + (bI z1)) (x4 + 1)
def fX6_hearing_b46 (K5 : Int32 → Int32 → Option (Int32)) (x4 : Int32) (z0 : Int32) : Option (Int32) :=
  fX6_hearing_b47 K5 x4 z0 false
def fX6_hearing_l5 (sv : Nat → Int32) (x1 : Int32) (x2 : Int32) (K5 : Int32 → Int32 → Option (Int32)) (x3 : Int32) (x4 : Int32) : Option (Int32) :=
  if (sv (3 : Int32).toNatClampNeg) ≤ x4 then some x3 else if ((x1 >>> (x4 &&& 31)) &&& (1 : Int32)) = (1 : Int32) then gd (ib ((156 : Int32) + x4) 166) (if (sv ((156 : Int32) + x4).toNatClampNeg) < x2 then fX6_hearing_b46 K5 x4 x3 else fX6_hearing_b47 K5 x4 x3 true) else fX6_hearing_b46 K5 x4 x3
def fX6_hearing (sv : Nat → Int32) (x1 : Int32) (x2 : Int32) : Option (Int32) :=
  fix2 (fX6_hearing_l5 sv x1 x2) 2000 (0 : Int32) (0 : Int32)
abbrev rX6_hearing : Room := { frames := 0, cells := 0, slots := 0, locals := 0 }
set_option maxHeartbeats 4000000 in
set_option maxRecDepth 100000 in
theorem kX6_hearing (l : Launch) (D : va_G) (a : Nat → Nat) (cI cJ cS : ClassId) (hd : aok a 16) {Env : (Nat → Prop) → State → Heap → Prop} (hEo : envOK Env) (sv kep bef : Nat → Int32) (isk : Int32) (fnd : Nat → Int32) (man nex : Nat → Int64) (wor sng hea lat tap : Nat → Int32) (tpd her flt vlu : Int32) (bit lon : Nat → Int32) (cel btw : Nat → Int64) (x1 : Int32) (x2 : Int32) (res : Int32) (hres : fX6_hearing sv x1 x2 = some res) : CtI l D (tyL cI cJ cS) 16 a Env yX6_hearing wsX6_hearing rX6_hearing [.ref (a 0), .int x1, .int x2] (wM a cI cJ cS sv kep bef isk fnd man nex wor sng hea lat tap tpd her flt vlu bit lon cel btw) (wM a cI cJ cS sv kep bef isk fnd man nex wor sng hea lat tap tpd her flt vlu bit lon cel btw) res := by
  refine CtI_mk (cc := cX6_hearing) (maxL := 5) (ret := (some .int)) (by decide) rfl (Nat.le_of_ble_eq_true rfl) ?_
  intro p e s m args below meth c ls hx hb hr hlk hml hown hts hP hK hE hl
  have hS : va_S (adA a 16 s.heap.size) s.heap s.heap [] := va_S.rf
  have hl : lv_has ls 5 [(0, .ref (a 0)), (1, .int x1), (2, .int x2)] := hl
  have hown : s.vm.findClass RX6 = some m.cls := hown
  have hw6 : ∀ w ∈ wsX60, w.before args s = true := fun w h => hts w (List.mem_cons_of_mem _ (List.mem_append_right _ h))
  have u1 : (Cond.fieldLink RX6 9 "YearWordsModel" "s" "[I").before args s = true := hts _ (List.mem_of_getElem? (i := 1) (by decide +kernel))
  obtain ⟨Q, hQ⟩ : ∃ Q, Q = mqI below D 16 a args s (wM a cI cJ cS sv kep bef isk fnd man nex wor sng hea lat tap tpd her flt vlu bit lon cel btw) res := ⟨_, rfl⟩
  rw [← hQ]
  have b5 : ∀  (n : Nat) (x3 : Int32) (x4 : Int32), fix2 (fX6_hearing_l5 sv x1 x2) n x3 x4 = some res → ∀ (H : Heap) (locs : List Loc) (ls : Array Slot), va_P D vwCl (wM a cI cJ cS sv kep bef isk fnd man nex wor sng hea lat tap tpd her flt vlu bit lon cel btw) H → va_S (adA a 16 s.heap.size) s.heap H locs → lv_has ls 5 [(0, .ref (a 0)), (1, .int x1), (2, .int x2), (3, .int x3), (4, .int x4)] → W p l e rX6_hearing s m args below meth c H locs 0 0 Q (F0 m 5 ls []) := by
    refine fix2_r ?_
    intro K5 hK5 x3 x4 hres H locs ls hP hS hl
    have b47 : ∀ (x4 : Int32) (z0 : Int32) (z1 : Bool), fX6_hearing_b47 K5 x4 z0 z1 = some res → ∀ (H : Heap) (locs : List Loc) (ls : Array Slot), va_P D vwCl (wM a cI cJ cS sv kep bef isk fnd man nex wor sng hea lat tap tpd her flt vlu bit lon cel btw) H → va_S (adA a 16 s.heap.size) s.heap H locs → lv_has ls 5 [(0, .ref (a 0)), (1, .int x1), (2, .int x2), (4, .int x4)] → W p l e rX6_hearing s m args below meth c H locs 0 0 Q (F0 m 47 ls [.int (bI z1), .int z0]) := by
      intro x4 z0 z1 hres H locs ls hP hS hl
      unfold fX6_hearing_b47 at hres
      refine lv_iadd hx hb dX6_hearing_47 ?_
      refine lv_istore_n (lv' := [(3, .int (z0 + (bI z1))), (0, .ref (a 0)), (1, .int x1), (2, .int x2), (4, .int x4)]) hx hb dX6_hearing_48 rfl hl (by decide) rfl (fun ls hl => ?_)
      refine lv_iinc (v := x4 + 1) (lv' := [(4, .int (x4 + 1)), (3, .int (z0 + (bI z1))), (0, .ref (a 0)), (1, .int x1), (2, .int x2)]) hx hb dX6_hearing_49 hl (k := 4) rfl (congrArg (fun z => x4 + z) (by decide)) (by decide) rfl (fun ls hl => ?_)
      refine lv_goto (tgt := 5) hx hb dX6_hearing_52 (by decide) ?_
      exact hK5 (z0 + (bI z1)) (x4 + 1) hres _ _ _ hP hS (lv_sub hl [2, 3, 4, 1, 0] rfl)
    have b46 : ∀ (x4 : Int32) (z0 : Int32), fX6_hearing_b46 K5 x4 z0 = some res → ∀ (H : Heap) (locs : List Loc) (ls : Array Slot), va_P D vwCl (wM a cI cJ cS sv kep bef isk fnd man nex wor sng hea lat tap tpd her flt vlu bit lon cel btw) H → va_S (adA a 16 s.heap.size) s.heap H locs → lv_has ls 5 [(0, .ref (a 0)), (1, .int x1), (2, .int x2), (4, .int x4)] → W p l e rX6_hearing s m args below meth c H locs 0 0 Q (F0 m 46 ls [.int z0]) := by
      intro x4 z0 hres H locs ls hP hS hl
      unfold fX6_hearing_b46 at hres
      refine lv_iconst (v := 0) hx hb dX6_hearing_46 (by decide) ?_
      exact b47 x4 z0 false hres _ _ _ hP hS (lv_sub hl [0, 1, 2, 3] rfl)
    unfold fX6_hearing_l5 at hres
    refine lv_iload hx hb dX6_hearing_5 (lv_at hl 4 rfl) ?_
    refine lv_aload_n hx hb dX6_hearing_7 rfl (lv_at hl 0 rfl) ?_
    refine gM_this6_s hx hb hown hw6 hK hP u1 dX6_hearing_8 ?_
    refine lv_iconst (v := 3) hx hb dX6_hearing_11 (by decide) ?_
    have i12 : vp_in (3 : Int32) 166 := ib_in (by decide)
    refine lM_sv hx hb hK hP i12 dX6_hearing_12 ?_
    refine lv_icmp_ge (tgt := 55) hx hb dX6_hearing_13 (by decide) (fun c13 => ?_) (fun c13 => ?_)
    · have hres := (itl hres).1 c13
      refine lv_iload_n hx hb dX6_hearing_55 rfl (lv_at hl 3 rfl) ?_
      exact hQ ▸ rtI (v := x3)  hx hb hr hlk hP hS (by rw [← (Option.some.inj hres)]) rfl dX6_hearing_56
    · have hres := (itl hres).2 c13
      refine lv_iload_n hx hb dX6_hearing_16 rfl (lv_at hl 3 rfl) ?_
      refine lv_iload_n hx hb dX6_hearing_17 rfl (lv_at hl 1 rfl) ?_
      refine lv_iload hx hb dX6_hearing_18 (lv_at hl 4 rfl) ?_
      refine lv_ishr hx hb dX6_hearing_20 ?_
      refine lv_iconst (v := 1) hx hb dX6_hearing_21 (by decide) ?_
      refine lv_iand hx hb dX6_hearing_22 ?_
      refine lv_iconst (v := 1) hx hb dX6_hearing_23 (by decide) ?_
      refine lv_icmp_ne (tgt := 46) hx hb dX6_hearing_24 (by decide) (fun c24 => ?_) (fun c24 => ?_)
      · have hres := (itl hres).2 c24
        exact b46 x4 x3 hres _ _ _ hP hS (lv_sub hl [0, 1, 2, 4] rfl)
      · have hres := (itl hres).1 c24
        refine lv_iload_n hx hb dX6_hearing_27 rfl (lv_at hl 2 rfl) ?_
        refine lv_aload_n hx hb dX6_hearing_28 rfl (lv_at hl 0 rfl) ?_
        refine gM_this6_s hx hb hown hw6 hK hP u1 dX6_hearing_29 ?_
        refine lv_sipush (v := 156) hx hb dX6_hearing_32 (by decide) ?_
        refine lv_iload hx hb dX6_hearing_35 (lv_at hl 4 rfl) ?_
        refine lv_iadd hx hb dX6_hearing_37 ?_
        obtain ⟨i38, hres⟩ := gdi hres
        refine lM_sv hx hb hK hP i38 dX6_hearing_38 ?_
        refine lv_icmp_gt (tgt := 46) hx hb dX6_hearing_39 (by decide) (fun c39 => ?_) (fun c39 => ?_)
        · have hres := (itl hres).1 c39
          exact b46 x4 x3 hres _ _ _ hP hS (lv_sub hl [0, 1, 2, 4] rfl)
        · have hres := (itl hres).2 c39
          refine lv_iconst (v := 1) hx hb dX6_hearing_42 (by decide) ?_
          refine lv_goto (tgt := 47) hx hb dX6_hearing_43 (by decide) ?_
          exact b47 x4 x3 true hres _ _ _ hP hS (lv_sub hl [0, 1, 2, 4] rfl)
  unfold fX6_hearing at hres
  refine lv_iconst (v := 0) hx hb dX6_hearing_0 (by decide) ?_
  refine lv_istore_n (lv' := [(3, .int (0 : Int32)), (0, .ref (a 0)), (1, .int x1), (2, .int x2)]) hx hb dX6_hearing_1 rfl hl (by decide) rfl (fun ls hl => ?_)
  refine lv_iconst (v := 0) hx hb dX6_hearing_2 (by decide) ?_
  refine lv_istore (lv' := [(4, .int (0 : Int32)), (3, .int (0 : Int32)), (0, .ref (a 0)), (1, .int x1), (2, .int x2)]) hx hb dX6_hearing_3 hl (by decide) rfl (fun ls hl => ?_)
  exact b5  2000 (0 : Int32) (0 : Int32) hres _ _ _ hP hS (lv_sub hl [2, 3, 4, 1, 0] rfl)
def fX6_hears_b22 (K2 : Int32 → (Nat → Int32) → Option ((Nat → Int32) × (Nat → Int32))) (hea : Nat → Int32) (x3 : Int32) (z1 : Int32) (z2 : Int32) : Option ((Nat → Int32) × (Nat → Int32)) :=
  gd (ib z1 121) (K2 (x3 + 1) (upd hea z1.toNatClampNeg z2))
def fX6_hears_b115 (K56 : Int32 → Int32 → Option ((Nat → Int32) × (Nat → Int32))) (x6 : Int32) (z0 : Int32) : Option ((Nat → Int32) × (Nat → Int32)) :=
  K56 z0 (x6 + 1)
def fX6_hears_b113 (K56 : Int32 → Int32 → Option ((Nat → Int32) × (Nat → Int32))) (x5 : Int32) (x6 : Int32) : Option ((Nat → Int32) × (Nat → Int32)) :=
  fX6_hears_b115 K56 x6 x5
def fX6_hears_b148 (K43 : Int32 → (Nat → Int32) → Option ((Nat → Int32) × (Nat → Int32))) (lat : Nat → Int32) (x4 : Int32) (z1 : Int32) (z2 : Int32) : Option ((Nat → Int32) × (Nat → Int32)) :=
  gd (ib z1 121) (K43 (x4 + 1) (upd lat z1.toNatClampNeg z2))
def fX6_hears_b123 (K43 : Int32 → (Nat → Int32) → Option ((Nat → Int32) × (Nat → Int32))) (sv : Nat → Int32) (lat : Nat → Int32) (x2 : Int32) (x4 : Int32) (x5 : Int32) : Option ((Nat → Int32) × (Nat → Int32)) :=
  if 0 ≤ x5 then (fX6_hearing sv x2 x4).bind fun q144 => fX6_hears_b148 K43 lat x4 x4 (x5 + q144) else fX6_hears_b148 K43 lat x4 x4 (-1 : Int32)
def fX6_hears_l56 (K43 : Int32 → (Nat → Int32) → Option ((Nat → Int32) × (Nat → Int32))) (sv : Nat → Int32) (hea : Nat → Int32) (lat : Nat → Int32) (x1 : Int32) (x2 : Int32) (x3 : Int32) (x4 : Int32) (K56 : Int32 → Int32 → Option ((Nat → Int32) × (Nat → Int32))) (x5 : Int32) (x6 : Int32) : Option ((Nat → Int32) × (Nat → Int32)) :=
  if x4 < x6 then fX6_hears_b123 K43 sv lat x2 x4 x5 else if (25 : Int32) ≤ x6 then fX6_hears_b123 K43 sv lat x2 x4 x5 else (fX6_nth sv x1 x3).bind fun q74 => (fX6_isLength sv q74 x6).bind fun q79 => if (bI q79) = 0 then fX6_hears_b113 K56 x5 x6 else gd (ib (x4 - x6) 121) (if (hea (x4 - x6).toNatClampNeg) ≤ x5 then fX6_hears_b113 K56 x5 x6 else gd (ib (x4 - x6) 121) (fX6_hears_b115 K56 x6 (hea (x4 - x6).toNatClampNeg)))
def fX6_hears_b185 (K31 : Int32 → (Nat → Int32) → (Nat → Int32) → Option ((Nat → Int32) × (Nat → Int32))) (hea : Nat → Int32) (lat : Nat → Int32) (x3 : Int32) : Option ((Nat → Int32) × (Nat → Int32)) :=
  K31 (x3 + 1) hea lat
def fX6_hears_l158 (K31 : Int32 → (Nat → Int32) → (Nat → Int32) → Option ((Nat → Int32) × (Nat → Int32))) (lat : Nat → Int32) (x3 : Int32) (K158 : Int32 → (Nat → Int32) → Option ((Nat → Int32) × (Nat → Int32))) (x4 : Int32) (hea : Nat → Int32) : Option ((Nat → Int32) × (Nat → Int32)) :=
  if (120 : Int32) < x4 then fX6_hears_b185 K31 hea lat x3 else gd (ib x4 121) (gd (ib x4 121) (K158 (x4 + 1) (upd hea x4.toNatClampNeg (lat x4.toNatClampNeg))))
def fX6_hears_b155 (K31 : Int32 → (Nat → Int32) → (Nat → Int32) → Option ((Nat → Int32) × (Nat → Int32))) (hea : Nat → Int32) (lat : Nat → Int32) (x3 : Int32) : Option ((Nat → Int32) × (Nat → Int32)) :=
  fix2 (fX6_hears_l158 K31 lat x3) 2000 (0 : Int32) hea
def fX6_hears_l43 (K31 : Int32 → (Nat → Int32) → (Nat → Int32) → Option ((Nat → Int32) × (Nat → Int32))) (sv : Nat → Int32) (hea : Nat → Int32) (x1 : Int32) (x2 : Int32) (x3 : Int32) (K43 : Int32 → (Nat → Int32) → Option ((Nat → Int32) × (Nat → Int32))) (x4 : Int32) (lat : Nat → Int32) : Option ((Nat → Int32) × (Nat → Int32)) :=
  if (120 : Int32) < x4 then fX6_hears_b155 K31 hea lat x3 else fix2 (fX6_hears_l56 K43 sv hea lat x1 x2 x3 x4) 2000 (-1 : Int32) (0 : Int32)
def fX6_hears_l31 (sv : Nat → Int32) (x1 : Int32) (x2 : Int32) (K31 : Int32 → (Nat → Int32) → (Nat → Int32) → Option ((Nat → Int32) × (Nat → Int32))) (x3 : Int32) (hea : Nat → Int32) (lat : Nat → Int32) : Option ((Nat → Int32) × (Nat → Int32)) :=
 (fX6_long_ sv x1).bind fun q34 => if q34 ≤ x3 then some (hea, lat) else fix2 (fX6_hears_l43 K31 sv hea x1 x2 x3) 2000 (0 : Int32) lat
def fX6_hears_b29 (sv : Nat → Int32) (hea : Nat → Int32) (lat : Nat → Int32) (x1 : Int32) (x2 : Int32) : Option ((Nat → Int32) × (Nat → Int32)) :=
  fix3 (fX6_hears_l31 sv x1 x2) 2000 (0 : Int32) hea lat
def fX6_hears_l2 (sv : Nat → Int32) (lat : Nat → Int32) (x1 : Int32) (x2 : Int32) (K2 : Int32 → (Nat → Int32) → Option ((Nat → Int32) × (Nat → Int32))) (x3 : Int32) (hea : Nat → Int32) : Option ((Nat → Int32) × (Nat → Int32)) :=
  if (120 : Int32) < x3 then fX6_hears_b29 sv hea lat x1 x2 else if x3 = 0 then fX6_hears_b22 K2 hea x3 x3 (0 : Int32) else fX6_hears_b22 K2 hea x3 x3 (-1 : Int32)
def fX6_hears (sv : Nat → Int32) (hea : Nat → Int32) (lat : Nat → Int32) (x1 : Int32) (x2 : Int32) : Option ((Nat → Int32) × (Nat → Int32)) :=
  fix2 (fX6_hears_l2 sv lat x1 x2) 2000 (0 : Int32) hea
theorem hdX6_hearing : yX6_hearing.cls = RX6 ∧ yX6_hearing.cls ≠ "java/lang/invoke/MethodHandle" ∧ yX6_hearing.cls ≠ "java/lang/invoke/VarHandle" ∧ (parseMethodDescriptor yX6_hearing.desc).map (fun d => d.parameters.length) = some 2 := by decide +kernel
abbrev rX6_hears : Room := { frames := 2, cells := 0, slots := 0, locals := 46 }
set_option maxHeartbeats 4000000 in
set_option maxRecDepth 100000 in
theorem kX6_hears (l : Launch) (D : va_G) (a : Nat → Nat) (cI cJ cS : ClassId) (hd : aok a 16) {Env : (Nat → Prop) → State → Heap → Prop} (hEo : envOK Env) (sv kep bef : Nat → Int32) (isk : Int32) (fnd : Nat → Int32) (man nex : Nat → Int64) (wor sng hea lat tap : Nat → Int32) (tpd her flt vlu : Int32) (bit lon : Nat → Int32) (cel btw : Nat → Int64) (x1 : Int32) (x2 : Int32) (res : (Nat → Int32) × (Nat → Int32)) (hres : fX6_hears sv hea lat x1 x2 = some res) : CtV l D (tyL cI cJ cS) 16 a Env yX6_hears wsX6_hears rX6_hears [.ref (a 0), .int x1, .int x2] (wM a cI cJ cS sv kep bef isk fnd man nex wor sng hea lat tap tpd her flt vlu bit lon cel btw) (wM a cI cJ cS sv kep bef isk fnd man nex wor sng res.1 res.2 tap tpd her flt vlu bit lon cel btw) := by
  refine CtV_mk (cc := cX6_hears) (maxL := 7) (ret := none) (by decide) rfl (Nat.le_of_ble_eq_true rfl) ?_
  intro p e s m args below meth c ls hx hb hr hlk hml hown hts hP hK hE hl
  have hS : va_S (adA a 16 s.heap.size) s.heap s.heap [] := va_S.rf
  have hl : lv_has ls 7 [(0, .ref (a 0)), (1, .int x1), (2, .int x2)] := hl
  have hown : s.vm.findClass RX6 = some m.cls := hown
  have hw6 : ∀ w ∈ wsX60, w.before args s = true := fun w h => hts w (List.mem_cons_of_mem _ (List.mem_append_right _ h))
  have u1 : (Cond.fieldLink RX6 35 "YearWordsModel" "heards" "[I").before args s = true := hts _ (List.mem_of_getElem? (i := 1) (by decide +kernel))
  have u2 : (Cond.fieldLink RX6 38 "YearWordsModel" "later" "[I").before args s = true := hts _ (List.mem_of_getElem? (i := 2) (by decide +kernel))
  obtain ⟨Q, hQ⟩ : ∃ Q, Q = mqV below D 16 a args s (wM a cI cJ cS sv kep bef isk fnd man nex wor sng res.1 res.2 tap tpd her flt vlu bit lon cel btw) := ⟨_, rfl⟩
  rw [← hQ]
  have b31 : ∀  (n : Nat) (x3 : Int32) (hea : Nat → Int32) (lat : Nat → Int32), fix3 (fX6_hears_l31 sv x1 x2) n x3 hea lat = some res → ∀ (H : Heap) (locs : List Loc) (ls : Array Slot), va_P D vwCl (wM a cI cJ cS sv kep bef isk fnd man nex wor sng hea lat tap tpd her flt vlu bit lon cel btw) H → va_S (adA a 16 s.heap.size) s.heap H locs → lv_has ls 7 [(0, .ref (a 0)), (1, .int x1), (2, .int x2), (3, .int x3)] → W p l e rX6_hears s m args below meth c H locs 0 0 Q (F0 m 31 ls []) := by
    refine fix3_r ?_
    intro K31 hK31 x3 hea lat hres H locs ls hP hS hl
    have b185 : ∀ (hea : Nat → Int32) (lat : Nat → Int32) (x3 : Int32), fX6_hears_b185 K31 hea lat x3 = some res → ∀ (H : Heap) (locs : List Loc) (ls : Array Slot), va_P D vwCl (wM a cI cJ cS sv kep bef isk fnd man nex wor sng hea lat tap tpd her flt vlu bit lon cel btw) H → va_S (adA a 16 s.heap.size) s.heap H locs → lv_has ls 7 [(0, .ref (a 0)), (1, .int x1), (2, .int x2), (3, .int x3)] → W p l e rX6_hears s m args below meth c H locs 0 0 Q (F0 m 185 ls []) := by
      intro hea lat x3 hres H locs ls hP hS hl
      unfold fX6_hears_b185 at hres
      refine lv_iinc (v := x3 + 1) (lv' := [(3, .int (x3 + 1)), (0, .ref (a 0)), (1, .int x1), (2, .int x2)]) hx hb dX6_hears_185 hl (k := 3) rfl (congrArg (fun z => x3 + z) (by decide)) (by decide) rfl (fun ls hl => ?_)
      refine lv_goto (tgt := 31) hx hb dX6_hears_188 (by decide) ?_
      exact hK31 (x3 + 1) hea lat hres _ _ _ hP hS (lv_sub hl [1, 2, 3, 0] rfl)
    have b158 : ∀ (lat : Nat → Int32) (x3 : Int32) (n : Nat) (x4 : Int32) (hea : Nat → Int32), fix2 (fX6_hears_l158 K31 lat x3) n x4 hea = some res → ∀ (H : Heap) (locs : List Loc) (ls : Array Slot), va_P D vwCl (wM a cI cJ cS sv kep bef isk fnd man nex wor sng hea lat tap tpd her flt vlu bit lon cel btw) H → va_S (adA a 16 s.heap.size) s.heap H locs → lv_has ls 7 [(0, .ref (a 0)), (1, .int x1), (2, .int x2), (3, .int x3), (4, .int x4)] → W p l e rX6_hears s m args below meth c H locs 0 0 Q (F0 m 158 ls []) := by
      intro lat x3
      refine fix2_r ?_
      intro K158 hK158 x4 hea hres H locs ls hP hS hl
      unfold fX6_hears_l158 at hres
      refine lv_iload hx hb dX6_hears_158 (lv_at hl 4 rfl) ?_
      refine lv_bipush (v := 120) hx hb dX6_hears_160 (by decide) ?_
      refine lv_icmp_gt (tgt := 185) hx hb dX6_hears_162 (by decide) (fun c162 => ?_) (fun c162 => ?_)
      · have hres := (itl hres).1 c162
        exact b185 hea lat x3 hres _ _ _ hP hS (lv_sub hl [0, 1, 2, 3] rfl)
      · have hres := (itl hres).2 c162
        refine lv_aload_n hx hb dX6_hears_165 rfl (lv_at hl 0 rfl) ?_
        refine gM_this6_heards hx hb hown hw6 hK hP u1 dX6_hears_166 ?_
        refine lv_iload hx hb dX6_hears_169 (lv_at hl 4 rfl) ?_
        refine lv_aload_n hx hb dX6_hears_171 rfl (lv_at hl 0 rfl) ?_
        refine gM_this6_later hx hb hown hw6 hK hP u2 dX6_hears_172 ?_
        refine lv_iload hx hb dX6_hears_175 (lv_at hl 4 rfl) ?_
        obtain ⟨i177, hres⟩ := gdi hres
        refine lM_lat hx hb hK hP i177 dX6_hears_177 ?_
        obtain ⟨i178, hres⟩ := gdi hres
        refine sM_hea hx hb hK hP hd hS i178 dX6_hears_178 (fun H locs hP hS => ?_)
        refine lv_iinc (v := x4 + 1) (lv' := [(4, .int (x4 + 1)), (0, .ref (a 0)), (1, .int x1), (2, .int x2), (3, .int x3)]) hx hb dX6_hears_179 hl (k := 4) rfl (congrArg (fun z => x4 + z) (by decide)) (by decide) rfl (fun ls hl => ?_)
        refine lv_goto (tgt := 158) hx hb dX6_hears_182 (by decide) ?_
        exact hK158 (x4 + 1) (upd hea x4.toNatClampNeg (lat x4.toNatClampNeg)) hres _ _ _ hP hS (lv_sub hl [1, 2, 3, 4, 0] rfl)
    have b155 : ∀ (hea : Nat → Int32) (lat : Nat → Int32) (x3 : Int32), fX6_hears_b155 K31 hea lat x3 = some res → ∀ (H : Heap) (locs : List Loc) (ls : Array Slot), va_P D vwCl (wM a cI cJ cS sv kep bef isk fnd man nex wor sng hea lat tap tpd her flt vlu bit lon cel btw) H → va_S (adA a 16 s.heap.size) s.heap H locs → lv_has ls 7 [(0, .ref (a 0)), (1, .int x1), (2, .int x2), (3, .int x3)] → W p l e rX6_hears s m args below meth c H locs 0 0 Q (F0 m 155 ls []) := by
      intro hea lat x3 hres H locs ls hP hS hl
      unfold fX6_hears_b155 at hres
      refine lv_iconst (v := 0) hx hb dX6_hears_155 (by decide) ?_
      refine lv_istore (lv' := [(4, .int (0 : Int32)), (0, .ref (a 0)), (1, .int x1), (2, .int x2), (3, .int x3)]) hx hb dX6_hears_156 hl (by decide) rfl (fun ls hl => ?_)
      exact b158 lat x3 2000 (0 : Int32) hea hres _ _ _ hP hS (lv_sub hl [1, 2, 3, 4, 0] rfl)
    have b43 : ∀ (hea : Nat → Int32) (x3 : Int32) (n : Nat) (x4 : Int32) (lat : Nat → Int32), fix2 (fX6_hears_l43 K31 sv hea x1 x2 x3) n x4 lat = some res → ∀ (H : Heap) (locs : List Loc) (ls : Array Slot), va_P D vwCl (wM a cI cJ cS sv kep bef isk fnd man nex wor sng hea lat tap tpd her flt vlu bit lon cel btw) H → va_S (adA a 16 s.heap.size) s.heap H locs → lv_has ls 7 [(0, .ref (a 0)), (1, .int x1), (2, .int x2), (3, .int x3), (4, .int x4)] → W p l e rX6_hears s m args below meth c H locs 0 0 Q (F0 m 43 ls []) := by
      intro hea x3
      refine fix2_r ?_
      intro K43 hK43 x4 lat hres H locs ls hP hS hl
      have b148 : ∀ (lat : Nat → Int32) (x4 : Int32) (z1 : Int32) (z2 : Int32), fX6_hears_b148 K43 lat x4 z1 z2 = some res → ∀ (H : Heap) (locs : List Loc) (ls : Array Slot), va_P D vwCl (wM a cI cJ cS sv kep bef isk fnd man nex wor sng hea lat tap tpd her flt vlu bit lon cel btw) H → va_S (adA a 16 s.heap.size) s.heap H locs → lv_has ls 7 [(0, .ref (a 0)), (1, .int x1), (2, .int x2), (3, .int x3), (4, .int x4)] → W p l e rX6_hears s m args below meth c H locs 0 0 Q (F0 m 148 ls [.int z2, .int z1, .ref (a 10)]) := by
        intro lat x4 z1 z2 hres H locs ls hP hS hl
        unfold fX6_hears_b148 at hres
        obtain ⟨i148, hres⟩ := gdi hres
        refine sM_lat hx hb hK hP hd hS i148 dX6_hears_148 (fun H locs hP hS => ?_)
        refine lv_iinc (v := x4 + 1) (lv' := [(4, .int (x4 + 1)), (0, .ref (a 0)), (1, .int x1), (2, .int x2), (3, .int x3)]) hx hb dX6_hears_149 hl (k := 4) rfl (congrArg (fun z => x4 + z) (by decide)) (by decide) rfl (fun ls hl => ?_)
        refine lv_goto (tgt := 43) hx hb dX6_hears_152 (by decide) ?_
        exact hK43 (x4 + 1) (upd lat z1.toNatClampNeg z2) hres _ _ _ hP hS (lv_sub hl [1, 2, 3, 4, 0] rfl)
      have b123 : ∀ (lat : Nat → Int32) (x4 : Int32) (x5 : Int32), fX6_hears_b123 K43 sv lat x2 x4 x5 = some res → ∀ (H : Heap) (locs : List Loc) (ls : Array Slot), va_P D vwCl (wM a cI cJ cS sv kep bef isk fnd man nex wor sng hea lat tap tpd her flt vlu bit lon cel btw) H → va_S (adA a 16 s.heap.size) s.heap H locs → lv_has ls 7 [(0, .ref (a 0)), (1, .int x1), (2, .int x2), (3, .int x3), (4, .int x4), (5, .int x5)] → W p l e rX6_hears s m args below meth c H locs 0 0 Q (F0 m 123 ls []) := by
        intro lat x4 x5 hres H locs ls hP hS hl
        unfold fX6_hears_b123 at hres
        refine lv_aload_n hx hb dX6_hears_123 rfl (lv_at hl 0 rfl) ?_
        refine gM_this6_later hx hb hown hw6 hK hP u2 dX6_hears_124 ?_
        refine lv_iload hx hb dX6_hears_127 (lv_at hl 4 rfl) ?_
        refine lv_iload hx hb dX6_hears_129 (lv_at hl 5 rfl) ?_
        refine lv_if_ge (tgt := 138) hx hb dX6_hears_131 (by decide) (fun c131 => ?_) (fun c131 => ?_)
        · have hres := (itl hres).1 c131
          refine lv_iload hx hb dX6_hears_138 (lv_at hl 5 rfl) ?_
          refine lv_aload_n hx hb dX6_hears_140 rfl (lv_at hl 0 rfl) ?_
          refine lv_iload_n hx hb dX6_hears_141 rfl (lv_at hl 2 rfl) ?_
          refine lv_iload hx hb dX6_hears_142 (lv_at hl 4 rfl) ?_
          obtain ⟨q144, e144, hres⟩ := obd hres
          refine cvI (q0 := 0) (ci := 6) hx hb hml hown hts hEo hE hK hP hS (kX6_hearing l D a cI cJ cS hd hEo sv kep bef isk fnd man nex wor sng hea lat tap tpd her flt vlu bit lon cel btw x2 x4 q144 e144) gX6_hears_X6_hearing rfl hdX6_hearing rfl rfl rfl ⟨rfl, rfl⟩ ⟨Nat.le_of_ble_eq_true rfl, Nat.le_of_ble_eq_true rfl⟩ ⟨Nat.zero_le _, Nat.zero_le _⟩ rfl hl.1 rfl (Nat.le_of_ble_eq_true rfl) dX6_hears_144 (fun H locs hP hS => ?_)
          refine lv_iadd hx hb dX6_hears_147 ?_
          exact b148 lat x4 x4 (x5 + q144) hres _ _ _ hP hS (lv_sub hl [0, 1, 2, 3, 4] rfl)
        · have hres := (itl hres).2 c131
          refine lv_iconst (v := (-1)) hx hb dX6_hears_134 (by decide) ?_
          refine lv_goto (tgt := 148) hx hb dX6_hears_135 (by decide) ?_
          exact b148 lat x4 x4 (-1 : Int32) hres _ _ _ hP hS (lv_sub hl [0, 1, 2, 3, 4] rfl)
      have b56 : ∀ (lat : Nat → Int32) (x4 : Int32) (n : Nat) (x5 : Int32) (x6 : Int32), fix2 (fX6_hears_l56 K43 sv hea lat x1 x2 x3 x4) n x5 x6 = some res → ∀ (H : Heap) (locs : List Loc) (ls : Array Slot), va_P D vwCl (wM a cI cJ cS sv kep bef isk fnd man nex wor sng hea lat tap tpd her flt vlu bit lon cel btw) H → va_S (adA a 16 s.heap.size) s.heap H locs → lv_has ls 7 [(0, .ref (a 0)), (1, .int x1), (2, .int x2), (3, .int x3), (4, .int x4), (5, .int x5), (6, .int x6)] → W p l e rX6_hears s m args below meth c H locs 0 0 Q (F0 m 56 ls []) := by
        intro lat x4
        refine fix2_r ?_
        intro K56 hK56 x5 x6 hres H locs ls hP hS hl
        have b115 : ∀ (x6 : Int32) (z0 : Int32), fX6_hears_b115 K56 x6 z0 = some res → ∀ (H : Heap) (locs : List Loc) (ls : Array Slot), va_P D vwCl (wM a cI cJ cS sv kep bef isk fnd man nex wor sng hea lat tap tpd her flt vlu bit lon cel btw) H → va_S (adA a 16 s.heap.size) s.heap H locs → lv_has ls 7 [(0, .ref (a 0)), (1, .int x1), (2, .int x2), (3, .int x3), (4, .int x4), (6, .int x6)] → W p l e rX6_hears s m args below meth c H locs 0 0 Q (F0 m 115 ls [.int z0]) := by
          intro x6 z0 hres H locs ls hP hS hl
          unfold fX6_hears_b115 at hres
          refine lv_istore (lv' := [(5, .int z0), (0, .ref (a 0)), (1, .int x1), (2, .int x2), (3, .int x3), (4, .int x4), (6, .int x6)]) hx hb dX6_hears_115 hl (by decide) rfl (fun ls hl => ?_)
          refine lv_iinc (v := x6 + 1) (lv' := [(6, .int (x6 + 1)), (5, .int z0), (0, .ref (a 0)), (1, .int x1), (2, .int x2), (3, .int x3), (4, .int x4)]) hx hb dX6_hears_117 hl (k := 6) rfl (congrArg (fun z => x6 + z) (by decide)) (by decide) rfl (fun ls hl => ?_)
          refine lv_goto (tgt := 56) hx hb dX6_hears_120 (by decide) ?_
          exact hK56 z0 (x6 + 1) hres _ _ _ hP hS (lv_sub hl [2, 3, 4, 5, 6, 1, 0] rfl)
        have b113 : ∀ (x5 : Int32) (x6 : Int32), fX6_hears_b113 K56 x5 x6 = some res → ∀ (H : Heap) (locs : List Loc) (ls : Array Slot), va_P D vwCl (wM a cI cJ cS sv kep bef isk fnd man nex wor sng hea lat tap tpd her flt vlu bit lon cel btw) H → va_S (adA a 16 s.heap.size) s.heap H locs → lv_has ls 7 [(0, .ref (a 0)), (1, .int x1), (2, .int x2), (3, .int x3), (4, .int x4), (5, .int x5), (6, .int x6)] → W p l e rX6_hears s m args below meth c H locs 0 0 Q (F0 m 113 ls []) := by
          intro x5 x6 hres H locs ls hP hS hl
          unfold fX6_hears_b113 at hres
          refine lv_iload hx hb dX6_hears_113 (lv_at hl 5 rfl) ?_
          exact b115 x6 x5 hres _ _ _ hP hS (lv_sub hl [0, 1, 2, 3, 4, 6] rfl)
        unfold fX6_hears_l56 at hres
        refine lv_iload hx hb dX6_hears_56 (lv_at hl 6 rfl) ?_
        refine lv_iload hx hb dX6_hears_58 (lv_at hl 4 rfl) ?_
        refine lv_icmp_gt (tgt := 123) hx hb dX6_hears_60 (by decide) (fun c60 => ?_) (fun c60 => ?_)
        · have hres := (itl hres).1 c60
          exact b123 lat x4 x5 hres _ _ _ hP hS (lv_sub hl [0, 1, 2, 3, 4, 5] rfl)
        · have hres := (itl hres).2 c60
          refine lv_iload hx hb dX6_hears_63 (lv_at hl 6 rfl) ?_
          refine lv_bipush (v := 25) hx hb dX6_hears_65 (by decide) ?_
          refine lv_icmp_ge (tgt := 123) hx hb dX6_hears_67 (by decide) (fun c67 => ?_) (fun c67 => ?_)
          · have hres := (itl hres).1 c67
            exact b123 lat x4 x5 hres _ _ _ hP hS (lv_sub hl [0, 1, 2, 3, 4, 5] rfl)
          · have hres := (itl hres).2 c67
            refine lv_aload_n hx hb dX6_hears_70 rfl (lv_at hl 0 rfl) ?_
            refine lv_aload_n hx hb dX6_hears_71 rfl (lv_at hl 0 rfl) ?_
            refine lv_iload_n hx hb dX6_hears_72 rfl (lv_at hl 1 rfl) ?_
            refine lv_iload_n hx hb dX6_hears_73 rfl (lv_at hl 3 rfl) ?_
            obtain ⟨q74, e74, hres⟩ := obd hres
            refine cvI (q0 := 0) (ci := 6) hx hb hml hown hts hEo hE hK hP hS (kX6_nth l D a cI cJ cS hd hEo sv kep bef isk fnd man nex wor sng hea lat tap tpd her flt vlu bit lon cel btw x1 x3 q74 e74) gX6_hears_X6_nth rfl hdX6_nth rfl rfl rfl ⟨rfl, rfl⟩ ⟨Nat.le_of_ble_eq_true rfl, Nat.le_of_ble_eq_true rfl⟩ ⟨Nat.zero_le _, Nat.zero_le _⟩ rfl hl.1 rfl (Nat.le_of_ble_eq_true rfl) dX6_hears_74 (fun H locs hP hS => ?_)
            refine lv_iload hx hb dX6_hears_77 (lv_at hl 6 rfl) ?_
            obtain ⟨q79, e79, hres⟩ := obd hres
            refine cvI (q0 := 0) (ci := 6) hx hb hml hown hts hEo hE hK hP hS (kX6_isLength l D a cI cJ cS hd hEo sv kep bef isk fnd man nex wor sng hea lat tap tpd her flt vlu bit lon cel btw q74 x6 q79 e79) gX6_hears_X6_isLength rfl hdX6_isLength rfl rfl rfl ⟨rfl, rfl⟩ ⟨Nat.le_of_ble_eq_true rfl, Nat.le_of_ble_eq_true rfl⟩ ⟨Nat.zero_le _, Nat.zero_le _⟩ rfl hl.1 rfl (Nat.le_of_ble_eq_true rfl) dX6_hears_79 (fun H locs hP hS => ?_)
            refine lv_if_eq (tgt := 113) hx hb dX6_hears_82 (by decide) (fun c82 => ?_) (fun c82 => ?_)
            · have hres := (itl hres).1 c82
              exact b113 x5 x6 hres _ _ _ hP hS (lv_sub hl [0, 1, 2, 3, 4, 5, 6] rfl)
            · have hres := (itl hres).2 c82
              refine lv_aload_n hx hb dX6_hears_85 rfl (lv_at hl 0 rfl) ?_
              refine gM_this6_heards hx hb hown hw6 hK hP u1 dX6_hears_86 ?_
              refine lv_iload hx hb dX6_hears_89 (lv_at hl 4 rfl) ?_
              refine lv_iload hx hb dX6_hears_91 (lv_at hl 6 rfl) ?_
              refine lv_isub hx hb dX6_hears_93 ?_
              obtain ⟨i94, hres⟩ := gdi hres
              refine lM_hea hx hb hK hP i94 dX6_hears_94 ?_
              refine lv_iload hx hb dX6_hears_95 (lv_at hl 5 rfl) ?_
              refine lv_icmp_le (tgt := 113) hx hb dX6_hears_97 (by decide) (fun c97 => ?_) (fun c97 => ?_)
              · have hres := (itl hres).1 c97
                exact b113 x5 x6 hres _ _ _ hP hS (lv_sub hl [0, 1, 2, 3, 4, 5, 6] rfl)
              · have hres := (itl hres).2 c97
                refine lv_aload_n hx hb dX6_hears_100 rfl (lv_at hl 0 rfl) ?_
                refine gM_this6_heards hx hb hown hw6 hK hP u1 dX6_hears_101 ?_
                refine lv_iload hx hb dX6_hears_104 (lv_at hl 4 rfl) ?_
                refine lv_iload hx hb dX6_hears_106 (lv_at hl 6 rfl) ?_
                refine lv_isub hx hb dX6_hears_108 ?_
                obtain ⟨i109, hres⟩ := gdi hres
                refine lM_hea hx hb hK hP i109 dX6_hears_109 ?_
                refine lv_goto (tgt := 115) hx hb dX6_hears_110 (by decide) ?_
                exact b115 x6 (hea (x4 - x6).toNatClampNeg) hres _ _ _ hP hS (lv_sub hl [0, 1, 2, 3, 4, 6] rfl)
      unfold fX6_hears_l43 at hres
      refine lv_iload hx hb dX6_hears_43 (lv_at hl 4 rfl) ?_
      refine lv_bipush (v := 120) hx hb dX6_hears_45 (by decide) ?_
      refine lv_icmp_gt (tgt := 155) hx hb dX6_hears_47 (by decide) (fun c47 => ?_) (fun c47 => ?_)
      · have hres := (itl hres).1 c47
        exact b155 hea lat x3 hres _ _ _ hP hS (lv_sub hl [0, 1, 2, 3] rfl)
      · have hres := (itl hres).2 c47
        refine lv_iconst (v := (-1)) hx hb dX6_hears_50 (by decide) ?_
        refine lv_istore (lv' := [(5, .int (-1 : Int32)), (0, .ref (a 0)), (1, .int x1), (2, .int x2), (3, .int x3), (4, .int x4)]) hx hb dX6_hears_51 hl (by decide) rfl (fun ls hl => ?_)
        refine lv_iconst (v := 0) hx hb dX6_hears_53 (by decide) ?_
        refine lv_istore (lv' := [(6, .int (0 : Int32)), (5, .int (-1 : Int32)), (0, .ref (a 0)), (1, .int x1), (2, .int x2), (3, .int x3), (4, .int x4)]) hx hb dX6_hears_54 hl (by decide) rfl (fun ls hl => ?_)
        exact b56 lat x4 2000 (-1 : Int32) (0 : Int32) hres _ _ _ hP hS (lv_sub hl [2, 3, 4, 5, 6, 1, 0] rfl)
    unfold fX6_hears_l31 at hres
    refine lv_iload_n hx hb dX6_hears_31 rfl (lv_at hl 3 rfl) ?_
    refine lv_aload_n hx hb dX6_hears_32 rfl (lv_at hl 0 rfl) ?_
    refine lv_iload_n hx hb dX6_hears_33 rfl (lv_at hl 1 rfl) ?_
    obtain ⟨q34, e34, hres⟩ := obd hres
    refine cvI (q0 := 0) (ci := 6) hx hb hml hown hts hEo hE hK hP hS (kX6_long_ l D a cI cJ cS hd hEo sv kep bef isk fnd man nex wor sng hea lat tap tpd her flt vlu bit lon cel btw x1 q34 e34) gX6_hears_X6_long_ rfl hdX6_long_ rfl rfl rfl ⟨rfl, rfl⟩ ⟨Nat.le_of_ble_eq_true rfl, Nat.le_of_ble_eq_true rfl⟩ ⟨Nat.zero_le _, Nat.zero_le _⟩ rfl hl.1 rfl (Nat.le_of_ble_eq_true rfl) dX6_hears_34 (fun H locs hP hS => ?_)
    refine lv_icmp_ge (tgt := 191) hx hb dX6_hears_37 (by decide) (fun c37 => ?_) (fun c37 => ?_)
    · have hres := (itl hres).1 c37
      exact hQ ▸ rtV hx hb hr hlk hP hS (by rw [← (Option.some.inj hres)]) dX6_hears_191
    · have hres := (itl hres).2 c37
      refine lv_iconst (v := 0) hx hb dX6_hears_40 (by decide) ?_
      refine lv_istore (lv' := [(4, .int (0 : Int32)), (0, .ref (a 0)), (1, .int x1), (2, .int x2), (3, .int x3)]) hx hb dX6_hears_41 hl (by decide) rfl (fun ls hl => ?_)
      exact b43 hea x3 2000 (0 : Int32) lat hres _ _ _ hP hS (lv_sub hl [1, 2, 3, 4, 0] rfl)
  have b29 : ∀ (hea : Nat → Int32) (lat : Nat → Int32), fX6_hears_b29 sv hea lat x1 x2 = some res → ∀ (H : Heap) (locs : List Loc) (ls : Array Slot), va_P D vwCl (wM a cI cJ cS sv kep bef isk fnd man nex wor sng hea lat tap tpd her flt vlu bit lon cel btw) H → va_S (adA a 16 s.heap.size) s.heap H locs → lv_has ls 7 [(0, .ref (a 0)), (1, .int x1), (2, .int x2)] → W p l e rX6_hears s m args below meth c H locs 0 0 Q (F0 m 29 ls []) := by
    intro hea lat hres H locs ls hP hS hl
    unfold fX6_hears_b29 at hres
    refine lv_iconst (v := 0) hx hb dX6_hears_29 (by decide) ?_
    refine lv_istore_n (lv' := [(3, .int (0 : Int32)), (0, .ref (a 0)), (1, .int x1), (2, .int x2)]) hx hb dX6_hears_30 rfl hl (by decide) rfl (fun ls hl => ?_)
    exact b31  2000 (0 : Int32) hea lat hres _ _ _ hP hS (lv_sub hl [1, 2, 3, 0] rfl)
  have b2 : ∀ (lat : Nat → Int32) (n : Nat) (x3 : Int32) (hea : Nat → Int32), fix2 (fX6_hears_l2 sv lat x1 x2) n x3 hea = some res → ∀ (H : Heap) (locs : List Loc) (ls : Array Slot), va_P D vwCl (wM a cI cJ cS sv kep bef isk fnd man nex wor sng hea lat tap tpd her flt vlu bit lon cel btw) H → va_S (adA a 16 s.heap.size) s.heap H locs → lv_has ls 7 [(0, .ref (a 0)), (1, .int x1), (2, .int x2), (3, .int x3)] → W p l e rX6_hears s m args below meth c H locs 0 0 Q (F0 m 2 ls []) := by
    intro lat
    refine fix2_r ?_
    intro K2 hK2 x3 hea hres H locs ls hP hS hl
    have b22 : ∀ (hea : Nat → Int32) (x3 : Int32) (z1 : Int32) (z2 : Int32), fX6_hears_b22 K2 hea x3 z1 z2 = some res → ∀ (H : Heap) (locs : List Loc) (ls : Array Slot), va_P D vwCl (wM a cI cJ cS sv kep bef isk fnd man nex wor sng hea lat tap tpd her flt vlu bit lon cel btw) H → va_S (adA a 16 s.heap.size) s.heap H locs → lv_has ls 7 [(0, .ref (a 0)), (1, .int x1), (2, .int x2), (3, .int x3)] → W p l e rX6_hears s m args below meth c H locs 0 0 Q (F0 m 22 ls [.int z2, .int z1, .ref (a 9)]) := by
      intro hea x3 z1 z2 hres H locs ls hP hS hl
      unfold fX6_hears_b22 at hres
      obtain ⟨i22, hres⟩ := gdi hres
      refine sM_hea hx hb hK hP hd hS i22 dX6_hears_22 (fun H locs hP hS => ?_)
      refine lv_iinc (v := x3 + 1) (lv' := [(3, .int (x3 + 1)), (0, .ref (a 0)), (1, .int x1), (2, .int x2)]) hx hb dX6_hears_23 hl (k := 3) rfl (congrArg (fun z => x3 + z) (by decide)) (by decide) rfl (fun ls hl => ?_)
      refine lv_goto (tgt := 2) hx hb dX6_hears_26 (by decide) ?_
      exact hK2 (x3 + 1) (upd hea z1.toNatClampNeg z2) hres _ _ _ hP hS (lv_sub hl [1, 2, 3, 0] rfl)
    unfold fX6_hears_l2 at hres
    refine lv_iload_n hx hb dX6_hears_2 rfl (lv_at hl 3 rfl) ?_
    refine lv_bipush (v := 120) hx hb dX6_hears_3 (by decide) ?_
    refine lv_icmp_gt (tgt := 29) hx hb dX6_hears_5 (by decide) (fun c5 => ?_) (fun c5 => ?_)
    · have hres := (itl hres).1 c5
      exact b29 hea lat hres _ _ _ hP hS (lv_sub hl [0, 1, 2] rfl)
    · have hres := (itl hres).2 c5
      refine lv_aload_n hx hb dX6_hears_8 rfl (lv_at hl 0 rfl) ?_
      refine gM_this6_heards hx hb hown hw6 hK hP u1 dX6_hears_9 ?_
      refine lv_iload_n hx hb dX6_hears_12 rfl (lv_at hl 3 rfl) ?_
      refine lv_iload_n hx hb dX6_hears_13 rfl (lv_at hl 3 rfl) ?_
      refine lv_if_ne (tgt := 21) hx hb dX6_hears_14 (by decide) (fun c14 => ?_) (fun c14 => ?_)
      · have hres := (itl hres).2 c14
        refine lv_iconst (v := (-1)) hx hb dX6_hears_21 (by decide) ?_
        exact b22 hea x3 x3 (-1 : Int32) hres _ _ _ hP hS (lv_sub hl [0, 1, 2, 3] rfl)
      · have hres := (itl hres).1 c14
        refine lv_iconst (v := 0) hx hb dX6_hears_17 (by decide) ?_
        refine lv_goto (tgt := 22) hx hb dX6_hears_18 (by decide) ?_
        exact b22 hea x3 x3 (0 : Int32) hres _ _ _ hP hS (lv_sub hl [0, 1, 2, 3] rfl)
  unfold fX6_hears at hres
  refine lv_iconst (v := 0) hx hb dX6_hears_0 (by decide) ?_
  refine lv_istore_n (lv' := [(3, .int (0 : Int32)), (0, .ref (a 0)), (1, .int x1), (2, .int x2)]) hx hb dX6_hears_1 rfl hl (by decide) rfl (fun ls hl => ?_)
  exact b2 lat 2000 (0 : Int32) hea hres _ _ _ hP hS (lv_sub hl [1, 2, 3, 0] rfl)
def fX6_together_b33 (fnd : Nat → Int32) (hea : Nat → Int32) (lat : Nat → Int32) : Option (Int32 × (Nat → Int32) × (Nat → Int32) × (Nat → Int32)) :=
 (fX6_no fnd (0 : Int32)).bind fun q35 => some (q35.1, q35.2, hea, lat)
def fX6_together (sv : Nat → Int32) (fnd : Nat → Int32) (hea : Nat → Int32) (lat : Nat → Int32) (x1 : Int32) (x2 : Int32) (x3 : Int32) : Option (Int32 × (Nat → Int32) × (Nat → Int32) × (Nat → Int32)) :=
 (fX6_isTale sv x1).bind fun q2 => if (bI q2) = 0 then fX6_together_b33 fnd hea lat else if (bI (fX6_isWords x2)) = 0 then fX6_together_b33 fnd hea lat else if (bI (fX6_in x3 (0 : Int32) (((1 : Int32) <<< ((sv (3 : Int32).toNatClampNeg) &&& 31)) - (1 : Int32)))) = 0 then fX6_together_b33 fnd hea lat else (fX6_hears sv hea lat x1 x3).bind fun q42 => gd (ib x2 121) (if 0 ≤ (q42.1 x2.toNatClampNeg) then gd (ib x2 121) (some (q42.1 x2.toNatClampNeg, fnd, q42.1, q42.2)) else (fX6_no fnd (3 : Int32)).bind fun q56 => some (q56.1, q56.2, q42.1, q42.2))
theorem hdX6_hears : yX6_hears.cls = RX6 ∧ yX6_hears.cls ≠ "java/lang/invoke/MethodHandle" ∧ yX6_hears.cls ≠ "java/lang/invoke/VarHandle" ∧ (parseMethodDescriptor yX6_hears.desc).map (fun d => d.parameters.length) = some 2 := by decide +kernel
abbrev rX6_together : Room := { frames := 3, cells := 0, slots := 0, locals := 72 }
set_option maxHeartbeats 4000000 in
set_option maxRecDepth 100000 in
theorem kX6_together (l : Launch) (D : va_G) (a : Nat → Nat) (cI cJ cS : ClassId) (hd : aok a 16) {Env : (Nat → Prop) → State → Heap → Prop} (hEo : envOK Env) (sv kep bef : Nat → Int32) (isk : Int32) (fnd : Nat → Int32) (man nex : Nat → Int64) (wor sng hea lat tap : Nat → Int32) (tpd her flt vlu : Int32) (bit lon : Nat → Int32) (cel btw : Nat → Int64) (x1 : Int32) (x2 : Int32) (x3 : Int32) (res : Int32 × (Nat → Int32) × (Nat → Int32) × (Nat → Int32)) (hres : fX6_together sv fnd hea lat x1 x2 x3 = some res) : CtI l D (tyL cI cJ cS) 16 a Env yX6_together wsX6_together rX6_together [.ref (a 0), .int x1, .int x2, .int x3] (wM a cI cJ cS sv kep bef isk fnd man nex wor sng hea lat tap tpd her flt vlu bit lon cel btw) (wM a cI cJ cS sv kep bef isk res.2.1 man nex wor sng res.2.2.1 res.2.2.2 tap tpd her flt vlu bit lon cel btw) res.1 := by
  refine CtI_mk (cc := cX6_together) (maxL := 4) (ret := (some .int)) (by decide) rfl (Nat.le_of_ble_eq_true rfl) ?_
  intro p e s m args below meth c ls hx hb hr hlk hml hown hts hP hK hE hl
  have hS : va_S (adA a 16 s.heap.size) s.heap s.heap [] := va_S.rf
  have hl : lv_has ls 4 [(0, .ref (a 0)), (1, .int x1), (2, .int x2), (3, .int x3)] := hl
  have hown : s.vm.findClass RX6 = some m.cls := hown
  have hw6 : ∀ w ∈ wsX60, w.before args s = true := fun w h => hts w (List.mem_cons_of_mem _ (List.mem_append_right _ h))
  have u1 : (Cond.fieldLink RX6 9 "YearWordsModel" "s" "[I").before args s = true := hts _ (List.mem_of_getElem? (i := 1) (by decide +kernel))
  have u2 : (Cond.fieldLink RX6 35 "YearWordsModel" "heards" "[I").before args s = true := hts _ (List.mem_of_getElem? (i := 2) (by decide +kernel))
  obtain ⟨Q, hQ⟩ : ∃ Q, Q = mqI below D 16 a args s (wM a cI cJ cS sv kep bef isk res.2.1 man nex wor sng res.2.2.1 res.2.2.2 tap tpd her flt vlu bit lon cel btw) res.1 := ⟨_, rfl⟩
  rw [← hQ]
  have b33 : ∀ (fnd : Nat → Int32) (hea : Nat → Int32) (lat : Nat → Int32), fX6_together_b33 fnd hea lat = some res → ∀ (H : Heap) (locs : List Loc) (ls : Array Slot), va_P D vwCl (wM a cI cJ cS sv kep bef isk fnd man nex wor sng hea lat tap tpd her flt vlu bit lon cel btw) H → va_S (adA a 16 s.heap.size) s.heap H locs → lv_has ls 4 [(0, .ref (a 0))] → W p l e rX6_together s m args below meth c H locs 0 0 Q (F0 m 33 ls []) := by
    intro fnd hea lat hres H locs ls hP hS hl
    unfold fX6_together_b33 at hres
    refine lv_aload_n hx hb dX6_together_33 rfl (lv_at hl 0 rfl) ?_
    refine lv_iconst (v := 0) hx hb dX6_together_34 (by decide) ?_
    obtain ⟨q35, e35, hres⟩ := obd hres
    refine cvI (q0 := 0) (ci := 6) hx hb hml hown hts hEo hE hK hP hS (kX6_no l D a cI cJ cS hd hEo sv kep bef isk fnd man nex wor sng hea lat tap tpd her flt vlu bit lon cel btw (0 : Int32) q35 e35) gX6_together_X6_no rfl hdX6_no rfl rfl rfl ⟨rfl, rfl⟩ ⟨Nat.le_of_ble_eq_true rfl, Nat.le_of_ble_eq_true rfl⟩ ⟨Nat.zero_le _, Nat.zero_le _⟩ rfl hl.1 rfl (Nat.le_of_ble_eq_true rfl) dX6_together_35 (fun H locs hP hS => ?_)
    exact hQ ▸ rtI (v := q35.1)  hx hb hr hlk hP hS (by rw [← (Option.some.inj hres)]) (by rw [← (Option.some.inj hres)]) dX6_together_38
  unfold fX6_together at hres
  refine lv_aload_n hx hb dX6_together_0 rfl (lv_at hl 0 rfl) ?_
  refine lv_iload_n hx hb dX6_together_1 rfl (lv_at hl 1 rfl) ?_
  obtain ⟨q2, e2, hres⟩ := obd hres
  refine cvI (q0 := 0) (ci := 6) hx hb hml hown hts hEo hE hK hP hS (kX6_isTale l D a cI cJ cS hd hEo sv kep bef isk fnd man nex wor sng hea lat tap tpd her flt vlu bit lon cel btw x1 q2 e2) gX6_together_X6_isTale rfl hdX6_isTale rfl rfl rfl ⟨rfl, rfl⟩ ⟨Nat.le_of_ble_eq_true rfl, Nat.le_of_ble_eq_true rfl⟩ ⟨Nat.zero_le _, Nat.zero_le _⟩ rfl hl.1 rfl (Nat.le_of_ble_eq_true rfl) dX6_together_2 (fun H locs hP hS => ?_)
  refine lv_if_eq (tgt := 33) hx hb dX6_together_5 (by decide) (fun c5 => ?_) (fun c5 => ?_)
  · have hres := (itl hres).1 c5
    exact b33 fnd hea lat hres _ _ _ hP hS (lv_sub hl [0] rfl)
  · have hres := (itl hres).2 c5
    refine lv_iload_n hx hb dX6_together_8 rfl (lv_at hl 2 rfl) ?_
    refine csI hx hb hml hown hts hEo hE hK hP hS (kX6_isWords l D a cI cJ cS hd hEo sv kep bef isk fnd man nex wor sng hea lat tap tpd her flt vlu bit lon cel btw x2) gX6_together_X6_isWords rfl hdX6_isWords ⟨rfl, rfl⟩ ⟨Nat.le_of_ble_eq_true rfl, Nat.le_of_ble_eq_true rfl⟩ ⟨Nat.zero_le _, Nat.zero_le _⟩ rfl hl.1 rfl (Nat.le_of_ble_eq_true rfl) dX6_together_9 (fun H locs hP hS => ?_)
    refine lv_if_eq (tgt := 33) hx hb dX6_together_12 (by decide) (fun c12 => ?_) (fun c12 => ?_)
    · have hres := (itl hres).1 c12
      exact b33 fnd hea lat hres _ _ _ hP hS (lv_sub hl [0] rfl)
    · have hres := (itl hres).2 c12
      refine lv_iload_n hx hb dX6_together_15 rfl (lv_at hl 3 rfl) ?_
      refine lv_iconst (v := 0) hx hb dX6_together_16 (by decide) ?_
      refine lv_iconst (v := 1) hx hb dX6_together_17 (by decide) ?_
      refine lv_aload_n hx hb dX6_together_18 rfl (lv_at hl 0 rfl) ?_
      refine gM_this6_s hx hb hown hw6 hK hP u1 dX6_together_19 ?_
      refine lv_iconst (v := 3) hx hb dX6_together_22 (by decide) ?_
      have i23 : vp_in (3 : Int32) 166 := ib_in (by decide)
      refine lM_sv hx hb hK hP i23 dX6_together_23 ?_
      refine lv_ishl hx hb dX6_together_24 ?_
      refine lv_iconst (v := 1) hx hb dX6_together_25 (by decide) ?_
      refine lv_isub hx hb dX6_together_26 ?_
      refine csI hx hb hml hown hts hEo hE hK hP hS (kX6_in l D a cI cJ cS hd hEo sv kep bef isk fnd man nex wor sng hea lat tap tpd her flt vlu bit lon cel btw x3 (0 : Int32) (((1 : Int32) <<< ((sv (3 : Int32).toNatClampNeg) &&& 31)) - (1 : Int32))) gX6_together_X6_in rfl hdX6_in ⟨rfl, rfl⟩ ⟨Nat.le_of_ble_eq_true rfl, Nat.le_of_ble_eq_true rfl⟩ ⟨Nat.zero_le _, Nat.zero_le _⟩ rfl hl.1 rfl (Nat.le_of_ble_eq_true rfl) dX6_together_27 (fun H locs hP hS => ?_)
      refine lv_if_ne (tgt := 39) hx hb dX6_together_30 (by decide) (fun c30 => ?_) (fun c30 => ?_)
      · have hres := (itl hres).2 c30
        refine lv_aload_n hx hb dX6_together_39 rfl (lv_at hl 0 rfl) ?_
        refine lv_iload_n hx hb dX6_together_40 rfl (lv_at hl 1 rfl) ?_
        refine lv_iload_n hx hb dX6_together_41 rfl (lv_at hl 3 rfl) ?_
        obtain ⟨q42, e42, hres⟩ := obd hres
        refine cvV (q0 := 0) (ci := 6) hx hb hml hown hts hEo hE hK hP hS (kX6_hears l D a cI cJ cS hd hEo sv kep bef isk fnd man nex wor sng hea lat tap tpd her flt vlu bit lon cel btw x1 x3 q42 e42) gX6_together_X6_hears rfl hdX6_hears rfl rfl rfl ⟨rfl, rfl⟩ ⟨Nat.le_of_ble_eq_true rfl, Nat.le_of_ble_eq_true rfl⟩ ⟨Nat.zero_le _, Nat.zero_le _⟩ rfl hl.1 rfl (Nat.le_of_ble_eq_true rfl) dX6_together_42 (fun H locs hP hS => ?_)
        refine lv_aload_n hx hb dX6_together_45 rfl (lv_at hl 0 rfl) ?_
        refine gM_this6_heards hx hb hown hw6 hK hP u2 dX6_together_46 ?_
        refine lv_iload_n hx hb dX6_together_49 rfl (lv_at hl 2 rfl) ?_
        obtain ⟨i50, hres⟩ := gdi hres
        refine lM_hea hx hb hK hP i50 dX6_together_50 ?_
        refine lv_if_ge (tgt := 62) hx hb dX6_together_51 (by decide) (fun c51 => ?_) (fun c51 => ?_)
        · have hres := (itl hres).1 c51
          refine lv_aload_n hx hb dX6_together_62 rfl (lv_at hl 0 rfl) ?_
          refine gM_this6_heards hx hb hown hw6 hK hP u2 dX6_together_63 ?_
          refine lv_iload_n hx hb dX6_together_66 rfl (lv_at hl 2 rfl) ?_
          obtain ⟨i67, hres⟩ := gdi hres
          refine lM_hea hx hb hK hP i67 dX6_together_67 ?_
          exact hQ ▸ rtI (v := q42.1 x2.toNatClampNeg)  hx hb hr hlk hP hS (by rw [← (Option.some.inj hres)]) (by rw [← (Option.some.inj hres)]) dX6_together_68
        · have hres := (itl hres).2 c51
          refine lv_aload_n hx hb dX6_together_54 rfl (lv_at hl 0 rfl) ?_
          refine lv_iconst (v := 3) hx hb dX6_together_55 (by decide) ?_
          obtain ⟨q56, e56, hres⟩ := obd hres
          refine cvI (q0 := 0) (ci := 6) hx hb hml hown hts hEo hE hK hP hS (kX6_no l D a cI cJ cS hd hEo sv kep bef isk fnd man nex wor sng q42.1 q42.2 tap tpd her flt vlu bit lon cel btw (3 : Int32) q56 e56) gX6_together_X6_no rfl hdX6_no rfl rfl rfl ⟨rfl, rfl⟩ ⟨Nat.le_of_ble_eq_true rfl, Nat.le_of_ble_eq_true rfl⟩ ⟨Nat.zero_le _, Nat.zero_le _⟩ rfl hl.1 rfl (Nat.le_of_ble_eq_true rfl) dX6_together_56 (fun H locs hP hS => ?_)
          refine lv_goto (tgt := 68) hx hb dX6_together_59 (by decide) ?_
          exact hQ ▸ rtI (v := q56.1)  hx hb hr hlk hP hS (by rw [← (Option.some.inj hres)]) (by rw [← (Option.some.inj hres)]) dX6_together_68
      · have hres := (itl hres).1 c30
        exact b33 fnd hea lat hres _ _ _ hP hS (lv_sub hl [0] rfl)
def fX6_passed_l3 (sv : Nat → Int32) (x1 : Int32) (x3 : Int32) (K3 : Int32 → (Nat → Int64) → (Nat → Int64) → Option (Int32 × (Nat → Int64) × (Nat → Int64))) (x4 : Int32) (man : Nat → Int64) (nex : Nat → Int64) : Option (Int32 × (Nat → Int64) × (Nat → Int64)) :=
  if x4 ≤ 0 then some (x4, man, nex) else gd (ib ((156 : Int32) + x3) 166) ((fX6_canBe sv man nex x1 x4 (sv ((156 : Int32) + x3).toNatClampNeg)).bind fun q22 => if (bI q22.1) = 0 then K3 (x4 + (-1)) q22.2.1 q22.2.2 else some (x4, q22.2.1, q22.2.2))
def fX6_passed (sv : Nat → Int32) (man : Nat → Int64) (nex : Nat → Int64) (x1 : Int32) (x2 : Int32) (x3 : Int32) : Option (Int32 × (Nat → Int64) × (Nat → Int64)) :=
  fix3 (fX6_passed_l3 sv x1 x3) 2000 x2 man nex
abbrev rX6_passed : Room := { frames := 4, cells := 0, slots := 0, locals := 94 }
set_option maxHeartbeats 4000000 in
set_option maxRecDepth 100000 in
theorem kX6_passed (l : Launch) (D : va_G) (a : Nat → Nat) (cI cJ cS : ClassId) (hd : aok a 16) {Env : (Nat → Prop) → State → Heap → Prop} (hEo : envOK Env) (sv kep bef : Nat → Int32) (isk : Int32) (fnd : Nat → Int32) (man nex : Nat → Int64) (wor sng hea lat tap : Nat → Int32) (tpd her flt vlu : Int32) (bit lon : Nat → Int32) (cel btw : Nat → Int64) (x1 : Int32) (x2 : Int32) (x3 : Int32) (res : Int32 × (Nat → Int64) × (Nat → Int64)) (hres : fX6_passed sv man nex x1 x2 x3 = some res) : CtI l D (tyL cI cJ cS) 16 a Env yX6_passed wsX6_passed rX6_passed [.ref (a 0), .int x1, .int x2, .int x3] (wM a cI cJ cS sv kep bef isk fnd man nex wor sng hea lat tap tpd her flt vlu bit lon cel btw) (wM a cI cJ cS sv kep bef isk fnd res.2.1 res.2.2 wor sng hea lat tap tpd her flt vlu bit lon cel btw) res.1 := by
  refine CtI_mk (cc := cX6_passed) (maxL := 5) (ret := (some .int)) (by decide) rfl (Nat.le_of_ble_eq_true rfl) ?_
  intro p e s m args below meth c ls hx hb hr hlk hml hown hts hP hK hE hl
  have hS : va_S (adA a 16 s.heap.size) s.heap s.heap [] := va_S.rf
  have hl : lv_has ls 5 [(0, .ref (a 0)), (1, .int x1), (2, .int x2), (3, .int x3)] := hl
  have hown : s.vm.findClass RX6 = some m.cls := hown
  have hw6 : ∀ w ∈ wsX60, w.before args s = true := fun w h => hts w (List.mem_cons_of_mem _ (List.mem_append_right _ h))
  have u1 : (Cond.fieldLink RX6 9 "YearWordsModel" "s" "[I").before args s = true := hts _ (List.mem_of_getElem? (i := 1) (by decide +kernel))
  obtain ⟨Q, hQ⟩ : ∃ Q, Q = mqI below D 16 a args s (wM a cI cJ cS sv kep bef isk fnd res.2.1 res.2.2 wor sng hea lat tap tpd her flt vlu bit lon cel btw) res.1 := ⟨_, rfl⟩
  rw [← hQ]
  have b3 : ∀  (n : Nat) (x4 : Int32) (man : Nat → Int64) (nex : Nat → Int64), fix3 (fX6_passed_l3 sv x1 x3) n x4 man nex = some res → ∀ (H : Heap) (locs : List Loc) (ls : Array Slot), va_P D vwCl (wM a cI cJ cS sv kep bef isk fnd man nex wor sng hea lat tap tpd her flt vlu bit lon cel btw) H → va_S (adA a 16 s.heap.size) s.heap H locs → lv_has ls 5 [(0, .ref (a 0)), (1, .int x1), (3, .int x3), (4, .int x4)] → W p l e rX6_passed s m args below meth c H locs 0 0 Q (F0 m 3 ls []) := by
    refine fix3_r ?_
    intro K3 hK3 x4 man nex hres H locs ls hP hS hl
    unfold fX6_passed_l3 at hres
    refine lv_iload hx hb dX6_passed_3 (lv_at hl 3 rfl) ?_
    refine lv_if_le (tgt := 34) hx hb dX6_passed_5 (by decide) (fun c5 => ?_) (fun c5 => ?_)
    · have hres := (itl hres).1 c5
      refine lv_iload hx hb dX6_passed_34 (lv_at hl 3 rfl) ?_
      exact hQ ▸ rtI (v := x4)  hx hb hr hlk hP hS (by rw [← (Option.some.inj hres)]) (by rw [← (Option.some.inj hres)]) dX6_passed_36
    · have hres := (itl hres).2 c5
      refine lv_aload_n hx hb dX6_passed_8 rfl (lv_at hl 0 rfl) ?_
      refine lv_iload_n hx hb dX6_passed_9 rfl (lv_at hl 1 rfl) ?_
      refine lv_iload hx hb dX6_passed_10 (lv_at hl 3 rfl) ?_
      refine lv_aload_n hx hb dX6_passed_12 rfl (lv_at hl 0 rfl) ?_
      refine gM_this6_s hx hb hown hw6 hK hP u1 dX6_passed_13 ?_
      refine lv_sipush (v := 156) hx hb dX6_passed_16 (by decide) ?_
      refine lv_iload_n hx hb dX6_passed_19 rfl (lv_at hl 2 rfl) ?_
      refine lv_iadd hx hb dX6_passed_20 ?_
      obtain ⟨i21, hres⟩ := gdi hres
      refine lM_sv hx hb hK hP i21 dX6_passed_21 ?_
      obtain ⟨q22, e22, hres⟩ := obd hres
      refine cvI (q0 := 0) (ci := 6) hx hb hml hown hts hEo hE hK hP hS (kX6_canBe l D a cI cJ cS hd hEo sv kep bef isk fnd man nex wor sng hea lat tap tpd her flt vlu bit lon cel btw x1 x4 (sv ((156 : Int32) + x3).toNatClampNeg) q22 e22) gX6_passed_X6_canBe rfl hdX6_canBe rfl rfl rfl ⟨rfl, rfl⟩ ⟨Nat.le_of_ble_eq_true rfl, Nat.le_of_ble_eq_true rfl⟩ ⟨Nat.zero_le _, Nat.zero_le _⟩ rfl hl.1 rfl (Nat.le_of_ble_eq_true rfl) dX6_passed_22 (fun H locs hP hS => ?_)
      refine lv_if_ne (tgt := 34) hx hb dX6_passed_25 (by decide) (fun c25 => ?_) (fun c25 => ?_)
      · have hres := (itl hres).2 c25
        refine lv_iload hx hb dX6_passed_34 (lv_at hl 3 rfl) ?_
        exact hQ ▸ rtI (v := x4)  hx hb hr hlk hP hS (by rw [← (Option.some.inj hres)]) (by rw [← (Option.some.inj hres)]) dX6_passed_36
      · have hres := (itl hres).1 c25
        refine lv_iinc (v := x4 + (-1)) (lv' := [(4, .int (x4 + (-1))), (0, .ref (a 0)), (1, .int x1), (3, .int x3)]) hx hb dX6_passed_28 hl (k := 3) rfl (congrArg (fun z => x4 + z) (by decide)) (by decide) rfl (fun ls hl => ?_)
        refine lv_goto (tgt := 3) hx hb dX6_passed_31 (by decide) ?_
        exact hK3 (x4 + (-1)) q22.2.1 q22.2.2 hres _ _ _ hP hS (lv_sub hl [1, 2, 3, 0] rfl)
  unfold fX6_passed at hres
  refine lv_iload_n hx hb dX6_passed_0 rfl (lv_at hl 2 rfl) ?_
  refine lv_istore (lv' := [(4, .int x2), (0, .ref (a 0)), (1, .int x1), (2, .int x2), (3, .int x3)]) hx hb dX6_passed_1 hl (by decide) rfl (fun ls hl => ?_)
  exact b3  2000 x2 man nex hres _ _ _ hP hS (lv_sub hl [1, 2, 4, 0] rfl)
def fX6_pass (sv : Nat → Int32) (fnd : Nat → Int32) (man : Nat → Int64) (nex : Nat → Int64) (x1 : Int32) (x2 : Int32) : Option (Int32 × (Nat → Int32) × (Nat → Int64) × (Nat → Int64)) :=
 (fX6_areTold sv x1 x2).bind fun q3 => if (bI q3) = 0 then (fX6_no fnd (0 : Int32)).bind fun q25 => some (q25.1, q25.2, man, nex) else (fX6_long_ sv x1).bind fun q13 => (fX6_passed sv man nex x1 q13 x2).bind fun q17 => some (q17.1, fnd, q17.2.1, q17.2.2)
theorem hdX6_passed : yX6_passed.cls = RX6 ∧ yX6_passed.cls ≠ "java/lang/invoke/MethodHandle" ∧ yX6_passed.cls ≠ "java/lang/invoke/VarHandle" ∧ (parseMethodDescriptor yX6_passed.desc).map (fun d => d.parameters.length) = some 3 := by decide +kernel
abbrev rX6_pass : Room := { frames := 5, cells := 0, slots := 0, locals := 118 }
set_option maxHeartbeats 4000000 in
set_option maxRecDepth 100000 in
theorem kX6_pass (l : Launch) (D : va_G) (a : Nat → Nat) (cI cJ cS : ClassId) (hd : aok a 16) {Env : (Nat → Prop) → State → Heap → Prop} (hEo : envOK Env) (sv kep bef : Nat → Int32) (isk : Int32) (fnd : Nat → Int32) (man nex : Nat → Int64) (wor sng hea lat tap : Nat → Int32) (tpd her flt vlu : Int32) (bit lon : Nat → Int32) (cel btw : Nat → Int64) (x1 : Int32) (x2 : Int32) (res : Int32 × (Nat → Int32) × (Nat → Int64) × (Nat → Int64)) (hres : fX6_pass sv fnd man nex x1 x2 = some res) : CtI l D (tyL cI cJ cS) 16 a Env yX6_pass wsX6_pass rX6_pass [.ref (a 0), .int x1, .int x2] (wM a cI cJ cS sv kep bef isk fnd man nex wor sng hea lat tap tpd her flt vlu bit lon cel btw) (wM a cI cJ cS sv kep bef isk res.2.1 res.2.2.1 res.2.2.2 wor sng hea lat tap tpd her flt vlu bit lon cel btw) res.1 := by
  refine CtI_mk (cc := cX6_pass) (maxL := 3) (ret := (some .int)) (by decide) rfl (Nat.le_of_ble_eq_true rfl) ?_
  intro p e s m args below meth c ls hx hb hr hlk hml hown hts hP hK hE hl
  have hS : va_S (adA a 16 s.heap.size) s.heap s.heap [] := va_S.rf
  have hl : lv_has ls 3 [(0, .ref (a 0)), (1, .int x1), (2, .int x2)] := hl
  have hown : s.vm.findClass RX6 = some m.cls := hown
  obtain ⟨Q, hQ⟩ : ∃ Q, Q = mqI below D 16 a args s (wM a cI cJ cS sv kep bef isk res.2.1 res.2.2.1 res.2.2.2 wor sng hea lat tap tpd her flt vlu bit lon cel btw) res.1 := ⟨_, rfl⟩
  rw [← hQ]
  unfold fX6_pass at hres
  refine lv_aload_n hx hb dX6_pass_0 rfl (lv_at hl 0 rfl) ?_
  refine lv_iload_n hx hb dX6_pass_1 rfl (lv_at hl 1 rfl) ?_
  refine lv_iload_n hx hb dX6_pass_2 rfl (lv_at hl 2 rfl) ?_
  obtain ⟨q3, e3, hres⟩ := obd hres
  refine cvI (q0 := 0) (ci := 6) hx hb hml hown hts hEo hE hK hP hS (kX6_areTold l D a cI cJ cS hd hEo sv kep bef isk fnd man nex wor sng hea lat tap tpd her flt vlu bit lon cel btw x1 x2 q3 e3) gX6_pass_X6_areTold rfl hdX6_areTold rfl rfl rfl ⟨rfl, rfl⟩ ⟨Nat.le_of_ble_eq_true rfl, Nat.le_of_ble_eq_true rfl⟩ ⟨Nat.zero_le _, Nat.zero_le _⟩ rfl hl.1 rfl (Nat.le_of_ble_eq_true rfl) dX6_pass_3 (fun H locs hP hS => ?_)
  refine lv_if_eq (tgt := 23) hx hb dX6_pass_6 (by decide) (fun c6 => ?_) (fun c6 => ?_)
  · have hres := (itl hres).1 c6
    refine lv_aload_n hx hb dX6_pass_23 rfl (lv_at hl 0 rfl) ?_
    refine lv_iconst (v := 0) hx hb dX6_pass_24 (by decide) ?_
    obtain ⟨q25, e25, hres⟩ := obd hres
    refine cvI (q0 := 0) (ci := 6) hx hb hml hown hts hEo hE hK hP hS (kX6_no l D a cI cJ cS hd hEo sv kep bef isk fnd man nex wor sng hea lat tap tpd her flt vlu bit lon cel btw (0 : Int32) q25 e25) gX6_pass_X6_no rfl hdX6_no rfl rfl rfl ⟨rfl, rfl⟩ ⟨Nat.le_of_ble_eq_true rfl, Nat.le_of_ble_eq_true rfl⟩ ⟨Nat.zero_le _, Nat.zero_le _⟩ rfl hl.1 rfl (Nat.le_of_ble_eq_true rfl) dX6_pass_25 (fun H locs hP hS => ?_)
    exact hQ ▸ rtI (v := q25.1)  hx hb hr hlk hP hS (by rw [← (Option.some.inj hres)]) (by rw [← (Option.some.inj hres)]) dX6_pass_28
  · have hres := (itl hres).2 c6
    refine lv_aload_n hx hb dX6_pass_9 rfl (lv_at hl 0 rfl) ?_
    refine lv_iload_n hx hb dX6_pass_10 rfl (lv_at hl 1 rfl) ?_
    refine lv_aload_n hx hb dX6_pass_11 rfl (lv_at hl 0 rfl) ?_
    refine lv_iload_n hx hb dX6_pass_12 rfl (lv_at hl 1 rfl) ?_
    obtain ⟨q13, e13, hres⟩ := obd hres
    refine cvI (q0 := 0) (ci := 6) hx hb hml hown hts hEo hE hK hP hS (kX6_long_ l D a cI cJ cS hd hEo sv kep bef isk fnd man nex wor sng hea lat tap tpd her flt vlu bit lon cel btw x1 q13 e13) gX6_pass_X6_long_ rfl hdX6_long_ rfl rfl rfl ⟨rfl, rfl⟩ ⟨Nat.le_of_ble_eq_true rfl, Nat.le_of_ble_eq_true rfl⟩ ⟨Nat.zero_le _, Nat.zero_le _⟩ rfl hl.1 rfl (Nat.le_of_ble_eq_true rfl) dX6_pass_13 (fun H locs hP hS => ?_)
    refine lv_iload_n hx hb dX6_pass_16 rfl (lv_at hl 2 rfl) ?_
    obtain ⟨q17, e17, hres⟩ := obd hres
    refine cvI (q0 := 0) (ci := 6) hx hb hml hown hts hEo hE hK hP hS (kX6_passed l D a cI cJ cS hd hEo sv kep bef isk fnd man nex wor sng hea lat tap tpd her flt vlu bit lon cel btw x1 q13 x2 q17 e17) gX6_pass_X6_passed rfl hdX6_passed rfl rfl rfl ⟨rfl, rfl⟩ ⟨Nat.le_of_ble_eq_true rfl, Nat.le_of_ble_eq_true rfl⟩ ⟨Nat.zero_le _, Nat.zero_le _⟩ rfl hl.1 rfl (Nat.le_of_ble_eq_true rfl) dX6_pass_17 (fun H locs hP hS => ?_)
    refine lv_goto (tgt := 28) hx hb dX6_pass_20 (by decide) ?_
    exact hQ ▸ rtI (v := q17.1)  hx hb hr hlk hP hS (by rw [← (Option.some.inj hres)]) (by rw [← (Option.some.inj hres)]) dX6_pass_28
def fX6_through_b17 (fnd : Nat → Int32) (man : Nat → Int64) (nex : Nat → Int64) : Option (Int32 × (Nat → Int32) × (Nat → Int64) × (Nat → Int64)) :=
 (fX6_no fnd (0 : Int32)).bind fun q19 => some (q19.1, q19.2, man, nex)
def fX6_through (sv : Nat → Int32) (fnd : Nat → Int32) (man : Nat → Int64) (nex : Nat → Int64) (x1 : Int32) (x2 : Int32) (x3 : Int32) : Option (Int32 × (Nat → Int32) × (Nat → Int64) × (Nat → Int64)) :=
 (fX6_areTold sv x1 x2).bind fun q3 => if (bI q3) = 0 then fX6_through_b17 fnd man nex else (fX6_isHearer sv x3).bind fun q11 => if (bI q11) = 0 then fX6_through_b17 fnd man nex else (fX6_long_ sv x1).bind fun q29 => (fX6_passed sv man nex x1 q29 x2).bind fun q33 => (fX6_passed sv q33.2.1 q33.2.2 x1 q33.1 x3).bind fun q37 => some (q37.1, fnd, q37.2.1, q37.2.2)
abbrev rX6_through : Room := { frames := 5, cells := 0, slots := 0, locals := 118 }
set_option maxHeartbeats 4000000 in
set_option maxRecDepth 100000 in
theorem kX6_through (l : Launch) (D : va_G) (a : Nat → Nat) (cI cJ cS : ClassId) (hd : aok a 16) {Env : (Nat → Prop) → State → Heap → Prop} (hEo : envOK Env) (sv kep bef : Nat → Int32) (isk : Int32) (fnd : Nat → Int32) (man nex : Nat → Int64) (wor sng hea lat tap : Nat → Int32) (tpd her flt vlu : Int32) (bit lon : Nat → Int32) (cel btw : Nat → Int64) (x1 : Int32) (x2 : Int32) (x3 : Int32) (res : Int32 × (Nat → Int32) × (Nat → Int64) × (Nat → Int64)) (hres : fX6_through sv fnd man nex x1 x2 x3 = some res) : CtI l D (tyL cI cJ cS) 16 a Env yX6_through wsX6_through rX6_through [.ref (a 0), .int x1, .int x2, .int x3] (wM a cI cJ cS sv kep bef isk fnd man nex wor sng hea lat tap tpd her flt vlu bit lon cel btw) (wM a cI cJ cS sv kep bef isk res.2.1 res.2.2.1 res.2.2.2 wor sng hea lat tap tpd her flt vlu bit lon cel btw) res.1 := by
  refine CtI_mk (cc := cX6_through) (maxL := 4) (ret := (some .int)) (by decide) rfl (Nat.le_of_ble_eq_true rfl) ?_
  intro p e s m args below meth c ls hx hb hr hlk hml hown hts hP hK hE hl
  have hS : va_S (adA a 16 s.heap.size) s.heap s.heap [] := va_S.rf
  have hl : lv_has ls 4 [(0, .ref (a 0)), (1, .int x1), (2, .int x2), (3, .int x3)] := hl
  have hown : s.vm.findClass RX6 = some m.cls := hown
  obtain ⟨Q, hQ⟩ : ∃ Q, Q = mqI below D 16 a args s (wM a cI cJ cS sv kep bef isk res.2.1 res.2.2.1 res.2.2.2 wor sng hea lat tap tpd her flt vlu bit lon cel btw) res.1 := ⟨_, rfl⟩
  rw [← hQ]
  have b17 : ∀ (fnd : Nat → Int32) (man : Nat → Int64) (nex : Nat → Int64), fX6_through_b17 fnd man nex = some res → ∀ (H : Heap) (locs : List Loc) (ls : Array Slot), va_P D vwCl (wM a cI cJ cS sv kep bef isk fnd man nex wor sng hea lat tap tpd her flt vlu bit lon cel btw) H → va_S (adA a 16 s.heap.size) s.heap H locs → lv_has ls 4 [(0, .ref (a 0))] → W p l e rX6_through s m args below meth c H locs 0 0 Q (F0 m 17 ls []) := by
    intro fnd man nex hres H locs ls hP hS hl
    unfold fX6_through_b17 at hres
    refine lv_aload_n hx hb dX6_through_17 rfl (lv_at hl 0 rfl) ?_
    refine lv_iconst (v := 0) hx hb dX6_through_18 (by decide) ?_
    obtain ⟨q19, e19, hres⟩ := obd hres
    refine cvI (q0 := 0) (ci := 6) hx hb hml hown hts hEo hE hK hP hS (kX6_no l D a cI cJ cS hd hEo sv kep bef isk fnd man nex wor sng hea lat tap tpd her flt vlu bit lon cel btw (0 : Int32) q19 e19) gX6_through_X6_no rfl hdX6_no rfl rfl rfl ⟨rfl, rfl⟩ ⟨Nat.le_of_ble_eq_true rfl, Nat.le_of_ble_eq_true rfl⟩ ⟨Nat.zero_le _, Nat.zero_le _⟩ rfl hl.1 rfl (Nat.le_of_ble_eq_true rfl) dX6_through_19 (fun H locs hP hS => ?_)
    exact hQ ▸ rtI (v := q19.1)  hx hb hr hlk hP hS (by rw [← (Option.some.inj hres)]) (by rw [← (Option.some.inj hres)]) dX6_through_22
  unfold fX6_through at hres
  refine lv_aload_n hx hb dX6_through_0 rfl (lv_at hl 0 rfl) ?_
  refine lv_iload_n hx hb dX6_through_1 rfl (lv_at hl 1 rfl) ?_
  refine lv_iload_n hx hb dX6_through_2 rfl (lv_at hl 2 rfl) ?_
  obtain ⟨q3, e3, hres⟩ := obd hres
  refine cvI (q0 := 0) (ci := 6) hx hb hml hown hts hEo hE hK hP hS (kX6_areTold l D a cI cJ cS hd hEo sv kep bef isk fnd man nex wor sng hea lat tap tpd her flt vlu bit lon cel btw x1 x2 q3 e3) gX6_through_X6_areTold rfl hdX6_areTold rfl rfl rfl ⟨rfl, rfl⟩ ⟨Nat.le_of_ble_eq_true rfl, Nat.le_of_ble_eq_true rfl⟩ ⟨Nat.zero_le _, Nat.zero_le _⟩ rfl hl.1 rfl (Nat.le_of_ble_eq_true rfl) dX6_through_3 (fun H locs hP hS => ?_)
  refine lv_if_eq (tgt := 17) hx hb dX6_through_6 (by decide) (fun c6 => ?_) (fun c6 => ?_)
  · have hres := (itl hres).1 c6
    exact b17 fnd man nex hres _ _ _ hP hS (lv_sub hl [0] rfl)
  · have hres := (itl hres).2 c6
    refine lv_aload_n hx hb dX6_through_9 rfl (lv_at hl 0 rfl) ?_
    refine lv_iload_n hx hb dX6_through_10 rfl (lv_at hl 3 rfl) ?_
    obtain ⟨q11, e11, hres⟩ := obd hres
    refine cvI (q0 := 0) (ci := 6) hx hb hml hown hts hEo hE hK hP hS (kX6_isHearer l D a cI cJ cS hd hEo sv kep bef isk fnd man nex wor sng hea lat tap tpd her flt vlu bit lon cel btw x3 q11 e11) gX6_through_X6_isHearer rfl hdX6_isHearer rfl rfl rfl ⟨rfl, rfl⟩ ⟨Nat.le_of_ble_eq_true rfl, Nat.le_of_ble_eq_true rfl⟩ ⟨Nat.zero_le _, Nat.zero_le _⟩ rfl hl.1 rfl (Nat.le_of_ble_eq_true rfl) dX6_through_11 (fun H locs hP hS => ?_)
    refine lv_if_ne (tgt := 23) hx hb dX6_through_14 (by decide) (fun c14 => ?_) (fun c14 => ?_)
    · have hres := (itl hres).2 c14
      refine lv_aload_n hx hb dX6_through_23 rfl (lv_at hl 0 rfl) ?_
      refine lv_iload_n hx hb dX6_through_24 rfl (lv_at hl 1 rfl) ?_
      refine lv_aload_n hx hb dX6_through_25 rfl (lv_at hl 0 rfl) ?_
      refine lv_iload_n hx hb dX6_through_26 rfl (lv_at hl 1 rfl) ?_
      refine lv_aload_n hx hb dX6_through_27 rfl (lv_at hl 0 rfl) ?_
      refine lv_iload_n hx hb dX6_through_28 rfl (lv_at hl 1 rfl) ?_
      obtain ⟨q29, e29, hres⟩ := obd hres
      refine cvI (q0 := 0) (ci := 6) hx hb hml hown hts hEo hE hK hP hS (kX6_long_ l D a cI cJ cS hd hEo sv kep bef isk fnd man nex wor sng hea lat tap tpd her flt vlu bit lon cel btw x1 q29 e29) gX6_through_X6_long_ rfl hdX6_long_ rfl rfl rfl ⟨rfl, rfl⟩ ⟨Nat.le_of_ble_eq_true rfl, Nat.le_of_ble_eq_true rfl⟩ ⟨Nat.zero_le _, Nat.zero_le _⟩ rfl hl.1 rfl (Nat.le_of_ble_eq_true rfl) dX6_through_29 (fun H locs hP hS => ?_)
      refine lv_iload_n hx hb dX6_through_32 rfl (lv_at hl 2 rfl) ?_
      obtain ⟨q33, e33, hres⟩ := obd hres
      refine cvI (q0 := 0) (ci := 6) hx hb hml hown hts hEo hE hK hP hS (kX6_passed l D a cI cJ cS hd hEo sv kep bef isk fnd man nex wor sng hea lat tap tpd her flt vlu bit lon cel btw x1 q29 x2 q33 e33) gX6_through_X6_passed rfl hdX6_passed rfl rfl rfl ⟨rfl, rfl⟩ ⟨Nat.le_of_ble_eq_true rfl, Nat.le_of_ble_eq_true rfl⟩ ⟨Nat.zero_le _, Nat.zero_le _⟩ rfl hl.1 rfl (Nat.le_of_ble_eq_true rfl) dX6_through_33 (fun H locs hP hS => ?_)
      refine lv_iload_n hx hb dX6_through_36 rfl (lv_at hl 3 rfl) ?_
      obtain ⟨q37, e37, hres⟩ := obd hres
      refine cvI (q0 := 0) (ci := 6) hx hb hml hown hts hEo hE hK hP hS (kX6_passed l D a cI cJ cS hd hEo sv kep bef isk fnd q33.2.1 q33.2.2 wor sng hea lat tap tpd her flt vlu bit lon cel btw x1 q33.1 x3 q37 e37) gX6_through_X6_passed rfl hdX6_passed rfl rfl rfl ⟨rfl, rfl⟩ ⟨Nat.le_of_ble_eq_true rfl, Nat.le_of_ble_eq_true rfl⟩ ⟨Nat.zero_le _, Nat.zero_le _⟩ rfl hl.1 rfl (Nat.le_of_ble_eq_true rfl) dX6_through_37 (fun H locs hP hS => ?_)
      exact hQ ▸ rtI (v := q37.1)  hx hb hr hlk hP hS (by rw [← (Option.some.inj hres)]) (by rw [← (Option.some.inj hres)]) dX6_through_40
    · have hres := (itl hres).1 c14
      exact b17 fnd man nex hres _ _ _ hP hS (lv_sub hl [0] rfl)
def fX6_middle_b22 (fnd : Nat → Int32) (man : Nat → Int64) (nex : Nat → Int64) : Option (Int32 × (Nat → Int32) × (Nat → Int64) × (Nat → Int64)) :=
 (fX6_no fnd (0 : Int32)).bind fun q24 => some (q24.1, q24.2, man, nex)
def fX6_middle_b124 (K50 : Int32 → Int32 → Int32 → (Nat → Int64) → (Nat → Int64) → Option (Int32 × (Nat → Int32) × (Nat → Int64) × (Nat → Int64))) (man : Nat → Int64) (nex : Nat → Int64) (x5 : Int32) (x7 : Int32) (z0 : Int32) : Option (Int32 × (Nat → Int32) × (Nat → Int64) × (Nat → Int64)) :=
  K50 x5 z0 (x7 + 1) man nex
def fX6_middle_b108 (K50 : Int32 → Int32 → Int32 → (Nat → Int64) → (Nat → Int64) → Option (Int32 × (Nat → Int32) × (Nat → Int64) × (Nat → Int64))) (man : Nat → Int64) (nex : Nat → Int64) (x6 : Int32) (x7 : Int32) (x8 : Int32) (z0 : Int32) : Option (Int32 × (Nat → Int32) × (Nat → Int64) × (Nat → Int64)) :=
  if x8 ≤ x6 then fX6_middle_b124 K50 man nex z0 x7 x6 else fX6_middle_b124 K50 man nex z0 x7 x8
def fX6_middle_b92 (K50 : Int32 → Int32 → Int32 → (Nat → Int64) → (Nat → Int64) → Option (Int32 × (Nat → Int32) × (Nat → Int64) × (Nat → Int64))) (man : Nat → Int64) (nex : Nat → Int64) (x5 : Int32) (x6 : Int32) (x7 : Int32) (z0 : Int32) : Option (Int32 × (Nat → Int32) × (Nat → Int64) × (Nat → Int64)) :=
  if z0 ≤ x6 then fX6_middle_b108 K50 man nex x6 x7 z0 x5 else fX6_middle_b108 K50 man nex x6 x7 z0 x7
def fX6_middle_b73 (K50 : Int32 → Int32 → Int32 → (Nat → Int64) → (Nat → Int64) → Option (Int32 × (Nat → Int32) × (Nat → Int64) × (Nat → Int64))) (man : Nat → Int64) (nex : Nat → Int64) (x5 : Int32) (x6 : Int32) (x7 : Int32) : Option (Int32 × (Nat → Int32) × (Nat → Int64) × (Nat → Int64)) :=
  fX6_middle_b92 K50 man nex x5 x6 x7 (-1 : Int32)
def fX6_middle_b132 (fnd : Nat → Int32) (man : Nat → Int64) (nex : Nat → Int64) (x5 : Int32) : Option (Int32 × (Nat → Int32) × (Nat → Int64) × (Nat → Int64)) :=
  if 0 ≤ x5 then some (x5, fnd, man, nex) else (fX6_no fnd (3 : Int32)).bind fun q139 => some (q139.1, q139.2, man, nex)
def fX6_middle_l50 (sv : Nat → Int32) (fnd : Nat → Int32) (x1 : Int32) (x2 : Int32) (x3 : Int32) (x4 : Int32) (K50 : Int32 → Int32 → Int32 → (Nat → Int64) → (Nat → Int64) → Option (Int32 × (Nat → Int32) × (Nat → Int64) × (Nat → Int64))) (x5 : Int32) (x6 : Int32) (x7 : Int32) (man : Nat → Int64) (nex : Nat → Int64) : Option (Int32 × (Nat → Int32) × (Nat → Int64) × (Nat → Int64)) :=
  if (sv (3 : Int32).toNatClampNeg) ≤ x7 then fX6_middle_b132 fnd man nex x5 else if x7 = x2 then fX6_middle_b73 K50 man nex x5 x6 x7 else if x7 = x3 then fX6_middle_b73 K50 man nex x5 x6 x7 else (fX6_passed sv man nex x1 x4 x7).bind fun q85 => (fX6_passed sv q85.2.1 q85.2.2 x1 q85.1 x3).bind fun q89 => fX6_middle_b92 K50 q89.2.1 q89.2.2 x5 x6 x7 q89.1
def fX6_middle (sv : Nat → Int32) (fnd : Nat → Int32) (man : Nat → Int64) (nex : Nat → Int64) (x1 : Int32) (x2 : Int32) (x3 : Int32) : Option (Int32 × (Nat → Int32) × (Nat → Int64) × (Nat → Int64)) :=
 (fX6_areTold sv x1 x2).bind fun q3 => if (bI q3) = 0 then fX6_middle_b22 fnd man nex else (fX6_isHearer sv x3).bind fun q11 => if (bI q11) = 0 then fX6_middle_b22 fnd man nex else if x2 = x3 then fX6_middle_b22 fnd man nex else (fX6_long_ sv x1).bind fun q32 => (fX6_passed sv man nex x1 q32 x2).bind fun q36 => fix5 (fX6_middle_l50 sv fnd x1 x2 x3 q36.1) 2000 (-1 : Int32) (-1 : Int32) (0 : Int32) q36.2.1 q36.2.2
abbrev rX6_middle : Room := { frames := 5, cells := 0, slots := 0, locals := 118 }
set_option maxHeartbeats 4000000 in
set_option maxRecDepth 100000 in
theorem kX6_middle (l : Launch) (D : va_G) (a : Nat → Nat) (cI cJ cS : ClassId) (hd : aok a 16) {Env : (Nat → Prop) → State → Heap → Prop} (hEo : envOK Env) (sv kep bef : Nat → Int32) (isk : Int32) (fnd : Nat → Int32) (man nex : Nat → Int64) (wor sng hea lat tap : Nat → Int32) (tpd her flt vlu : Int32) (bit lon : Nat → Int32) (cel btw : Nat → Int64) (x1 : Int32) (x2 : Int32) (x3 : Int32) (res : Int32 × (Nat → Int32) × (Nat → Int64) × (Nat → Int64)) (hres : fX6_middle sv fnd man nex x1 x2 x3 = some res) : CtI l D (tyL cI cJ cS) 16 a Env yX6_middle wsX6_middle rX6_middle [.ref (a 0), .int x1, .int x2, .int x3] (wM a cI cJ cS sv kep bef isk fnd man nex wor sng hea lat tap tpd her flt vlu bit lon cel btw) (wM a cI cJ cS sv kep bef isk res.2.1 res.2.2.1 res.2.2.2 wor sng hea lat tap tpd her flt vlu bit lon cel btw) res.1 := by
  refine CtI_mk (cc := cX6_middle) (maxL := 9) (ret := (some .int)) (by decide) rfl (Nat.le_of_ble_eq_true rfl) ?_
  intro p e s m args below meth c ls hx hb hr hlk hml hown hts hP hK hE hl
  have hS : va_S (adA a 16 s.heap.size) s.heap s.heap [] := va_S.rf
  have hl : lv_has ls 9 [(0, .ref (a 0)), (1, .int x1), (2, .int x2), (3, .int x3)] := hl
  have hown : s.vm.findClass RX6 = some m.cls := hown
  have hw6 : ∀ w ∈ wsX60, w.before args s = true := fun w h => hts w (List.mem_cons_of_mem _ (List.mem_append_right _ h))
  have u1 : (Cond.fieldLink RX6 9 "YearWordsModel" "s" "[I").before args s = true := hts _ (List.mem_of_getElem? (i := 1) (by decide +kernel))
  obtain ⟨Q, hQ⟩ : ∃ Q, Q = mqI below D 16 a args s (wM a cI cJ cS sv kep bef isk res.2.1 res.2.2.1 res.2.2.2 wor sng hea lat tap tpd her flt vlu bit lon cel btw) res.1 := ⟨_, rfl⟩
  rw [← hQ]
  have b22 : ∀ (fnd : Nat → Int32) (man : Nat → Int64) (nex : Nat → Int64), fX6_middle_b22 fnd man nex = some res → ∀ (H : Heap) (locs : List Loc) (ls : Array Slot), va_P D vwCl (wM a cI cJ cS sv kep bef isk fnd man nex wor sng hea lat tap tpd her flt vlu bit lon cel btw) H → va_S (adA a 16 s.heap.size) s.heap H locs → lv_has ls 9 [(0, .ref (a 0))] → W p l e rX6_middle s m args below meth c H locs 0 0 Q (F0 m 22 ls []) := by
    intro fnd man nex hres H locs ls hP hS hl
    unfold fX6_middle_b22 at hres
    refine lv_aload_n hx hb dX6_middle_22 rfl (lv_at hl 0 rfl) ?_
    refine lv_iconst (v := 0) hx hb dX6_middle_23 (by decide) ?_
    obtain ⟨q24, e24, hres⟩ := obd hres
    refine cvI (q0 := 0) (ci := 6) hx hb hml hown hts hEo hE hK hP hS (kX6_no l D a cI cJ cS hd hEo sv kep bef isk fnd man nex wor sng hea lat tap tpd her flt vlu bit lon cel btw (0 : Int32) q24 e24) gX6_middle_X6_no rfl hdX6_no rfl rfl rfl ⟨rfl, rfl⟩ ⟨Nat.le_of_ble_eq_true rfl, Nat.le_of_ble_eq_true rfl⟩ ⟨Nat.zero_le _, Nat.zero_le _⟩ rfl hl.1 rfl (Nat.le_of_ble_eq_true rfl) dX6_middle_24 (fun H locs hP hS => ?_)
    exact hQ ▸ rtI (v := q24.1)  hx hb hr hlk hP hS (by rw [← (Option.some.inj hres)]) (by rw [← (Option.some.inj hres)]) dX6_middle_27
  have b132 : ∀ (fnd : Nat → Int32) (man : Nat → Int64) (nex : Nat → Int64) (x5 : Int32), fX6_middle_b132 fnd man nex x5 = some res → ∀ (H : Heap) (locs : List Loc) (ls : Array Slot), va_P D vwCl (wM a cI cJ cS sv kep bef isk fnd man nex wor sng hea lat tap tpd her flt vlu bit lon cel btw) H → va_S (adA a 16 s.heap.size) s.heap H locs → lv_has ls 9 [(0, .ref (a 0)), (5, .int x5)] → W p l e rX6_middle s m args below meth c H locs 0 0 Q (F0 m 132 ls []) := by
    intro fnd man nex x5 hres H locs ls hP hS hl
    unfold fX6_middle_b132 at hres
    refine lv_iload hx hb dX6_middle_132 (lv_at hl 1 rfl) ?_
    refine lv_if_ge (tgt := 145) hx hb dX6_middle_134 (by decide) (fun c134 => ?_) (fun c134 => ?_)
    · have hres := (itl hres).1 c134
      refine lv_iload hx hb dX6_middle_145 (lv_at hl 1 rfl) ?_
      exact hQ ▸ rtI (v := x5)  hx hb hr hlk hP hS (by rw [← (Option.some.inj hres)]) (by rw [← (Option.some.inj hres)]) dX6_middle_147
    · have hres := (itl hres).2 c134
      refine lv_aload_n hx hb dX6_middle_137 rfl (lv_at hl 0 rfl) ?_
      refine lv_iconst (v := 3) hx hb dX6_middle_138 (by decide) ?_
      obtain ⟨q139, e139, hres⟩ := obd hres
      refine cvI (q0 := 0) (ci := 6) hx hb hml hown hts hEo hE hK hP hS (kX6_no l D a cI cJ cS hd hEo sv kep bef isk fnd man nex wor sng hea lat tap tpd her flt vlu bit lon cel btw (3 : Int32) q139 e139) gX6_middle_X6_no rfl hdX6_no rfl rfl rfl ⟨rfl, rfl⟩ ⟨Nat.le_of_ble_eq_true rfl, Nat.le_of_ble_eq_true rfl⟩ ⟨Nat.zero_le _, Nat.zero_le _⟩ rfl hl.1 rfl (Nat.le_of_ble_eq_true rfl) dX6_middle_139 (fun H locs hP hS => ?_)
      refine lv_goto (tgt := 147) hx hb dX6_middle_142 (by decide) ?_
      exact hQ ▸ rtI (v := q139.1)  hx hb hr hlk hP hS (by rw [← (Option.some.inj hres)]) (by rw [← (Option.some.inj hres)]) dX6_middle_147
  have b50 : ∀ (fnd : Nat → Int32) (x4 : Int32) (n : Nat) (x5 : Int32) (x6 : Int32) (x7 : Int32) (man : Nat → Int64) (nex : Nat → Int64), fix5 (fX6_middle_l50 sv fnd x1 x2 x3 x4) n x5 x6 x7 man nex = some res → ∀ (H : Heap) (locs : List Loc) (ls : Array Slot), va_P D vwCl (wM a cI cJ cS sv kep bef isk fnd man nex wor sng hea lat tap tpd her flt vlu bit lon cel btw) H → va_S (adA a 16 s.heap.size) s.heap H locs → lv_has ls 9 [(0, .ref (a 0)), (1, .int x1), (2, .int x2), (3, .int x3), (4, .int x4), (5, .int x5), (6, .int x6), (7, .int x7)] → W p l e rX6_middle s m args below meth c H locs 0 0 Q (F0 m 50 ls []) := by
    intro fnd x4
    refine fix5_r ?_
    intro K50 hK50 x5 x6 x7 man nex hres H locs ls hP hS hl
    have b124 : ∀ (man : Nat → Int64) (nex : Nat → Int64) (x5 : Int32) (x7 : Int32) (z0 : Int32), fX6_middle_b124 K50 man nex x5 x7 z0 = some res → ∀ (H : Heap) (locs : List Loc) (ls : Array Slot), va_P D vwCl (wM a cI cJ cS sv kep bef isk fnd man nex wor sng hea lat tap tpd her flt vlu bit lon cel btw) H → va_S (adA a 16 s.heap.size) s.heap H locs → lv_has ls 9 [(0, .ref (a 0)), (1, .int x1), (2, .int x2), (3, .int x3), (4, .int x4), (5, .int x5), (7, .int x7)] → W p l e rX6_middle s m args below meth c H locs 0 0 Q (F0 m 124 ls [.int z0]) := by
      intro man nex x5 x7 z0 hres H locs ls hP hS hl
      unfold fX6_middle_b124 at hres
      refine lv_istore (lv' := [(6, .int z0), (0, .ref (a 0)), (1, .int x1), (2, .int x2), (3, .int x3), (4, .int x4), (5, .int x5), (7, .int x7)]) hx hb dX6_middle_124 hl (by decide) rfl (fun ls hl => ?_)
      refine lv_iinc (v := x7 + 1) (lv' := [(7, .int (x7 + 1)), (6, .int z0), (0, .ref (a 0)), (1, .int x1), (2, .int x2), (3, .int x3), (4, .int x4), (5, .int x5)]) hx hb dX6_middle_126 hl (k := 7) rfl (congrArg (fun z => x7 + z) (by decide)) (by decide) rfl (fun ls hl => ?_)
      refine lv_goto (tgt := 50) hx hb dX6_middle_129 (by decide) ?_
      exact hK50 x5 z0 (x7 + 1) man nex hres _ _ _ hP hS (lv_sub hl [2, 3, 4, 5, 6, 7, 1, 0] rfl)
    have b108 : ∀ (man : Nat → Int64) (nex : Nat → Int64) (x6 : Int32) (x7 : Int32) (x8 : Int32) (z0 : Int32), fX6_middle_b108 K50 man nex x6 x7 x8 z0 = some res → ∀ (H : Heap) (locs : List Loc) (ls : Array Slot), va_P D vwCl (wM a cI cJ cS sv kep bef isk fnd man nex wor sng hea lat tap tpd her flt vlu bit lon cel btw) H → va_S (adA a 16 s.heap.size) s.heap H locs → lv_has ls 9 [(0, .ref (a 0)), (1, .int x1), (2, .int x2), (3, .int x3), (4, .int x4), (6, .int x6), (7, .int x7), (8, .int x8)] → W p l e rX6_middle s m args below meth c H locs 0 0 Q (F0 m 108 ls [.int z0]) := by
      intro man nex x6 x7 x8 z0 hres H locs ls hP hS hl
      unfold fX6_middle_b108 at hres
      refine lv_istore (lv' := [(5, .int z0), (0, .ref (a 0)), (1, .int x1), (2, .int x2), (3, .int x3), (4, .int x4), (6, .int x6), (7, .int x7), (8, .int x8)]) hx hb dX6_middle_108 hl (by decide) rfl (fun ls hl => ?_)
      refine lv_iload hx hb dX6_middle_110 (lv_at hl 8 rfl) ?_
      refine lv_iload hx hb dX6_middle_112 (lv_at hl 6 rfl) ?_
      refine lv_icmp_le (tgt := 122) hx hb dX6_middle_114 (by decide) (fun c114 => ?_) (fun c114 => ?_)
      · have hres := (itl hres).1 c114
        refine lv_iload hx hb dX6_middle_122 (lv_at hl 6 rfl) ?_
        exact b124 man nex z0 x7 x6 hres _ _ _ hP hS (lv_sub hl [1, 2, 3, 4, 5, 0, 7] rfl)
      · have hres := (itl hres).2 c114
        refine lv_iload hx hb dX6_middle_117 (lv_at hl 8 rfl) ?_
        refine lv_goto (tgt := 124) hx hb dX6_middle_119 (by decide) ?_
        exact b124 man nex z0 x7 x8 hres _ _ _ hP hS (lv_sub hl [1, 2, 3, 4, 5, 0, 7] rfl)
    have b92 : ∀ (man : Nat → Int64) (nex : Nat → Int64) (x5 : Int32) (x6 : Int32) (x7 : Int32) (z0 : Int32), fX6_middle_b92 K50 man nex x5 x6 x7 z0 = some res → ∀ (H : Heap) (locs : List Loc) (ls : Array Slot), va_P D vwCl (wM a cI cJ cS sv kep bef isk fnd man nex wor sng hea lat tap tpd her flt vlu bit lon cel btw) H → va_S (adA a 16 s.heap.size) s.heap H locs → lv_has ls 9 [(0, .ref (a 0)), (1, .int x1), (2, .int x2), (3, .int x3), (4, .int x4), (5, .int x5), (6, .int x6), (7, .int x7)] → W p l e rX6_middle s m args below meth c H locs 0 0 Q (F0 m 92 ls [.int z0]) := by
      intro man nex x5 x6 x7 z0 hres H locs ls hP hS hl
      unfold fX6_middle_b92 at hres
      refine lv_istore (lv' := [(8, .int z0), (0, .ref (a 0)), (1, .int x1), (2, .int x2), (3, .int x3), (4, .int x4), (5, .int x5), (6, .int x6), (7, .int x7)]) hx hb dX6_middle_92 hl (by decide) rfl (fun ls hl => ?_)
      refine lv_iload hx hb dX6_middle_94 (lv_at hl 0 rfl) ?_
      refine lv_iload hx hb dX6_middle_96 (lv_at hl 7 rfl) ?_
      refine lv_icmp_le (tgt := 106) hx hb dX6_middle_98 (by decide) (fun c98 => ?_) (fun c98 => ?_)
      · have hres := (itl hres).1 c98
        refine lv_iload hx hb dX6_middle_106 (lv_at hl 6 rfl) ?_
        exact b108 man nex x6 x7 z0 x5 hres _ _ _ hP hS (lv_sub hl [1, 2, 3, 4, 5, 7, 8, 0] rfl)
      · have hres := (itl hres).2 c98
        refine lv_iload hx hb dX6_middle_101 (lv_at hl 8 rfl) ?_
        refine lv_goto (tgt := 108) hx hb dX6_middle_103 (by decide) ?_
        exact b108 man nex x6 x7 z0 x7 hres _ _ _ hP hS (lv_sub hl [1, 2, 3, 4, 5, 7, 8, 0] rfl)
    have b73 : ∀ (man : Nat → Int64) (nex : Nat → Int64) (x5 : Int32) (x6 : Int32) (x7 : Int32), fX6_middle_b73 K50 man nex x5 x6 x7 = some res → ∀ (H : Heap) (locs : List Loc) (ls : Array Slot), va_P D vwCl (wM a cI cJ cS sv kep bef isk fnd man nex wor sng hea lat tap tpd her flt vlu bit lon cel btw) H → va_S (adA a 16 s.heap.size) s.heap H locs → lv_has ls 9 [(0, .ref (a 0)), (1, .int x1), (2, .int x2), (3, .int x3), (4, .int x4), (5, .int x5), (6, .int x6), (7, .int x7)] → W p l e rX6_middle s m args below meth c H locs 0 0 Q (F0 m 73 ls []) := by
      intro man nex x5 x6 x7 hres H locs ls hP hS hl
      unfold fX6_middle_b73 at hres
      refine lv_iconst (v := (-1)) hx hb dX6_middle_73 (by decide) ?_
      refine lv_goto (tgt := 92) hx hb dX6_middle_74 (by decide) ?_
      exact b92 man nex x5 x6 x7 (-1 : Int32) hres _ _ _ hP hS (lv_sub hl [0, 1, 2, 3, 4, 5, 6, 7] rfl)
    unfold fX6_middle_l50 at hres
    refine lv_iload hx hb dX6_middle_50 (lv_at hl 7 rfl) ?_
    refine lv_aload_n hx hb dX6_middle_52 rfl (lv_at hl 0 rfl) ?_
    refine gM_this6_s hx hb hown hw6 hK hP u1 dX6_middle_53 ?_
    refine lv_iconst (v := 3) hx hb dX6_middle_56 (by decide) ?_
    have i57 : vp_in (3 : Int32) 166 := ib_in (by decide)
    refine lM_sv hx hb hK hP i57 dX6_middle_57 ?_
    refine lv_icmp_ge (tgt := 132) hx hb dX6_middle_58 (by decide) (fun c58 => ?_) (fun c58 => ?_)
    · have hres := (itl hres).1 c58
      exact b132 fnd man nex x5 hres _ _ _ hP hS (lv_sub hl [0, 5] rfl)
    · have hres := (itl hres).2 c58
      refine lv_iload hx hb dX6_middle_61 (lv_at hl 7 rfl) ?_
      refine lv_iload_n hx hb dX6_middle_63 rfl (lv_at hl 2 rfl) ?_
      refine lv_icmp_eq (tgt := 73) hx hb dX6_middle_64 (by decide) (fun c64 => ?_) (fun c64 => ?_)
      · have hres := (itl hres).1 c64
        exact b73 man nex x5 x6 x7 hres _ _ _ hP hS (lv_sub hl [0, 1, 2, 3, 4, 5, 6, 7] rfl)
      · have hres := (itl hres).2 c64
        refine lv_iload hx hb dX6_middle_67 (lv_at hl 7 rfl) ?_
        refine lv_iload_n hx hb dX6_middle_69 rfl (lv_at hl 3 rfl) ?_
        refine lv_icmp_ne (tgt := 77) hx hb dX6_middle_70 (by decide) (fun c70 => ?_) (fun c70 => ?_)
        · have hres := (itl hres).2 c70
          refine lv_aload_n hx hb dX6_middle_77 rfl (lv_at hl 0 rfl) ?_
          refine lv_iload_n hx hb dX6_middle_78 rfl (lv_at hl 1 rfl) ?_
          refine lv_aload_n hx hb dX6_middle_79 rfl (lv_at hl 0 rfl) ?_
          refine lv_iload_n hx hb dX6_middle_80 rfl (lv_at hl 1 rfl) ?_
          refine lv_iload hx hb dX6_middle_81 (lv_at hl 4 rfl) ?_
          refine lv_iload hx hb dX6_middle_83 (lv_at hl 7 rfl) ?_
          obtain ⟨q85, e85, hres⟩ := obd hres
          refine cvI (q0 := 0) (ci := 6) hx hb hml hown hts hEo hE hK hP hS (kX6_passed l D a cI cJ cS hd hEo sv kep bef isk fnd man nex wor sng hea lat tap tpd her flt vlu bit lon cel btw x1 x4 x7 q85 e85) gX6_middle_X6_passed rfl hdX6_passed rfl rfl rfl ⟨rfl, rfl⟩ ⟨Nat.le_of_ble_eq_true rfl, Nat.le_of_ble_eq_true rfl⟩ ⟨Nat.zero_le _, Nat.zero_le _⟩ rfl hl.1 rfl (Nat.le_of_ble_eq_true rfl) dX6_middle_85 (fun H locs hP hS => ?_)
          refine lv_iload_n hx hb dX6_middle_88 rfl (lv_at hl 3 rfl) ?_
          obtain ⟨q89, e89, hres⟩ := obd hres
          refine cvI (q0 := 0) (ci := 6) hx hb hml hown hts hEo hE hK hP hS (kX6_passed l D a cI cJ cS hd hEo sv kep bef isk fnd q85.2.1 q85.2.2 wor sng hea lat tap tpd her flt vlu bit lon cel btw x1 q85.1 x3 q89 e89) gX6_middle_X6_passed rfl hdX6_passed rfl rfl rfl ⟨rfl, rfl⟩ ⟨Nat.le_of_ble_eq_true rfl, Nat.le_of_ble_eq_true rfl⟩ ⟨Nat.zero_le _, Nat.zero_le _⟩ rfl hl.1 rfl (Nat.le_of_ble_eq_true rfl) dX6_middle_89 (fun H locs hP hS => ?_)
          exact b92 q89.2.1 q89.2.2 x5 x6 x7 q89.1 hres _ _ _ hP hS (lv_sub hl [0, 1, 2, 3, 4, 5, 6, 7] rfl)
        · have hres := (itl hres).1 c70
          exact b73 man nex x5 x6 x7 hres _ _ _ hP hS (lv_sub hl [0, 1, 2, 3, 4, 5, 6, 7] rfl)
  unfold fX6_middle at hres
  refine lv_aload_n hx hb dX6_middle_0 rfl (lv_at hl 0 rfl) ?_
  refine lv_iload_n hx hb dX6_middle_1 rfl (lv_at hl 1 rfl) ?_
  refine lv_iload_n hx hb dX6_middle_2 rfl (lv_at hl 2 rfl) ?_
  obtain ⟨q3, e3, hres⟩ := obd hres
  refine cvI (q0 := 0) (ci := 6) hx hb hml hown hts hEo hE hK hP hS (kX6_areTold l D a cI cJ cS hd hEo sv kep bef isk fnd man nex wor sng hea lat tap tpd her flt vlu bit lon cel btw x1 x2 q3 e3) gX6_middle_X6_areTold rfl hdX6_areTold rfl rfl rfl ⟨rfl, rfl⟩ ⟨Nat.le_of_ble_eq_true rfl, Nat.le_of_ble_eq_true rfl⟩ ⟨Nat.zero_le _, Nat.zero_le _⟩ rfl hl.1 rfl (Nat.le_of_ble_eq_true rfl) dX6_middle_3 (fun H locs hP hS => ?_)
  refine lv_if_eq (tgt := 22) hx hb dX6_middle_6 (by decide) (fun c6 => ?_) (fun c6 => ?_)
  · have hres := (itl hres).1 c6
    exact b22 fnd man nex hres _ _ _ hP hS (lv_sub hl [0] rfl)
  · have hres := (itl hres).2 c6
    refine lv_aload_n hx hb dX6_middle_9 rfl (lv_at hl 0 rfl) ?_
    refine lv_iload_n hx hb dX6_middle_10 rfl (lv_at hl 3 rfl) ?_
    obtain ⟨q11, e11, hres⟩ := obd hres
    refine cvI (q0 := 0) (ci := 6) hx hb hml hown hts hEo hE hK hP hS (kX6_isHearer l D a cI cJ cS hd hEo sv kep bef isk fnd man nex wor sng hea lat tap tpd her flt vlu bit lon cel btw x3 q11 e11) gX6_middle_X6_isHearer rfl hdX6_isHearer rfl rfl rfl ⟨rfl, rfl⟩ ⟨Nat.le_of_ble_eq_true rfl, Nat.le_of_ble_eq_true rfl⟩ ⟨Nat.zero_le _, Nat.zero_le _⟩ rfl hl.1 rfl (Nat.le_of_ble_eq_true rfl) dX6_middle_11 (fun H locs hP hS => ?_)
    refine lv_if_eq (tgt := 22) hx hb dX6_middle_14 (by decide) (fun c14 => ?_) (fun c14 => ?_)
    · have hres := (itl hres).1 c14
      exact b22 fnd man nex hres _ _ _ hP hS (lv_sub hl [0] rfl)
    · have hres := (itl hres).2 c14
      refine lv_iload_n hx hb dX6_middle_17 rfl (lv_at hl 2 rfl) ?_
      refine lv_iload_n hx hb dX6_middle_18 rfl (lv_at hl 3 rfl) ?_
      refine lv_icmp_ne (tgt := 28) hx hb dX6_middle_19 (by decide) (fun c19 => ?_) (fun c19 => ?_)
      · have hres := (itl hres).2 c19
        refine lv_aload_n hx hb dX6_middle_28 rfl (lv_at hl 0 rfl) ?_
        refine lv_iload_n hx hb dX6_middle_29 rfl (lv_at hl 1 rfl) ?_
        refine lv_aload_n hx hb dX6_middle_30 rfl (lv_at hl 0 rfl) ?_
        refine lv_iload_n hx hb dX6_middle_31 rfl (lv_at hl 1 rfl) ?_
        obtain ⟨q32, e32, hres⟩ := obd hres
        refine cvI (q0 := 0) (ci := 6) hx hb hml hown hts hEo hE hK hP hS (kX6_long_ l D a cI cJ cS hd hEo sv kep bef isk fnd man nex wor sng hea lat tap tpd her flt vlu bit lon cel btw x1 q32 e32) gX6_middle_X6_long_ rfl hdX6_long_ rfl rfl rfl ⟨rfl, rfl⟩ ⟨Nat.le_of_ble_eq_true rfl, Nat.le_of_ble_eq_true rfl⟩ ⟨Nat.zero_le _, Nat.zero_le _⟩ rfl hl.1 rfl (Nat.le_of_ble_eq_true rfl) dX6_middle_32 (fun H locs hP hS => ?_)
        refine lv_iload_n hx hb dX6_middle_35 rfl (lv_at hl 2 rfl) ?_
        obtain ⟨q36, e36, hres⟩ := obd hres
        refine cvI (q0 := 0) (ci := 6) hx hb hml hown hts hEo hE hK hP hS (kX6_passed l D a cI cJ cS hd hEo sv kep bef isk fnd man nex wor sng hea lat tap tpd her flt vlu bit lon cel btw x1 q32 x2 q36 e36) gX6_middle_X6_passed rfl hdX6_passed rfl rfl rfl ⟨rfl, rfl⟩ ⟨Nat.le_of_ble_eq_true rfl, Nat.le_of_ble_eq_true rfl⟩ ⟨Nat.zero_le _, Nat.zero_le _⟩ rfl hl.1 rfl (Nat.le_of_ble_eq_true rfl) dX6_middle_36 (fun H locs hP hS => ?_)
        refine lv_istore (lv' := [(4, .int q36.1), (0, .ref (a 0)), (1, .int x1), (2, .int x2), (3, .int x3)]) hx hb dX6_middle_39 hl (by decide) rfl (fun ls hl => ?_)
        refine lv_iconst (v := (-1)) hx hb dX6_middle_41 (by decide) ?_
        refine lv_istore (lv' := [(5, .int (-1 : Int32)), (4, .int q36.1), (0, .ref (a 0)), (1, .int x1), (2, .int x2), (3, .int x3)]) hx hb dX6_middle_42 hl (by decide) rfl (fun ls hl => ?_)
        refine lv_iconst (v := (-1)) hx hb dX6_middle_44 (by decide) ?_
        refine lv_istore (lv' := [(6, .int (-1 : Int32)), (5, .int (-1 : Int32)), (4, .int q36.1), (0, .ref (a 0)), (1, .int x1), (2, .int x2), (3, .int x3)]) hx hb dX6_middle_45 hl (by decide) rfl (fun ls hl => ?_)
        refine lv_iconst (v := 0) hx hb dX6_middle_47 (by decide) ?_
        refine lv_istore (lv' := [(7, .int (0 : Int32)), (6, .int (-1 : Int32)), (5, .int (-1 : Int32)), (4, .int q36.1), (0, .ref (a 0)), (1, .int x1), (2, .int x2), (3, .int x3)]) hx hb dX6_middle_48 hl (by decide) rfl (fun ls hl => ?_)
        exact b50 fnd q36.1 2000 (-1 : Int32) (-1 : Int32) (0 : Int32) q36.2.1 q36.2.2 hres _ _ _ hP hS (lv_sub hl [4, 5, 6, 7, 3, 2, 1, 0] rfl)
      · have hres := (itl hres).1 c19
        exact b22 fnd man nex hres _ _ _ hP hS (lv_sub hl [0] rfl)
