def fX6_chain_l37 (sv : Nat → Int32) (fnd : Nat → Int32) (x1 : Int32) (K37 : Int32 → Int32 → (Nat → Int64) → (Nat → Int64) → Option (Int32 × (Nat → Int32) × (Nat → Int64) × (Nat → Int64))) (x2 : Int32) (x3 : Int32) (man : Nat → Int64) (nex : Nat → Int64) : Option (Int32 × (Nat → Int32) × (Nat → Int64) × (Nat → Int64)) :=
  if (sv (3 : Int32).toNatClampNeg) ≤ x3 then some (x2, fnd, man, nex) else (fX6_passed sv man nex x1 x2 x3).bind fun q51 => K37 q51.1 (x3 + 1) q51.2.1 q51.2.2
def fX6_chain (sv : Nat → Int32) (fnd : Nat → Int32) (man : Nat → Int64) (nex : Nat → Int64) (x1 : Int32) : Option (Int32 × (Nat → Int32) × (Nat → Int64) × (Nat → Int64)) :=
 (fX6_isTale sv x1).bind fun q2 => if (bI q2) = 0 then (fX6_no fnd (0 : Int32)).bind fun q10 => some (q10.1, q10.2, man, nex) else if (sv (3 : Int32).toNatClampNeg) = 0 then (fX6_no fnd (3 : Int32)).bind fun q25 => some (q25.1, q25.2, man, nex) else (fX6_long_ sv x1).bind fun q31 => fix4 (fX6_chain_l37 sv fnd x1) 2000 q31 (0 : Int32) man nex
abbrev rX6_chain : Room := { frames := 5, cells := 0, slots := 0, locals := 118 }
set_option maxHeartbeats 4000000 in
set_option maxRecDepth 100000 in
theorem kX6_chain (l : Launch) (D : va_G) (a : Nat → Nat) (cI cJ cS : ClassId) (hd : aok a 16) {Env : (Nat → Prop) → State → Heap → Prop} (hEo : envOK Env) (sv kep bef : Nat → Int32) (isk : Int32) (fnd : Nat → Int32) (man nex : Nat → Int64) (wor sng hea lat tap : Nat → Int32) (tpd her flt vlu : Int32) (bit lon : Nat → Int32) (cel btw : Nat → Int64) (x1 : Int32) (res : Int32 × (Nat → Int32) × (Nat → Int64) × (Nat → Int64)) (hres : fX6_chain sv fnd man nex x1 = some res) : CtI l D (tyL cI cJ cS) 16 a Env yX6_chain wsX6_chain rX6_chain [.ref (a 0), .int x1] (wM a cI cJ cS sv kep bef isk fnd man nex wor sng hea lat tap tpd her flt vlu bit lon cel btw) (wM a cI cJ cS sv kep bef isk res.2.1 res.2.2.1 res.2.2.2 wor sng hea lat tap tpd her flt vlu bit lon cel btw) res.1 := by
  refine CtI_mk (cc := cX6_chain) (maxL := 4) (ret := (some .int)) (by decide) rfl (Nat.le_of_ble_eq_true rfl) ?_
  intro p e s m args below meth c ls hx hb hr hlk hml hown hts hP hK hE hl
  have hS : va_S (adA a 16 s.heap.size) s.heap s.heap [] := va_S.rf
  have hl : lv_has ls 4 [(0, .ref (a 0)), (1, .int x1)] := hl
  have hown : s.vm.findClass RX6 = some m.cls := hown
  have hw6 : ∀ w ∈ wsX60, w.before args s = true := fun w h => hts w (List.mem_cons_of_mem _ (List.mem_append_right _ h))
  have u1 : (Cond.fieldLink RX6 9 "YearWordsModel" "s" "[I").before args s = true := hts _ (List.mem_of_getElem? (i := 1) (by decide +kernel))
  obtain ⟨Q, hQ⟩ : ∃ Q, Q = mqI below D 16 a args s (wM a cI cJ cS sv kep bef isk res.2.1 res.2.2.1 res.2.2.2 wor sng hea lat tap tpd her flt vlu bit lon cel btw) res.1 := ⟨_, rfl⟩
  rw [← hQ]
  have b37 : ∀ (fnd : Nat → Int32) (n : Nat) (x2 : Int32) (x3 : Int32) (man : Nat → Int64) (nex : Nat → Int64), fix4 (fX6_chain_l37 sv fnd x1) n x2 x3 man nex = some res → ∀ (H : Heap) (locs : List Loc) (ls : Array Slot), va_P D vwCl (wM a cI cJ cS sv kep bef isk fnd man nex wor sng hea lat tap tpd her flt vlu bit lon cel btw) H → va_S (adA a 16 s.heap.size) s.heap H locs → lv_has ls 4 [(0, .ref (a 0)), (1, .int x1), (2, .int x2), (3, .int x3)] → W p l e rX6_chain s m args below meth c H locs 0 0 Q (F0 m 37 ls []) := by
    intro fnd
    refine fix4_r ?_
    intro K37 hK37 x2 x3 man nex hres H locs ls hP hS hl
    unfold fX6_chain_l37 at hres
    refine lv_iload_n hx hb dX6_chain_37 rfl (lv_at hl 3 rfl) ?_
    refine lv_aload_n hx hb dX6_chain_38 rfl (lv_at hl 0 rfl) ?_
    refine gM_this6_s hx hb hown hw6 hK hP u1 dX6_chain_39 ?_
    refine lv_iconst (v := 3) hx hb dX6_chain_42 (by decide) ?_
    have i43 : vp_in (3 : Int32) 166 := ib_in (by decide)
    refine lM_sv hx hb hK hP i43 dX6_chain_43 ?_
    refine lv_icmp_ge (tgt := 61) hx hb dX6_chain_44 (by decide) (fun c44 => ?_) (fun c44 => ?_)
    · have hres := (itl hres).1 c44
      refine lv_iload_n hx hb dX6_chain_61 rfl (lv_at hl 2 rfl) ?_
      exact hQ ▸ rtI (v := x2)  hx hb hr hlk hP hS (by rw [← (Option.some.inj hres)]) (by rw [← (Option.some.inj hres)]) dX6_chain_62
    · have hres := (itl hres).2 c44
      refine lv_aload_n hx hb dX6_chain_47 rfl (lv_at hl 0 rfl) ?_
      refine lv_iload_n hx hb dX6_chain_48 rfl (lv_at hl 1 rfl) ?_
      refine lv_iload_n hx hb dX6_chain_49 rfl (lv_at hl 2 rfl) ?_
      refine lv_iload_n hx hb dX6_chain_50 rfl (lv_at hl 3 rfl) ?_
      obtain ⟨q51, e51, hres⟩ := obd hres
      refine cvI (q0 := 0) (ci := 6) hx hb hml hown hts hEo hE hK hP hS (kX6_passed l D a cI cJ cS hd hEo sv kep bef isk fnd man nex wor sng hea lat tap tpd her flt vlu bit lon cel btw x1 x2 x3 q51 e51) gX6_chain_X6_passed rfl hdX6_passed rfl rfl rfl ⟨rfl, rfl⟩ ⟨Nat.le_of_ble_eq_true rfl, Nat.le_of_ble_eq_true rfl⟩ ⟨Nat.zero_le _, Nat.zero_le _⟩ rfl hl.1 rfl (Nat.le_of_ble_eq_true rfl) dX6_chain_51 (fun H locs hP hS => ?_)
      refine lv_istore_n (lv' := [(2, .int q51.1), (0, .ref (a 0)), (1, .int x1), (3, .int x3)]) hx hb dX6_chain_54 rfl hl (by decide) rfl (fun ls hl => ?_)
      refine lv_iinc (v := x3 + 1) (lv' := [(3, .int (x3 + 1)), (2, .int q51.1), (0, .ref (a 0)), (1, .int x1)]) hx hb dX6_chain_55 hl (k := 3) rfl (congrArg (fun z => x3 + z) (by decide)) (by decide) rfl (fun ls hl => ?_)
      refine lv_goto (tgt := 37) hx hb dX6_chain_58 (by decide) ?_
      exact hK37 q51.1 (x3 + 1) q51.2.1 q51.2.2 hres _ _ _ hP hS (lv_sub hl [2, 3, 1, 0] rfl)
  unfold fX6_chain at hres
  refine lv_aload_n hx hb dX6_chain_0 rfl (lv_at hl 0 rfl) ?_
  refine lv_iload_n hx hb dX6_chain_1 rfl (lv_at hl 1 rfl) ?_
  obtain ⟨q2, e2, hres⟩ := obd hres
  refine cvI (q0 := 0) (ci := 6) hx hb hml hown hts hEo hE hK hP hS (kX6_isTale l D a cI cJ cS hd hEo sv kep bef isk fnd man nex wor sng hea lat tap tpd her flt vlu bit lon cel btw x1 q2 e2) gX6_chain_X6_isTale rfl hdX6_isTale rfl rfl rfl ⟨rfl, rfl⟩ ⟨Nat.le_of_ble_eq_true rfl, Nat.le_of_ble_eq_true rfl⟩ ⟨Nat.zero_le _, Nat.zero_le _⟩ rfl hl.1 rfl (Nat.le_of_ble_eq_true rfl) dX6_chain_2 (fun H locs hP hS => ?_)
  refine lv_if_ne (tgt := 14) hx hb dX6_chain_5 (by decide) (fun c5 => ?_) (fun c5 => ?_)
  · have hres := (itl hres).2 c5
    refine lv_aload_n hx hb dX6_chain_14 rfl (lv_at hl 0 rfl) ?_
    refine gM_this6_s hx hb hown hw6 hK hP u1 dX6_chain_15 ?_
    refine lv_iconst (v := 3) hx hb dX6_chain_18 (by decide) ?_
    have i19 : vp_in (3 : Int32) 166 := ib_in (by decide)
    refine lM_sv hx hb hK hP i19 dX6_chain_19 ?_
    refine lv_if_ne (tgt := 29) hx hb dX6_chain_20 (by decide) (fun c20 => ?_) (fun c20 => ?_)
    · have hres := (itl hres).2 c20
      refine lv_aload_n hx hb dX6_chain_29 rfl (lv_at hl 0 rfl) ?_
      refine lv_iload_n hx hb dX6_chain_30 rfl (lv_at hl 1 rfl) ?_
      obtain ⟨q31, e31, hres⟩ := obd hres
      refine cvI (q0 := 0) (ci := 6) hx hb hml hown hts hEo hE hK hP hS (kX6_long_ l D a cI cJ cS hd hEo sv kep bef isk fnd man nex wor sng hea lat tap tpd her flt vlu bit lon cel btw x1 q31 e31) gX6_chain_X6_long_ rfl hdX6_long_ rfl rfl rfl ⟨rfl, rfl⟩ ⟨Nat.le_of_ble_eq_true rfl, Nat.le_of_ble_eq_true rfl⟩ ⟨Nat.zero_le _, Nat.zero_le _⟩ rfl hl.1 rfl (Nat.le_of_ble_eq_true rfl) dX6_chain_31 (fun H locs hP hS => ?_)
      refine lv_istore_n (lv' := [(2, .int q31), (0, .ref (a 0)), (1, .int x1)]) hx hb dX6_chain_34 rfl hl (by decide) rfl (fun ls hl => ?_)
      refine lv_iconst (v := 0) hx hb dX6_chain_35 (by decide) ?_
      refine lv_istore_n (lv' := [(3, .int (0 : Int32)), (2, .int q31), (0, .ref (a 0)), (1, .int x1)]) hx hb dX6_chain_36 rfl hl (by decide) rfl (fun ls hl => ?_)
      exact b37 fnd 2000 q31 (0 : Int32) man nex hres _ _ _ hP hS (lv_sub hl [2, 3, 1, 0] rfl)
    · have hres := (itl hres).1 c20
      refine lv_aload_n hx hb dX6_chain_23 rfl (lv_at hl 0 rfl) ?_
      refine lv_iconst (v := 3) hx hb dX6_chain_24 (by decide) ?_
      obtain ⟨q25, e25, hres⟩ := obd hres
      refine cvI (q0 := 0) (ci := 6) hx hb hml hown hts hEo hE hK hP hS (kX6_no l D a cI cJ cS hd hEo sv kep bef isk fnd man nex wor sng hea lat tap tpd her flt vlu bit lon cel btw (3 : Int32) q25 e25) gX6_chain_X6_no rfl hdX6_no rfl rfl rfl ⟨rfl, rfl⟩ ⟨Nat.le_of_ble_eq_true rfl, Nat.le_of_ble_eq_true rfl⟩ ⟨Nat.zero_le _, Nat.zero_le _⟩ rfl hl.1 rfl (Nat.le_of_ble_eq_true rfl) dX6_chain_25 (fun H locs hP hS => ?_)
      exact hQ ▸ rtI (v := q25.1)  hx hb hr hlk hP hS (by rw [← (Option.some.inj hres)]) (by rw [← (Option.some.inj hres)]) dX6_chain_28
  · have hres := (itl hres).1 c5
    refine lv_aload_n hx hb dX6_chain_8 rfl (lv_at hl 0 rfl) ?_
    refine lv_iconst (v := 0) hx hb dX6_chain_9 (by decide) ?_
    obtain ⟨q10, e10, hres⟩ := obd hres
    refine cvI (q0 := 0) (ci := 6) hx hb hml hown hts hEo hE hK hP hS (kX6_no l D a cI cJ cS hd hEo sv kep bef isk fnd man nex wor sng hea lat tap tpd her flt vlu bit lon cel btw (0 : Int32) q10 e10) gX6_chain_X6_no rfl hdX6_no rfl rfl rfl ⟨rfl, rfl⟩ ⟨Nat.le_of_ble_eq_true rfl, Nat.le_of_ble_eq_true rfl⟩ ⟨Nat.zero_le _, Nat.zero_le _⟩ rfl hl.1 rfl (Nat.le_of_ble_eq_true rfl) dX6_chain_10 (fun H locs hP hS => ?_)
    exact hQ ▸ rtI (v := q10.1)  hx hb hr hlk hP hS (by rw [← (Option.some.inj hres)]) (by rw [← (Option.some.inj hres)]) dX6_chain_13
def fX6_isNear_b78 (K6 : Bool → Int32 → Option (Bool)) (x5 : Int32) (z0 : Bool) : Option (Bool) :=
  K6 z0 (x5 + 1)
def fX6_isNear_b77 (K6 : Bool → Int32 → Option (Bool)) (x5 : Int32) : Option (Bool) :=
  fX6_isNear_b78 K6 x5 false
def fX6_isNear_b69 (K6 : Bool → Int32 → Option (Bool)) (x3 : Int32) (x5 : Int32) (z0 : Int32) : Option (Bool) :=
  if x3 < z0 then fX6_isNear_b77 K6 x5 else fX6_isNear_b78 K6 x5 true
def fX6_isNear_l6 (sv : Nat → Int32) (x1 : Int32) (x2 : Int32) (x3 : Int32) (K6 : Bool → Int32 → Option (Bool)) (x4 : Bool) (x5 : Int32) : Option (Bool) :=
  if (sv (3 : Int32).toNatClampNeg) ≤ x5 then some x4 else if (bI x4) = 0 then gd (ib ((156 : Int32) + x1) 166) (gd (ib ((156 : Int32) + x5) 166) (if ((x2 >>> (x5 &&& 31)) &&& (1 : Int32)) = (1 : Int32) then if 0 ≤ ((sv ((156 : Int32) + x1).toNatClampNeg) - (sv ((156 : Int32) + x5).toNatClampNeg)) then fX6_isNear_b69 K6 x3 x5 ((sv ((156 : Int32) + x1).toNatClampNeg) - (sv ((156 : Int32) + x5).toNatClampNeg)) else fX6_isNear_b69 K6 x3 x5 (-((sv ((156 : Int32) + x1).toNatClampNeg) - (sv ((156 : Int32) + x5).toNatClampNeg))) else fX6_isNear_b77 K6 x5)) else some x4
def fX6_isNear (sv : Nat → Int32) (x1 : Int32) (x2 : Int32) (x3 : Int32) : Option (Bool) :=
  fix2 (fX6_isNear_l6 sv x1 x2 x3) 2000 false (0 : Int32)
abbrev rX6_isNear : Room := { frames := 0, cells := 0, slots := 0, locals := 0 }
set_option maxHeartbeats 4000000 in
set_option maxRecDepth 100000 in
theorem kX6_isNear (l : Launch) (D : va_G) (a : Nat → Nat) (cI cJ cS : ClassId) (hd : aok a 16) {Env : (Nat → Prop) → State → Heap → Prop} (hEo : envOK Env) (sv kep bef : Nat → Int32) (isk : Int32) (fnd : Nat → Int32) (man nex : Nat → Int64) (wor sng hea lat tap : Nat → Int32) (tpd her flt vlu : Int32) (bit lon : Nat → Int32) (cel btw : Nat → Int64) (x1 : Int32) (x2 : Int32) (x3 : Int32) (res : Bool) (hres : fX6_isNear sv x1 x2 x3 = some res) : CtI l D (tyL cI cJ cS) 16 a Env yX6_isNear wsX6_isNear rX6_isNear [.ref (a 0), .int x1, .int x2, .int x3] (wM a cI cJ cS sv kep bef isk fnd man nex wor sng hea lat tap tpd her flt vlu bit lon cel btw) (wM a cI cJ cS sv kep bef isk fnd man nex wor sng hea lat tap tpd her flt vlu bit lon cel btw) (bI res) := by
  refine CtI_mk (cc := cX6_isNear) (maxL := 7) (ret := (some .boolean)) (by decide) rfl (Nat.le_of_ble_eq_true rfl) ?_
  intro p e s m args below meth c ls hx hb hr hlk hml hown hts hP hK hE hl
  have hS : va_S (adA a 16 s.heap.size) s.heap s.heap [] := va_S.rf
  have hl : lv_has ls 7 [(0, .ref (a 0)), (1, .int x1), (2, .int x2), (3, .int x3)] := hl
  have hown : s.vm.findClass RX6 = some m.cls := hown
  have hw6 : ∀ w ∈ wsX60, w.before args s = true := fun w h => hts w (List.mem_cons_of_mem _ (List.mem_append_right _ h))
  have u1 : (Cond.fieldLink RX6 9 "YearWordsModel" "s" "[I").before args s = true := hts _ (List.mem_of_getElem? (i := 1) (by decide +kernel))
  obtain ⟨Q, hQ⟩ : ∃ Q, Q = mqI below D 16 a args s (wM a cI cJ cS sv kep bef isk fnd man nex wor sng hea lat tap tpd her flt vlu bit lon cel btw) (bI res) := ⟨_, rfl⟩
  rw [← hQ]
  have b6 : ∀  (n : Nat) (x4 : Bool) (x5 : Int32), fix2 (fX6_isNear_l6 sv x1 x2 x3) n x4 x5 = some res → ∀ (H : Heap) (locs : List Loc) (ls : Array Slot), va_P D vwCl (wM a cI cJ cS sv kep bef isk fnd man nex wor sng hea lat tap tpd her flt vlu bit lon cel btw) H → va_S (adA a 16 s.heap.size) s.heap H locs → lv_has ls 7 [(0, .ref (a 0)), (1, .int x1), (2, .int x2), (3, .int x3), (4, .int (bI x4)), (5, .int x5)] → W p l e rX6_isNear s m args below meth c H locs 0 0 Q (F0 m 6 ls []) := by
    refine fix2_r ?_
    intro K6 hK6 x4 x5 hres H locs ls hP hS hl
    have b78 : ∀ (x5 : Int32) (z0 : Bool), fX6_isNear_b78 K6 x5 z0 = some res → ∀ (H : Heap) (locs : List Loc) (ls : Array Slot), va_P D vwCl (wM a cI cJ cS sv kep bef isk fnd man nex wor sng hea lat tap tpd her flt vlu bit lon cel btw) H → va_S (adA a 16 s.heap.size) s.heap H locs → lv_has ls 7 [(0, .ref (a 0)), (1, .int x1), (2, .int x2), (3, .int x3), (5, .int x5)] → W p l e rX6_isNear s m args below meth c H locs 0 0 Q (F0 m 78 ls [.int (bI z0)]) := by
      intro x5 z0 hres H locs ls hP hS hl
      unfold fX6_isNear_b78 at hres
      refine lv_istore (lv' := [(4, .int (bI z0)), (0, .ref (a 0)), (1, .int x1), (2, .int x2), (3, .int x3), (5, .int x5)]) hx hb dX6_isNear_78 hl (by decide) rfl (fun ls hl => ?_)
      refine lv_iinc (v := x5 + 1) (lv' := [(5, .int (x5 + 1)), (4, .int (bI z0)), (0, .ref (a 0)), (1, .int x1), (2, .int x2), (3, .int x3)]) hx hb dX6_isNear_80 hl (k := 5) rfl (congrArg (fun z => x5 + z) (by decide)) (by decide) rfl (fun ls hl => ?_)
      refine lv_goto (tgt := 6) hx hb dX6_isNear_83 (by decide) ?_
      exact hK6 z0 (x5 + 1) hres _ _ _ hP hS (lv_sub hl [2, 3, 4, 5, 1, 0] rfl)
    have b77 : ∀ (x5 : Int32), fX6_isNear_b77 K6 x5 = some res → ∀ (H : Heap) (locs : List Loc) (ls : Array Slot), va_P D vwCl (wM a cI cJ cS sv kep bef isk fnd man nex wor sng hea lat tap tpd her flt vlu bit lon cel btw) H → va_S (adA a 16 s.heap.size) s.heap H locs → lv_has ls 7 [(0, .ref (a 0)), (1, .int x1), (2, .int x2), (3, .int x3), (5, .int x5)] → W p l e rX6_isNear s m args below meth c H locs 0 0 Q (F0 m 77 ls []) := by
      intro x5 hres H locs ls hP hS hl
      unfold fX6_isNear_b77 at hres
      refine lv_iconst (v := 0) hx hb dX6_isNear_77 (by decide) ?_
      exact b78 x5 false hres _ _ _ hP hS (lv_sub hl [0, 1, 2, 3, 4] rfl)
    have b69 : ∀ (x5 : Int32) (z0 : Int32), fX6_isNear_b69 K6 x3 x5 z0 = some res → ∀ (H : Heap) (locs : List Loc) (ls : Array Slot), va_P D vwCl (wM a cI cJ cS sv kep bef isk fnd man nex wor sng hea lat tap tpd her flt vlu bit lon cel btw) H → va_S (adA a 16 s.heap.size) s.heap H locs → lv_has ls 7 [(0, .ref (a 0)), (1, .int x1), (2, .int x2), (3, .int x3), (5, .int x5)] → W p l e rX6_isNear s m args below meth c H locs 0 0 Q (F0 m 69 ls [.int z0]) := by
      intro x5 z0 hres H locs ls hP hS hl
      unfold fX6_isNear_b69 at hres
      refine lv_iload_n hx hb dX6_isNear_69 rfl (lv_at hl 3 rfl) ?_
      refine lv_icmp_gt (tgt := 77) hx hb dX6_isNear_70 (by decide) (fun c70 => ?_) (fun c70 => ?_)
      · have hres := (itl hres).1 c70
        exact b77 x5 hres _ _ _ hP hS (lv_sub hl [0, 1, 2, 3, 4] rfl)
      · have hres := (itl hres).2 c70
        refine lv_iconst (v := 1) hx hb dX6_isNear_73 (by decide) ?_
        refine lv_goto (tgt := 78) hx hb dX6_isNear_74 (by decide) ?_
        exact b78 x5 true hres _ _ _ hP hS (lv_sub hl [0, 1, 2, 3, 4] rfl)
    unfold fX6_isNear_l6 at hres
    refine lv_iload hx hb dX6_isNear_6 (lv_at hl 5 rfl) ?_
    refine lv_aload_n hx hb dX6_isNear_8 rfl (lv_at hl 0 rfl) ?_
    refine gM_this6_s hx hb hown hw6 hK hP u1 dX6_isNear_9 ?_
    refine lv_iconst (v := 3) hx hb dX6_isNear_12 (by decide) ?_
    have i13 : vp_in (3 : Int32) 166 := ib_in (by decide)
    refine lM_sv hx hb hK hP i13 dX6_isNear_13 ?_
    refine lv_icmp_ge (tgt := 86) hx hb dX6_isNear_14 (by decide) (fun c14 => ?_) (fun c14 => ?_)
    · have hres := (itl hres).1 c14
      refine lv_iload hx hb dX6_isNear_86 (lv_at hl 4 rfl) ?_
      exact hQ ▸ rtZ (v := x4)  hx hb hr hlk hP hS (by rw [← (Option.some.inj hres)]) rfl dX6_isNear_88
    · have hres := (itl hres).2 c14
      refine lv_iload hx hb dX6_isNear_17 (lv_at hl 4 rfl) ?_
      refine lv_if_ne (tgt := 86) hx hb dX6_isNear_19 (by decide) (fun c19 => ?_) (fun c19 => ?_)
      · have hres := (itl hres).2 c19
        refine lv_iload hx hb dX6_isNear_86 (lv_at hl 4 rfl) ?_
        exact hQ ▸ rtZ (v := x4)  hx hb hr hlk hP hS (by rw [← (Option.some.inj hres)]) rfl dX6_isNear_88
      · have hres := (itl hres).1 c19
        refine lv_aload_n hx hb dX6_isNear_22 rfl (lv_at hl 0 rfl) ?_
        refine gM_this6_s hx hb hown hw6 hK hP u1 dX6_isNear_23 ?_
        refine lv_sipush (v := 156) hx hb dX6_isNear_26 (by decide) ?_
        refine lv_iload_n hx hb dX6_isNear_29 rfl (lv_at hl 1 rfl) ?_
        refine lv_iadd hx hb dX6_isNear_30 ?_
        obtain ⟨i31, hres⟩ := gdi hres
        refine lM_sv hx hb hK hP i31 dX6_isNear_31 ?_
        refine lv_aload_n hx hb dX6_isNear_32 rfl (lv_at hl 0 rfl) ?_
        refine gM_this6_s hx hb hown hw6 hK hP u1 dX6_isNear_33 ?_
        refine lv_sipush (v := 156) hx hb dX6_isNear_36 (by decide) ?_
        refine lv_iload hx hb dX6_isNear_39 (lv_at hl 5 rfl) ?_
        refine lv_iadd hx hb dX6_isNear_41 ?_
        obtain ⟨i42, hres⟩ := gdi hres
        refine lM_sv hx hb hK hP i42 dX6_isNear_42 ?_
        refine lv_isub hx hb dX6_isNear_43 ?_
        refine lv_istore (lv' := [(6, .int ((sv ((156 : Int32) + x1).toNatClampNeg) - (sv ((156 : Int32) + x5).toNatClampNeg))), (0, .ref (a 0)), (1, .int x1), (2, .int x2), (3, .int x3), (4, .int (bI x4)), (5, .int x5)]) hx hb dX6_isNear_44 hl (by decide) rfl (fun ls hl => ?_)
        refine lv_iload_n hx hb dX6_isNear_46 rfl (lv_at hl 3 rfl) ?_
        refine lv_iload hx hb dX6_isNear_47 (lv_at hl 6 rfl) ?_
        refine lv_ishr hx hb dX6_isNear_49 ?_
        refine lv_iconst (v := 1) hx hb dX6_isNear_50 (by decide) ?_
        refine lv_iand hx hb dX6_isNear_51 ?_
        refine lv_iconst (v := 1) hx hb dX6_isNear_52 (by decide) ?_
        refine lv_icmp_ne (tgt := 77) hx hb dX6_isNear_53 (by decide) (fun c53 => ?_) (fun c53 => ?_)
        · have hres := (itl hres).2 c53
          exact b77 x5 hres _ _ _ hP hS (lv_sub hl [1, 2, 3, 4, 6] rfl)
        · have hres := (itl hres).1 c53
          refine lv_iload hx hb dX6_isNear_56 (lv_at hl 0 rfl) ?_
          refine lv_if_ge (tgt := 67) hx hb dX6_isNear_58 (by decide) (fun c58 => ?_) (fun c58 => ?_)
          · have hres := (itl hres).1 c58
            refine lv_iload hx hb dX6_isNear_67 (lv_at hl 0 rfl) ?_
            exact b69 x5 ((sv ((156 : Int32) + x1).toNatClampNeg) - (sv ((156 : Int32) + x5).toNatClampNeg)) hres _ _ _ hP hS (lv_sub hl [1, 2, 3, 4, 6] rfl)
          · have hres := (itl hres).2 c58
            refine lv_iload hx hb dX6_isNear_61 (lv_at hl 0 rfl) ?_
            refine lv_ineg hx hb dX6_isNear_63 ?_
            refine lv_goto (tgt := 69) hx hb dX6_isNear_64 (by decide) ?_
            exact b69 x5 (-((sv ((156 : Int32) + x1).toNatClampNeg) - (sv ((156 : Int32) + x5).toNatClampNeg))) hres _ _ _ hP hS (lv_sub hl [1, 2, 3, 4, 6] rfl)
  unfold fX6_isNear at hres
  refine lv_iconst (v := 0) hx hb dX6_isNear_0 (by decide) ?_
  refine lv_istore (lv' := [(4, .int (0 : Int32)), (0, .ref (a 0)), (1, .int x1), (2, .int x2), (3, .int x3)]) hx hb dX6_isNear_1 hl (by decide) rfl (fun ls hl => ?_)
  refine lv_iconst (v := 0) hx hb dX6_isNear_3 (by decide) ?_
  refine lv_istore (lv' := [(5, .int (0 : Int32)), (4, .int (0 : Int32)), (0, .ref (a 0)), (1, .int x1), (2, .int x2), (3, .int x3)]) hx hb dX6_isNear_4 hl (by decide) rfl (fun ls hl => ?_)
  exact b6  2000 false (0 : Int32) hres _ _ _ hP hS (lv_sub hl [2, 3, 4, 5, 1, 0] rfl)
def fX6_spread_b15 (fnd : Nat → Int32) (man : Nat → Int64) (nex : Nat → Int64) : Option (Int32 × (Nat → Int32) × (Nat → Int64) × (Nat → Int64)) :=
 (fX6_no fnd (0 : Int32)).bind fun q17 => some (q17.1, q17.2, man, nex)
def fX6_spread_b105 (K62 : Int32 → Int32 → Option (Int32 × (Nat → Int32) × (Nat → Int64) × (Nat → Int64))) (x7 : Int32) (z0 : Int32) (z1 : Int32) : Option (Int32 × (Nat → Int32) × (Nat → Int64) × (Nat → Int64)) :=
  K62 (z0 ||| z1) (x7 + 1)
def fX6_spread_b104 (K62 : Int32 → Int32 → Option (Int32 × (Nat → Int32) × (Nat → Int64) × (Nat → Int64))) (x7 : Int32) (z0 : Int32) : Option (Int32 × (Nat → Int32) × (Nat → Int64) × (Nat → Int64)) :=
  fX6_spread_b105 K62 x7 z0 (0 : Int32)
def fX6_spread_b114 (K48 : Int32 → Int32 → Option (Int32 × (Nat → Int32) × (Nat → Int64) × (Nat → Int64))) (x5 : Int32) (x6 : Int32) : Option (Int32 × (Nat → Int32) × (Nat → Int64) × (Nat → Int64)) :=
  K48 x6 (x5 + 1)
def fX6_spread_l62 (K48 : Int32 → Int32 → Option (Int32 × (Nat → Int32) × (Nat → Int64) × (Nat → Int64))) (sv : Nat → Int32) (x2 : Int32) (x3 : Int32) (x4 : Int32) (x5 : Int32) (K62 : Int32 → Int32 → Option (Int32 × (Nat → Int32) × (Nat → Int64) × (Nat → Int64))) (x6 : Int32) (x7 : Int32) : Option (Int32 × (Nat → Int32) × (Nat → Int64) × (Nat → Int64)) :=
  if (sv (3 : Int32).toNatClampNeg) ≤ x7 then fX6_spread_b114 K48 x5 x6 else if ((x3 >>> (x7 &&& 31)) &&& (1 : Int32)) = (1 : Int32) then (fX6_isNear sv x7 x4 x2).bind fun q91 => if (bI q91) = 0 then fX6_spread_b104 K62 x7 x6 else fX6_spread_b105 K62 x7 x6 ((1 : Int32) <<< (x7 &&& 31)) else fX6_spread_b104 K62 x7 x6
def fX6_spread_l48 (sv : Nat → Int32) (fnd : Nat → Int32) (man : Nat → Int64) (nex : Nat → Int64) (x2 : Int32) (x3 : Int32) (K48 : Int32 → Int32 → Option (Int32 × (Nat → Int32) × (Nat → Int64) × (Nat → Int64))) (x4 : Int32) (x5 : Int32) : Option (Int32 × (Nat → Int32) × (Nat → Int64) × (Nat → Int64)) :=
  if (10 : Int32) ≤ x5 then some (x4, fnd, man, nex) else fix2 (fX6_spread_l62 K48 sv x2 x3 x4 x5) 2000 x4 (0 : Int32)
def fX6_spread (sv : Nat → Int32) (fnd : Nat → Int32) (man : Nat → Int64) (nex : Nat → Int64) (x1 : Int32) (x2 : Int32) : Option (Int32 × (Nat → Int32) × (Nat → Int64) × (Nat → Int64)) :=
 (fX6_isTale sv x1).bind fun q2 => if (bI q2) = 0 then fX6_spread_b15 fnd man nex else if (bI (fX6_isAge x2)) = 0 then fX6_spread_b15 fnd man nex else if (sv (3 : Int32).toNatClampNeg) = 0 then (fX6_no fnd (3 : Int32)).bind fun q32 => some (q32.1, q32.2, man, nex) else (fX6_toWhom sv man nex x1).bind fun q38 => fix2 (fX6_spread_l48 sv fnd q38.2.1 q38.2.2 x2 q38.1) 2000 (1 : Int32) (0 : Int32)
theorem hdX6_isNear : yX6_isNear.cls = RX6 ∧ yX6_isNear.cls ≠ "java/lang/invoke/MethodHandle" ∧ yX6_isNear.cls ≠ "java/lang/invoke/VarHandle" ∧ (parseMethodDescriptor yX6_isNear.desc).map (fun d => d.parameters.length) = some 3 := by decide +kernel
abbrev rX6_spread : Room := { frames := 4, cells := 0, slots := 0, locals := 94 }
set_option maxHeartbeats 4000000 in
set_option maxRecDepth 100000 in
theorem kX6_spread (l : Launch) (D : va_G) (a : Nat → Nat) (cI cJ cS : ClassId) (hd : aok a 16) {Env : (Nat → Prop) → State → Heap → Prop} (hEo : envOK Env) (sv kep bef : Nat → Int32) (isk : Int32) (fnd : Nat → Int32) (man nex : Nat → Int64) (wor sng hea lat tap : Nat → Int32) (tpd her flt vlu : Int32) (bit lon : Nat → Int32) (cel btw : Nat → Int64) (x1 : Int32) (x2 : Int32) (res : Int32 × (Nat → Int32) × (Nat → Int64) × (Nat → Int64)) (hres : fX6_spread sv fnd man nex x1 x2 = some res) : CtI l D (tyL cI cJ cS) 16 a Env yX6_spread wsX6_spread rX6_spread [.ref (a 0), .int x1, .int x2] (wM a cI cJ cS sv kep bef isk fnd man nex wor sng hea lat tap tpd her flt vlu bit lon cel btw) (wM a cI cJ cS sv kep bef isk res.2.1 res.2.2.1 res.2.2.2 wor sng hea lat tap tpd her flt vlu bit lon cel btw) res.1 := by
  refine CtI_mk (cc := cX6_spread) (maxL := 8) (ret := (some .int)) (by decide) rfl (Nat.le_of_ble_eq_true rfl) ?_
  intro p e s m args below meth c ls hx hb hr hlk hml hown hts hP hK hE hl
  have hS : va_S (adA a 16 s.heap.size) s.heap s.heap [] := va_S.rf
  have hl : lv_has ls 8 [(0, .ref (a 0)), (1, .int x1), (2, .int x2)] := hl
  have hown : s.vm.findClass RX6 = some m.cls := hown
  have hw6 : ∀ w ∈ wsX60, w.before args s = true := fun w h => hts w (List.mem_cons_of_mem _ (List.mem_append_right _ h))
  have u1 : (Cond.fieldLink RX6 9 "YearWordsModel" "s" "[I").before args s = true := hts _ (List.mem_of_getElem? (i := 1) (by decide +kernel))
  obtain ⟨Q, hQ⟩ : ∃ Q, Q = mqI below D 16 a args s (wM a cI cJ cS sv kep bef isk res.2.1 res.2.2.1 res.2.2.2 wor sng hea lat tap tpd her flt vlu bit lon cel btw) res.1 := ⟨_, rfl⟩
  rw [← hQ]
  have b15 : ∀ (fnd : Nat → Int32) (man : Nat → Int64) (nex : Nat → Int64), fX6_spread_b15 fnd man nex = some res → ∀ (H : Heap) (locs : List Loc) (ls : Array Slot), va_P D vwCl (wM a cI cJ cS sv kep bef isk fnd man nex wor sng hea lat tap tpd her flt vlu bit lon cel btw) H → va_S (adA a 16 s.heap.size) s.heap H locs → lv_has ls 8 [(0, .ref (a 0))] → W p l e rX6_spread s m args below meth c H locs 0 0 Q (F0 m 15 ls []) := by
    intro fnd man nex hres H locs ls hP hS hl
    unfold fX6_spread_b15 at hres
    refine lv_aload_n hx hb dX6_spread_15 rfl (lv_at hl 0 rfl) ?_
    refine lv_iconst (v := 0) hx hb dX6_spread_16 (by decide) ?_
    obtain ⟨q17, e17, hres⟩ := obd hres
    refine cvI (q0 := 0) (ci := 6) hx hb hml hown hts hEo hE hK hP hS (kX6_no l D a cI cJ cS hd hEo sv kep bef isk fnd man nex wor sng hea lat tap tpd her flt vlu bit lon cel btw (0 : Int32) q17 e17) gX6_spread_X6_no rfl hdX6_no rfl rfl rfl ⟨rfl, rfl⟩ ⟨Nat.le_of_ble_eq_true rfl, Nat.le_of_ble_eq_true rfl⟩ ⟨Nat.zero_le _, Nat.zero_le _⟩ rfl hl.1 rfl (Nat.le_of_ble_eq_true rfl) dX6_spread_17 (fun H locs hP hS => ?_)
    exact hQ ▸ rtI (v := q17.1)  hx hb hr hlk hP hS (by rw [← (Option.some.inj hres)]) (by rw [← (Option.some.inj hres)]) dX6_spread_20
  have b48 : ∀ (fnd : Nat → Int32) (man : Nat → Int64) (nex : Nat → Int64) (x3 : Int32) (n : Nat) (x4 : Int32) (x5 : Int32), fix2 (fX6_spread_l48 sv fnd man nex x2 x3) n x4 x5 = some res → ∀ (H : Heap) (locs : List Loc) (ls : Array Slot), va_P D vwCl (wM a cI cJ cS sv kep bef isk fnd man nex wor sng hea lat tap tpd her flt vlu bit lon cel btw) H → va_S (adA a 16 s.heap.size) s.heap H locs → lv_has ls 8 [(0, .ref (a 0)), (2, .int x2), (3, .int x3), (4, .int x4), (5, .int x5)] → W p l e rX6_spread s m args below meth c H locs 0 0 Q (F0 m 48 ls []) := by
    intro fnd man nex x3
    refine fix2_r ?_
    intro K48 hK48 x4 x5 hres H locs ls hP hS hl
    have b114 : ∀ (x5 : Int32) (x6 : Int32), fX6_spread_b114 K48 x5 x6 = some res → ∀ (H : Heap) (locs : List Loc) (ls : Array Slot), va_P D vwCl (wM a cI cJ cS sv kep bef isk fnd man nex wor sng hea lat tap tpd her flt vlu bit lon cel btw) H → va_S (adA a 16 s.heap.size) s.heap H locs → lv_has ls 8 [(0, .ref (a 0)), (2, .int x2), (3, .int x3), (5, .int x5), (6, .int x6)] → W p l e rX6_spread s m args below meth c H locs 0 0 Q (F0 m 114 ls []) := by
      intro x5 x6 hres H locs ls hP hS hl
      unfold fX6_spread_b114 at hres
      refine lv_iload hx hb dX6_spread_114 (lv_at hl 4 rfl) ?_
      refine lv_istore (lv' := [(4, .int x6), (0, .ref (a 0)), (2, .int x2), (3, .int x3), (5, .int x5), (6, .int x6)]) hx hb dX6_spread_116 hl (by decide) rfl (fun ls hl => ?_)
      refine lv_iinc (v := x5 + 1) (lv' := [(5, .int (x5 + 1)), (4, .int x6), (0, .ref (a 0)), (2, .int x2), (3, .int x3), (6, .int x6)]) hx hb dX6_spread_118 hl (k := 4) rfl (congrArg (fun z => x5 + z) (by decide)) (by decide) rfl (fun ls hl => ?_)
      refine lv_goto (tgt := 48) hx hb dX6_spread_121 (by decide) ?_
      exact hK48 x6 (x5 + 1) hres _ _ _ hP hS (lv_sub hl [2, 3, 4, 1, 0] rfl)
    have b62 : ∀ (x4 : Int32) (x5 : Int32) (n : Nat) (x6 : Int32) (x7 : Int32), fix2 (fX6_spread_l62 K48 sv x2 x3 x4 x5) n x6 x7 = some res → ∀ (H : Heap) (locs : List Loc) (ls : Array Slot), va_P D vwCl (wM a cI cJ cS sv kep bef isk fnd man nex wor sng hea lat tap tpd her flt vlu bit lon cel btw) H → va_S (adA a 16 s.heap.size) s.heap H locs → lv_has ls 8 [(0, .ref (a 0)), (2, .int x2), (3, .int x3), (4, .int x4), (5, .int x5), (6, .int x6), (7, .int x7)] → W p l e rX6_spread s m args below meth c H locs 0 0 Q (F0 m 62 ls []) := by
      intro x4 x5
      refine fix2_r ?_
      intro K62 hK62 x6 x7 hres H locs ls hP hS hl
      have b105 : ∀ (x7 : Int32) (z0 : Int32) (z1 : Int32), fX6_spread_b105 K62 x7 z0 z1 = some res → ∀ (H : Heap) (locs : List Loc) (ls : Array Slot), va_P D vwCl (wM a cI cJ cS sv kep bef isk fnd man nex wor sng hea lat tap tpd her flt vlu bit lon cel btw) H → va_S (adA a 16 s.heap.size) s.heap H locs → lv_has ls 8 [(0, .ref (a 0)), (2, .int x2), (3, .int x3), (4, .int x4), (5, .int x5), (7, .int x7)] → W p l e rX6_spread s m args below meth c H locs 0 0 Q (F0 m 105 ls [.int z1, .int z0]) := by
        intro x7 z0 z1 hres H locs ls hP hS hl
        unfold fX6_spread_b105 at hres
        refine lv_ior hx hb dX6_spread_105 ?_
        refine lv_istore (lv' := [(6, .int (z0 ||| z1)), (0, .ref (a 0)), (2, .int x2), (3, .int x3), (4, .int x4), (5, .int x5), (7, .int x7)]) hx hb dX6_spread_106 hl (by decide) rfl (fun ls hl => ?_)
        refine lv_iinc (v := x7 + 1) (lv' := [(7, .int (x7 + 1)), (6, .int (z0 ||| z1)), (0, .ref (a 0)), (2, .int x2), (3, .int x3), (4, .int x4), (5, .int x5)]) hx hb dX6_spread_108 hl (k := 6) rfl (congrArg (fun z => x7 + z) (by decide)) (by decide) rfl (fun ls hl => ?_)
        refine lv_goto (tgt := 62) hx hb dX6_spread_111 (by decide) ?_
        exact hK62 (z0 ||| z1) (x7 + 1) hres _ _ _ hP hS (lv_sub hl [2, 3, 4, 5, 6, 1, 0] rfl)
      have b104 : ∀ (x7 : Int32) (z0 : Int32), fX6_spread_b104 K62 x7 z0 = some res → ∀ (H : Heap) (locs : List Loc) (ls : Array Slot), va_P D vwCl (wM a cI cJ cS sv kep bef isk fnd man nex wor sng hea lat tap tpd her flt vlu bit lon cel btw) H → va_S (adA a 16 s.heap.size) s.heap H locs → lv_has ls 8 [(0, .ref (a 0)), (2, .int x2), (3, .int x3), (4, .int x4), (5, .int x5), (7, .int x7)] → W p l e rX6_spread s m args below meth c H locs 0 0 Q (F0 m 104 ls [.int z0]) := by
        intro x7 z0 hres H locs ls hP hS hl
        unfold fX6_spread_b104 at hres
        refine lv_iconst (v := 0) hx hb dX6_spread_104 (by decide) ?_
        exact b105 x7 z0 (0 : Int32) hres _ _ _ hP hS (lv_sub hl [0, 1, 2, 3, 4, 5] rfl)
      unfold fX6_spread_l62 at hres
      refine lv_iload hx hb dX6_spread_62 (lv_at hl 6 rfl) ?_
      refine lv_aload_n hx hb dX6_spread_64 rfl (lv_at hl 0 rfl) ?_
      refine gM_this6_s hx hb hown hw6 hK hP u1 dX6_spread_65 ?_
      refine lv_iconst (v := 3) hx hb dX6_spread_68 (by decide) ?_
      have i69 : vp_in (3 : Int32) 166 := ib_in (by decide)
      refine lM_sv hx hb hK hP i69 dX6_spread_69 ?_
      refine lv_icmp_ge (tgt := 114) hx hb dX6_spread_70 (by decide) (fun c70 => ?_) (fun c70 => ?_)
      · have hres := (itl hres).1 c70
        exact b114 x5 x6 hres _ _ _ hP hS (lv_sub hl [0, 1, 2, 4, 5] rfl)
      · have hres := (itl hres).2 c70
        refine lv_iload hx hb dX6_spread_73 (lv_at hl 5 rfl) ?_
        refine lv_iload_n hx hb dX6_spread_75 rfl (lv_at hl 2 rfl) ?_
        refine lv_iload hx hb dX6_spread_76 (lv_at hl 6 rfl) ?_
        refine lv_ishr hx hb dX6_spread_78 ?_
        refine lv_iconst (v := 1) hx hb dX6_spread_79 (by decide) ?_
        refine lv_iand hx hb dX6_spread_80 ?_
        refine lv_iconst (v := 1) hx hb dX6_spread_81 (by decide) ?_
        refine lv_icmp_ne (tgt := 104) hx hb dX6_spread_82 (by decide) (fun c82 => ?_) (fun c82 => ?_)
        · have hres := (itl hres).2 c82
          exact b104 x7 x6 hres _ _ _ hP hS (lv_sub hl [0, 1, 2, 3, 4, 6] rfl)
        · have hres := (itl hres).1 c82
          refine lv_aload_n hx hb dX6_spread_85 rfl (lv_at hl 0 rfl) ?_
          refine lv_iload hx hb dX6_spread_86 (lv_at hl 6 rfl) ?_
          refine lv_iload hx hb dX6_spread_88 (lv_at hl 3 rfl) ?_
          refine lv_iload_n hx hb dX6_spread_90 rfl (lv_at hl 1 rfl) ?_
          obtain ⟨q91, e91, hres⟩ := obd hres
          refine cvI (q0 := 0) (ci := 6) hx hb hml hown hts hEo hE hK hP hS (kX6_isNear l D a cI cJ cS hd hEo sv kep bef isk fnd man nex wor sng hea lat tap tpd her flt vlu bit lon cel btw x7 x4 x2 q91 e91) gX6_spread_X6_isNear rfl hdX6_isNear rfl rfl rfl ⟨rfl, rfl⟩ ⟨Nat.le_of_ble_eq_true rfl, Nat.le_of_ble_eq_true rfl⟩ ⟨Nat.zero_le _, Nat.zero_le _⟩ rfl hl.1 rfl (Nat.le_of_ble_eq_true rfl) dX6_spread_91 (fun H locs hP hS => ?_)
          refine lv_if_eq (tgt := 104) hx hb dX6_spread_94 (by decide) (fun c94 => ?_) (fun c94 => ?_)
          · have hres := (itl hres).1 c94
            exact b104 x7 x6 hres _ _ _ hP hS (lv_sub hl [0, 1, 2, 3, 4, 6] rfl)
          · have hres := (itl hres).2 c94
            refine lv_iconst (v := 1) hx hb dX6_spread_97 (by decide) ?_
            refine lv_iload hx hb dX6_spread_98 (lv_at hl 6 rfl) ?_
            refine lv_ishl hx hb dX6_spread_100 ?_
            refine lv_goto (tgt := 105) hx hb dX6_spread_101 (by decide) ?_
            exact b105 x7 x6 ((1 : Int32) <<< (x7 &&& 31)) hres _ _ _ hP hS (lv_sub hl [0, 1, 2, 3, 4, 6] rfl)
    unfold fX6_spread_l48 at hres
    refine lv_iload hx hb dX6_spread_48 (lv_at hl 4 rfl) ?_
    refine lv_bipush (v := 10) hx hb dX6_spread_50 (by decide) ?_
    refine lv_icmp_ge (tgt := 124) hx hb dX6_spread_52 (by decide) (fun c52 => ?_) (fun c52 => ?_)
    · have hres := (itl hres).1 c52
      refine lv_iload hx hb dX6_spread_124 (lv_at hl 3 rfl) ?_
      exact hQ ▸ rtI (v := x4)  hx hb hr hlk hP hS (by rw [← (Option.some.inj hres)]) (by rw [← (Option.some.inj hres)]) dX6_spread_126
    · have hres := (itl hres).2 c52
      refine lv_iload hx hb dX6_spread_55 (lv_at hl 3 rfl) ?_
      refine lv_istore (lv' := [(6, .int x4), (0, .ref (a 0)), (2, .int x2), (3, .int x3), (4, .int x4), (5, .int x5)]) hx hb dX6_spread_57 hl (by decide) rfl (fun ls hl => ?_)
      refine lv_iconst (v := 0) hx hb dX6_spread_59 (by decide) ?_
      refine lv_istore (lv' := [(7, .int (0 : Int32)), (6, .int x4), (0, .ref (a 0)), (2, .int x2), (3, .int x3), (4, .int x4), (5, .int x5)]) hx hb dX6_spread_60 hl (by decide) rfl (fun ls hl => ?_)
      exact b62 x4 x5 2000 x4 (0 : Int32) hres _ _ _ hP hS (lv_sub hl [2, 3, 4, 5, 6, 1, 0] rfl)
  unfold fX6_spread at hres
  refine lv_aload_n hx hb dX6_spread_0 rfl (lv_at hl 0 rfl) ?_
  refine lv_iload_n hx hb dX6_spread_1 rfl (lv_at hl 1 rfl) ?_
  obtain ⟨q2, e2, hres⟩ := obd hres
  refine cvI (q0 := 0) (ci := 6) hx hb hml hown hts hEo hE hK hP hS (kX6_isTale l D a cI cJ cS hd hEo sv kep bef isk fnd man nex wor sng hea lat tap tpd her flt vlu bit lon cel btw x1 q2 e2) gX6_spread_X6_isTale rfl hdX6_isTale rfl rfl rfl ⟨rfl, rfl⟩ ⟨Nat.le_of_ble_eq_true rfl, Nat.le_of_ble_eq_true rfl⟩ ⟨Nat.zero_le _, Nat.zero_le _⟩ rfl hl.1 rfl (Nat.le_of_ble_eq_true rfl) dX6_spread_2 (fun H locs hP hS => ?_)
  refine lv_if_eq (tgt := 15) hx hb dX6_spread_5 (by decide) (fun c5 => ?_) (fun c5 => ?_)
  · have hres := (itl hres).1 c5
    exact b15 fnd man nex hres _ _ _ hP hS (lv_sub hl [0] rfl)
  · have hres := (itl hres).2 c5
    refine lv_iload_n hx hb dX6_spread_8 rfl (lv_at hl 2 rfl) ?_
    refine csI hx hb hml hown hts hEo hE hK hP hS (kX6_isAge l D a cI cJ cS hd hEo sv kep bef isk fnd man nex wor sng hea lat tap tpd her flt vlu bit lon cel btw x2) gX6_spread_X6_isAge rfl hdX6_isAge ⟨rfl, rfl⟩ ⟨Nat.le_of_ble_eq_true rfl, Nat.le_of_ble_eq_true rfl⟩ ⟨Nat.zero_le _, Nat.zero_le _⟩ rfl hl.1 rfl (Nat.le_of_ble_eq_true rfl) dX6_spread_9 (fun H locs hP hS => ?_)
    refine lv_if_ne (tgt := 21) hx hb dX6_spread_12 (by decide) (fun c12 => ?_) (fun c12 => ?_)
    · have hres := (itl hres).2 c12
      refine lv_aload_n hx hb dX6_spread_21 rfl (lv_at hl 0 rfl) ?_
      refine gM_this6_s hx hb hown hw6 hK hP u1 dX6_spread_22 ?_
      refine lv_iconst (v := 3) hx hb dX6_spread_25 (by decide) ?_
      have i26 : vp_in (3 : Int32) 166 := ib_in (by decide)
      refine lM_sv hx hb hK hP i26 dX6_spread_26 ?_
      refine lv_if_ne (tgt := 36) hx hb dX6_spread_27 (by decide) (fun c27 => ?_) (fun c27 => ?_)
      · have hres := (itl hres).2 c27
        refine lv_aload_n hx hb dX6_spread_36 rfl (lv_at hl 0 rfl) ?_
        refine lv_iload_n hx hb dX6_spread_37 rfl (lv_at hl 1 rfl) ?_
        obtain ⟨q38, e38, hres⟩ := obd hres
        refine cvI (q0 := 0) (ci := 6) hx hb hml hown hts hEo hE hK hP hS (kX6_toWhom l D a cI cJ cS hd hEo sv kep bef isk fnd man nex wor sng hea lat tap tpd her flt vlu bit lon cel btw x1 q38 e38) gX6_spread_X6_toWhom rfl hdX6_toWhom rfl rfl rfl ⟨rfl, rfl⟩ ⟨Nat.le_of_ble_eq_true rfl, Nat.le_of_ble_eq_true rfl⟩ ⟨Nat.zero_le _, Nat.zero_le _⟩ rfl hl.1 rfl (Nat.le_of_ble_eq_true rfl) dX6_spread_38 (fun H locs hP hS => ?_)
        refine lv_istore_n (lv' := [(3, .int q38.1), (0, .ref (a 0)), (1, .int x1), (2, .int x2)]) hx hb dX6_spread_41 rfl hl (by decide) rfl (fun ls hl => ?_)
        refine lv_iconst (v := 1) hx hb dX6_spread_42 (by decide) ?_
        refine lv_istore (lv' := [(4, .int (1 : Int32)), (3, .int q38.1), (0, .ref (a 0)), (1, .int x1), (2, .int x2)]) hx hb dX6_spread_43 hl (by decide) rfl (fun ls hl => ?_)
        refine lv_iconst (v := 0) hx hb dX6_spread_45 (by decide) ?_
        refine lv_istore (lv' := [(5, .int (0 : Int32)), (4, .int (1 : Int32)), (3, .int q38.1), (0, .ref (a 0)), (1, .int x1), (2, .int x2)]) hx hb dX6_spread_46 hl (by decide) rfl (fun ls hl => ?_)
        exact b48 fnd q38.2.1 q38.2.2 q38.1 2000 (1 : Int32) (0 : Int32) hres _ _ _ hP hS (lv_sub hl [3, 5, 2, 1, 0] rfl)
      · have hres := (itl hres).1 c27
        refine lv_aload_n hx hb dX6_spread_30 rfl (lv_at hl 0 rfl) ?_
        refine lv_iconst (v := 3) hx hb dX6_spread_31 (by decide) ?_
        obtain ⟨q32, e32, hres⟩ := obd hres
        refine cvI (q0 := 0) (ci := 6) hx hb hml hown hts hEo hE hK hP hS (kX6_no l D a cI cJ cS hd hEo sv kep bef isk fnd man nex wor sng hea lat tap tpd her flt vlu bit lon cel btw (3 : Int32) q32 e32) gX6_spread_X6_no rfl hdX6_no rfl rfl rfl ⟨rfl, rfl⟩ ⟨Nat.le_of_ble_eq_true rfl, Nat.le_of_ble_eq_true rfl⟩ ⟨Nat.zero_le _, Nat.zero_le _⟩ rfl hl.1 rfl (Nat.le_of_ble_eq_true rfl) dX6_spread_32 (fun H locs hP hS => ?_)
        exact hQ ▸ rtI (v := q32.1)  hx hb hr hlk hP hS (by rw [← (Option.some.inj hres)]) (by rw [← (Option.some.inj hres)]) dX6_spread_35
    · have hres := (itl hres).1 c12
      exact b15 fnd man nex hres _ _ _ hP hS (lv_sub hl [0] rfl)
def fX6_feed_b75 (fnd : Nat → Int32) (tap : Nat → Int32) (tpd : Int32) : Option (Int32 × (Nat → Int32) × (Nat → Int32) × Int32) :=
  some (tpd, fnd, tap, tpd)
def fX6_feed_l36 (fnd : Nat → Int32) (x1 : Int32) (K36 : Int32 → (Nat → Int32) → Int32 → Option (Int32 × (Nat → Int32) × (Nat → Int32) × Int32)) (x3 : Int32) (tap : Nat → Int32) (tpd : Int32) : Option (Int32 × (Nat → Int32) × (Nat → Int32) × Int32) :=
  if x3 < 0 then fX6_feed_b75 fnd tap tpd else gd (ib tpd 120) (K36 (x3 + (-1)) (upd tap tpd.toNatClampNeg ((x1 >>> (((8 : Int32) * x3) &&& 31)) &&& (255 : Int32))) (tpd + (1 : Int32)))
def fX6_feed (fnd : Nat → Int32) (tap : Nat → Int32) (tpd : Int32) (x1 : Int32) (x2 : Int32) : Option (Int32 × (Nat → Int32) × (Nat → Int32) × Int32) :=
  if (bI (fX6_in x2 (1 : Int32) (4 : Int32))) = 0 then (fX6_no fnd (0 : Int32)).bind fun q11 => some (q11.1, q11.2, tap, tpd) else if (tpd + x2) ≤ (120 : Int32) then fix3 (fX6_feed_l36 fnd x1) 2000 (x2 - (1 : Int32)) tap tpd else (fX6_no fnd (1 : Int32)).bind fun q28 => some (q28.1, q28.2, tap, tpd)
abbrev rX6_feed : Room := { frames := 1, cells := 0, slots := 0, locals := 22 }
set_option maxHeartbeats 4000000 in
set_option maxRecDepth 100000 in
theorem kX6_feed (l : Launch) (D : va_G) (a : Nat → Nat) (cI cJ cS : ClassId) (hd : aok a 16) {Env : (Nat → Prop) → State → Heap → Prop} (hEo : envOK Env) (sv kep bef : Nat → Int32) (isk : Int32) (fnd : Nat → Int32) (man nex : Nat → Int64) (wor sng hea lat tap : Nat → Int32) (tpd her flt vlu : Int32) (bit lon : Nat → Int32) (cel btw : Nat → Int64) (x1 : Int32) (x2 : Int32) (res : Int32 × (Nat → Int32) × (Nat → Int32) × Int32) (hres : fX6_feed fnd tap tpd x1 x2 = some res) : CtI l D (tyL cI cJ cS) 16 a Env yX6_feed wsX6_feed rX6_feed [.ref (a 0), .int x1, .int x2] (wM a cI cJ cS sv kep bef isk fnd man nex wor sng hea lat tap tpd her flt vlu bit lon cel btw) (wM a cI cJ cS sv kep bef isk res.2.1 man nex wor sng hea lat res.2.2.1 res.2.2.2 her flt vlu bit lon cel btw) res.1 := by
  refine CtI_mk (cc := cX6_feed) (maxL := 4) (ret := (some .int)) (by decide) rfl (Nat.le_of_ble_eq_true rfl) ?_
  intro p e s m args below meth c ls hx hb hr hlk hml hown hts hP hK hE hl
  have hS : va_S (adA a 16 s.heap.size) s.heap s.heap [] := va_S.rf
  have hl : lv_has ls 4 [(0, .ref (a 0)), (1, .int x1), (2, .int x2)] := hl
  have hown : s.vm.findClass RX6 = some m.cls := hown
  have hw6 : ∀ w ∈ wsX60, w.before args s = true := fun w h => hts w (List.mem_cons_of_mem _ (List.mem_append_right _ h))
  have u1 : (Cond.fieldLink RX6 170 "YearWordsModel" "taped" "I").before args s = true := hts _ (List.mem_of_getElem? (i := 1) (by decide +kernel))
  have u2 : (Cond.fieldLink RX6 41 "YearWordsModel" "tape" "[I").before args s = true := hts _ (List.mem_of_getElem? (i := 2) (by decide +kernel))
  obtain ⟨Q, hQ⟩ : ∃ Q, Q = mqI below D 16 a args s (wM a cI cJ cS sv kep bef isk res.2.1 man nex wor sng hea lat res.2.2.1 res.2.2.2 her flt vlu bit lon cel btw) res.1 := ⟨_, rfl⟩
  rw [← hQ]
  have b75 : ∀ (fnd : Nat → Int32) (tap : Nat → Int32) (tpd : Int32), fX6_feed_b75 fnd tap tpd = some res → ∀ (H : Heap) (locs : List Loc) (ls : Array Slot), va_P D vwCl (wM a cI cJ cS sv kep bef isk fnd man nex wor sng hea lat tap tpd her flt vlu bit lon cel btw) H → va_S (adA a 16 s.heap.size) s.heap H locs → lv_has ls 4 [(0, .ref (a 0))] → W p l e rX6_feed s m args below meth c H locs 0 0 Q (F0 m 75 ls []) := by
    intro fnd tap tpd hres H locs ls hP hS hl
    unfold fX6_feed_b75 at hres
    refine lv_aload_n hx hb dX6_feed_75 rfl (lv_at hl 0 rfl) ?_
    refine gM_this6_taped hx hb hown hw6 hK hP u1 dX6_feed_76 ?_
    exact hQ ▸ rtI (v := tpd)  hx hb hr hlk hP hS (by rw [← (Option.some.inj hres)]) (by rw [← (Option.some.inj hres)]) dX6_feed_79
  have b36 : ∀ (fnd : Nat → Int32) (n : Nat) (x3 : Int32) (tap : Nat → Int32) (tpd : Int32), fix3 (fX6_feed_l36 fnd x1) n x3 tap tpd = some res → ∀ (H : Heap) (locs : List Loc) (ls : Array Slot), va_P D vwCl (wM a cI cJ cS sv kep bef isk fnd man nex wor sng hea lat tap tpd her flt vlu bit lon cel btw) H → va_S (adA a 16 s.heap.size) s.heap H locs → lv_has ls 4 [(0, .ref (a 0)), (1, .int x1), (3, .int x3)] → W p l e rX6_feed s m args below meth c H locs 0 0 Q (F0 m 36 ls []) := by
    intro fnd
    refine fix3_r ?_
    intro K36 hK36 x3 tap tpd hres H locs ls hP hS hl
    unfold fX6_feed_l36 at hres
    refine lv_iload_n hx hb dX6_feed_36 rfl (lv_at hl 2 rfl) ?_
    refine lv_if_lt (tgt := 75) hx hb dX6_feed_37 (by decide) (fun c37 => ?_) (fun c37 => ?_)
    · have hres := (itl hres).1 c37
      exact b75 fnd tap tpd hres _ _ _ hP hS (lv_sub hl [0] rfl)
    · have hres := (itl hres).2 c37
      refine lv_aload_n hx hb dX6_feed_40 rfl (lv_at hl 0 rfl) ?_
      refine gM_this6_tape hx hb hown hw6 hK hP u2 dX6_feed_41 ?_
      refine lv_aload_n hx hb dX6_feed_44 rfl (lv_at hl 0 rfl) ?_
      refine gM_this6_taped hx hb hown hw6 hK hP u1 dX6_feed_45 ?_
      refine lv_iload_n hx hb dX6_feed_48 rfl (lv_at hl 1 rfl) ?_
      refine lv_bipush (v := 8) hx hb dX6_feed_49 (by decide) ?_
      refine lv_iload_n hx hb dX6_feed_51 rfl (lv_at hl 2 rfl) ?_
      refine lv_imul hx hb dX6_feed_52 ?_
      refine lv_ishr hx hb dX6_feed_53 ?_
      refine lv_sipush (v := 255) hx hb dX6_feed_54 (by decide) ?_
      refine lv_iand hx hb dX6_feed_57 ?_
      obtain ⟨i58, hres⟩ := gdi hres
      refine sM_tap hx hb hK hP hd hS i58 dX6_feed_58 (fun H locs hP hS => ?_)
      refine lv_aload_n hx hb dX6_feed_59 rfl (lv_at hl 0 rfl) ?_
      refine lv_dup hx hb dX6_feed_60 rfl ?_
      refine gM_this6_taped hx hb hown hw6 hK hP u1 dX6_feed_61 ?_
      refine lv_iconst (v := 1) hx hb dX6_feed_64 (by decide) ?_
      refine lv_iadd hx hb dX6_feed_65 ?_
      refine pM_this6_taped hx hb hown hw6 hK hP hd hS u1 dX6_feed_66 (fun H locs hP hS => ?_)
      refine lv_iinc (v := x3 + (-1)) (lv' := [(3, .int (x3 + (-1))), (0, .ref (a 0)), (1, .int x1)]) hx hb dX6_feed_69 hl (k := 2) rfl (congrArg (fun z => x3 + z) (by decide)) (by decide) rfl (fun ls hl => ?_)
      refine lv_goto (tgt := 36) hx hb dX6_feed_72 (by decide) ?_
      exact hK36 (x3 + (-1)) (upd tap tpd.toNatClampNeg ((x1 >>> (((8 : Int32) * x3) &&& 31)) &&& (255 : Int32))) (tpd + (1 : Int32)) hres _ _ _ hP hS (lv_sub hl [1, 2, 0] rfl)
  unfold fX6_feed at hres
  refine lv_iload_n hx hb dX6_feed_0 rfl (lv_at hl 2 rfl) ?_
  refine lv_iconst (v := 1) hx hb dX6_feed_1 (by decide) ?_
  refine lv_iconst (v := 4) hx hb dX6_feed_2 (by decide) ?_
  refine csI hx hb hml hown hts hEo hE hK hP hS (kX6_in l D a cI cJ cS hd hEo sv kep bef isk fnd man nex wor sng hea lat tap tpd her flt vlu bit lon cel btw x2 (1 : Int32) (4 : Int32)) gX6_feed_X6_in rfl hdX6_in ⟨rfl, rfl⟩ ⟨Nat.le_of_ble_eq_true rfl, Nat.le_of_ble_eq_true rfl⟩ ⟨Nat.zero_le _, Nat.zero_le _⟩ rfl hl.1 rfl (Nat.le_of_ble_eq_true rfl) dX6_feed_3 (fun H locs hP hS => ?_)
  refine lv_if_ne (tgt := 15) hx hb dX6_feed_6 (by decide) (fun c6 => ?_) (fun c6 => ?_)
  · have hres := (itl hres).2 c6
    refine lv_aload_n hx hb dX6_feed_15 rfl (lv_at hl 0 rfl) ?_
    refine gM_this6_taped hx hb hown hw6 hK hP u1 dX6_feed_16 ?_
    refine lv_iload_n hx hb dX6_feed_19 rfl (lv_at hl 2 rfl) ?_
    refine lv_iadd hx hb dX6_feed_20 ?_
    refine lv_bipush (v := 120) hx hb dX6_feed_21 (by decide) ?_
    refine lv_icmp_le (tgt := 32) hx hb dX6_feed_23 (by decide) (fun c23 => ?_) (fun c23 => ?_)
    · have hres := (itl hres).1 c23
      refine lv_iload_n hx hb dX6_feed_32 rfl (lv_at hl 2 rfl) ?_
      refine lv_iconst (v := 1) hx hb dX6_feed_33 (by decide) ?_
      refine lv_isub hx hb dX6_feed_34 ?_
      refine lv_istore_n (lv' := [(3, .int (x2 - (1 : Int32))), (0, .ref (a 0)), (1, .int x1), (2, .int x2)]) hx hb dX6_feed_35 rfl hl (by decide) rfl (fun ls hl => ?_)
      exact b36 fnd 2000 (x2 - (1 : Int32)) tap tpd hres _ _ _ hP hS (lv_sub hl [1, 2, 0] rfl)
    · have hres := (itl hres).2 c23
      refine lv_aload_n hx hb dX6_feed_26 rfl (lv_at hl 0 rfl) ?_
      refine lv_iconst (v := 1) hx hb dX6_feed_27 (by decide) ?_
      obtain ⟨q28, e28, hres⟩ := obd hres
      refine cvI (q0 := 0) (ci := 6) hx hb hml hown hts hEo hE hK hP hS (kX6_no l D a cI cJ cS hd hEo sv kep bef isk fnd man nex wor sng hea lat tap tpd her flt vlu bit lon cel btw (1 : Int32) q28 e28) gX6_feed_X6_no rfl hdX6_no rfl rfl rfl ⟨rfl, rfl⟩ ⟨Nat.le_of_ble_eq_true rfl, Nat.le_of_ble_eq_true rfl⟩ ⟨Nat.zero_le _, Nat.zero_le _⟩ rfl hl.1 rfl (Nat.le_of_ble_eq_true rfl) dX6_feed_28 (fun H locs hP hS => ?_)
      exact hQ ▸ rtI (v := q28.1)  hx hb hr hlk hP hS (by rw [← (Option.some.inj hres)]) (by rw [← (Option.some.inj hres)]) dX6_feed_31
  · have hres := (itl hres).1 c6
    refine lv_aload_n hx hb dX6_feed_9 rfl (lv_at hl 0 rfl) ?_
    refine lv_iconst (v := 0) hx hb dX6_feed_10 (by decide) ?_
    obtain ⟨q11, e11, hres⟩ := obd hres
    refine cvI (q0 := 0) (ci := 6) hx hb hml hown hts hEo hE hK hP hS (kX6_no l D a cI cJ cS hd hEo sv kep bef isk fnd man nex wor sng hea lat tap tpd her flt vlu bit lon cel btw (0 : Int32) q11 e11) gX6_feed_X6_no rfl hdX6_no rfl rfl rfl ⟨rfl, rfl⟩ ⟨Nat.le_of_ble_eq_true rfl, Nat.le_of_ble_eq_true rfl⟩ ⟨Nat.zero_le _, Nat.zero_le _⟩ rfl hl.1 rfl (Nat.le_of_ble_eq_true rfl) dX6_feed_11 (fun H locs hP hS => ?_)
    exact hQ ▸ rtI (v := q11.1)  hx hb hr hlk hP hS (by rw [← (Option.some.inj hres)]) (by rw [← (Option.some.inj hres)]) dX6_feed_14
def fX6_wipe (tpd : Int32) : Int32 × Int32 :=
 (tpd, (0 : Int32))
abbrev rX6_wipe : Room := { frames := 0, cells := 0, slots := 0, locals := 0 }
set_option maxHeartbeats 4000000 in
set_option maxRecDepth 100000 in
theorem kX6_wipe (l : Launch) (D : va_G) (a : Nat → Nat) (cI cJ cS : ClassId) (hd : aok a 16) {Env : (Nat → Prop) → State → Heap → Prop} (hEo : envOK Env) (sv kep bef : Nat → Int32) (isk : Int32) (fnd : Nat → Int32) (man nex : Nat → Int64) (wor sng hea lat tap : Nat → Int32) (tpd her flt vlu : Int32) (bit lon : Nat → Int32) (cel btw : Nat → Int64)  : CtI l D (tyL cI cJ cS) 16 a Env yX6_wipe wsX6_wipe rX6_wipe [.ref (a 0)] (wM a cI cJ cS sv kep bef isk fnd man nex wor sng hea lat tap tpd her flt vlu bit lon cel btw) (wM a cI cJ cS sv kep bef isk fnd man nex wor sng hea lat tap (fX6_wipe tpd).2 her flt vlu bit lon cel btw) (fX6_wipe tpd).1 := by
  generalize hres : fX6_wipe tpd = res
  refine CtI_mk (cc := cX6_wipe) (maxL := 2) (ret := (some .int)) (by decide) rfl (Nat.le_of_ble_eq_true rfl) ?_
  intro p e s m args below meth c ls hx hb hr hlk hml hown hts hP hK hE hl
  have hS : va_S (adA a 16 s.heap.size) s.heap s.heap [] := va_S.rf
  have hl : lv_has ls 2 [(0, .ref (a 0))] := hl
  have hown : s.vm.findClass RX6 = some m.cls := hown
  have hw6 : ∀ w ∈ wsX60, w.before args s = true := fun w h => hts w (List.mem_cons_of_mem _ (List.mem_append_right _ h))
  have u1 : (Cond.fieldLink RX6 170 "YearWordsModel" "taped" "I").before args s = true := hts _ (List.mem_of_getElem? (i := 1) (by decide +kernel))
  obtain ⟨Q, hQ⟩ : ∃ Q, Q = mqI below D 16 a args s (wM a cI cJ cS sv kep bef isk fnd man nex wor sng hea lat tap res.2 her flt vlu bit lon cel btw) res.1 := ⟨_, rfl⟩
  rw [← hQ]
  unfold fX6_wipe at hres
  refine lv_aload_n hx hb dX6_wipe_0 rfl (lv_at hl 0 rfl) ?_
  refine gM_this6_taped hx hb hown hw6 hK hP u1 dX6_wipe_1 ?_
  refine lv_istore_n (lv' := [(1, .int tpd), (0, .ref (a 0))]) hx hb dX6_wipe_4 rfl hl (by decide) rfl (fun ls hl => ?_)
  refine lv_aload_n hx hb dX6_wipe_5 rfl (lv_at hl 1 rfl) ?_
  refine lv_iconst (v := 0) hx hb dX6_wipe_6 (by decide) ?_
  refine pM_this6_taped hx hb hown hw6 hK hP hd hS u1 dX6_wipe_7 (fun H locs hP hS => ?_)
  refine lv_iload_n hx hb dX6_wipe_10 rfl (lv_at hl 0 rfl) ?_
  exact hQ ▸ rtI (v := tpd)  hx hb hr hlk hP hS (by rw [← hres]) (by rw [← hres]) dX6_wipe_11
def fX6_byteAt (tap : Nat → Int32) (tpd : Int32) (x1 : Int32) : Option (Int32) :=
  if tpd ≤ x1 then some (-1 : Int32) else gd (ib x1 120) (some (tap x1.toNatClampNeg))
abbrev rX6_byteAt : Room := { frames := 0, cells := 0, slots := 0, locals := 0 }
set_option maxHeartbeats 4000000 in
set_option maxRecDepth 100000 in
theorem kX6_byteAt (l : Launch) (D : va_G) (a : Nat → Nat) (cI cJ cS : ClassId) (hd : aok a 16) {Env : (Nat → Prop) → State → Heap → Prop} (hEo : envOK Env) (sv kep bef : Nat → Int32) (isk : Int32) (fnd : Nat → Int32) (man nex : Nat → Int64) (wor sng hea lat tap : Nat → Int32) (tpd her flt vlu : Int32) (bit lon : Nat → Int32) (cel btw : Nat → Int64) (x1 : Int32) (res : Int32) (hres : fX6_byteAt tap tpd x1 = some res) : CtI l D (tyL cI cJ cS) 16 a Env yX6_byteAt wsX6_byteAt rX6_byteAt [.ref (a 0), .int x1] (wM a cI cJ cS sv kep bef isk fnd man nex wor sng hea lat tap tpd her flt vlu bit lon cel btw) (wM a cI cJ cS sv kep bef isk fnd man nex wor sng hea lat tap tpd her flt vlu bit lon cel btw) res := by
  refine CtI_mk (cc := cX6_byteAt) (maxL := 2) (ret := (some .int)) (by decide) rfl (Nat.le_of_ble_eq_true rfl) ?_
  intro p e s m args below meth c ls hx hb hr hlk hml hown hts hP hK hE hl
  have hS : va_S (adA a 16 s.heap.size) s.heap s.heap [] := va_S.rf
  have hl : lv_has ls 2 [(0, .ref (a 0)), (1, .int x1)] := hl
  have hown : s.vm.findClass RX6 = some m.cls := hown
  have hw6 : ∀ w ∈ wsX60, w.before args s = true := fun w h => hts w (List.mem_cons_of_mem _ (List.mem_append_right _ h))
  have u1 : (Cond.fieldLink RX6 170 "YearWordsModel" "taped" "I").before args s = true := hts _ (List.mem_of_getElem? (i := 1) (by decide +kernel))
  have u2 : (Cond.fieldLink RX6 41 "YearWordsModel" "tape" "[I").before args s = true := hts _ (List.mem_of_getElem? (i := 2) (by decide +kernel))
  obtain ⟨Q, hQ⟩ : ∃ Q, Q = mqI below D 16 a args s (wM a cI cJ cS sv kep bef isk fnd man nex wor sng hea lat tap tpd her flt vlu bit lon cel btw) res := ⟨_, rfl⟩
  rw [← hQ]
  unfold fX6_byteAt at hres
  refine lv_iload_n hx hb dX6_byteAt_0 rfl (lv_at hl 1 rfl) ?_
  refine lv_aload_n hx hb dX6_byteAt_1 rfl (lv_at hl 0 rfl) ?_
  refine gM_this6_taped hx hb hown hw6 hK hP u1 dX6_byteAt_2 ?_
  refine lv_icmp_ge (tgt := 17) hx hb dX6_byteAt_5 (by decide) (fun c5 => ?_) (fun c5 => ?_)
  · have hres := (itl hres).1 c5
    refine lv_iconst (v := (-1)) hx hb dX6_byteAt_17 (by decide) ?_
    exact hQ ▸ rtI (v := (-1 : Int32))  hx hb hr hlk hP hS (by rw [← (Option.some.inj hres)]) rfl dX6_byteAt_18
  · have hres := (itl hres).2 c5
    refine lv_aload_n hx hb dX6_byteAt_8 rfl (lv_at hl 0 rfl) ?_
    refine gM_this6_tape hx hb hown hw6 hK hP u2 dX6_byteAt_9 ?_
    refine lv_iload_n hx hb dX6_byteAt_12 rfl (lv_at hl 1 rfl) ?_
    obtain ⟨i13, hres⟩ := gdi hres
    refine lM_tap hx hb hK hP i13 dX6_byteAt_13 ?_
    refine lv_goto (tgt := 18) hx hb dX6_byteAt_14 (by decide) ?_
    exact hQ ▸ rtI (v := tap x1.toNatClampNeg)  hx hb hr hlk hP hS (by rw [← (Option.some.inj hres)]) rfl dX6_byteAt_18
def fX6_blanks_l0 (tap : Nat → Int32) (tpd : Int32) (K0 : Int32 → Option (Int32)) (her : Int32) : Option (Int32) :=
 (fX6_byteAt tap tpd her).bind fun q5 => if q5 = (32 : Int32) then K0 (her + (1 : Int32)) else some her
def fX6_blanks (tap : Nat → Int32) (tpd : Int32) (her : Int32) : Option (Int32) :=
  fix1 (fX6_blanks_l0 tap tpd) 2000 her
theorem hdX6_byteAt : yX6_byteAt.cls = RX6 ∧ yX6_byteAt.cls ≠ "java/lang/invoke/MethodHandle" ∧ yX6_byteAt.cls ≠ "java/lang/invoke/VarHandle" ∧ (parseMethodDescriptor yX6_byteAt.desc).map (fun d => d.parameters.length) = some 1 := by decide +kernel
abbrev rX6_blanks : Room := { frames := 1, cells := 0, slots := 0, locals := 21 }
set_option maxHeartbeats 4000000 in
set_option maxRecDepth 100000 in
theorem kX6_blanks (l : Launch) (D : va_G) (a : Nat → Nat) (cI cJ cS : ClassId) (hd : aok a 16) {Env : (Nat → Prop) → State → Heap → Prop} (hEo : envOK Env) (sv kep bef : Nat → Int32) (isk : Int32) (fnd : Nat → Int32) (man nex : Nat → Int64) (wor sng hea lat tap : Nat → Int32) (tpd her flt vlu : Int32) (bit lon : Nat → Int32) (cel btw : Nat → Int64)  (res : Int32) (hres : fX6_blanks tap tpd her = some res) : CtV l D (tyL cI cJ cS) 16 a Env yX6_blanks wsX6_blanks rX6_blanks [.ref (a 0)] (wM a cI cJ cS sv kep bef isk fnd man nex wor sng hea lat tap tpd her flt vlu bit lon cel btw) (wM a cI cJ cS sv kep bef isk fnd man nex wor sng hea lat tap tpd res flt vlu bit lon cel btw) := by
  refine CtV_mk (cc := cX6_blanks) (maxL := 1) (ret := none) (by decide) rfl (Nat.le_of_ble_eq_true rfl) ?_
  intro p e s m args below meth c ls hx hb hr hlk hml hown hts hP hK hE hl
  have hS : va_S (adA a 16 s.heap.size) s.heap s.heap [] := va_S.rf
  have hl : lv_has ls 1 [(0, .ref (a 0))] := hl
  have hown : s.vm.findClass RX6 = some m.cls := hown
  have hw6 : ∀ w ∈ wsX60, w.before args s = true := fun w h => hts w (List.mem_cons_of_mem _ (List.mem_append_right _ h))
  have u1 : (Cond.fieldLink RX6 174 "YearWordsModel" "here" "I").before args s = true := hts _ (List.mem_of_getElem? (i := 1) (by decide +kernel))
  obtain ⟨Q, hQ⟩ : ∃ Q, Q = mqV below D 16 a args s (wM a cI cJ cS sv kep bef isk fnd man nex wor sng hea lat tap tpd res flt vlu bit lon cel btw) := ⟨_, rfl⟩
  rw [← hQ]
  have b0 : ∀  (n : Nat) (her : Int32), fix1 (fX6_blanks_l0 tap tpd) n her = some res → ∀ (H : Heap) (locs : List Loc) (ls : Array Slot), va_P D vwCl (wM a cI cJ cS sv kep bef isk fnd man nex wor sng hea lat tap tpd her flt vlu bit lon cel btw) H → va_S (adA a 16 s.heap.size) s.heap H locs → lv_has ls 1 [(0, .ref (a 0))] → W p l e rX6_blanks s m args below meth c H locs 0 0 Q (F0 m 0 ls []) := by
    refine fix1_r ?_
    intro K0 hK0 her hres H locs ls hP hS hl
    unfold fX6_blanks_l0 at hres
    refine lv_aload_n hx hb dX6_blanks_0 rfl (lv_at hl 0 rfl) ?_
    refine lv_aload_n hx hb dX6_blanks_1 rfl (lv_at hl 0 rfl) ?_
    refine gM_this6_here hx hb hown hw6 hK hP u1 dX6_blanks_2 ?_
    obtain ⟨q5, e5, hres⟩ := obd hres
    refine cvI (q0 := 0) (ci := 6) hx hb hml hown hts hEo hE hK hP hS (kX6_byteAt l D a cI cJ cS hd hEo sv kep bef isk fnd man nex wor sng hea lat tap tpd her flt vlu bit lon cel btw her q5 e5) gX6_blanks_X6_byteAt rfl hdX6_byteAt rfl rfl rfl ⟨rfl, rfl⟩ ⟨Nat.le_of_ble_eq_true rfl, Nat.le_of_ble_eq_true rfl⟩ ⟨Nat.zero_le _, Nat.zero_le _⟩ rfl hl.1 rfl (Nat.le_of_ble_eq_true rfl) dX6_blanks_5 (fun H locs hP hS => ?_)
    refine lv_bipush (v := 32) hx hb dX6_blanks_8 (by decide) ?_
    refine lv_icmp_ne (tgt := 26) hx hb dX6_blanks_10 (by decide) (fun c10 => ?_) (fun c10 => ?_)
    · have hres := (itl hres).2 c10
      exact hQ ▸ rtV hx hb hr hlk hP hS (by rw [← (Option.some.inj hres)]) dX6_blanks_26
    · have hres := (itl hres).1 c10
      refine lv_aload_n hx hb dX6_blanks_13 rfl (lv_at hl 0 rfl) ?_
      refine lv_dup hx hb dX6_blanks_14 rfl ?_
      refine gM_this6_here hx hb hown hw6 hK hP u1 dX6_blanks_15 ?_
      refine lv_iconst (v := 1) hx hb dX6_blanks_18 (by decide) ?_
      refine lv_iadd hx hb dX6_blanks_19 ?_
      refine pM_this6_here hx hb hown hw6 hK hP hd hS u1 dX6_blanks_20 (fun H locs hP hS => ?_)
      refine lv_goto (tgt := 0) hx hb dX6_blanks_23 (by decide) ?_
      exact hK0 (her + (1 : Int32)) hres _ _ _ hP hS (lv_sub hl [0] rfl)
  unfold fX6_blanks at hres
  exact b0  2000 her hres _ _ _ hP hS (lv_sub hl [0] rfl)
def fX6_fails_b19 (flt : Int32) (z1 : Int32) : Bool × Int32 :=
 (false, z1)
def fX6_fails (her : Int32) (flt : Int32) : Bool × Int32 :=
  if 0 ≤ flt then fX6_fails_b19 flt flt else fX6_fails_b19 flt her
abbrev rX6_fails : Room := { frames := 0, cells := 0, slots := 0, locals := 0 }
set_option maxHeartbeats 4000000 in
set_option maxRecDepth 100000 in
theorem kX6_fails (l : Launch) (D : va_G) (a : Nat → Nat) (cI cJ cS : ClassId) (hd : aok a 16) {Env : (Nat → Prop) → State → Heap → Prop} (hEo : envOK Env) (sv kep bef : Nat → Int32) (isk : Int32) (fnd : Nat → Int32) (man nex : Nat → Int64) (wor sng hea lat tap : Nat → Int32) (tpd her flt vlu : Int32) (bit lon : Nat → Int32) (cel btw : Nat → Int64)  : CtI l D (tyL cI cJ cS) 16 a Env yX6_fails wsX6_fails rX6_fails [.ref (a 0)] (wM a cI cJ cS sv kep bef isk fnd man nex wor sng hea lat tap tpd her flt vlu bit lon cel btw) (wM a cI cJ cS sv kep bef isk fnd man nex wor sng hea lat tap tpd her (fX6_fails her flt).2 vlu bit lon cel btw) (bI (fX6_fails her flt).1) := by
  generalize hres : fX6_fails her flt = res
  refine CtI_mk (cc := cX6_fails) (maxL := 1) (ret := (some .boolean)) (by decide) rfl (Nat.le_of_ble_eq_true rfl) ?_
  intro p e s m args below meth c ls hx hb hr hlk hml hown hts hP hK hE hl
  have hS : va_S (adA a 16 s.heap.size) s.heap s.heap [] := va_S.rf
  have hl : lv_has ls 1 [(0, .ref (a 0))] := hl
  have hown : s.vm.findClass RX6 = some m.cls := hown
  have hw6 : ∀ w ∈ wsX60, w.before args s = true := fun w h => hts w (List.mem_cons_of_mem _ (List.mem_append_right _ h))
  have u1 : (Cond.fieldLink RX6 180 "YearWordsModel" "fault" "I").before args s = true := hts _ (List.mem_of_getElem? (i := 1) (by decide +kernel))
  have u2 : (Cond.fieldLink RX6 174 "YearWordsModel" "here" "I").before args s = true := hts _ (List.mem_of_getElem? (i := 2) (by decide +kernel))
  obtain ⟨Q, hQ⟩ : ∃ Q, Q = mqI below D 16 a args s (wM a cI cJ cS sv kep bef isk fnd man nex wor sng hea lat tap tpd her res.2 vlu bit lon cel btw) (bI res.1) := ⟨_, rfl⟩
  rw [← hQ]
  have b19 : ∀ (flt : Int32) (z1 : Int32), fX6_fails_b19 flt z1 = res → ∀ (H : Heap) (locs : List Loc) (ls : Array Slot), va_P D vwCl (wM a cI cJ cS sv kep bef isk fnd man nex wor sng hea lat tap tpd her flt vlu bit lon cel btw) H → va_S (adA a 16 s.heap.size) s.heap H locs → lv_has ls 1 [(0, .ref (a 0))] → W p l e rX6_fails s m args below meth c H locs 0 0 Q (F0 m 19 ls [.int z1, .ref (a 0)]) := by
    intro flt z1 hres H locs ls hP hS hl
    unfold fX6_fails_b19 at hres
    refine pM_this6_fault hx hb hown hw6 hK hP hd hS u1 dX6_fails_19 (fun H locs hP hS => ?_)
    refine lv_iconst (v := 0) hx hb dX6_fails_22 (by decide) ?_
    exact hQ ▸ rtZ (v := false)  hx hb hr hlk hP hS (by rw [← hres]) (by rw [← hres]) dX6_fails_23
  unfold fX6_fails at hres
  refine lv_aload_n hx hb dX6_fails_0 rfl (lv_at hl 0 rfl) ?_
  refine lv_aload_n hx hb dX6_fails_1 rfl (lv_at hl 0 rfl) ?_
  refine gM_this6_fault hx hb hown hw6 hK hP u1 dX6_fails_2 ?_
  refine lv_if_ge (tgt := 15) hx hb dX6_fails_5 (by decide) (fun c5 => ?_) (fun c5 => ?_)
  · have hres := (itl hres).1 c5
    refine lv_aload_n hx hb dX6_fails_15 rfl (lv_at hl 0 rfl) ?_
    refine gM_this6_fault hx hb hown hw6 hK hP u1 dX6_fails_16 ?_
    exact b19 flt flt hres _ _ _ hP hS (lv_sub hl [0] rfl)
  · have hres := (itl hres).2 c5
    refine lv_aload_n hx hb dX6_fails_8 rfl (lv_at hl 0 rfl) ?_
    refine gM_this6_here hx hb hown hw6 hK hP u2 dX6_fails_9 ?_
    refine lv_goto (tgt := 19) hx hb dX6_fails_12 (by decide) ?_
    exact b19 flt her hres _ _ _ hP hS (lv_sub hl [0] rfl)
def fX6_isLetter (x0 : Int32) : Bool :=
 (fX6_in x0 (97 : Int32) (122 : Int32))
abbrev rX6_isLetter : Room := { frames := 1, cells := 0, slots := 0, locals := 22 }
set_option maxHeartbeats 4000000 in
set_option maxRecDepth 100000 in
theorem kX6_isLetter (l : Launch) (D : va_G) (a : Nat → Nat) (cI cJ cS : ClassId) (hd : aok a 16) {Env : (Nat → Prop) → State → Heap → Prop} (hEo : envOK Env) (sv kep bef : Nat → Int32) (isk : Int32) (fnd : Nat → Int32) (man nex : Nat → Int64) (wor sng hea lat tap : Nat → Int32) (tpd her flt vlu : Int32) (bit lon : Nat → Int32) (cel btw : Nat → Int64) (x0 : Int32) : CtI l D (tyL cI cJ cS) 16 a Env yX6_isLetter wsX6_isLetter rX6_isLetter [.int x0] (wM a cI cJ cS sv kep bef isk fnd man nex wor sng hea lat tap tpd her flt vlu bit lon cel btw) (wM a cI cJ cS sv kep bef isk fnd man nex wor sng hea lat tap tpd her flt vlu bit lon cel btw) (bI (fX6_isLetter x0)) := by
  generalize hres : fX6_isLetter x0 = res
  refine CtI_mk (cc := cX6_isLetter) (maxL := 1) (ret := (some .boolean)) (by decide) rfl (Nat.le_of_ble_eq_true rfl) ?_
  intro p e s m args below meth c ls hx hb hr hlk hml hown hts hP hK hE hl
  have hS : va_S (adA a 16 s.heap.size) s.heap s.heap [] := va_S.rf
  have hl : lv_has ls 1 [(0, .int x0)] := hl
  have hown : s.vm.findClass RX6 = some m.cls := hown
  obtain ⟨Q, hQ⟩ : ∃ Q, Q = mqI below D 16 a args s (wM a cI cJ cS sv kep bef isk fnd man nex wor sng hea lat tap tpd her flt vlu bit lon cel btw) (bI res) := ⟨_, rfl⟩
  rw [← hQ]
  unfold fX6_isLetter at hres
  refine lv_iload_n hx hb dX6_isLetter_0 rfl (lv_at hl 0 rfl) ?_
  refine lv_bipush (v := 97) hx hb dX6_isLetter_1 (by decide) ?_
  refine lv_bipush (v := 122) hx hb dX6_isLetter_3 (by decide) ?_
  refine csI hx hb hml hown hts hEo hE hK hP hS (kX6_in l D a cI cJ cS hd hEo sv kep bef isk fnd man nex wor sng hea lat tap tpd her flt vlu bit lon cel btw x0 (97 : Int32) (122 : Int32)) gX6_isLetter_X6_in rfl hdX6_in ⟨rfl, rfl⟩ ⟨Nat.le_of_ble_eq_true rfl, Nat.le_of_ble_eq_true rfl⟩ ⟨Nat.zero_le _, Nat.zero_le _⟩ rfl hl.1 rfl (Nat.le_of_ble_eq_true rfl) dX6_isLetter_5 (fun H locs hP hS => ?_)
  exact hQ ▸ rtZ (v := (fX6_in x0 (97 : Int32) (122 : Int32)))  hx hb hr hlk hP hS (by rw [← hres]) rfl dX6_isLetter_8
def fX6_isDigit (x0 : Int32) : Bool :=
 (fX6_in x0 (48 : Int32) (57 : Int32))
abbrev rX6_isDigit : Room := { frames := 1, cells := 0, slots := 0, locals := 22 }
set_option maxHeartbeats 4000000 in
set_option maxRecDepth 100000 in
theorem kX6_isDigit (l : Launch) (D : va_G) (a : Nat → Nat) (cI cJ cS : ClassId) (hd : aok a 16) {Env : (Nat → Prop) → State → Heap → Prop} (hEo : envOK Env) (sv kep bef : Nat → Int32) (isk : Int32) (fnd : Nat → Int32) (man nex : Nat → Int64) (wor sng hea lat tap : Nat → Int32) (tpd her flt vlu : Int32) (bit lon : Nat → Int32) (cel btw : Nat → Int64) (x0 : Int32) : CtI l D (tyL cI cJ cS) 16 a Env yX6_isDigit wsX6_isDigit rX6_isDigit [.int x0] (wM a cI cJ cS sv kep bef isk fnd man nex wor sng hea lat tap tpd her flt vlu bit lon cel btw) (wM a cI cJ cS sv kep bef isk fnd man nex wor sng hea lat tap tpd her flt vlu bit lon cel btw) (bI (fX6_isDigit x0)) := by
  generalize hres : fX6_isDigit x0 = res
  refine CtI_mk (cc := cX6_isDigit) (maxL := 1) (ret := (some .boolean)) (by decide) rfl (Nat.le_of_ble_eq_true rfl) ?_
  intro p e s m args below meth c ls hx hb hr hlk hml hown hts hP hK hE hl
  have hS : va_S (adA a 16 s.heap.size) s.heap s.heap [] := va_S.rf
  have hl : lv_has ls 1 [(0, .int x0)] := hl
  have hown : s.vm.findClass RX6 = some m.cls := hown
  obtain ⟨Q, hQ⟩ : ∃ Q, Q = mqI below D 16 a args s (wM a cI cJ cS sv kep bef isk fnd man nex wor sng hea lat tap tpd her flt vlu bit lon cel btw) (bI res) := ⟨_, rfl⟩
  rw [← hQ]
  unfold fX6_isDigit at hres
  refine lv_iload_n hx hb dX6_isDigit_0 rfl (lv_at hl 0 rfl) ?_
  refine lv_bipush (v := 48) hx hb dX6_isDigit_1 (by decide) ?_
  refine lv_bipush (v := 57) hx hb dX6_isDigit_3 (by decide) ?_
  refine csI hx hb hml hown hts hEo hE hK hP hS (kX6_in l D a cI cJ cS hd hEo sv kep bef isk fnd man nex wor sng hea lat tap tpd her flt vlu bit lon cel btw x0 (48 : Int32) (57 : Int32)) gX6_isDigit_X6_in rfl hdX6_in ⟨rfl, rfl⟩ ⟨Nat.le_of_ble_eq_true rfl, Nat.le_of_ble_eq_true rfl⟩ ⟨Nat.zero_le _, Nat.zero_le _⟩ rfl hl.1 rfl (Nat.le_of_ble_eq_true rfl) dX6_isDigit_5 (fun H locs hP hS => ?_)
  exact hQ ▸ rtZ (v := (fX6_in x0 (48 : Int32) (57 : Int32)))  hx hb hr hlk hP hS (by rw [← hres]) rfl dX6_isDigit_8
def fX6_wordEnd_l5 (tap : Nat → Int32) (tpd : Int32) (K5 : Int32 → Option (Int32)) (x1 : Int32) : Option (Int32) :=
 (fX6_byteAt tap tpd x1).bind fun q7 => if (bI (fX6_isLetter q7)) = 0 then some x1 else K5 (x1 + 1)
def fX6_wordEnd (tap : Nat → Int32) (tpd : Int32) (her : Int32) : Option (Int32) :=
  fix1 (fX6_wordEnd_l5 tap tpd) 2000 her
theorem hdX6_isLetter : yX6_isLetter.cls ≠ "java/lang/invoke/MethodHandle" ∧ yX6_isLetter.cls ≠ "java/lang/invoke/VarHandle" ∧ (parseMethodDescriptor yX6_isLetter.desc).map (fun d => d.parameters.length) = some 1 := by decide +kernel
abbrev rX6_wordEnd : Room := { frames := 2, cells := 0, slots := 0, locals := 42 }
set_option maxHeartbeats 4000000 in
set_option maxRecDepth 100000 in
theorem kX6_wordEnd (l : Launch) (D : va_G) (a : Nat → Nat) (cI cJ cS : ClassId) (hd : aok a 16) {Env : (Nat → Prop) → State → Heap → Prop} (hEo : envOK Env) (sv kep bef : Nat → Int32) (isk : Int32) (fnd : Nat → Int32) (man nex : Nat → Int64) (wor sng hea lat tap : Nat → Int32) (tpd her flt vlu : Int32) (bit lon : Nat → Int32) (cel btw : Nat → Int64)  (res : Int32) (hres : fX6_wordEnd tap tpd her = some res) : CtI l D (tyL cI cJ cS) 16 a Env yX6_wordEnd wsX6_wordEnd rX6_wordEnd [.ref (a 0)] (wM a cI cJ cS sv kep bef isk fnd man nex wor sng hea lat tap tpd her flt vlu bit lon cel btw) (wM a cI cJ cS sv kep bef isk fnd man nex wor sng hea lat tap tpd her flt vlu bit lon cel btw) res := by
  refine CtI_mk (cc := cX6_wordEnd) (maxL := 2) (ret := (some .int)) (by decide) rfl (Nat.le_of_ble_eq_true rfl) ?_
  intro p e s m args below meth c ls hx hb hr hlk hml hown hts hP hK hE hl
  have hS : va_S (adA a 16 s.heap.size) s.heap s.heap [] := va_S.rf
  have hl : lv_has ls 2 [(0, .ref (a 0))] := hl
  have hown : s.vm.findClass RX6 = some m.cls := hown
  have hw6 : ∀ w ∈ wsX60, w.before args s = true := fun w h => hts w (List.mem_cons_of_mem _ (List.mem_append_right _ h))
  have u1 : (Cond.fieldLink RX6 174 "YearWordsModel" "here" "I").before args s = true := hts _ (List.mem_of_getElem? (i := 1) (by decide +kernel))
  obtain ⟨Q, hQ⟩ : ∃ Q, Q = mqI below D 16 a args s (wM a cI cJ cS sv kep bef isk fnd man nex wor sng hea lat tap tpd her flt vlu bit lon cel btw) res := ⟨_, rfl⟩
  rw [← hQ]
  have b5 : ∀  (n : Nat) (x1 : Int32), fix1 (fX6_wordEnd_l5 tap tpd) n x1 = some res → ∀ (H : Heap) (locs : List Loc) (ls : Array Slot), va_P D vwCl (wM a cI cJ cS sv kep bef isk fnd man nex wor sng hea lat tap tpd her flt vlu bit lon cel btw) H → va_S (adA a 16 s.heap.size) s.heap H locs → lv_has ls 2 [(0, .ref (a 0)), (1, .int x1)] → W p l e rX6_wordEnd s m args below meth c H locs 0 0 Q (F0 m 5 ls []) := by
    refine fix1_r ?_
    intro K5 hK5 x1 hres H locs ls hP hS hl
    unfold fX6_wordEnd_l5 at hres
    refine lv_aload_n hx hb dX6_wordEnd_5 rfl (lv_at hl 0 rfl) ?_
    refine lv_iload_n hx hb dX6_wordEnd_6 rfl (lv_at hl 1 rfl) ?_
    obtain ⟨q7, e7, hres⟩ := obd hres
    refine cvI (q0 := 0) (ci := 6) hx hb hml hown hts hEo hE hK hP hS (kX6_byteAt l D a cI cJ cS hd hEo sv kep bef isk fnd man nex wor sng hea lat tap tpd her flt vlu bit lon cel btw x1 q7 e7) gX6_wordEnd_X6_byteAt rfl hdX6_byteAt rfl rfl rfl ⟨rfl, rfl⟩ ⟨Nat.le_of_ble_eq_true rfl, Nat.le_of_ble_eq_true rfl⟩ ⟨Nat.zero_le _, Nat.zero_le _⟩ rfl hl.1 rfl (Nat.le_of_ble_eq_true rfl) dX6_wordEnd_7 (fun H locs hP hS => ?_)
    refine csI hx hb hml hown hts hEo hE hK hP hS (kX6_isLetter l D a cI cJ cS hd hEo sv kep bef isk fnd man nex wor sng hea lat tap tpd her flt vlu bit lon cel btw q7) gX6_wordEnd_X6_isLetter rfl hdX6_isLetter ⟨rfl, rfl⟩ ⟨Nat.le_of_ble_eq_true rfl, Nat.le_of_ble_eq_true rfl⟩ ⟨Nat.zero_le _, Nat.zero_le _⟩ rfl hl.1 rfl (Nat.le_of_ble_eq_true rfl) dX6_wordEnd_10 (fun H locs hP hS => ?_)
    refine lv_if_eq (tgt := 22) hx hb dX6_wordEnd_13 (by decide) (fun c13 => ?_) (fun c13 => ?_)
    · have hres := (itl hres).1 c13
      refine lv_iload_n hx hb dX6_wordEnd_22 rfl (lv_at hl 1 rfl) ?_
      exact hQ ▸ rtI (v := x1)  hx hb hr hlk hP hS (by rw [← (Option.some.inj hres)]) rfl dX6_wordEnd_23
    · have hres := (itl hres).2 c13
      refine lv_iinc (v := x1 + 1) (lv' := [(1, .int (x1 + 1)), (0, .ref (a 0))]) hx hb dX6_wordEnd_16 hl (k := 1) rfl (congrArg (fun z => x1 + z) (by decide)) (by decide) rfl (fun ls hl => ?_)
      refine lv_goto (tgt := 5) hx hb dX6_wordEnd_19 (by decide) ?_
      exact hK5 (x1 + 1) hres _ _ _ hP hS (lv_sub hl [1, 0] rfl)
  unfold fX6_wordEnd at hres
  refine lv_aload_n hx hb dX6_wordEnd_0 rfl (lv_at hl 0 rfl) ?_
  refine gM_this6_here hx hb hown hw6 hK hP u1 dX6_wordEnd_1 ?_
  refine lv_istore_n (lv' := [(1, .int her), (0, .ref (a 0))]) hx hb dX6_wordEnd_4 rfl hl (by decide) rfl (fun ls hl => ?_)
  exact b5  2000 her hres _ _ _ hP hS (lv_sub hl [1, 0] rfl)
def fX6_isNumber (tap : Nat → Int32) (tpd : Int32) (her : Int32) (flt : Int32) : Option (Bool × Int32) :=
 (fX6_blanks tap tpd her).bind fun q1 => if 0 ≤ flt then some (false, q1) else (fX6_byteAt tap tpd q1).bind fun q16 => if (bI (fX6_isDigit q16)) = 0 then some (false, q1) else some (true, q1)
theorem hdX6_blanks : yX6_blanks.cls = RX6 ∧ yX6_blanks.cls ≠ "java/lang/invoke/MethodHandle" ∧ yX6_blanks.cls ≠ "java/lang/invoke/VarHandle" ∧ (parseMethodDescriptor yX6_blanks.desc).map (fun d => d.parameters.length) = some 0 := by decide +kernel
theorem hdX6_isDigit : yX6_isDigit.cls ≠ "java/lang/invoke/MethodHandle" ∧ yX6_isDigit.cls ≠ "java/lang/invoke/VarHandle" ∧ (parseMethodDescriptor yX6_isDigit.desc).map (fun d => d.parameters.length) = some 1 := by decide +kernel
abbrev rX6_isNumber : Room := { frames := 2, cells := 0, slots := 0, locals := 42 }
set_option maxHeartbeats 4000000 in
set_option maxRecDepth 100000 in
theorem kX6_isNumber (l : Launch) (D : va_G) (a : Nat → Nat) (cI cJ cS : ClassId) (hd : aok a 16) {Env : (Nat → Prop) → State → Heap → Prop} (hEo : envOK Env) (sv kep bef : Nat → Int32) (isk : Int32) (fnd : Nat → Int32) (man nex : Nat → Int64) (wor sng hea lat tap : Nat → Int32) (tpd her flt vlu : Int32) (bit lon : Nat → Int32) (cel btw : Nat → Int64)  (res : Bool × Int32) (hres : fX6_isNumber tap tpd her flt = some res) : CtI l D (tyL cI cJ cS) 16 a Env yX6_isNumber wsX6_isNumber rX6_isNumber [.ref (a 0)] (wM a cI cJ cS sv kep bef isk fnd man nex wor sng hea lat tap tpd her flt vlu bit lon cel btw) (wM a cI cJ cS sv kep bef isk fnd man nex wor sng hea lat tap tpd res.2 flt vlu bit lon cel btw) (bI res.1) := by
  refine CtI_mk (cc := cX6_isNumber) (maxL := 1) (ret := (some .boolean)) (by decide) rfl (Nat.le_of_ble_eq_true rfl) ?_
  intro p e s m args below meth c ls hx hb hr hlk hml hown hts hP hK hE hl
  have hS : va_S (adA a 16 s.heap.size) s.heap s.heap [] := va_S.rf
  have hl : lv_has ls 1 [(0, .ref (a 0))] := hl
  have hown : s.vm.findClass RX6 = some m.cls := hown
  have hw6 : ∀ w ∈ wsX60, w.before args s = true := fun w h => hts w (List.mem_cons_of_mem _ (List.mem_append_right _ h))
  have u1 : (Cond.fieldLink RX6 180 "YearWordsModel" "fault" "I").before args s = true := hts _ (List.mem_of_getElem? (i := 1) (by decide +kernel))
  have u2 : (Cond.fieldLink RX6 174 "YearWordsModel" "here" "I").before args s = true := hts _ (List.mem_of_getElem? (i := 2) (by decide +kernel))
  obtain ⟨Q, hQ⟩ : ∃ Q, Q = mqI below D 16 a args s (wM a cI cJ cS sv kep bef isk fnd man nex wor sng hea lat tap tpd res.2 flt vlu bit lon cel btw) (bI res.1) := ⟨_, rfl⟩
  rw [← hQ]
  unfold fX6_isNumber at hres
  refine lv_aload_n hx hb dX6_isNumber_0 rfl (lv_at hl 0 rfl) ?_
  obtain ⟨q1, e1, hres⟩ := obd hres
  refine cvV (q0 := 0) (ci := 6) hx hb hml hown hts hEo hE hK hP hS (kX6_blanks l D a cI cJ cS hd hEo sv kep bef isk fnd man nex wor sng hea lat tap tpd her flt vlu bit lon cel btw  q1 e1) gX6_isNumber_X6_blanks rfl hdX6_blanks rfl rfl rfl ⟨rfl, rfl⟩ ⟨Nat.le_of_ble_eq_true rfl, Nat.le_of_ble_eq_true rfl⟩ ⟨Nat.zero_le _, Nat.zero_le _⟩ rfl hl.1 rfl (Nat.le_of_ble_eq_true rfl) dX6_isNumber_1 (fun H locs hP hS => ?_)
  refine lv_aload_n hx hb dX6_isNumber_4 rfl (lv_at hl 0 rfl) ?_
  refine gM_this6_fault hx hb hown hw6 hK hP u1 dX6_isNumber_5 ?_
  refine lv_if_ge (tgt := 29) hx hb dX6_isNumber_8 (by decide) (fun c8 => ?_) (fun c8 => ?_)
  · have hres := (itl hres).1 c8
    refine lv_iconst (v := 0) hx hb dX6_isNumber_29 (by decide) ?_
    exact hQ ▸ rtZ (v := false)  hx hb hr hlk hP hS (by rw [← (Option.some.inj hres)]) (by rw [← (Option.some.inj hres)]) dX6_isNumber_30
  · have hres := (itl hres).2 c8
    refine lv_aload_n hx hb dX6_isNumber_11 rfl (lv_at hl 0 rfl) ?_
    refine lv_aload_n hx hb dX6_isNumber_12 rfl (lv_at hl 0 rfl) ?_
    refine gM_this6_here hx hb hown hw6 hK hP u2 dX6_isNumber_13 ?_
    obtain ⟨q16, e16, hres⟩ := obd hres
    refine cvI (q0 := 0) (ci := 6) hx hb hml hown hts hEo hE hK hP hS (kX6_byteAt l D a cI cJ cS hd hEo sv kep bef isk fnd man nex wor sng hea lat tap tpd q1 flt vlu bit lon cel btw q1 q16 e16) gX6_isNumber_X6_byteAt rfl hdX6_byteAt rfl rfl rfl ⟨rfl, rfl⟩ ⟨Nat.le_of_ble_eq_true rfl, Nat.le_of_ble_eq_true rfl⟩ ⟨Nat.zero_le _, Nat.zero_le _⟩ rfl hl.1 rfl (Nat.le_of_ble_eq_true rfl) dX6_isNumber_16 (fun H locs hP hS => ?_)
    refine csI hx hb hml hown hts hEo hE hK hP hS (kX6_isDigit l D a cI cJ cS hd hEo sv kep bef isk fnd man nex wor sng hea lat tap tpd q1 flt vlu bit lon cel btw q16) gX6_isNumber_X6_isDigit rfl hdX6_isDigit ⟨rfl, rfl⟩ ⟨Nat.le_of_ble_eq_true rfl, Nat.le_of_ble_eq_true rfl⟩ ⟨Nat.zero_le _, Nat.zero_le _⟩ rfl hl.1 rfl (Nat.le_of_ble_eq_true rfl) dX6_isNumber_19 (fun H locs hP hS => ?_)
    refine lv_if_eq (tgt := 29) hx hb dX6_isNumber_22 (by decide) (fun c22 => ?_) (fun c22 => ?_)
    · have hres := (itl hres).1 c22
      refine lv_iconst (v := 0) hx hb dX6_isNumber_29 (by decide) ?_
      exact hQ ▸ rtZ (v := false)  hx hb hr hlk hP hS (by rw [← (Option.some.inj hres)]) (by rw [← (Option.some.inj hres)]) dX6_isNumber_30
    · have hres := (itl hres).2 c22
      refine lv_iconst (v := 1) hx hb dX6_isNumber_25 (by decide) ?_
      refine lv_goto (tgt := 30) hx hb dX6_isNumber_26 (by decide) ?_
      exact hQ ▸ rtZ (v := true)  hx hb hr hlk hP hS (by rw [← (Option.some.inj hres)]) (by rw [← (Option.some.inj hres)]) dX6_isNumber_30
def fX6_isSheet (x0 : Int32) : Bool :=
 (fX6_in x0 (0 : Int32) (3 : Int32))
abbrev rX6_isSheet : Room := { frames := 1, cells := 0, slots := 0, locals := 22 }
set_option maxHeartbeats 4000000 in
set_option maxRecDepth 100000 in
theorem kX6_isSheet (l : Launch) (D : va_G) (a : Nat → Nat) (cI cJ cS : ClassId) (hd : aok a 16) {Env : (Nat → Prop) → State → Heap → Prop} (hEo : envOK Env) (sv kep bef : Nat → Int32) (isk : Int32) (fnd : Nat → Int32) (man nex : Nat → Int64) (wor sng hea lat tap : Nat → Int32) (tpd her flt vlu : Int32) (bit lon : Nat → Int32) (cel btw : Nat → Int64) (x0 : Int32) : CtI l D (tyL cI cJ cS) 16 a Env yX6_isSheet wsX6_isSheet rX6_isSheet [.int x0] (wM a cI cJ cS sv kep bef isk fnd man nex wor sng hea lat tap tpd her flt vlu bit lon cel btw) (wM a cI cJ cS sv kep bef isk fnd man nex wor sng hea lat tap tpd her flt vlu bit lon cel btw) (bI (fX6_isSheet x0)) := by
  generalize hres : fX6_isSheet x0 = res
  refine CtI_mk (cc := cX6_isSheet) (maxL := 1) (ret := (some .boolean)) (by decide) rfl (Nat.le_of_ble_eq_true rfl) ?_
  intro p e s m args below meth c ls hx hb hr hlk hml hown hts hP hK hE hl
  have hS : va_S (adA a 16 s.heap.size) s.heap s.heap [] := va_S.rf
  have hl : lv_has ls 1 [(0, .int x0)] := hl
  have hown : s.vm.findClass RX6 = some m.cls := hown
  obtain ⟨Q, hQ⟩ : ∃ Q, Q = mqI below D 16 a args s (wM a cI cJ cS sv kep bef isk fnd man nex wor sng hea lat tap tpd her flt vlu bit lon cel btw) (bI res) := ⟨_, rfl⟩
  rw [← hQ]
  unfold fX6_isSheet at hres
  refine lv_iload_n hx hb dX6_isSheet_0 rfl (lv_at hl 0 rfl) ?_
  refine lv_iconst (v := 0) hx hb dX6_isSheet_1 (by decide) ?_
  refine lv_iconst (v := 3) hx hb dX6_isSheet_2 (by decide) ?_
  refine csI hx hb hml hown hts hEo hE hK hP hS (kX6_in l D a cI cJ cS hd hEo sv kep bef isk fnd man nex wor sng hea lat tap tpd her flt vlu bit lon cel btw x0 (0 : Int32) (3 : Int32)) gX6_isSheet_X6_in rfl hdX6_in ⟨rfl, rfl⟩ ⟨Nat.le_of_ble_eq_true rfl, Nat.le_of_ble_eq_true rfl⟩ ⟨Nat.zero_le _, Nat.zero_le _⟩ rfl hl.1 rfl (Nat.le_of_ble_eq_true rfl) dX6_isSheet_3 (fun H locs hP hS => ?_)
  exact hQ ▸ rtZ (v := (fX6_in x0 (0 : Int32) (3 : Int32)))  hx hb hr hlk hP hS (by rw [← hres]) rfl dX6_isSheet_6
def fX6_sheet_b29 (fnd : Nat → Int32) (bit : Nat → Int32) (lon : Nat → Int32) (cel : Nat → Int64) : Option (Int32 × (Nat → Int32) × (Nat → Int32) × (Nat → Int32) × (Nat → Int64)) :=
 (fX6_no fnd (0 : Int32)).bind fun q31 => some (q31.1, q31.2, bit, lon, cel)
def fX6_sheet_b109 (fnd : Nat → Int32) (bit : Nat → Int32) (lon : Nat → Int32) (cel : Nat → Int64) (x1 : Int32) : Option (Int32 × (Nat → Int32) × (Nat → Int32) × (Nat → Int32) × (Nat → Int64)) :=
  gd (ib x1 4) (some (lon x1.toNatClampNeg, fnd, bit, lon, cel))
def fX6_sheet_l83 (fnd : Nat → Int32) (bit : Nat → Int32) (lon : Nat → Int32) (x1 : Int32) (K83 : Int32 → (Nat → Int64) → Option (Int32 × (Nat → Int32) × (Nat → Int32) × (Nat → Int32) × (Nat → Int64))) (x4 : Int32) (cel : Nat → Int64) : Option (Int32 × (Nat → Int32) × (Nat → Int32) × (Nat → Int32) × (Nat → Int64)) :=
  if (40 : Int32) ≤ x4 then fX6_sheet_b109 fnd bit lon cel x1 else gd (ib (((40 : Int32) * x1) + x4) 160) (K83 (x4 + 1) (vp_updL cel (((40 : Int32) * x1) + x4).toNatClampNeg (0 : Int64)))
def fX6_sheet_b79 (fnd : Nat → Int32) (bit : Nat → Int32) (lon : Nat → Int32) (cel : Nat → Int64) (x1 : Int32) (z1 : Int32) (z2 : Int32) : Option (Int32 × (Nat → Int32) × (Nat → Int32) × (Nat → Int32) × (Nat → Int64)) :=
  gd (ib z1 4) (fix2 (fX6_sheet_l83 fnd bit (upd lon z1.toNatClampNeg z2) x1) 2000 (0 : Int32) cel)
def fX6_sheet_b35 (fnd : Nat → Int32) (bit : Nat → Int32) (lon : Nat → Int32) (cel : Nat → Int64) (x1 : Int32) (x2 : Int32) (x3 : Int32) : Option (Int32 × (Nat → Int32) × (Nat → Int32) × (Nat → Int32) × (Nat → Int64)) :=
  if 0 ≤ x3 then if x3 ≤ (40 : Int32) then gd (ib x1 4) (if x2 = 0 then fX6_sheet_b79 fnd (upd bit x1.toNatClampNeg x2) lon cel x1 x1 (0 : Int32) else fX6_sheet_b79 fnd (upd bit x1.toNatClampNeg x2) lon cel x1 x1 x3) else (fX6_no fnd (0 : Int32)).bind fun q54 => some (q54.1, q54.2, bit, lon, cel) else (fX6_no fnd (6 : Int32)).bind fun q42 => some (q42.1, q42.2, bit, lon, cel)
def fX6_sheet (fnd : Nat → Int32) (bit : Nat → Int32) (lon : Nat → Int32) (cel : Nat → Int64) (x1 : Int32) (x2 : Int32) (x3 : Int32) : Option (Int32 × (Nat → Int32) × (Nat → Int32) × (Nat → Int32) × (Nat → Int64)) :=
  if (bI (fX6_isSheet x1)) = 0 then fX6_sheet_b29 fnd bit lon cel else if x2 = 0 then fX6_sheet_b35 fnd bit lon cel x1 x2 x3 else if x2 = (8 : Int32) then fX6_sheet_b35 fnd bit lon cel x1 x2 x3 else if x2 = (16 : Int32) then fX6_sheet_b35 fnd bit lon cel x1 x2 x3 else if x2 = (64 : Int32) then fX6_sheet_b35 fnd bit lon cel x1 x2 x3 else fX6_sheet_b29 fnd bit lon cel
theorem hdX6_isSheet : yX6_isSheet.cls ≠ "java/lang/invoke/MethodHandle" ∧ yX6_isSheet.cls ≠ "java/lang/invoke/VarHandle" ∧ (parseMethodDescriptor yX6_isSheet.desc).map (fun d => d.parameters.length) = some 1 := by decide +kernel
abbrev rX6_sheet : Room := { frames := 2, cells := 0, slots := 0, locals := 42 }
set_option maxHeartbeats 4000000 in
set_option maxRecDepth 100000 in
theorem kX6_sheet (l : Launch) (D : va_G) (a : Nat → Nat) (cI cJ cS : ClassId) (hd : aok a 16) {Env : (Nat → Prop) → State → Heap → Prop} (hEo : envOK Env) (sv kep bef : Nat → Int32) (isk : Int32) (fnd : Nat → Int32) (man nex : Nat → Int64) (wor sng hea lat tap : Nat → Int32) (tpd her flt vlu : Int32) (bit lon : Nat → Int32) (cel btw : Nat → Int64) (x1 : Int32) (x2 : Int32) (x3 : Int32) (res : Int32 × (Nat → Int32) × (Nat → Int32) × (Nat → Int32) × (Nat → Int64)) (hres : fX6_sheet fnd bit lon cel x1 x2 x3 = some res) : CtI l D (tyL cI cJ cS) 16 a Env yX6_sheet wsX6_sheet rX6_sheet [.ref (a 0), .int x1, .int x2, .int x3] (wM a cI cJ cS sv kep bef isk fnd man nex wor sng hea lat tap tpd her flt vlu bit lon cel btw) (wM a cI cJ cS sv kep bef isk res.2.1 man nex wor sng hea lat tap tpd her flt vlu res.2.2.1 res.2.2.2.1 res.2.2.2.2 btw) res.1 := by
  refine CtI_mk (cc := cX6_sheet) (maxL := 5) (ret := (some .int)) (by decide) rfl (Nat.le_of_ble_eq_true rfl) ?_
  intro p e s m args below meth c ls hx hb hr hlk hml hown hts hP hK hE hl
  have hS : va_S (adA a 16 s.heap.size) s.heap s.heap [] := va_S.rf
  have hl : lv_has ls 5 [(0, .ref (a 0)), (1, .int x1), (2, .int x2), (3, .int x3)] := hl
  have hown : s.vm.findClass RX6 = some m.cls := hown
  have hw6 : ∀ w ∈ wsX60, w.before args s = true := fun w h => hts w (List.mem_cons_of_mem _ (List.mem_append_right _ h))
  have u1 : (Cond.fieldLink RX6 44 "YearWordsModel" "bits" "[I").before args s = true := hts _ (List.mem_of_getElem? (i := 1) (by decide +kernel))
  have u2 : (Cond.fieldLink RX6 47 "YearWordsModel" "longs" "[I").before args s = true := hts _ (List.mem_of_getElem? (i := 2) (by decide +kernel))
  have u3 : (Cond.fieldLink RX6 50 "YearWordsModel" "cells" "[J").before args s = true := hts _ (List.mem_of_getElem? (i := 3) (by decide +kernel))
  obtain ⟨Q, hQ⟩ : ∃ Q, Q = mqI below D 16 a args s (wM a cI cJ cS sv kep bef isk res.2.1 man nex wor sng hea lat tap tpd her flt vlu res.2.2.1 res.2.2.2.1 res.2.2.2.2 btw) res.1 := ⟨_, rfl⟩
  rw [← hQ]
  have b29 : ∀ (fnd : Nat → Int32) (bit : Nat → Int32) (lon : Nat → Int32) (cel : Nat → Int64), fX6_sheet_b29 fnd bit lon cel = some res → ∀ (H : Heap) (locs : List Loc) (ls : Array Slot), va_P D vwCl (wM a cI cJ cS sv kep bef isk fnd man nex wor sng hea lat tap tpd her flt vlu bit lon cel btw) H → va_S (adA a 16 s.heap.size) s.heap H locs → lv_has ls 5 [(0, .ref (a 0))] → W p l e rX6_sheet s m args below meth c H locs 0 0 Q (F0 m 29 ls []) := by
    intro fnd bit lon cel hres H locs ls hP hS hl
    unfold fX6_sheet_b29 at hres
    refine lv_aload_n hx hb dX6_sheet_29 rfl (lv_at hl 0 rfl) ?_
    refine lv_iconst (v := 0) hx hb dX6_sheet_30 (by decide) ?_
    obtain ⟨q31, e31, hres⟩ := obd hres
    refine cvI (q0 := 0) (ci := 6) hx hb hml hown hts hEo hE hK hP hS (kX6_no l D a cI cJ cS hd hEo sv kep bef isk fnd man nex wor sng hea lat tap tpd her flt vlu bit lon cel btw (0 : Int32) q31 e31) gX6_sheet_X6_no rfl hdX6_no rfl rfl rfl ⟨rfl, rfl⟩ ⟨Nat.le_of_ble_eq_true rfl, Nat.le_of_ble_eq_true rfl⟩ ⟨Nat.zero_le _, Nat.zero_le _⟩ rfl hl.1 rfl (Nat.le_of_ble_eq_true rfl) dX6_sheet_31 (fun H locs hP hS => ?_)
    exact hQ ▸ rtI (v := q31.1)  hx hb hr hlk hP hS (by rw [← (Option.some.inj hres)]) (by rw [← (Option.some.inj hres)]) dX6_sheet_34
  have b109 : ∀ (fnd : Nat → Int32) (bit : Nat → Int32) (lon : Nat → Int32) (cel : Nat → Int64), fX6_sheet_b109 fnd bit lon cel x1 = some res → ∀ (H : Heap) (locs : List Loc) (ls : Array Slot), va_P D vwCl (wM a cI cJ cS sv kep bef isk fnd man nex wor sng hea lat tap tpd her flt vlu bit lon cel btw) H → va_S (adA a 16 s.heap.size) s.heap H locs → lv_has ls 5 [(0, .ref (a 0)), (1, .int x1)] → W p l e rX6_sheet s m args below meth c H locs 0 0 Q (F0 m 109 ls []) := by
    intro fnd bit lon cel hres H locs ls hP hS hl
    unfold fX6_sheet_b109 at hres
    refine lv_aload_n hx hb dX6_sheet_109 rfl (lv_at hl 0 rfl) ?_
    refine gM_this6_longs hx hb hown hw6 hK hP u2 dX6_sheet_110 ?_
    refine lv_iload_n hx hb dX6_sheet_113 rfl (lv_at hl 1 rfl) ?_
    obtain ⟨i114, hres⟩ := gdi hres
    refine lM_lon hx hb hK hP i114 dX6_sheet_114 ?_
    exact hQ ▸ rtI (v := lon x1.toNatClampNeg)  hx hb hr hlk hP hS (by rw [← (Option.some.inj hres)]) (by rw [← (Option.some.inj hres)]) dX6_sheet_115
  have b83 : ∀ (fnd : Nat → Int32) (bit : Nat → Int32) (lon : Nat → Int32) (n : Nat) (x4 : Int32) (cel : Nat → Int64), fix2 (fX6_sheet_l83 fnd bit lon x1) n x4 cel = some res → ∀ (H : Heap) (locs : List Loc) (ls : Array Slot), va_P D vwCl (wM a cI cJ cS sv kep bef isk fnd man nex wor sng hea lat tap tpd her flt vlu bit lon cel btw) H → va_S (adA a 16 s.heap.size) s.heap H locs → lv_has ls 5 [(0, .ref (a 0)), (1, .int x1), (4, .int x4)] → W p l e rX6_sheet s m args below meth c H locs 0 0 Q (F0 m 83 ls []) := by
    intro fnd bit lon
    refine fix2_r ?_
    intro K83 hK83 x4 cel hres H locs ls hP hS hl
    unfold fX6_sheet_l83 at hres
    refine lv_iload hx hb dX6_sheet_83 (lv_at hl 2 rfl) ?_
    refine lv_bipush (v := 40) hx hb dX6_sheet_85 (by decide) ?_
    refine lv_icmp_ge (tgt := 109) hx hb dX6_sheet_87 (by decide) (fun c87 => ?_) (fun c87 => ?_)
    · have hres := (itl hres).1 c87
      exact b109 fnd bit lon cel hres _ _ _ hP hS (lv_sub hl [0, 1] rfl)
    · have hres := (itl hres).2 c87
      refine lv_aload_n hx hb dX6_sheet_90 rfl (lv_at hl 0 rfl) ?_
      refine gM_this6_cells hx hb hown hw6 hK hP u3 dX6_sheet_91 ?_
      refine lv_bipush (v := 40) hx hb dX6_sheet_94 (by decide) ?_
      refine lv_iload_n hx hb dX6_sheet_96 rfl (lv_at hl 1 rfl) ?_
      refine lv_imul hx hb dX6_sheet_97 ?_
      refine lv_iload hx hb dX6_sheet_98 (lv_at hl 2 rfl) ?_
      refine lv_iadd hx hb dX6_sheet_100 ?_
      refine lv_lconst (v := 0) hx hb dX6_sheet_101 (by decide) ?_
      obtain ⟨i102, hres⟩ := gdi hres
      refine sM_cel hx hb hK hP hd hS i102 dX6_sheet_102 (fun H locs hP hS => ?_)
      refine lv_iinc (v := x4 + 1) (lv' := [(4, .int (x4 + 1)), (0, .ref (a 0)), (1, .int x1)]) hx hb dX6_sheet_103 hl (k := 2) rfl (congrArg (fun z => x4 + z) (by decide)) (by decide) rfl (fun ls hl => ?_)
      refine lv_goto (tgt := 83) hx hb dX6_sheet_106 (by decide) ?_
      exact hK83 (x4 + 1) (vp_updL cel (((40 : Int32) * x1) + x4).toNatClampNeg (0 : Int64)) hres _ _ _ hP hS (lv_sub hl [1, 2, 0] rfl)
  have b79 : ∀ (fnd : Nat → Int32) (bit : Nat → Int32) (lon : Nat → Int32) (cel : Nat → Int64) (z1 : Int32) (z2 : Int32), fX6_sheet_b79 fnd bit lon cel x1 z1 z2 = some res → ∀ (H : Heap) (locs : List Loc) (ls : Array Slot), va_P D vwCl (wM a cI cJ cS sv kep bef isk fnd man nex wor sng hea lat tap tpd her flt vlu bit lon cel btw) H → va_S (adA a 16 s.heap.size) s.heap H locs → lv_has ls 5 [(0, .ref (a 0)), (1, .int x1)] → W p l e rX6_sheet s m args below meth c H locs 0 0 Q (F0 m 79 ls [.int z2, .int z1, .ref (a 13)]) := by
    intro fnd bit lon cel z1 z2 hres H locs ls hP hS hl
    unfold fX6_sheet_b79 at hres
    obtain ⟨i79, hres⟩ := gdi hres
    refine sM_lon hx hb hK hP hd hS i79 dX6_sheet_79 (fun H locs hP hS => ?_)
    refine lv_iconst (v := 0) hx hb dX6_sheet_80 (by decide) ?_
    refine lv_istore (lv' := [(4, .int (0 : Int32)), (0, .ref (a 0)), (1, .int x1)]) hx hb dX6_sheet_81 hl (by decide) rfl (fun ls hl => ?_)
    exact b83 fnd bit (upd lon z1.toNatClampNeg z2) 2000 (0 : Int32) cel hres _ _ _ hP hS (lv_sub hl [1, 2, 0] rfl)
  have b35 : ∀ (fnd : Nat → Int32) (bit : Nat → Int32) (lon : Nat → Int32) (cel : Nat → Int64), fX6_sheet_b35 fnd bit lon cel x1 x2 x3 = some res → ∀ (H : Heap) (locs : List Loc) (ls : Array Slot), va_P D vwCl (wM a cI cJ cS sv kep bef isk fnd man nex wor sng hea lat tap tpd her flt vlu bit lon cel btw) H → va_S (adA a 16 s.heap.size) s.heap H locs → lv_has ls 5 [(0, .ref (a 0)), (1, .int x1), (2, .int x2), (3, .int x3)] → W p l e rX6_sheet s m args below meth c H locs 0 0 Q (F0 m 35 ls []) := by
    intro fnd bit lon cel hres H locs ls hP hS hl
    unfold fX6_sheet_b35 at hres
    refine lv_iload_n hx hb dX6_sheet_35 rfl (lv_at hl 3 rfl) ?_
    refine lv_if_ge (tgt := 46) hx hb dX6_sheet_36 (by decide) (fun c36 => ?_) (fun c36 => ?_)
    · have hres := (itl hres).1 c36
      refine lv_iload_n hx hb dX6_sheet_46 rfl (lv_at hl 3 rfl) ?_
      refine lv_bipush (v := 40) hx hb dX6_sheet_47 (by decide) ?_
      refine lv_icmp_le (tgt := 58) hx hb dX6_sheet_49 (by decide) (fun c49 => ?_) (fun c49 => ?_)
      · have hres := (itl hres).1 c49
        refine lv_aload_n hx hb dX6_sheet_58 rfl (lv_at hl 0 rfl) ?_
        refine gM_this6_bits hx hb hown hw6 hK hP u1 dX6_sheet_59 ?_
        refine lv_iload_n hx hb dX6_sheet_62 rfl (lv_at hl 1 rfl) ?_
        refine lv_iload_n hx hb dX6_sheet_63 rfl (lv_at hl 2 rfl) ?_
        obtain ⟨i64, hres⟩ := gdi hres
        refine sM_bit hx hb hK hP hd hS i64 dX6_sheet_64 (fun H locs hP hS => ?_)
        refine lv_aload_n hx hb dX6_sheet_65 rfl (lv_at hl 0 rfl) ?_
        refine gM_this6_longs hx hb hown hw6 hK hP u2 dX6_sheet_66 ?_
        refine lv_iload_n hx hb dX6_sheet_69 rfl (lv_at hl 1 rfl) ?_
        refine lv_iload_n hx hb dX6_sheet_70 rfl (lv_at hl 2 rfl) ?_
        refine lv_if_ne (tgt := 78) hx hb dX6_sheet_71 (by decide) (fun c71 => ?_) (fun c71 => ?_)
        · have hres := (itl hres).2 c71
          refine lv_iload_n hx hb dX6_sheet_78 rfl (lv_at hl 3 rfl) ?_
          exact b79 fnd (upd bit x1.toNatClampNeg x2) lon cel x1 x3 hres _ _ _ hP hS (lv_sub hl [0, 1] rfl)
        · have hres := (itl hres).1 c71
          refine lv_iconst (v := 0) hx hb dX6_sheet_74 (by decide) ?_
          refine lv_goto (tgt := 79) hx hb dX6_sheet_75 (by decide) ?_
          exact b79 fnd (upd bit x1.toNatClampNeg x2) lon cel x1 (0 : Int32) hres _ _ _ hP hS (lv_sub hl [0, 1] rfl)
      · have hres := (itl hres).2 c49
        refine lv_aload_n hx hb dX6_sheet_52 rfl (lv_at hl 0 rfl) ?_
        refine lv_iconst (v := 0) hx hb dX6_sheet_53 (by decide) ?_
        obtain ⟨q54, e54, hres⟩ := obd hres
        refine cvI (q0 := 0) (ci := 6) hx hb hml hown hts hEo hE hK hP hS (kX6_no l D a cI cJ cS hd hEo sv kep bef isk fnd man nex wor sng hea lat tap tpd her flt vlu bit lon cel btw (0 : Int32) q54 e54) gX6_sheet_X6_no rfl hdX6_no rfl rfl rfl ⟨rfl, rfl⟩ ⟨Nat.le_of_ble_eq_true rfl, Nat.le_of_ble_eq_true rfl⟩ ⟨Nat.zero_le _, Nat.zero_le _⟩ rfl hl.1 rfl (Nat.le_of_ble_eq_true rfl) dX6_sheet_54 (fun H locs hP hS => ?_)
        exact hQ ▸ rtI (v := q54.1)  hx hb hr hlk hP hS (by rw [← (Option.some.inj hres)]) (by rw [← (Option.some.inj hres)]) dX6_sheet_57
    · have hres := (itl hres).2 c36
      refine lv_aload_n hx hb dX6_sheet_39 rfl (lv_at hl 0 rfl) ?_
      refine lv_bipush (v := 6) hx hb dX6_sheet_40 (by decide) ?_
      obtain ⟨q42, e42, hres⟩ := obd hres
      refine cvI (q0 := 0) (ci := 6) hx hb hml hown hts hEo hE hK hP hS (kX6_no l D a cI cJ cS hd hEo sv kep bef isk fnd man nex wor sng hea lat tap tpd her flt vlu bit lon cel btw (6 : Int32) q42 e42) gX6_sheet_X6_no rfl hdX6_no rfl rfl rfl ⟨rfl, rfl⟩ ⟨Nat.le_of_ble_eq_true rfl, Nat.le_of_ble_eq_true rfl⟩ ⟨Nat.zero_le _, Nat.zero_le _⟩ rfl hl.1 rfl (Nat.le_of_ble_eq_true rfl) dX6_sheet_42 (fun H locs hP hS => ?_)
      exact hQ ▸ rtI (v := q42.1)  hx hb hr hlk hP hS (by rw [← (Option.some.inj hres)]) (by rw [← (Option.some.inj hres)]) dX6_sheet_45
  unfold fX6_sheet at hres
  refine lv_iload_n hx hb dX6_sheet_0 rfl (lv_at hl 1 rfl) ?_
  refine csI hx hb hml hown hts hEo hE hK hP hS (kX6_isSheet l D a cI cJ cS hd hEo sv kep bef isk fnd man nex wor sng hea lat tap tpd her flt vlu bit lon cel btw x1) gX6_sheet_X6_isSheet rfl hdX6_isSheet ⟨rfl, rfl⟩ ⟨Nat.le_of_ble_eq_true rfl, Nat.le_of_ble_eq_true rfl⟩ ⟨Nat.zero_le _, Nat.zero_le _⟩ rfl hl.1 rfl (Nat.le_of_ble_eq_true rfl) dX6_sheet_1 (fun H locs hP hS => ?_)
  refine lv_if_eq (tgt := 29) hx hb dX6_sheet_4 (by decide) (fun c4 => ?_) (fun c4 => ?_)
  · have hres := (itl hres).1 c4
    exact b29 fnd bit lon cel hres _ _ _ hP hS (lv_sub hl [0] rfl)
  · have hres := (itl hres).2 c4
    refine lv_iload_n hx hb dX6_sheet_7 rfl (lv_at hl 2 rfl) ?_
    refine lv_if_eq (tgt := 35) hx hb dX6_sheet_8 (by decide) (fun c8 => ?_) (fun c8 => ?_)
    · have hres := (itl hres).1 c8
      exact b35 fnd bit lon cel hres _ _ _ hP hS (lv_sub hl [0, 1, 2, 3] rfl)
    · have hres := (itl hres).2 c8
      refine lv_iload_n hx hb dX6_sheet_11 rfl (lv_at hl 2 rfl) ?_
      refine lv_bipush (v := 8) hx hb dX6_sheet_12 (by decide) ?_
      refine lv_icmp_eq (tgt := 35) hx hb dX6_sheet_14 (by decide) (fun c14 => ?_) (fun c14 => ?_)
      · have hres := (itl hres).1 c14
        exact b35 fnd bit lon cel hres _ _ _ hP hS (lv_sub hl [0, 1, 2, 3] rfl)
      · have hres := (itl hres).2 c14
        refine lv_iload_n hx hb dX6_sheet_17 rfl (lv_at hl 2 rfl) ?_
        refine lv_bipush (v := 16) hx hb dX6_sheet_18 (by decide) ?_
        refine lv_icmp_eq (tgt := 35) hx hb dX6_sheet_20 (by decide) (fun c20 => ?_) (fun c20 => ?_)
        · have hres := (itl hres).1 c20
          exact b35 fnd bit lon cel hres _ _ _ hP hS (lv_sub hl [0, 1, 2, 3] rfl)
        · have hres := (itl hres).2 c20
          refine lv_iload_n hx hb dX6_sheet_23 rfl (lv_at hl 2 rfl) ?_
          refine lv_bipush (v := 64) hx hb dX6_sheet_24 (by decide) ?_
          refine lv_icmp_eq (tgt := 35) hx hb dX6_sheet_26 (by decide) (fun c26 => ?_) (fun c26 => ?_)
          · have hres := (itl hres).1 c26
            exact b35 fnd bit lon cel hres _ _ _ hP hS (lv_sub hl [0, 1, 2, 3] rfl)
          · have hres := (itl hres).2 c26
            exact b29 fnd bit lon cel hres _ _ _ hP hS (lv_sub hl [0] rfl)
def fX6_writes_b47 (cel : Nat → Int64) (z1 : Int32) (z2 : Int64) : Option ((Nat → Int64)) :=
  gd (ib z1 160) (some (vp_updL cel z1.toNatClampNeg z2))
def fX6_writes (bit : Nat → Int32) (cel : Nat → Int64) (x1 : Int32) (x2 : Int32) (x3 : Int64) : Option ((Nat → Int64)) :=
  gd (ib x1 4) (if (bit x1.toNatClampNeg) = (8 : Int32) then fX6_writes_b47 cel (((40 : Int32) * x1) + x2) x3.toInt32.toInt8.toInt32.toInt64 else gd (ib x1 4) (if (bit x1.toNatClampNeg) = (16 : Int32) then fX6_writes_b47 cel (((40 : Int32) * x1) + x2) x3.toInt32.toInt16.toInt32.toInt64 else fX6_writes_b47 cel (((40 : Int32) * x1) + x2) x3))
abbrev rX6_writes : Room := { frames := 0, cells := 0, slots := 0, locals := 0 }
set_option maxHeartbeats 4000000 in
set_option maxRecDepth 100000 in
theorem kX6_writes (l : Launch) (D : va_G) (a : Nat → Nat) (cI cJ cS : ClassId) (hd : aok a 16) {Env : (Nat → Prop) → State → Heap → Prop} (hEo : envOK Env) (sv kep bef : Nat → Int32) (isk : Int32) (fnd : Nat → Int32) (man nex : Nat → Int64) (wor sng hea lat tap : Nat → Int32) (tpd her flt vlu : Int32) (bit lon : Nat → Int32) (cel btw : Nat → Int64) (x1 : Int32) (x2 : Int32) (x3 : Int64) (res : (Nat → Int64)) (hres : fX6_writes bit cel x1 x2 x3 = some res) : CtV l D (tyL cI cJ cS) 16 a Env yX6_writes wsX6_writes rX6_writes [.ref (a 0), .int x1, .int x2, .long x3] (wM a cI cJ cS sv kep bef isk fnd man nex wor sng hea lat tap tpd her flt vlu bit lon cel btw) (wM a cI cJ cS sv kep bef isk fnd man nex wor sng hea lat tap tpd her flt vlu bit lon res btw) := by
  refine CtV_mk (cc := cX6_writes) (maxL := 5) (ret := none) (by decide) rfl (Nat.le_of_ble_eq_true rfl) ?_
  intro p e s m args below meth c ls hx hb hr hlk hml hown hts hP hK hE hl
  have hS : va_S (adA a 16 s.heap.size) s.heap s.heap [] := va_S.rf
  have hl : lv_has ls 5 [(0, .ref (a 0)), (1, .int x1), (2, .int x2), (3, .long x3)] := hl
  have hown : s.vm.findClass RX6 = some m.cls := hown
  have hw6 : ∀ w ∈ wsX60, w.before args s = true := fun w h => hts w (List.mem_cons_of_mem _ (List.mem_append_right _ h))
  have u1 : (Cond.fieldLink RX6 50 "YearWordsModel" "cells" "[J").before args s = true := hts _ (List.mem_of_getElem? (i := 1) (by decide +kernel))
  have u2 : (Cond.fieldLink RX6 44 "YearWordsModel" "bits" "[I").before args s = true := hts _ (List.mem_of_getElem? (i := 2) (by decide +kernel))
  obtain ⟨Q, hQ⟩ : ∃ Q, Q = mqV below D 16 a args s (wM a cI cJ cS sv kep bef isk fnd man nex wor sng hea lat tap tpd her flt vlu bit lon res btw) := ⟨_, rfl⟩
  rw [← hQ]
  have b47 : ∀ (cel : Nat → Int64) (z1 : Int32) (z2 : Int64), fX6_writes_b47 cel z1 z2 = some res → ∀ (H : Heap) (locs : List Loc) (ls : Array Slot), va_P D vwCl (wM a cI cJ cS sv kep bef isk fnd man nex wor sng hea lat tap tpd her flt vlu bit lon cel btw) H → va_S (adA a 16 s.heap.size) s.heap H locs → lv_has ls 5 [(0, .ref (a 0))] → W p l e rX6_writes s m args below meth c H locs 0 0 Q (F0 m 47 ls [.long z2, .int z1, .ref (a 14)]) := by
    intro cel z1 z2 hres H locs ls hP hS hl
    unfold fX6_writes_b47 at hres
    obtain ⟨i47, hres⟩ := gdi hres
    refine sM_cel hx hb hK hP hd hS i47 dX6_writes_47 (fun H locs hP hS => ?_)
    exact hQ ▸ rtV hx hb hr hlk hP hS (by rw [← (Option.some.inj hres)]) dX6_writes_48
  unfold fX6_writes at hres
  refine lv_aload_n hx hb dX6_writes_0 rfl (lv_at hl 0 rfl) ?_
  refine gM_this6_cells hx hb hown hw6 hK hP u1 dX6_writes_1 ?_
  refine lv_bipush (v := 40) hx hb dX6_writes_4 (by decide) ?_
  refine lv_iload_n hx hb dX6_writes_6 rfl (lv_at hl 1 rfl) ?_
  refine lv_imul hx hb dX6_writes_7 ?_
  refine lv_iload_n hx hb dX6_writes_8 rfl (lv_at hl 2 rfl) ?_
  refine lv_iadd hx hb dX6_writes_9 ?_
  refine lv_aload_n hx hb dX6_writes_10 rfl (lv_at hl 0 rfl) ?_
  refine gM_this6_bits hx hb hown hw6 hK hP u2 dX6_writes_11 ?_
  refine lv_iload_n hx hb dX6_writes_14 rfl (lv_at hl 1 rfl) ?_
  obtain ⟨i15, hres⟩ := gdi hres
  refine lM_bit hx hb hK hP i15 dX6_writes_15 ?_
  refine lv_bipush (v := 8) hx hb dX6_writes_16 (by decide) ?_
  refine lv_icmp_ne (tgt := 28) hx hb dX6_writes_18 (by decide) (fun c18 => ?_) (fun c18 => ?_)
  · have hres := (itl hres).2 c18
    refine lv_aload_n hx hb dX6_writes_28 rfl (lv_at hl 0 rfl) ?_
    refine gM_this6_bits hx hb hown hw6 hK hP u2 dX6_writes_29 ?_
    refine lv_iload_n hx hb dX6_writes_32 rfl (lv_at hl 1 rfl) ?_
    obtain ⟨i33, hres⟩ := gdi hres
    refine lM_bit hx hb hK hP i33 dX6_writes_33 ?_
    refine lv_bipush (v := 16) hx hb dX6_writes_34 (by decide) ?_
    refine lv_icmp_ne (tgt := 46) hx hb dX6_writes_36 (by decide) (fun c36 => ?_) (fun c36 => ?_)
    · have hres := (itl hres).2 c36
      refine lv_lload_n hx hb dX6_writes_46 rfl (lv_at hl 3 rfl) ?_
      exact b47 cel (((40 : Int32) * x1) + x2) x3 hres _ _ _ hP hS (lv_sub hl [0] rfl)
    · have hres := (itl hres).1 c36
      refine lv_lload_n hx hb dX6_writes_39 rfl (lv_at hl 3 rfl) ?_
      refine lv_l2i hx hb dX6_writes_40 rfl ?_
      refine lv_i2s hx hb dX6_writes_41 rfl ?_
      refine lv_i2l hx hb dX6_writes_42 rfl ?_
      refine lv_goto (tgt := 47) hx hb dX6_writes_43 (by decide) ?_
      exact b47 cel (((40 : Int32) * x1) + x2) x3.toInt32.toInt16.toInt32.toInt64 hres _ _ _ hP hS (lv_sub hl [0] rfl)
  · have hres := (itl hres).1 c18
    refine lv_lload_n hx hb dX6_writes_21 rfl (lv_at hl 3 rfl) ?_
    refine lv_l2i hx hb dX6_writes_22 rfl ?_
    refine lv_i2b hx hb dX6_writes_23 rfl ?_
    refine lv_i2l hx hb dX6_writes_24 rfl ?_
    refine lv_goto (tgt := 47) hx hb dX6_writes_25 (by decide) ?_
    exact b47 cel (((40 : Int32) * x1) + x2) x3.toInt32.toInt8.toInt32.toInt64 hres _ _ _ hP hS (lv_sub hl [0] rfl)
def fX6_write (fnd : Nat → Int32) (bit : Nat → Int32) (lon : Nat → Int32) (cel : Nat → Int64) (x1 : Int32) (x2 : Int32) (x3 : Int64) : Option (Int64 × (Nat → Int32) × (Nat → Int64)) :=
  if (bI (fX6_isSheet x1)) = 0 then (fX6_no fnd (0 : Int32)).bind fun q9 => some (q9.1.toInt64, q9.2, cel) else gd (ib x1 4) (if (bit x1.toNatClampNeg) = 0 then (fX6_no fnd (5 : Int32)).bind fun q25 => some (q25.1.toInt64, q25.2, cel) else gd (ib x1 4) (if (bI (fX6_in x2 (0 : Int32) ((lon x1.toNatClampNeg) - (1 : Int32)))) = 0 then (fX6_no fnd (0 : Int32)).bind fun q48 => some (q48.1.toInt64, q48.2, cel) else gd (ib (((40 : Int32) * x1) + x2) 160) ((fX6_writes bit cel x1 x2 x3).bind fun q70 => some (cel (((40 : Int32) * x1) + x2).toNatClampNeg, fnd, q70))))
theorem hdX6_writes : yX6_writes.cls = RX6 ∧ yX6_writes.cls ≠ "java/lang/invoke/MethodHandle" ∧ yX6_writes.cls ≠ "java/lang/invoke/VarHandle" ∧ (parseMethodDescriptor yX6_writes.desc).map (fun d => d.parameters.length) = some 3 := by decide +kernel
abbrev rX6_write : Room := { frames := 2, cells := 0, slots := 0, locals := 42 }
set_option maxHeartbeats 4000000 in
set_option maxRecDepth 100000 in
theorem kX6_write (l : Launch) (D : va_G) (a : Nat → Nat) (cI cJ cS : ClassId) (hd : aok a 16) {Env : (Nat → Prop) → State → Heap → Prop} (hEo : envOK Env) (sv kep bef : Nat → Int32) (isk : Int32) (fnd : Nat → Int32) (man nex : Nat → Int64) (wor sng hea lat tap : Nat → Int32) (tpd her flt vlu : Int32) (bit lon : Nat → Int32) (cel btw : Nat → Int64) (x1 : Int32) (x2 : Int32) (x3 : Int64) (res : Int64 × (Nat → Int32) × (Nat → Int64)) (hres : fX6_write fnd bit lon cel x1 x2 x3 = some res) : CtL l D (tyL cI cJ cS) 16 a Env yX6_write wsX6_write rX6_write [.ref (a 0), .int x1, .int x2, .long x3] (wM a cI cJ cS sv kep bef isk fnd man nex wor sng hea lat tap tpd her flt vlu bit lon cel btw) (wM a cI cJ cS sv kep bef isk res.2.1 man nex wor sng hea lat tap tpd her flt vlu bit lon res.2.2 btw) res.1 := by
  refine CtL_mk (cc := cX6_write) (maxL := 7) (ret := (some .long)) (by decide) rfl (Nat.le_of_ble_eq_true rfl) ?_
  intro p e s m args below meth c ls hx hb hr hlk hml hown hts hP hK hE hl
  have hS : va_S (adA a 16 s.heap.size) s.heap s.heap [] := va_S.rf
  have hl : lv_has ls 7 [(0, .ref (a 0)), (1, .int x1), (2, .int x2), (3, .long x3)] := hl
  have hown : s.vm.findClass RX6 = some m.cls := hown
  have hw6 : ∀ w ∈ wsX60, w.before args s = true := fun w h => hts w (List.mem_cons_of_mem _ (List.mem_append_right _ h))
  have u1 : (Cond.fieldLink RX6 44 "YearWordsModel" "bits" "[I").before args s = true := hts _ (List.mem_of_getElem? (i := 1) (by decide +kernel))
  have u2 : (Cond.fieldLink RX6 47 "YearWordsModel" "longs" "[I").before args s = true := hts _ (List.mem_of_getElem? (i := 2) (by decide +kernel))
  have u3 : (Cond.fieldLink RX6 50 "YearWordsModel" "cells" "[J").before args s = true := hts _ (List.mem_of_getElem? (i := 3) (by decide +kernel))
  obtain ⟨Q, hQ⟩ : ∃ Q, Q = mqL below D 16 a args s (wM a cI cJ cS sv kep bef isk res.2.1 man nex wor sng hea lat tap tpd her flt vlu bit lon res.2.2 btw) res.1 := ⟨_, rfl⟩
  rw [← hQ]
  unfold fX6_write at hres
  refine lv_iload_n hx hb dX6_write_0 rfl (lv_at hl 1 rfl) ?_
  refine csI hx hb hml hown hts hEo hE hK hP hS (kX6_isSheet l D a cI cJ cS hd hEo sv kep bef isk fnd man nex wor sng hea lat tap tpd her flt vlu bit lon cel btw x1) gX6_write_X6_isSheet rfl hdX6_isSheet ⟨rfl, rfl⟩ ⟨Nat.le_of_ble_eq_true rfl, Nat.le_of_ble_eq_true rfl⟩ ⟨Nat.zero_le _, Nat.zero_le _⟩ rfl hl.1 rfl (Nat.le_of_ble_eq_true rfl) dX6_write_1 (fun H locs hP hS => ?_)
  refine lv_if_ne (tgt := 14) hx hb dX6_write_4 (by decide) (fun c4 => ?_) (fun c4 => ?_)
  · have hres := (itl hres).2 c4
    refine lv_aload_n hx hb dX6_write_14 rfl (lv_at hl 0 rfl) ?_
    refine gM_this6_bits hx hb hown hw6 hK hP u1 dX6_write_15 ?_
    refine lv_iload_n hx hb dX6_write_18 rfl (lv_at hl 1 rfl) ?_
    obtain ⟨i19, hres⟩ := gdi hres
    refine lM_bit hx hb hK hP i19 dX6_write_19 ?_
    refine lv_if_ne (tgt := 30) hx hb dX6_write_20 (by decide) (fun c20 => ?_) (fun c20 => ?_)
    · have hres := (itl hres).2 c20
      refine lv_iload_n hx hb dX6_write_30 rfl (lv_at hl 2 rfl) ?_
      refine lv_iconst (v := 0) hx hb dX6_write_31 (by decide) ?_
      refine lv_aload_n hx hb dX6_write_32 rfl (lv_at hl 0 rfl) ?_
      refine gM_this6_longs hx hb hown hw6 hK hP u2 dX6_write_33 ?_
      refine lv_iload_n hx hb dX6_write_36 rfl (lv_at hl 1 rfl) ?_
      obtain ⟨i37, hres⟩ := gdi hres
      refine lM_lon hx hb hK hP i37 dX6_write_37 ?_
      refine lv_iconst (v := 1) hx hb dX6_write_38 (by decide) ?_
      refine lv_isub hx hb dX6_write_39 ?_
      refine csI hx hb hml hown hts hEo hE hK hP hS (kX6_in l D a cI cJ cS hd hEo sv kep bef isk fnd man nex wor sng hea lat tap tpd her flt vlu bit lon cel btw x2 (0 : Int32) ((lon x1.toNatClampNeg) - (1 : Int32))) gX6_write_X6_in rfl hdX6_in ⟨rfl, rfl⟩ ⟨Nat.le_of_ble_eq_true rfl, Nat.le_of_ble_eq_true rfl⟩ ⟨Nat.zero_le _, Nat.zero_le _⟩ rfl hl.1 rfl (Nat.le_of_ble_eq_true rfl) dX6_write_40 (fun H locs hP hS => ?_)
      refine lv_if_ne (tgt := 53) hx hb dX6_write_43 (by decide) (fun c43 => ?_) (fun c43 => ?_)
      · have hres := (itl hres).2 c43
        refine lv_aload_n hx hb dX6_write_53 rfl (lv_at hl 0 rfl) ?_
        refine gM_this6_cells hx hb hown hw6 hK hP u3 dX6_write_54 ?_
        refine lv_bipush (v := 40) hx hb dX6_write_57 (by decide) ?_
        refine lv_iload_n hx hb dX6_write_59 rfl (lv_at hl 1 rfl) ?_
        refine lv_imul hx hb dX6_write_60 ?_
        refine lv_iload_n hx hb dX6_write_61 rfl (lv_at hl 2 rfl) ?_
        refine lv_iadd hx hb dX6_write_62 ?_
        obtain ⟨i63, hres⟩ := gdi hres
        refine lM_cel hx hb hK hP i63 dX6_write_63 ?_
        refine lv_lstore (lv' := [(5, .long (cel (((40 : Int32) * x1) + x2).toNatClampNeg)), (0, .ref (a 0)), (1, .int x1), (2, .int x2), (3, .long x3)]) hx hb dX6_write_64 hl (by decide) rfl (fun ls hl => ?_)
        refine lv_aload_n hx hb dX6_write_66 rfl (lv_at hl 1 rfl) ?_
        refine lv_iload_n hx hb dX6_write_67 rfl (lv_at hl 2 rfl) ?_
        refine lv_iload_n hx hb dX6_write_68 rfl (lv_at hl 3 rfl) ?_
        refine lv_lload_n hx hb dX6_write_69 rfl (lv_at hl 4 rfl) ?_
        obtain ⟨q70, e70, hres⟩ := obd hres
        refine cvV (q0 := 0) (ci := 6) hx hb hml hown hts hEo hE hK hP hS (kX6_writes l D a cI cJ cS hd hEo sv kep bef isk fnd man nex wor sng hea lat tap tpd her flt vlu bit lon cel btw x1 x2 x3 q70 e70) gX6_write_X6_writes rfl hdX6_writes rfl rfl rfl ⟨rfl, rfl⟩ ⟨Nat.le_of_ble_eq_true rfl, Nat.le_of_ble_eq_true rfl⟩ ⟨Nat.zero_le _, Nat.zero_le _⟩ rfl hl.1 rfl (Nat.le_of_ble_eq_true rfl) dX6_write_70 (fun H locs hP hS => ?_)
        refine lv_lload hx hb dX6_write_73 (lv_at hl 0 rfl) ?_
        exact hQ ▸ rtL (v := cel (((40 : Int32) * x1) + x2).toNatClampNeg)  hx hb hr hlk hP hS (by rw [← (Option.some.inj hres)]) (by rw [← (Option.some.inj hres)]) dX6_write_75
      · have hres := (itl hres).1 c43
        refine lv_aload_n hx hb dX6_write_46 rfl (lv_at hl 0 rfl) ?_
        refine lv_iconst (v := 0) hx hb dX6_write_47 (by decide) ?_
        obtain ⟨q48, e48, hres⟩ := obd hres
        refine cvI (q0 := 0) (ci := 6) hx hb hml hown hts hEo hE hK hP hS (kX6_no l D a cI cJ cS hd hEo sv kep bef isk fnd man nex wor sng hea lat tap tpd her flt vlu bit lon cel btw (0 : Int32) q48 e48) gX6_write_X6_no rfl hdX6_no rfl rfl rfl ⟨rfl, rfl⟩ ⟨Nat.le_of_ble_eq_true rfl, Nat.le_of_ble_eq_true rfl⟩ ⟨Nat.zero_le _, Nat.zero_le _⟩ rfl hl.1 rfl (Nat.le_of_ble_eq_true rfl) dX6_write_48 (fun H locs hP hS => ?_)
        refine lv_i2l hx hb dX6_write_51 rfl ?_
        exact hQ ▸ rtL (v := q48.1.toInt64)  hx hb hr hlk hP hS (by rw [← (Option.some.inj hres)]) (by rw [← (Option.some.inj hres)]) dX6_write_52
    · have hres := (itl hres).1 c20
      refine lv_aload_n hx hb dX6_write_23 rfl (lv_at hl 0 rfl) ?_
      refine lv_iconst (v := 5) hx hb dX6_write_24 (by decide) ?_
      obtain ⟨q25, e25, hres⟩ := obd hres
      refine cvI (q0 := 0) (ci := 6) hx hb hml hown hts hEo hE hK hP hS (kX6_no l D a cI cJ cS hd hEo sv kep bef isk fnd man nex wor sng hea lat tap tpd her flt vlu bit lon cel btw (5 : Int32) q25 e25) gX6_write_X6_no rfl hdX6_no rfl rfl rfl ⟨rfl, rfl⟩ ⟨Nat.le_of_ble_eq_true rfl, Nat.le_of_ble_eq_true rfl⟩ ⟨Nat.zero_le _, Nat.zero_le _⟩ rfl hl.1 rfl (Nat.le_of_ble_eq_true rfl) dX6_write_25 (fun H locs hP hS => ?_)
      refine lv_i2l hx hb dX6_write_28 rfl ?_
      exact hQ ▸ rtL (v := q25.1.toInt64)  hx hb hr hlk hP hS (by rw [← (Option.some.inj hres)]) (by rw [← (Option.some.inj hres)]) dX6_write_29
  · have hres := (itl hres).1 c4
    refine lv_aload_n hx hb dX6_write_7 rfl (lv_at hl 0 rfl) ?_
    refine lv_iconst (v := 0) hx hb dX6_write_8 (by decide) ?_
    obtain ⟨q9, e9, hres⟩ := obd hres
    refine cvI (q0 := 0) (ci := 6) hx hb hml hown hts hEo hE hK hP hS (kX6_no l D a cI cJ cS hd hEo sv kep bef isk fnd man nex wor sng hea lat tap tpd her flt vlu bit lon cel btw (0 : Int32) q9 e9) gX6_write_X6_no rfl hdX6_no rfl rfl rfl ⟨rfl, rfl⟩ ⟨Nat.le_of_ble_eq_true rfl, Nat.le_of_ble_eq_true rfl⟩ ⟨Nat.zero_le _, Nat.zero_le _⟩ rfl hl.1 rfl (Nat.le_of_ble_eq_true rfl) dX6_write_9 (fun H locs hP hS => ?_)
    refine lv_i2l hx hb dX6_write_12 rfl ?_
    exact hQ ▸ rtL (v := q9.1.toInt64)  hx hb hr hlk hP hS (by rw [← (Option.some.inj hres)]) (by rw [← (Option.some.inj hres)]) dX6_write_13
def fX6_copy_b14 (fnd : Nat → Int32) (cel : Nat → Int64) (btw : Nat → Int64) : Option (Int32 × (Nat → Int32) × (Nat → Int64) × (Nat → Int64)) :=
 (fX6_no fnd (0 : Int32)).bind fun q16 => some (q16.1, q16.2, cel, btw)
def fX6_copy_b38 (fnd : Nat → Int32) (cel : Nat → Int64) (btw : Nat → Int64) : Option (Int32 × (Nat → Int32) × (Nat → Int64) × (Nat → Int64)) :=
 (fX6_no fnd (5 : Int32)).bind fun q40 => some (q40.1, q40.2, cel, btw)
def fX6_copy_b106 (fnd : Nat → Int32) (cel : Nat → Int64) (btw : Nat → Int64) : Option (Int32 × (Nat → Int32) × (Nat → Int64) × (Nat → Int64)) :=
 (fX6_no fnd (0 : Int32)).bind fun q108 => some (q108.1, q108.2, cel, btw)
def fX6_copy_l152 (fnd : Nat → Int32) (btw : Nat → Int64) (x3 : Int32) (x4 : Int32) (x5 : Int32) (K152 : Int32 → (Nat → Int64) → Option (Int32 × (Nat → Int32) × (Nat → Int64) × (Nat → Int64))) (x6 : Int32) (cel : Nat → Int64) : Option (Int32 × (Nat → Int32) × (Nat → Int64) × (Nat → Int64)) :=
  if x5 ≤ x6 then some (x5, fnd, cel, btw) else gd (ib x6 40) (gd (ib ((((40 : Int32) * x3) + x4) + x6) 160) (K152 (x6 + 1) (vp_updL cel ((((40 : Int32) * x3) + x4) + x6).toNatClampNeg (btw x6.toNatClampNeg))))
def fX6_copy_b149 (fnd : Nat → Int32) (cel : Nat → Int64) (btw : Nat → Int64) (x3 : Int32) (x4 : Int32) (x5 : Int32) : Option (Int32 × (Nat → Int32) × (Nat → Int64) × (Nat → Int64)) :=
  fix2 (fX6_copy_l152 fnd btw x3 x4 x5) 2000 (0 : Int32) cel
def fX6_copy_l115 (fnd : Nat → Int32) (cel : Nat → Int64) (x1 : Int32) (x2 : Int32) (x3 : Int32) (x4 : Int32) (x5 : Int32) (K115 : Int32 → (Nat → Int64) → Option (Int32 × (Nat → Int32) × (Nat → Int64) × (Nat → Int64))) (x6 : Int32) (btw : Nat → Int64) : Option (Int32 × (Nat → Int32) × (Nat → Int64) × (Nat → Int64)) :=
  if x5 ≤ x6 then fX6_copy_b149 fnd cel btw x3 x4 x5 else gd (ib ((((40 : Int32) * x1) + x2) + x6) 160) (gd (ib x6 40) (K115 (x6 + 1) (vp_updL btw x6.toNatClampNeg (cel ((((40 : Int32) * x1) + x2) + x6).toNatClampNeg))))
def fX6_copy (fnd : Nat → Int32) (bit : Nat → Int32) (lon : Nat → Int32) (cel : Nat → Int64) (btw : Nat → Int64) (x1 : Int32) (x2 : Int32) (x3 : Int32) (x4 : Int32) (x5 : Int32) : Option (Int32 × (Nat → Int32) × (Nat → Int64) × (Nat → Int64)) :=
  if (bI (fX6_isSheet x1)) = 0 then fX6_copy_b14 fnd cel btw else if (bI (fX6_isSheet x3)) = 0 then fX6_copy_b14 fnd cel btw else gd (ib x1 4) (if (bit x1.toNatClampNeg) = 0 then fX6_copy_b38 fnd cel btw else gd (ib x3 4) (if (bit x3.toNatClampNeg) = 0 then fX6_copy_b38 fnd cel btw else gd (ib x1 4) (gd (ib x3 4) (if (bit x1.toNatClampNeg) = (bit x3.toNatClampNeg) then if x5 < 0 then fX6_copy_b106 fnd cel btw else if x2 < 0 then fX6_copy_b106 fnd cel btw else if x4 < 0 then fX6_copy_b106 fnd cel btw else gd (ib x1 4) (if ((lon x1.toNatClampNeg) - x5) < x2 then fX6_copy_b106 fnd cel btw else gd (ib x3 4) (if x4 ≤ ((lon x3.toNatClampNeg) - x5) then fix2 (fX6_copy_l115 fnd cel x1 x2 x3 x4 x5) 2000 (0 : Int32) btw else fX6_copy_b106 fnd cel btw)) else (fX6_no fnd (2 : Int32)).bind fun q61 => some (q61.1, q61.2, cel, btw)))))
abbrev rX6_copy : Room := { frames := 2, cells := 0, slots := 0, locals := 42 }
set_option maxHeartbeats 4000000 in
set_option maxRecDepth 100000 in
theorem kX6_copy (l : Launch) (D : va_G) (a : Nat → Nat) (cI cJ cS : ClassId) (hd : aok a 16) {Env : (Nat → Prop) → State → Heap → Prop} (hEo : envOK Env) (sv kep bef : Nat → Int32) (isk : Int32) (fnd : Nat → Int32) (man nex : Nat → Int64) (wor sng hea lat tap : Nat → Int32) (tpd her flt vlu : Int32) (bit lon : Nat → Int32) (cel btw : Nat → Int64) (x1 : Int32) (x2 : Int32) (x3 : Int32) (x4 : Int32) (x5 : Int32) (res : Int32 × (Nat → Int32) × (Nat → Int64) × (Nat → Int64)) (hres : fX6_copy fnd bit lon cel btw x1 x2 x3 x4 x5 = some res) : CtI l D (tyL cI cJ cS) 16 a Env yX6_copy wsX6_copy rX6_copy [.ref (a 0), .int x1, .int x2, .int x3, .int x4, .int x5] (wM a cI cJ cS sv kep bef isk fnd man nex wor sng hea lat tap tpd her flt vlu bit lon cel btw) (wM a cI cJ cS sv kep bef isk res.2.1 man nex wor sng hea lat tap tpd her flt vlu bit lon res.2.2.1 res.2.2.2) res.1 := by
  refine CtI_mk (cc := cX6_copy) (maxL := 7) (ret := (some .int)) (by decide) rfl (Nat.le_of_ble_eq_true rfl) ?_
  intro p e s m args below meth c ls hx hb hr hlk hml hown hts hP hK hE hl
  have hS : va_S (adA a 16 s.heap.size) s.heap s.heap [] := va_S.rf
  have hl : lv_has ls 7 [(0, .ref (a 0)), (1, .int x1), (2, .int x2), (3, .int x3), (4, .int x4), (5, .int x5)] := hl
  have hown : s.vm.findClass RX6 = some m.cls := hown
  have hw6 : ∀ w ∈ wsX60, w.before args s = true := fun w h => hts w (List.mem_cons_of_mem _ (List.mem_append_right _ h))
  have u1 : (Cond.fieldLink RX6 44 "YearWordsModel" "bits" "[I").before args s = true := hts _ (List.mem_of_getElem? (i := 1) (by decide +kernel))
  have u2 : (Cond.fieldLink RX6 47 "YearWordsModel" "longs" "[I").before args s = true := hts _ (List.mem_of_getElem? (i := 2) (by decide +kernel))
  have u3 : (Cond.fieldLink RX6 53 "YearWordsModel" "between" "[J").before args s = true := hts _ (List.mem_of_getElem? (i := 3) (by decide +kernel))
  have u4 : (Cond.fieldLink RX6 50 "YearWordsModel" "cells" "[J").before args s = true := hts _ (List.mem_of_getElem? (i := 4) (by decide +kernel))
  obtain ⟨Q, hQ⟩ : ∃ Q, Q = mqI below D 16 a args s (wM a cI cJ cS sv kep bef isk res.2.1 man nex wor sng hea lat tap tpd her flt vlu bit lon res.2.2.1 res.2.2.2) res.1 := ⟨_, rfl⟩
  rw [← hQ]
  have b14 : ∀ (fnd : Nat → Int32) (cel : Nat → Int64) (btw : Nat → Int64), fX6_copy_b14 fnd cel btw = some res → ∀ (H : Heap) (locs : List Loc) (ls : Array Slot), va_P D vwCl (wM a cI cJ cS sv kep bef isk fnd man nex wor sng hea lat tap tpd her flt vlu bit lon cel btw) H → va_S (adA a 16 s.heap.size) s.heap H locs → lv_has ls 7 [(0, .ref (a 0))] → W p l e rX6_copy s m args below meth c H locs 0 0 Q (F0 m 14 ls []) := by
    intro fnd cel btw hres H locs ls hP hS hl
    unfold fX6_copy_b14 at hres
    refine lv_aload_n hx hb dX6_copy_14 rfl (lv_at hl 0 rfl) ?_
    refine lv_iconst (v := 0) hx hb dX6_copy_15 (by decide) ?_
    obtain ⟨q16, e16, hres⟩ := obd hres
    refine cvI (q0 := 0) (ci := 6) hx hb hml hown hts hEo hE hK hP hS (kX6_no l D a cI cJ cS hd hEo sv kep bef isk fnd man nex wor sng hea lat tap tpd her flt vlu bit lon cel btw (0 : Int32) q16 e16) gX6_copy_X6_no rfl hdX6_no rfl rfl rfl ⟨rfl, rfl⟩ ⟨Nat.le_of_ble_eq_true rfl, Nat.le_of_ble_eq_true rfl⟩ ⟨Nat.zero_le _, Nat.zero_le _⟩ rfl hl.1 rfl (Nat.le_of_ble_eq_true rfl) dX6_copy_16 (fun H locs hP hS => ?_)
    exact hQ ▸ rtI (v := q16.1)  hx hb hr hlk hP hS (by rw [← (Option.some.inj hres)]) (by rw [← (Option.some.inj hres)]) dX6_copy_19
  have b38 : ∀ (fnd : Nat → Int32) (cel : Nat → Int64) (btw : Nat → Int64), fX6_copy_b38 fnd cel btw = some res → ∀ (H : Heap) (locs : List Loc) (ls : Array Slot), va_P D vwCl (wM a cI cJ cS sv kep bef isk fnd man nex wor sng hea lat tap tpd her flt vlu bit lon cel btw) H → va_S (adA a 16 s.heap.size) s.heap H locs → lv_has ls 7 [(0, .ref (a 0))] → W p l e rX6_copy s m args below meth c H locs 0 0 Q (F0 m 38 ls []) := by
    intro fnd cel btw hres H locs ls hP hS hl
    unfold fX6_copy_b38 at hres
    refine lv_aload_n hx hb dX6_copy_38 rfl (lv_at hl 0 rfl) ?_
    refine lv_iconst (v := 5) hx hb dX6_copy_39 (by decide) ?_
    obtain ⟨q40, e40, hres⟩ := obd hres
    refine cvI (q0 := 0) (ci := 6) hx hb hml hown hts hEo hE hK hP hS (kX6_no l D a cI cJ cS hd hEo sv kep bef isk fnd man nex wor sng hea lat tap tpd her flt vlu bit lon cel btw (5 : Int32) q40 e40) gX6_copy_X6_no rfl hdX6_no rfl rfl rfl ⟨rfl, rfl⟩ ⟨Nat.le_of_ble_eq_true rfl, Nat.le_of_ble_eq_true rfl⟩ ⟨Nat.zero_le _, Nat.zero_le _⟩ rfl hl.1 rfl (Nat.le_of_ble_eq_true rfl) dX6_copy_40 (fun H locs hP hS => ?_)
    exact hQ ▸ rtI (v := q40.1)  hx hb hr hlk hP hS (by rw [← (Option.some.inj hres)]) (by rw [← (Option.some.inj hres)]) dX6_copy_43
  have b106 : ∀ (fnd : Nat → Int32) (cel : Nat → Int64) (btw : Nat → Int64), fX6_copy_b106 fnd cel btw = some res → ∀ (H : Heap) (locs : List Loc) (ls : Array Slot), va_P D vwCl (wM a cI cJ cS sv kep bef isk fnd man nex wor sng hea lat tap tpd her flt vlu bit lon cel btw) H → va_S (adA a 16 s.heap.size) s.heap H locs → lv_has ls 7 [(0, .ref (a 0))] → W p l e rX6_copy s m args below meth c H locs 0 0 Q (F0 m 106 ls []) := by
    intro fnd cel btw hres H locs ls hP hS hl
    unfold fX6_copy_b106 at hres
    refine lv_aload_n hx hb dX6_copy_106 rfl (lv_at hl 0 rfl) ?_
    refine lv_iconst (v := 0) hx hb dX6_copy_107 (by decide) ?_
    obtain ⟨q108, e108, hres⟩ := obd hres
    refine cvI (q0 := 0) (ci := 6) hx hb hml hown hts hEo hE hK hP hS (kX6_no l D a cI cJ cS hd hEo sv kep bef isk fnd man nex wor sng hea lat tap tpd her flt vlu bit lon cel btw (0 : Int32) q108 e108) gX6_copy_X6_no rfl hdX6_no rfl rfl rfl ⟨rfl, rfl⟩ ⟨Nat.le_of_ble_eq_true rfl, Nat.le_of_ble_eq_true rfl⟩ ⟨Nat.zero_le _, Nat.zero_le _⟩ rfl hl.1 rfl (Nat.le_of_ble_eq_true rfl) dX6_copy_108 (fun H locs hP hS => ?_)
    exact hQ ▸ rtI (v := q108.1)  hx hb hr hlk hP hS (by rw [← (Option.some.inj hres)]) (by rw [← (Option.some.inj hres)]) dX6_copy_111
  have b152 : ∀ (fnd : Nat → Int32) (btw : Nat → Int64) (n : Nat) (x6 : Int32) (cel : Nat → Int64), fix2 (fX6_copy_l152 fnd btw x3 x4 x5) n x6 cel = some res → ∀ (H : Heap) (locs : List Loc) (ls : Array Slot), va_P D vwCl (wM a cI cJ cS sv kep bef isk fnd man nex wor sng hea lat tap tpd her flt vlu bit lon cel btw) H → va_S (adA a 16 s.heap.size) s.heap H locs → lv_has ls 7 [(0, .ref (a 0)), (3, .int x3), (4, .int x4), (5, .int x5), (6, .int x6)] → W p l e rX6_copy s m args below meth c H locs 0 0 Q (F0 m 152 ls []) := by
    intro fnd btw
    refine fix2_r ?_
    intro K152 hK152 x6 cel hres H locs ls hP hS hl
    unfold fX6_copy_l152 at hres
    refine lv_iload hx hb dX6_copy_152 (lv_at hl 4 rfl) ?_
    refine lv_iload hx hb dX6_copy_154 (lv_at hl 3 rfl) ?_
    refine lv_icmp_ge (tgt := 187) hx hb dX6_copy_156 (by decide) (fun c156 => ?_) (fun c156 => ?_)
    · have hres := (itl hres).1 c156
      refine lv_iload hx hb dX6_copy_187 (lv_at hl 3 rfl) ?_
      exact hQ ▸ rtI (v := x5)  hx hb hr hlk hP hS (by rw [← (Option.some.inj hres)]) (by rw [← (Option.some.inj hres)]) dX6_copy_189
    · have hres := (itl hres).2 c156
      refine lv_aload_n hx hb dX6_copy_159 rfl (lv_at hl 0 rfl) ?_
      refine gM_this6_cells hx hb hown hw6 hK hP u4 dX6_copy_160 ?_
      refine lv_bipush (v := 40) hx hb dX6_copy_163 (by decide) ?_
      refine lv_iload_n hx hb dX6_copy_165 rfl (lv_at hl 1 rfl) ?_
      refine lv_imul hx hb dX6_copy_166 ?_
      refine lv_iload hx hb dX6_copy_167 (lv_at hl 2 rfl) ?_
      refine lv_iadd hx hb dX6_copy_169 ?_
      refine lv_iload hx hb dX6_copy_170 (lv_at hl 4 rfl) ?_
      refine lv_iadd hx hb dX6_copy_172 ?_
      refine lv_aload_n hx hb dX6_copy_173 rfl (lv_at hl 0 rfl) ?_
      refine gM_this6_between hx hb hown hw6 hK hP u3 dX6_copy_174 ?_
      refine lv_iload hx hb dX6_copy_177 (lv_at hl 4 rfl) ?_
      obtain ⟨i179, hres⟩ := gdi hres
      refine lM_btw hx hb hK hP i179 dX6_copy_179 ?_
      obtain ⟨i180, hres⟩ := gdi hres
      refine sM_cel hx hb hK hP hd hS i180 dX6_copy_180 (fun H locs hP hS => ?_)
      refine lv_iinc (v := x6 + 1) (lv' := [(6, .int (x6 + 1)), (0, .ref (a 0)), (3, .int x3), (4, .int x4), (5, .int x5)]) hx hb dX6_copy_181 hl (k := 4) rfl (congrArg (fun z => x6 + z) (by decide)) (by decide) rfl (fun ls hl => ?_)
      refine lv_goto (tgt := 152) hx hb dX6_copy_184 (by decide) ?_
      exact hK152 (x6 + 1) (vp_updL cel ((((40 : Int32) * x3) + x4) + x6).toNatClampNeg (btw x6.toNatClampNeg)) hres _ _ _ hP hS (lv_sub hl [1, 2, 3, 4, 0] rfl)
  have b149 : ∀ (fnd : Nat → Int32) (cel : Nat → Int64) (btw : Nat → Int64), fX6_copy_b149 fnd cel btw x3 x4 x5 = some res → ∀ (H : Heap) (locs : List Loc) (ls : Array Slot), va_P D vwCl (wM a cI cJ cS sv kep bef isk fnd man nex wor sng hea lat tap tpd her flt vlu bit lon cel btw) H → va_S (adA a 16 s.heap.size) s.heap H locs → lv_has ls 7 [(0, .ref (a 0)), (3, .int x3), (4, .int x4), (5, .int x5)] → W p l e rX6_copy s m args below meth c H locs 0 0 Q (F0 m 149 ls []) := by
    intro fnd cel btw hres H locs ls hP hS hl
    unfold fX6_copy_b149 at hres
    refine lv_iconst (v := 0) hx hb dX6_copy_149 (by decide) ?_
    refine lv_istore (lv' := [(6, .int (0 : Int32)), (0, .ref (a 0)), (3, .int x3), (4, .int x4), (5, .int x5)]) hx hb dX6_copy_150 hl (by decide) rfl (fun ls hl => ?_)
    exact b152 fnd btw 2000 (0 : Int32) cel hres _ _ _ hP hS (lv_sub hl [1, 2, 3, 4, 0] rfl)
  have b115 : ∀ (fnd : Nat → Int32) (cel : Nat → Int64) (n : Nat) (x6 : Int32) (btw : Nat → Int64), fix2 (fX6_copy_l115 fnd cel x1 x2 x3 x4 x5) n x6 btw = some res → ∀ (H : Heap) (locs : List Loc) (ls : Array Slot), va_P D vwCl (wM a cI cJ cS sv kep bef isk fnd man nex wor sng hea lat tap tpd her flt vlu bit lon cel btw) H → va_S (adA a 16 s.heap.size) s.heap H locs → lv_has ls 7 [(0, .ref (a 0)), (1, .int x1), (2, .int x2), (3, .int x3), (4, .int x4), (5, .int x5), (6, .int x6)] → W p l e rX6_copy s m args below meth c H locs 0 0 Q (F0 m 115 ls []) := by
    intro fnd cel
    refine fix2_r ?_
    intro K115 hK115 x6 btw hres H locs ls hP hS hl
    unfold fX6_copy_l115 at hres
    refine lv_iload hx hb dX6_copy_115 (lv_at hl 6 rfl) ?_
    refine lv_iload hx hb dX6_copy_117 (lv_at hl 5 rfl) ?_
    refine lv_icmp_ge (tgt := 149) hx hb dX6_copy_119 (by decide) (fun c119 => ?_) (fun c119 => ?_)
    · have hres := (itl hres).1 c119
      exact b149 fnd cel btw hres _ _ _ hP hS (lv_sub hl [0, 3, 4, 5] rfl)
    · have hres := (itl hres).2 c119
      refine lv_aload_n hx hb dX6_copy_122 rfl (lv_at hl 0 rfl) ?_
      refine gM_this6_between hx hb hown hw6 hK hP u3 dX6_copy_123 ?_
      refine lv_iload hx hb dX6_copy_126 (lv_at hl 6 rfl) ?_
      refine lv_aload_n hx hb dX6_copy_128 rfl (lv_at hl 0 rfl) ?_
      refine gM_this6_cells hx hb hown hw6 hK hP u4 dX6_copy_129 ?_
      refine lv_bipush (v := 40) hx hb dX6_copy_132 (by decide) ?_
      refine lv_iload_n hx hb dX6_copy_134 rfl (lv_at hl 1 rfl) ?_
      refine lv_imul hx hb dX6_copy_135 ?_
      refine lv_iload_n hx hb dX6_copy_136 rfl (lv_at hl 2 rfl) ?_
      refine lv_iadd hx hb dX6_copy_137 ?_
      refine lv_iload hx hb dX6_copy_138 (lv_at hl 6 rfl) ?_
      refine lv_iadd hx hb dX6_copy_140 ?_
      obtain ⟨i141, hres⟩ := gdi hres
      refine lM_cel hx hb hK hP i141 dX6_copy_141 ?_
      obtain ⟨i142, hres⟩ := gdi hres
      refine sM_btw hx hb hK hP hd hS i142 dX6_copy_142 (fun H locs hP hS => ?_)
      refine lv_iinc (v := x6 + 1) (lv' := [(6, .int (x6 + 1)), (0, .ref (a 0)), (1, .int x1), (2, .int x2), (3, .int x3), (4, .int x4), (5, .int x5)]) hx hb dX6_copy_143 hl (k := 6) rfl (congrArg (fun z => x6 + z) (by decide)) (by decide) rfl (fun ls hl => ?_)
      refine lv_goto (tgt := 115) hx hb dX6_copy_146 (by decide) ?_
      exact hK115 (x6 + 1) (vp_updL btw x6.toNatClampNeg (cel ((((40 : Int32) * x1) + x2) + x6).toNatClampNeg)) hres _ _ _ hP hS (lv_sub hl [1, 2, 3, 4, 5, 6, 0] rfl)
  unfold fX6_copy at hres
  refine lv_iload_n hx hb dX6_copy_0 rfl (lv_at hl 1 rfl) ?_
  refine csI hx hb hml hown hts hEo hE hK hP hS (kX6_isSheet l D a cI cJ cS hd hEo sv kep bef isk fnd man nex wor sng hea lat tap tpd her flt vlu bit lon cel btw x1) gX6_copy_X6_isSheet rfl hdX6_isSheet ⟨rfl, rfl⟩ ⟨Nat.le_of_ble_eq_true rfl, Nat.le_of_ble_eq_true rfl⟩ ⟨Nat.zero_le _, Nat.zero_le _⟩ rfl hl.1 rfl (Nat.le_of_ble_eq_true rfl) dX6_copy_1 (fun H locs hP hS => ?_)
  refine lv_if_eq (tgt := 14) hx hb dX6_copy_4 (by decide) (fun c4 => ?_) (fun c4 => ?_)
  · have hres := (itl hres).1 c4
    exact b14 fnd cel btw hres _ _ _ hP hS (lv_sub hl [0] rfl)
  · have hres := (itl hres).2 c4
    refine lv_iload_n hx hb dX6_copy_7 rfl (lv_at hl 3 rfl) ?_
    refine csI hx hb hml hown hts hEo hE hK hP hS (kX6_isSheet l D a cI cJ cS hd hEo sv kep bef isk fnd man nex wor sng hea lat tap tpd her flt vlu bit lon cel btw x3) gX6_copy_X6_isSheet rfl hdX6_isSheet ⟨rfl, rfl⟩ ⟨Nat.le_of_ble_eq_true rfl, Nat.le_of_ble_eq_true rfl⟩ ⟨Nat.zero_le _, Nat.zero_le _⟩ rfl hl.1 rfl (Nat.le_of_ble_eq_true rfl) dX6_copy_8 (fun H locs hP hS => ?_)
    refine lv_if_ne (tgt := 20) hx hb dX6_copy_11 (by decide) (fun c11 => ?_) (fun c11 => ?_)
    · have hres := (itl hres).2 c11
      refine lv_aload_n hx hb dX6_copy_20 rfl (lv_at hl 0 rfl) ?_
      refine gM_this6_bits hx hb hown hw6 hK hP u1 dX6_copy_21 ?_
      refine lv_iload_n hx hb dX6_copy_24 rfl (lv_at hl 1 rfl) ?_
      obtain ⟨i25, hres⟩ := gdi hres
      refine lM_bit hx hb hK hP i25 dX6_copy_25 ?_
      refine lv_if_eq (tgt := 38) hx hb dX6_copy_26 (by decide) (fun c26 => ?_) (fun c26 => ?_)
      · have hres := (itl hres).1 c26
        exact b38 fnd cel btw hres _ _ _ hP hS (lv_sub hl [0] rfl)
      · have hres := (itl hres).2 c26
        refine lv_aload_n hx hb dX6_copy_29 rfl (lv_at hl 0 rfl) ?_
        refine gM_this6_bits hx hb hown hw6 hK hP u1 dX6_copy_30 ?_
        refine lv_iload_n hx hb dX6_copy_33 rfl (lv_at hl 3 rfl) ?_
        obtain ⟨i34, hres⟩ := gdi hres
        refine lM_bit hx hb hK hP i34 dX6_copy_34 ?_
        refine lv_if_ne (tgt := 44) hx hb dX6_copy_35 (by decide) (fun c35 => ?_) (fun c35 => ?_)
        · have hres := (itl hres).2 c35
          refine lv_aload_n hx hb dX6_copy_44 rfl (lv_at hl 0 rfl) ?_
          refine gM_this6_bits hx hb hown hw6 hK hP u1 dX6_copy_45 ?_
          refine lv_iload_n hx hb dX6_copy_48 rfl (lv_at hl 1 rfl) ?_
          obtain ⟨i49, hres⟩ := gdi hres
          refine lM_bit hx hb hK hP i49 dX6_copy_49 ?_
          refine lv_aload_n hx hb dX6_copy_50 rfl (lv_at hl 0 rfl) ?_
          refine gM_this6_bits hx hb hown hw6 hK hP u1 dX6_copy_51 ?_
          refine lv_iload_n hx hb dX6_copy_54 rfl (lv_at hl 3 rfl) ?_
          obtain ⟨i55, hres⟩ := gdi hres
          refine lM_bit hx hb hK hP i55 dX6_copy_55 ?_
          refine lv_icmp_eq (tgt := 65) hx hb dX6_copy_56 (by decide) (fun c56 => ?_) (fun c56 => ?_)
          · have hres := (itl hres).1 c56
            refine lv_iload hx hb dX6_copy_65 (lv_at hl 5 rfl) ?_
            refine lv_if_lt (tgt := 106) hx hb dX6_copy_67 (by decide) (fun c67 => ?_) (fun c67 => ?_)
            · have hres := (itl hres).1 c67
              exact b106 fnd cel btw hres _ _ _ hP hS (lv_sub hl [0] rfl)
            · have hres := (itl hres).2 c67
              refine lv_iload_n hx hb dX6_copy_70 rfl (lv_at hl 2 rfl) ?_
              refine lv_if_lt (tgt := 106) hx hb dX6_copy_71 (by decide) (fun c71 => ?_) (fun c71 => ?_)
              · have hres := (itl hres).1 c71
                exact b106 fnd cel btw hres _ _ _ hP hS (lv_sub hl [0] rfl)
              · have hres := (itl hres).2 c71
                refine lv_iload hx hb dX6_copy_74 (lv_at hl 4 rfl) ?_
                refine lv_if_lt (tgt := 106) hx hb dX6_copy_76 (by decide) (fun c76 => ?_) (fun c76 => ?_)
                · have hres := (itl hres).1 c76
                  exact b106 fnd cel btw hres _ _ _ hP hS (lv_sub hl [0] rfl)
                · have hres := (itl hres).2 c76
                  refine lv_iload_n hx hb dX6_copy_79 rfl (lv_at hl 2 rfl) ?_
                  refine lv_aload_n hx hb dX6_copy_80 rfl (lv_at hl 0 rfl) ?_
                  refine gM_this6_longs hx hb hown hw6 hK hP u2 dX6_copy_81 ?_
                  refine lv_iload_n hx hb dX6_copy_84 rfl (lv_at hl 1 rfl) ?_
                  obtain ⟨i85, hres⟩ := gdi hres
                  refine lM_lon hx hb hK hP i85 dX6_copy_85 ?_
                  refine lv_iload hx hb dX6_copy_86 (lv_at hl 5 rfl) ?_
                  refine lv_isub hx hb dX6_copy_88 ?_
                  refine lv_icmp_gt (tgt := 106) hx hb dX6_copy_89 (by decide) (fun c89 => ?_) (fun c89 => ?_)
                  · have hres := (itl hres).1 c89
                    exact b106 fnd cel btw hres _ _ _ hP hS (lv_sub hl [0] rfl)
                  · have hres := (itl hres).2 c89
                    refine lv_iload hx hb dX6_copy_92 (lv_at hl 4 rfl) ?_
                    refine lv_aload_n hx hb dX6_copy_94 rfl (lv_at hl 0 rfl) ?_
                    refine gM_this6_longs hx hb hown hw6 hK hP u2 dX6_copy_95 ?_
                    refine lv_iload_n hx hb dX6_copy_98 rfl (lv_at hl 3 rfl) ?_
                    obtain ⟨i99, hres⟩ := gdi hres
                    refine lM_lon hx hb hK hP i99 dX6_copy_99 ?_
                    refine lv_iload hx hb dX6_copy_100 (lv_at hl 5 rfl) ?_
                    refine lv_isub hx hb dX6_copy_102 ?_
                    refine lv_icmp_le (tgt := 112) hx hb dX6_copy_103 (by decide) (fun c103 => ?_) (fun c103 => ?_)
                    · have hres := (itl hres).1 c103
                      refine lv_iconst (v := 0) hx hb dX6_copy_112 (by decide) ?_
                      refine lv_istore (lv' := [(6, .int (0 : Int32)), (0, .ref (a 0)), (1, .int x1), (2, .int x2), (3, .int x3), (4, .int x4), (5, .int x5)]) hx hb dX6_copy_113 hl (by decide) rfl (fun ls hl => ?_)
                      exact b115 fnd cel 2000 (0 : Int32) btw hres _ _ _ hP hS (lv_sub hl [1, 2, 3, 4, 5, 6, 0] rfl)
                    · have hres := (itl hres).2 c103
                      exact b106 fnd cel btw hres _ _ _ hP hS (lv_sub hl [0] rfl)
          · have hres := (itl hres).2 c56
            refine lv_aload_n hx hb dX6_copy_59 rfl (lv_at hl 0 rfl) ?_
            refine lv_iconst (v := 2) hx hb dX6_copy_60 (by decide) ?_
            obtain ⟨q61, e61, hres⟩ := obd hres
            refine cvI (q0 := 0) (ci := 6) hx hb hml hown hts hEo hE hK hP hS (kX6_no l D a cI cJ cS hd hEo sv kep bef isk fnd man nex wor sng hea lat tap tpd her flt vlu bit lon cel btw (2 : Int32) q61 e61) gX6_copy_X6_no rfl hdX6_no rfl rfl rfl ⟨rfl, rfl⟩ ⟨Nat.le_of_ble_eq_true rfl, Nat.le_of_ble_eq_true rfl⟩ ⟨Nat.zero_le _, Nat.zero_le _⟩ rfl hl.1 rfl (Nat.le_of_ble_eq_true rfl) dX6_copy_61 (fun H locs hP hS => ?_)
            exact hQ ▸ rtI (v := q61.1)  hx hb hr hlk hP hS (by rw [← (Option.some.inj hres)]) (by rw [← (Option.some.inj hres)]) dX6_copy_64
        · have hres := (itl hres).1 c35
          exact b38 fnd cel btw hres _ _ _ hP hS (lv_sub hl [0] rfl)
    · have hres := (itl hres).1 c11
      exact b14 fnd cel btw hres _ _ _ hP hS (lv_sub hl [0] rfl)
def fX6_lays_b95 (K32 : Int32 → Int32 → (Nat → Int32) → Option (Int32 × (Nat → Int32) × (Nat → Int32))) (sv : Nat → Int32) (x2 : Int32) (x3 : Int32) : Option (Int32 × (Nat → Int32) × (Nat → Int32)) :=
  K32 x2 (x3 + 1) sv
def fX6_lays_l32 (fnd : Nat → Int32) (lon : Nat → Int32) (cel : Nat → Int64) (x1 : Int32) (K32 : Int32 → Int32 → (Nat → Int32) → Option (Int32 × (Nat → Int32) × (Nat → Int32))) (x2 : Int32) (x3 : Int32) (sv : Nat → Int32) : Option (Int32 × (Nat → Int32) × (Nat → Int32)) :=
  gd (ib x1 4) (if (lon x1.toNatClampNeg) ≤ x3 then some (x2, sv, fnd) else (fX6_isHearer sv x3).bind fun q44 => if (bI q44) = 0 then some (x2, sv, fnd) else gd (ib (((40 : Int32) * x1) + x3) 160) (if (lg_cmp (cel (((40 : Int32) * x1) + x3).toNatClampNeg) (0 : Int64)) < 0 then fX6_lays_b95 K32 sv x2 x3 else if 0 < (lg_cmp (cel (((40 : Int32) * x1) + x3).toNatClampNeg) ((99) : Int64)) then fX6_lays_b95 K32 sv x2 x3 else gd (ib ((156 : Int32) + x3) 166) (fX6_lays_b95 K32 (upd sv ((156 : Int32) + x3).toNatClampNeg ((cel (((40 : Int32) * x1) + x3).toNatClampNeg).toInt32)) (x2 + 1) x3)))
def fX6_lays (sv : Nat → Int32) (fnd : Nat → Int32) (bit : Nat → Int32) (lon : Nat → Int32) (cel : Nat → Int64) (x1 : Int32) : Option (Int32 × (Nat → Int32) × (Nat → Int32)) :=
  if (bI (fX6_isSheet x1)) = 0 then (fX6_no fnd (0 : Int32)).bind fun q9 => some (q9.1, sv, q9.2) else gd (ib x1 4) (if (bit x1.toNatClampNeg) = 0 then (fX6_no fnd (5 : Int32)).bind fun q24 => some (q24.1, sv, q24.2) else fix3 (fX6_lays_l32 fnd lon cel x1) 2000 (0 : Int32) (0 : Int32) sv)
abbrev rX6_lays : Room := { frames := 2, cells := 0, slots := 0, locals := 43 }
set_option maxHeartbeats 4000000 in
set_option maxRecDepth 100000 in
theorem kX6_lays (l : Launch) (D : va_G) (a : Nat → Nat) (cI cJ cS : ClassId) (hd : aok a 16) {Env : (Nat → Prop) → State → Heap → Prop} (hEo : envOK Env) (sv kep bef : Nat → Int32) (isk : Int32) (fnd : Nat → Int32) (man nex : Nat → Int64) (wor sng hea lat tap : Nat → Int32) (tpd her flt vlu : Int32) (bit lon : Nat → Int32) (cel btw : Nat → Int64) (x1 : Int32) (res : Int32 × (Nat → Int32) × (Nat → Int32)) (hres : fX6_lays sv fnd bit lon cel x1 = some res) : CtI l D (tyL cI cJ cS) 16 a Env yX6_lays wsX6_lays rX6_lays [.ref (a 0), .int x1] (wM a cI cJ cS sv kep bef isk fnd man nex wor sng hea lat tap tpd her flt vlu bit lon cel btw) (wM a cI cJ cS res.2.1 kep bef isk res.2.2 man nex wor sng hea lat tap tpd her flt vlu bit lon cel btw) res.1 := by
  refine CtI_mk (cc := cX6_lays) (maxL := 6) (ret := (some .int)) (by decide) rfl (Nat.le_of_ble_eq_true rfl) ?_
  intro p e s m args below meth c ls hx hb hr hlk hml hown hts hP hK hE hl
  have hS : va_S (adA a 16 s.heap.size) s.heap s.heap [] := va_S.rf
  have hl : lv_has ls 6 [(0, .ref (a 0)), (1, .int x1)] := hl
  have hown : s.vm.findClass RX6 = some m.cls := hown
  have hw6 : ∀ w ∈ wsX60, w.before args s = true := fun w h => hts w (List.mem_cons_of_mem _ (List.mem_append_right _ h))
  have u1 : (Cond.fieldLink RX6 44 "YearWordsModel" "bits" "[I").before args s = true := hts _ (List.mem_of_getElem? (i := 1) (by decide +kernel))
  have u2 : (Cond.fieldLink RX6 47 "YearWordsModel" "longs" "[I").before args s = true := hts _ (List.mem_of_getElem? (i := 2) (by decide +kernel))
  have u3 : (Cond.fieldLink RX6 50 "YearWordsModel" "cells" "[J").before args s = true := hts _ (List.mem_of_getElem? (i := 3) (by decide +kernel))
  have u4 : (Cond.constantLong RX6 288 (99)).before args s = true := hts _ (List.mem_of_getElem? (i := 4) (by decide +kernel))
  have u5 : (Cond.fieldLink RX6 9 "YearWordsModel" "s" "[I").before args s = true := hts _ (List.mem_of_getElem? (i := 5) (by decide +kernel))
  obtain ⟨Q, hQ⟩ : ∃ Q, Q = mqI below D 16 a args s (wM a cI cJ cS res.2.1 kep bef isk res.2.2 man nex wor sng hea lat tap tpd her flt vlu bit lon cel btw) res.1 := ⟨_, rfl⟩
  rw [← hQ]
  have b32 : ∀ (fnd : Nat → Int32) (n : Nat) (x2 : Int32) (x3 : Int32) (sv : Nat → Int32), fix3 (fX6_lays_l32 fnd lon cel x1) n x2 x3 sv = some res → ∀ (H : Heap) (locs : List Loc) (ls : Array Slot), va_P D vwCl (wM a cI cJ cS sv kep bef isk fnd man nex wor sng hea lat tap tpd her flt vlu bit lon cel btw) H → va_S (adA a 16 s.heap.size) s.heap H locs → lv_has ls 6 [(0, .ref (a 0)), (1, .int x1), (2, .int x2), (3, .int x3)] → W p l e rX6_lays s m args below meth c H locs 0 0 Q (F0 m 32 ls []) := by
    intro fnd
    refine fix3_r ?_
    intro K32 hK32 x2 x3 sv hres H locs ls hP hS hl
    have b95 : ∀ (sv : Nat → Int32) (x2 : Int32) (x3 : Int32), fX6_lays_b95 K32 sv x2 x3 = some res → ∀ (H : Heap) (locs : List Loc) (ls : Array Slot), va_P D vwCl (wM a cI cJ cS sv kep bef isk fnd man nex wor sng hea lat tap tpd her flt vlu bit lon cel btw) H → va_S (adA a 16 s.heap.size) s.heap H locs → lv_has ls 6 [(0, .ref (a 0)), (1, .int x1), (2, .int x2), (3, .int x3)] → W p l e rX6_lays s m args below meth c H locs 0 0 Q (F0 m 95 ls []) := by
      intro sv x2 x3 hres H locs ls hP hS hl
      unfold fX6_lays_b95 at hres
      refine lv_iinc (v := x3 + 1) (lv' := [(3, .int (x3 + 1)), (0, .ref (a 0)), (1, .int x1), (2, .int x2)]) hx hb dX6_lays_95 hl (k := 3) rfl (congrArg (fun z => x3 + z) (by decide)) (by decide) rfl (fun ls hl => ?_)
      refine lv_goto (tgt := 32) hx hb dX6_lays_98 (by decide) ?_
      exact hK32 x2 (x3 + 1) sv hres _ _ _ hP hS (lv_sub hl [1, 2, 3, 0] rfl)
    unfold fX6_lays_l32 at hres
    refine lv_iload_n hx hb dX6_lays_32 rfl (lv_at hl 3 rfl) ?_
    refine lv_aload_n hx hb dX6_lays_33 rfl (lv_at hl 0 rfl) ?_
    refine gM_this6_longs hx hb hown hw6 hK hP u2 dX6_lays_34 ?_
    refine lv_iload_n hx hb dX6_lays_37 rfl (lv_at hl 1 rfl) ?_
    obtain ⟨i38, hres⟩ := gdi hres
    refine lM_lon hx hb hK hP i38 dX6_lays_38 ?_
    refine lv_icmp_ge (tgt := 101) hx hb dX6_lays_39 (by decide) (fun c39 => ?_) (fun c39 => ?_)
    · have hres := (itl hres).1 c39
      refine lv_iload_n hx hb dX6_lays_101 rfl (lv_at hl 2 rfl) ?_
      exact hQ ▸ rtI (v := x2)  hx hb hr hlk hP hS (by rw [← (Option.some.inj hres)]) (by rw [← (Option.some.inj hres)]) dX6_lays_102
    · have hres := (itl hres).2 c39
      refine lv_aload_n hx hb dX6_lays_42 rfl (lv_at hl 0 rfl) ?_
      refine lv_iload_n hx hb dX6_lays_43 rfl (lv_at hl 3 rfl) ?_
      obtain ⟨q44, e44, hres⟩ := obd hres
      refine cvI (q0 := 0) (ci := 6) hx hb hml hown hts hEo hE hK hP hS (kX6_isHearer l D a cI cJ cS hd hEo sv kep bef isk fnd man nex wor sng hea lat tap tpd her flt vlu bit lon cel btw x3 q44 e44) gX6_lays_X6_isHearer rfl hdX6_isHearer rfl rfl rfl ⟨rfl, rfl⟩ ⟨Nat.le_of_ble_eq_true rfl, Nat.le_of_ble_eq_true rfl⟩ ⟨Nat.zero_le _, Nat.zero_le _⟩ rfl hl.1 rfl (Nat.le_of_ble_eq_true rfl) dX6_lays_44 (fun H locs hP hS => ?_)
      refine lv_if_eq (tgt := 101) hx hb dX6_lays_47 (by decide) (fun c47 => ?_) (fun c47 => ?_)
      · have hres := (itl hres).1 c47
        refine lv_iload_n hx hb dX6_lays_101 rfl (lv_at hl 2 rfl) ?_
        exact hQ ▸ rtI (v := x2)  hx hb hr hlk hP hS (by rw [← (Option.some.inj hres)]) (by rw [← (Option.some.inj hres)]) dX6_lays_102
      · have hres := (itl hres).2 c47
        refine lv_aload_n hx hb dX6_lays_50 rfl (lv_at hl 0 rfl) ?_
        refine gM_this6_cells hx hb hown hw6 hK hP u3 dX6_lays_51 ?_
        refine lv_bipush (v := 40) hx hb dX6_lays_54 (by decide) ?_
        refine lv_iload_n hx hb dX6_lays_56 rfl (lv_at hl 1 rfl) ?_
        refine lv_imul hx hb dX6_lays_57 ?_
        refine lv_iload_n hx hb dX6_lays_58 rfl (lv_at hl 3 rfl) ?_
        refine lv_iadd hx hb dX6_lays_59 ?_
        obtain ⟨i60, hres⟩ := gdi hres
        refine lM_cel hx hb hK hP i60 dX6_lays_60 ?_
        refine lv_lstore (lv' := [(4, .long (cel (((40 : Int32) * x1) + x3).toNatClampNeg)), (0, .ref (a 0)), (1, .int x1), (2, .int x2), (3, .int x3)]) hx hb dX6_lays_61 hl (by decide) rfl (fun ls hl => ?_)
        refine lv_lload hx hb dX6_lays_63 (lv_at hl 0 rfl) ?_
        refine lv_lconst (v := 0) hx hb dX6_lays_65 (by decide) ?_
        refine W.lcmp hx hb dX6_lays_66 ?_
        refine lv_if_lt (tgt := 95) hx hb dX6_lays_67 (by decide) (fun c67 => ?_) (fun c67 => ?_)
        · have hres := (itl hres).1 c67
          exact b95 sv x2 x3 hres _ _ _ hP hS (lv_sub hl [1, 2, 3, 4] rfl)
        · have hres := (itl hres).2 c67
          refine lv_lload hx hb dX6_lays_70 (lv_at hl 0 rfl) ?_
          refine lv_ldc2 hx hb hown u4 dX6_lays_72 ?_
          refine W.lcmp hx hb dX6_lays_75 ?_
          refine lv_if_gt (tgt := 95) hx hb dX6_lays_76 (by decide) (fun c76 => ?_) (fun c76 => ?_)
          · have hres := (itl hres).1 c76
            exact b95 sv x2 x3 hres _ _ _ hP hS (lv_sub hl [1, 2, 3, 4] rfl)
          · have hres := (itl hres).2 c76
            refine lv_aload_n hx hb dX6_lays_79 rfl (lv_at hl 1 rfl) ?_
            refine gM_this6_s hx hb hown hw6 hK hP u5 dX6_lays_80 ?_
            refine lv_sipush (v := 156) hx hb dX6_lays_83 (by decide) ?_
            refine lv_iload_n hx hb dX6_lays_86 rfl (lv_at hl 4 rfl) ?_
            refine lv_iadd hx hb dX6_lays_87 ?_
            refine lv_lload hx hb dX6_lays_88 (lv_at hl 0 rfl) ?_
            refine lv_l2i hx hb dX6_lays_90 rfl ?_
            obtain ⟨i91, hres⟩ := gdi hres
            refine sM_sv hx hb hK hP hd hS i91 dX6_lays_91 (fun H locs hP hS => ?_)
            refine lv_iinc (v := x2 + 1) (lv' := [(2, .int (x2 + 1)), (4, .long (cel (((40 : Int32) * x1) + x3).toNatClampNeg)), (0, .ref (a 0)), (1, .int x1), (3, .int x3)]) hx hb dX6_lays_92 hl (k := 3) rfl (congrArg (fun z => x2 + z) (by decide)) (by decide) rfl (fun ls hl => ?_)
            exact b95 (upd sv ((156 : Int32) + x3).toNatClampNeg ((cel (((40 : Int32) * x1) + x3).toNatClampNeg).toInt32)) (x2 + 1) x3 hres _ _ _ hP hS (lv_sub hl [2, 3, 0, 4] rfl)
  unfold fX6_lays at hres
  refine lv_iload_n hx hb dX6_lays_0 rfl (lv_at hl 1 rfl) ?_
  refine csI hx hb hml hown hts hEo hE hK hP hS (kX6_isSheet l D a cI cJ cS hd hEo sv kep bef isk fnd man nex wor sng hea lat tap tpd her flt vlu bit lon cel btw x1) gX6_lays_X6_isSheet rfl hdX6_isSheet ⟨rfl, rfl⟩ ⟨Nat.le_of_ble_eq_true rfl, Nat.le_of_ble_eq_true rfl⟩ ⟨Nat.zero_le _, Nat.zero_le _⟩ rfl hl.1 rfl (Nat.le_of_ble_eq_true rfl) dX6_lays_1 (fun H locs hP hS => ?_)
  refine lv_if_ne (tgt := 13) hx hb dX6_lays_4 (by decide) (fun c4 => ?_) (fun c4 => ?_)
  · have hres := (itl hres).2 c4
    refine lv_aload_n hx hb dX6_lays_13 rfl (lv_at hl 0 rfl) ?_
    refine gM_this6_bits hx hb hown hw6 hK hP u1 dX6_lays_14 ?_
    refine lv_iload_n hx hb dX6_lays_17 rfl (lv_at hl 1 rfl) ?_
    obtain ⟨i18, hres⟩ := gdi hres
    refine lM_bit hx hb hK hP i18 dX6_lays_18 ?_
    refine lv_if_ne (tgt := 28) hx hb dX6_lays_19 (by decide) (fun c19 => ?_) (fun c19 => ?_)
    · have hres := (itl hres).2 c19
      refine lv_iconst (v := 0) hx hb dX6_lays_28 (by decide) ?_
      refine lv_istore_n (lv' := [(2, .int (0 : Int32)), (0, .ref (a 0)), (1, .int x1)]) hx hb dX6_lays_29 rfl hl (by decide) rfl (fun ls hl => ?_)
      refine lv_iconst (v := 0) hx hb dX6_lays_30 (by decide) ?_
      refine lv_istore_n (lv' := [(3, .int (0 : Int32)), (2, .int (0 : Int32)), (0, .ref (a 0)), (1, .int x1)]) hx hb dX6_lays_31 rfl hl (by decide) rfl (fun ls hl => ?_)
      exact b32 fnd 2000 (0 : Int32) (0 : Int32) sv hres _ _ _ hP hS (lv_sub hl [2, 3, 1, 0] rfl)
    · have hres := (itl hres).1 c19
      refine lv_aload_n hx hb dX6_lays_22 rfl (lv_at hl 0 rfl) ?_
      refine lv_iconst (v := 5) hx hb dX6_lays_23 (by decide) ?_
      obtain ⟨q24, e24, hres⟩ := obd hres
      refine cvI (q0 := 0) (ci := 6) hx hb hml hown hts hEo hE hK hP hS (kX6_no l D a cI cJ cS hd hEo sv kep bef isk fnd man nex wor sng hea lat tap tpd her flt vlu bit lon cel btw (5 : Int32) q24 e24) gX6_lays_X6_no rfl hdX6_no rfl rfl rfl ⟨rfl, rfl⟩ ⟨Nat.le_of_ble_eq_true rfl, Nat.le_of_ble_eq_true rfl⟩ ⟨Nat.zero_le _, Nat.zero_le _⟩ rfl hl.1 rfl (Nat.le_of_ble_eq_true rfl) dX6_lays_24 (fun H locs hP hS => ?_)
      exact hQ ▸ rtI (v := q24.1)  hx hb hr hlk hP hS (by rw [← (Option.some.inj hres)]) (by rw [← (Option.some.inj hres)]) dX6_lays_27
  · have hres := (itl hres).1 c4
    refine lv_aload_n hx hb dX6_lays_7 rfl (lv_at hl 0 rfl) ?_
    refine lv_iconst (v := 0) hx hb dX6_lays_8 (by decide) ?_
    obtain ⟨q9, e9, hres⟩ := obd hres
    refine cvI (q0 := 0) (ci := 6) hx hb hml hown hts hEo hE hK hP hS (kX6_no l D a cI cJ cS hd hEo sv kep bef isk fnd man nex wor sng hea lat tap tpd her flt vlu bit lon cel btw (0 : Int32) q9 e9) gX6_lays_X6_no rfl hdX6_no rfl rfl rfl ⟨rfl, rfl⟩ ⟨Nat.le_of_ble_eq_true rfl, Nat.le_of_ble_eq_true rfl⟩ ⟨Nat.zero_le _, Nat.zero_le _⟩ rfl hl.1 rfl (Nat.le_of_ble_eq_true rfl) dX6_lays_9 (fun H locs hP hS => ?_)
    exact hQ ▸ rtI (v := q9.1)  hx hb hr hlk hP hS (by rw [← (Option.some.inj hres)]) (by rw [← (Option.some.inj hres)]) dX6_lays_12
def fX6_say_b43 (fnd : Nat → Int32) (wor : Nat → Int32) (sng : Nat → Int32) (cel : Nat → Int64) : Option (Int32 × (Nat → Int32) × (Nat → Int32) × (Nat → Int32) × (Nat → Int64)) :=
 (fX6_no fnd (0 : Int32)).bind fun q45 => some (q45.1, q45.2, wor, sng, cel)
def fX6_say_l97 (fnd : Nat → Int32) (wor : Nat → Int32) (sng : Nat → Int32) (bit : Nat → Int32) (x1 : Int32) (x4 : Int32) (K97 : Int32 → (Nat → Int64) → Option (Int32 × (Nat → Int32) × (Nat → Int32) × (Nat → Int32) × (Nat → Int64))) (x5 : Int32) (cel : Nat → Int64) : Option (Int32 × (Nat → Int32) × (Nat → Int32) × (Nat → Int32) × (Nat → Int64)) :=
  if x4 ≤ x5 then some (x4, fnd, wor, sng, cel) else gd (ib x5 10) ((fX6_writes bit cel x1 x5 ((sng x5.toNatClampNeg).toInt64)).bind fun q116 => K97 (x5 + 1) q116)
def fX6_say_b92 (fnd : Nat → Int32) (wor : Nat → Int32) (sng : Nat → Int32) (bit : Nat → Int32) (cel : Nat → Int64) (x1 : Int32) (z0 : Int32) : Option (Int32 × (Nat → Int32) × (Nat → Int32) × (Nat → Int32) × (Nat → Int64)) :=
  fix2 (fX6_say_l97 fnd wor sng bit x1 z0) 2000 (0 : Int32) cel
def fX6_say (sv : Nat → Int32) (fnd : Nat → Int32) (wor : Nat → Int32) (sng : Nat → Int32) (bit : Nat → Int32) (lon : Nat → Int32) (cel : Nat → Int64) (x1 : Int32) (x2 : Int32) (x3 : Int32) : Option (Int32 × (Nat → Int32) × (Nat → Int32) × (Nat → Int32) × (Nat → Int64)) :=
  if (bI (fX6_isSheet x1)) = 0 then (fX6_no fnd (0 : Int32)).bind fun q9 => some (q9.1, q9.2, wor, sng, cel) else gd (ib x1 4) (if (bit x1.toNatClampNeg) = 0 then (fX6_no fnd (5 : Int32)).bind fun q24 => some (q24.1, q24.2, wor, sng, cel) else (fX6_isTale sv x2).bind fun q30 => if (bI q30) = 0 then fX6_say_b43 fnd wor sng cel else if (bI (fX6_isWords x3)) = 0 then fX6_say_b43 fnd wor sng cel else (fX6_says sv wor sng x2 x3).bind fun q52 => if (bI q52.1) = 0 then (fX6_no fnd (3 : Int32)).bind fun q60 => some (q60.1, q60.2, q52.2.1, q52.2.2, cel) else gd (ib x1 4) ((fX6_long_ sv x2).bind fun q72 => if q72 ≤ (lon x1.toNatClampNeg) then (fX6_long_ sv x2).bind fun q89 => fX6_say_b92 fnd q52.2.1 q52.2.2 bit cel x1 q89 else gd (ib x1 4) (fX6_say_b92 fnd q52.2.1 q52.2.2 bit cel x1 (lon x1.toNatClampNeg))))
abbrev rX6_say : Room := { frames := 4, cells := 0, slots := 0, locals := 101 }
set_option maxHeartbeats 4000000 in
set_option maxRecDepth 100000 in
theorem kX6_say (l : Launch) (D : va_G) (a : Nat → Nat) (cI cJ cS : ClassId) (hd : aok a 16) {Env : (Nat → Prop) → State → Heap → Prop} (hEo : envOK Env) (sv kep bef : Nat → Int32) (isk : Int32) (fnd : Nat → Int32) (man nex : Nat → Int64) (wor sng hea lat tap : Nat → Int32) (tpd her flt vlu : Int32) (bit lon : Nat → Int32) (cel btw : Nat → Int64) (x1 : Int32) (x2 : Int32) (x3 : Int32) (res : Int32 × (Nat → Int32) × (Nat → Int32) × (Nat → Int32) × (Nat → Int64)) (hres : fX6_say sv fnd wor sng bit lon cel x1 x2 x3 = some res) : CtI l D (tyL cI cJ cS) 16 a Env yX6_say wsX6_say rX6_say [.ref (a 0), .int x1, .int x2, .int x3] (wM a cI cJ cS sv kep bef isk fnd man nex wor sng hea lat tap tpd her flt vlu bit lon cel btw) (wM a cI cJ cS sv kep bef isk res.2.1 man nex res.2.2.1 res.2.2.2.1 hea lat tap tpd her flt vlu bit lon res.2.2.2.2 btw) res.1 := by
  refine CtI_mk (cc := cX6_say) (maxL := 6) (ret := (some .int)) (by decide) rfl (Nat.le_of_ble_eq_true rfl) ?_
  intro p e s m args below meth c ls hx hb hr hlk hml hown hts hP hK hE hl
  have hS : va_S (adA a 16 s.heap.size) s.heap s.heap [] := va_S.rf
  have hl : lv_has ls 6 [(0, .ref (a 0)), (1, .int x1), (2, .int x2), (3, .int x3)] := hl
  have hown : s.vm.findClass RX6 = some m.cls := hown
  have hw6 : ∀ w ∈ wsX60, w.before args s = true := fun w h => hts w (List.mem_cons_of_mem _ (List.mem_append_right _ h))
  have u1 : (Cond.fieldLink RX6 44 "YearWordsModel" "bits" "[I").before args s = true := hts _ (List.mem_of_getElem? (i := 1) (by decide +kernel))
  have u2 : (Cond.fieldLink RX6 47 "YearWordsModel" "longs" "[I").before args s = true := hts _ (List.mem_of_getElem? (i := 2) (by decide +kernel))
  have u3 : (Cond.fieldLink RX6 32 "YearWordsModel" "saying" "[I").before args s = true := hts _ (List.mem_of_getElem? (i := 3) (by decide +kernel))
  obtain ⟨Q, hQ⟩ : ∃ Q, Q = mqI below D 16 a args s (wM a cI cJ cS sv kep bef isk res.2.1 man nex res.2.2.1 res.2.2.2.1 hea lat tap tpd her flt vlu bit lon res.2.2.2.2 btw) res.1 := ⟨_, rfl⟩
  rw [← hQ]
  have b43 : ∀ (fnd : Nat → Int32) (wor : Nat → Int32) (sng : Nat → Int32) (cel : Nat → Int64), fX6_say_b43 fnd wor sng cel = some res → ∀ (H : Heap) (locs : List Loc) (ls : Array Slot), va_P D vwCl (wM a cI cJ cS sv kep bef isk fnd man nex wor sng hea lat tap tpd her flt vlu bit lon cel btw) H → va_S (adA a 16 s.heap.size) s.heap H locs → lv_has ls 6 [(0, .ref (a 0))] → W p l e rX6_say s m args below meth c H locs 0 0 Q (F0 m 43 ls []) := by
    intro fnd wor sng cel hres H locs ls hP hS hl
    unfold fX6_say_b43 at hres
    refine lv_aload_n hx hb dX6_say_43 rfl (lv_at hl 0 rfl) ?_
    refine lv_iconst (v := 0) hx hb dX6_say_44 (by decide) ?_
    obtain ⟨q45, e45, hres⟩ := obd hres
    refine cvI (q0 := 0) (ci := 6) hx hb hml hown hts hEo hE hK hP hS (kX6_no l D a cI cJ cS hd hEo sv kep bef isk fnd man nex wor sng hea lat tap tpd her flt vlu bit lon cel btw (0 : Int32) q45 e45) gX6_say_X6_no rfl hdX6_no rfl rfl rfl ⟨rfl, rfl⟩ ⟨Nat.le_of_ble_eq_true rfl, Nat.le_of_ble_eq_true rfl⟩ ⟨Nat.zero_le _, Nat.zero_le _⟩ rfl hl.1 rfl (Nat.le_of_ble_eq_true rfl) dX6_say_45 (fun H locs hP hS => ?_)
    exact hQ ▸ rtI (v := q45.1)  hx hb hr hlk hP hS (by rw [← (Option.some.inj hres)]) (by rw [← (Option.some.inj hres)]) dX6_say_48
  have b97 : ∀ (fnd : Nat → Int32) (wor : Nat → Int32) (sng : Nat → Int32) (x4 : Int32) (n : Nat) (x5 : Int32) (cel : Nat → Int64), fix2 (fX6_say_l97 fnd wor sng bit x1 x4) n x5 cel = some res → ∀ (H : Heap) (locs : List Loc) (ls : Array Slot), va_P D vwCl (wM a cI cJ cS sv kep bef isk fnd man nex wor sng hea lat tap tpd her flt vlu bit lon cel btw) H → va_S (adA a 16 s.heap.size) s.heap H locs → lv_has ls 6 [(0, .ref (a 0)), (1, .int x1), (4, .int x4), (5, .int x5)] → W p l e rX6_say s m args below meth c H locs 0 0 Q (F0 m 97 ls []) := by
    intro fnd wor sng x4
    refine fix2_r ?_
    intro K97 hK97 x5 cel hres H locs ls hP hS hl
    unfold fX6_say_l97 at hres
    refine lv_iload hx hb dX6_say_97 (lv_at hl 3 rfl) ?_
    refine lv_iload hx hb dX6_say_99 (lv_at hl 2 rfl) ?_
    refine lv_icmp_ge (tgt := 125) hx hb dX6_say_101 (by decide) (fun c101 => ?_) (fun c101 => ?_)
    · have hres := (itl hres).1 c101
      refine lv_iload hx hb dX6_say_125 (lv_at hl 2 rfl) ?_
      exact hQ ▸ rtI (v := x4)  hx hb hr hlk hP hS (by rw [← (Option.some.inj hres)]) (by rw [← (Option.some.inj hres)]) dX6_say_127
    · have hres := (itl hres).2 c101
      refine lv_aload_n hx hb dX6_say_104 rfl (lv_at hl 0 rfl) ?_
      refine lv_iload_n hx hb dX6_say_105 rfl (lv_at hl 1 rfl) ?_
      refine lv_iload hx hb dX6_say_106 (lv_at hl 3 rfl) ?_
      refine lv_aload_n hx hb dX6_say_108 rfl (lv_at hl 0 rfl) ?_
      refine gM_this6_saying hx hb hown hw6 hK hP u3 dX6_say_109 ?_
      refine lv_iload hx hb dX6_say_112 (lv_at hl 3 rfl) ?_
      obtain ⟨i114, hres⟩ := gdi hres
      refine lM_sng hx hb hK hP i114 dX6_say_114 ?_
      refine lv_i2l hx hb dX6_say_115 rfl ?_
      obtain ⟨q116, e116, hres⟩ := obd hres
      refine cvV (q0 := 0) (ci := 6) hx hb hml hown hts hEo hE hK hP hS (kX6_writes l D a cI cJ cS hd hEo sv kep bef isk fnd man nex wor sng hea lat tap tpd her flt vlu bit lon cel btw x1 x5 ((sng x5.toNatClampNeg).toInt64) q116 e116) gX6_say_X6_writes rfl hdX6_writes rfl rfl rfl ⟨rfl, rfl⟩ ⟨Nat.le_of_ble_eq_true rfl, Nat.le_of_ble_eq_true rfl⟩ ⟨Nat.zero_le _, Nat.zero_le _⟩ rfl hl.1 rfl (Nat.le_of_ble_eq_true rfl) dX6_say_116 (fun H locs hP hS => ?_)
      refine lv_iinc (v := x5 + 1) (lv' := [(5, .int (x5 + 1)), (0, .ref (a 0)), (1, .int x1), (4, .int x4)]) hx hb dX6_say_119 hl (k := 3) rfl (congrArg (fun z => x5 + z) (by decide)) (by decide) rfl (fun ls hl => ?_)
      refine lv_goto (tgt := 97) hx hb dX6_say_122 (by decide) ?_
      exact hK97 (x5 + 1) q116 hres _ _ _ hP hS (lv_sub hl [1, 2, 3, 0] rfl)
  have b92 : ∀ (fnd : Nat → Int32) (wor : Nat → Int32) (sng : Nat → Int32) (cel : Nat → Int64) (z0 : Int32), fX6_say_b92 fnd wor sng bit cel x1 z0 = some res → ∀ (H : Heap) (locs : List Loc) (ls : Array Slot), va_P D vwCl (wM a cI cJ cS sv kep bef isk fnd man nex wor sng hea lat tap tpd her flt vlu bit lon cel btw) H → va_S (adA a 16 s.heap.size) s.heap H locs → lv_has ls 6 [(0, .ref (a 0)), (1, .int x1)] → W p l e rX6_say s m args below meth c H locs 0 0 Q (F0 m 92 ls [.int z0]) := by
    intro fnd wor sng cel z0 hres H locs ls hP hS hl
    unfold fX6_say_b92 at hres
    refine lv_istore (lv' := [(4, .int z0), (0, .ref (a 0)), (1, .int x1)]) hx hb dX6_say_92 hl (by decide) rfl (fun ls hl => ?_)
    refine lv_iconst (v := 0) hx hb dX6_say_94 (by decide) ?_
    refine lv_istore (lv' := [(5, .int (0 : Int32)), (4, .int z0), (0, .ref (a 0)), (1, .int x1)]) hx hb dX6_say_95 hl (by decide) rfl (fun ls hl => ?_)
    exact b97 fnd wor sng z0 2000 (0 : Int32) cel hres _ _ _ hP hS (lv_sub hl [2, 3, 1, 0] rfl)
  unfold fX6_say at hres
  refine lv_iload_n hx hb dX6_say_0 rfl (lv_at hl 1 rfl) ?_
  refine csI hx hb hml hown hts hEo hE hK hP hS (kX6_isSheet l D a cI cJ cS hd hEo sv kep bef isk fnd man nex wor sng hea lat tap tpd her flt vlu bit lon cel btw x1) gX6_say_X6_isSheet rfl hdX6_isSheet ⟨rfl, rfl⟩ ⟨Nat.le_of_ble_eq_true rfl, Nat.le_of_ble_eq_true rfl⟩ ⟨Nat.zero_le _, Nat.zero_le _⟩ rfl hl.1 rfl (Nat.le_of_ble_eq_true rfl) dX6_say_1 (fun H locs hP hS => ?_)
  refine lv_if_ne (tgt := 13) hx hb dX6_say_4 (by decide) (fun c4 => ?_) (fun c4 => ?_)
  · have hres := (itl hres).2 c4
    refine lv_aload_n hx hb dX6_say_13 rfl (lv_at hl 0 rfl) ?_
    refine gM_this6_bits hx hb hown hw6 hK hP u1 dX6_say_14 ?_
    refine lv_iload_n hx hb dX6_say_17 rfl (lv_at hl 1 rfl) ?_
    obtain ⟨i18, hres⟩ := gdi hres
    refine lM_bit hx hb hK hP i18 dX6_say_18 ?_
    refine lv_if_ne (tgt := 28) hx hb dX6_say_19 (by decide) (fun c19 => ?_) (fun c19 => ?_)
    · have hres := (itl hres).2 c19
      refine lv_aload_n hx hb dX6_say_28 rfl (lv_at hl 0 rfl) ?_
      refine lv_iload_n hx hb dX6_say_29 rfl (lv_at hl 2 rfl) ?_
      obtain ⟨q30, e30, hres⟩ := obd hres
      refine cvI (q0 := 0) (ci := 6) hx hb hml hown hts hEo hE hK hP hS (kX6_isTale l D a cI cJ cS hd hEo sv kep bef isk fnd man nex wor sng hea lat tap tpd her flt vlu bit lon cel btw x2 q30 e30) gX6_say_X6_isTale rfl hdX6_isTale rfl rfl rfl ⟨rfl, rfl⟩ ⟨Nat.le_of_ble_eq_true rfl, Nat.le_of_ble_eq_true rfl⟩ ⟨Nat.zero_le _, Nat.zero_le _⟩ rfl hl.1 rfl (Nat.le_of_ble_eq_true rfl) dX6_say_30 (fun H locs hP hS => ?_)
      refine lv_if_eq (tgt := 43) hx hb dX6_say_33 (by decide) (fun c33 => ?_) (fun c33 => ?_)
      · have hres := (itl hres).1 c33
        exact b43 fnd wor sng cel hres _ _ _ hP hS (lv_sub hl [0] rfl)
      · have hres := (itl hres).2 c33
        refine lv_iload_n hx hb dX6_say_36 rfl (lv_at hl 3 rfl) ?_
        refine csI hx hb hml hown hts hEo hE hK hP hS (kX6_isWords l D a cI cJ cS hd hEo sv kep bef isk fnd man nex wor sng hea lat tap tpd her flt vlu bit lon cel btw x3) gX6_say_X6_isWords rfl hdX6_isWords ⟨rfl, rfl⟩ ⟨Nat.le_of_ble_eq_true rfl, Nat.le_of_ble_eq_true rfl⟩ ⟨Nat.zero_le _, Nat.zero_le _⟩ rfl hl.1 rfl (Nat.le_of_ble_eq_true rfl) dX6_say_37 (fun H locs hP hS => ?_)
        refine lv_if_ne (tgt := 49) hx hb dX6_say_40 (by decide) (fun c40 => ?_) (fun c40 => ?_)
        · have hres := (itl hres).2 c40
          refine lv_aload_n hx hb dX6_say_49 rfl (lv_at hl 0 rfl) ?_
          refine lv_iload_n hx hb dX6_say_50 rfl (lv_at hl 2 rfl) ?_
          refine lv_iload_n hx hb dX6_say_51 rfl (lv_at hl 3 rfl) ?_
          obtain ⟨q52, e52, hres⟩ := obd hres
          refine cvI (q0 := 0) (ci := 6) hx hb hml hown hts hEo hE hK hP hS (kX6_says l D a cI cJ cS hd hEo sv kep bef isk fnd man nex wor sng hea lat tap tpd her flt vlu bit lon cel btw x2 x3 q52 e52) gX6_say_X6_says rfl hdX6_says rfl rfl rfl ⟨rfl, rfl⟩ ⟨Nat.le_of_ble_eq_true rfl, Nat.le_of_ble_eq_true rfl⟩ ⟨Nat.zero_le _, Nat.zero_le _⟩ rfl hl.1 rfl (Nat.le_of_ble_eq_true rfl) dX6_say_52 (fun H locs hP hS => ?_)
          refine lv_if_ne (tgt := 64) hx hb dX6_say_55 (by decide) (fun c55 => ?_) (fun c55 => ?_)
          · have hres := (itl hres).2 c55
            refine lv_aload_n hx hb dX6_say_64 rfl (lv_at hl 0 rfl) ?_
            refine gM_this6_longs hx hb hown hw6 hK hP u2 dX6_say_65 ?_
            refine lv_iload_n hx hb dX6_say_68 rfl (lv_at hl 1 rfl) ?_
            obtain ⟨i69, hres⟩ := gdi hres
            refine lM_lon hx hb hK hP i69 dX6_say_69 ?_
            refine lv_aload_n hx hb dX6_say_70 rfl (lv_at hl 0 rfl) ?_
            refine lv_iload_n hx hb dX6_say_71 rfl (lv_at hl 2 rfl) ?_
            obtain ⟨q72, e72, hres⟩ := obd hres
            refine cvI (q0 := 0) (ci := 6) hx hb hml hown hts hEo hE hK hP hS (kX6_long_ l D a cI cJ cS hd hEo sv kep bef isk fnd man nex q52.2.1 q52.2.2 hea lat tap tpd her flt vlu bit lon cel btw x2 q72 e72) gX6_say_X6_long_ rfl hdX6_long_ rfl rfl rfl ⟨rfl, rfl⟩ ⟨Nat.le_of_ble_eq_true rfl, Nat.le_of_ble_eq_true rfl⟩ ⟨Nat.zero_le _, Nat.zero_le _⟩ rfl hl.1 rfl (Nat.le_of_ble_eq_true rfl) dX6_say_72 (fun H locs hP hS => ?_)
            refine lv_icmp_ge (tgt := 87) hx hb dX6_say_75 (by decide) (fun c75 => ?_) (fun c75 => ?_)
            · have hres := (itl hres).1 c75
              refine lv_aload_n hx hb dX6_say_87 rfl (lv_at hl 0 rfl) ?_
              refine lv_iload_n hx hb dX6_say_88 rfl (lv_at hl 2 rfl) ?_
              obtain ⟨q89, e89, hres⟩ := obd hres
              refine cvI (q0 := 0) (ci := 6) hx hb hml hown hts hEo hE hK hP hS (kX6_long_ l D a cI cJ cS hd hEo sv kep bef isk fnd man nex q52.2.1 q52.2.2 hea lat tap tpd her flt vlu bit lon cel btw x2 q89 e89) gX6_say_X6_long_ rfl hdX6_long_ rfl rfl rfl ⟨rfl, rfl⟩ ⟨Nat.le_of_ble_eq_true rfl, Nat.le_of_ble_eq_true rfl⟩ ⟨Nat.zero_le _, Nat.zero_le _⟩ rfl hl.1 rfl (Nat.le_of_ble_eq_true rfl) dX6_say_89 (fun H locs hP hS => ?_)
              exact b92 fnd q52.2.1 q52.2.2 cel q89 hres _ _ _ hP hS (lv_sub hl [0, 1] rfl)
            · have hres := (itl hres).2 c75
              refine lv_aload_n hx hb dX6_say_78 rfl (lv_at hl 0 rfl) ?_
              refine gM_this6_longs hx hb hown hw6 hK hP u2 dX6_say_79 ?_
              refine lv_iload_n hx hb dX6_say_82 rfl (lv_at hl 1 rfl) ?_
              obtain ⟨i83, hres⟩ := gdi hres
              refine lM_lon hx hb hK hP i83 dX6_say_83 ?_
              refine lv_goto (tgt := 92) hx hb dX6_say_84 (by decide) ?_
              exact b92 fnd q52.2.1 q52.2.2 cel (lon x1.toNatClampNeg) hres _ _ _ hP hS (lv_sub hl [0, 1] rfl)
          · have hres := (itl hres).1 c55
            refine lv_aload_n hx hb dX6_say_58 rfl (lv_at hl 0 rfl) ?_
            refine lv_iconst (v := 3) hx hb dX6_say_59 (by decide) ?_
            obtain ⟨q60, e60, hres⟩ := obd hres
            refine cvI (q0 := 0) (ci := 6) hx hb hml hown hts hEo hE hK hP hS (kX6_no l D a cI cJ cS hd hEo sv kep bef isk fnd man nex q52.2.1 q52.2.2 hea lat tap tpd her flt vlu bit lon cel btw (3 : Int32) q60 e60) gX6_say_X6_no rfl hdX6_no rfl rfl rfl ⟨rfl, rfl⟩ ⟨Nat.le_of_ble_eq_true rfl, Nat.le_of_ble_eq_true rfl⟩ ⟨Nat.zero_le _, Nat.zero_le _⟩ rfl hl.1 rfl (Nat.le_of_ble_eq_true rfl) dX6_say_60 (fun H locs hP hS => ?_)
            exact hQ ▸ rtI (v := q60.1)  hx hb hr hlk hP hS (by rw [← (Option.some.inj hres)]) (by rw [← (Option.some.inj hres)]) dX6_say_63
        · have hres := (itl hres).1 c40
          exact b43 fnd wor sng cel hres _ _ _ hP hS (lv_sub hl [0] rfl)
    · have hres := (itl hres).1 c19
      refine lv_aload_n hx hb dX6_say_22 rfl (lv_at hl 0 rfl) ?_
      refine lv_iconst (v := 5) hx hb dX6_say_23 (by decide) ?_
      obtain ⟨q24, e24, hres⟩ := obd hres
      refine cvI (q0 := 0) (ci := 6) hx hb hml hown hts hEo hE hK hP hS (kX6_no l D a cI cJ cS hd hEo sv kep bef isk fnd man nex wor sng hea lat tap tpd her flt vlu bit lon cel btw (5 : Int32) q24 e24) gX6_say_X6_no rfl hdX6_no rfl rfl rfl ⟨rfl, rfl⟩ ⟨Nat.le_of_ble_eq_true rfl, Nat.le_of_ble_eq_true rfl⟩ ⟨Nat.zero_le _, Nat.zero_le _⟩ rfl hl.1 rfl (Nat.le_of_ble_eq_true rfl) dX6_say_24 (fun H locs hP hS => ?_)
      exact hQ ▸ rtI (v := q24.1)  hx hb hr hlk hP hS (by rw [← (Option.some.inj hres)]) (by rw [← (Option.some.inj hres)]) dX6_say_27
  · have hres := (itl hres).1 c4
    refine lv_aload_n hx hb dX6_say_7 rfl (lv_at hl 0 rfl) ?_
    refine lv_iconst (v := 0) hx hb dX6_say_8 (by decide) ?_
    obtain ⟨q9, e9, hres⟩ := obd hres
    refine cvI (q0 := 0) (ci := 6) hx hb hml hown hts hEo hE hK hP hS (kX6_no l D a cI cJ cS hd hEo sv kep bef isk fnd man nex wor sng hea lat tap tpd her flt vlu bit lon cel btw (0 : Int32) q9 e9) gX6_say_X6_no rfl hdX6_no rfl rfl rfl ⟨rfl, rfl⟩ ⟨Nat.le_of_ble_eq_true rfl, Nat.le_of_ble_eq_true rfl⟩ ⟨Nat.zero_le _, Nat.zero_le _⟩ rfl hl.1 rfl (Nat.le_of_ble_eq_true rfl) dX6_say_9 (fun H locs hP hS => ?_)
    exact hQ ▸ rtI (v := q9.1)  hx hb hr hlk hP hS (by rw [← (Option.some.inj hres)]) (by rw [← (Option.some.inj hres)]) dX6_say_12
def fX6_isSaid (sv : Nat → Int32) (x1 : Int32) (x2 : Int32) (x3 : Int64) : Option (Bool) :=
 (fX6_long_ sv x1).bind fun q3 => if q3 ≤ x2 then some false else if (lg_cmp x3 (0 : Int64)) < 0 then some false else if 0 ≤ (lg_cmp x3 ((25) : Int64)) then some false else (fX6_nth sv x1 x2).bind fun q27 => (fX6_isLength sv q27 x3.toInt32).bind fun q32 => if (bI q32) = 0 then some false else some true
abbrev rX6_isSaid : Room := { frames := 2, cells := 0, slots := 0, locals := 46 }
set_option maxHeartbeats 4000000 in
set_option maxRecDepth 100000 in
theorem kX6_isSaid (l : Launch) (D : va_G) (a : Nat → Nat) (cI cJ cS : ClassId) (hd : aok a 16) {Env : (Nat → Prop) → State → Heap → Prop} (hEo : envOK Env) (sv kep bef : Nat → Int32) (isk : Int32) (fnd : Nat → Int32) (man nex : Nat → Int64) (wor sng hea lat tap : Nat → Int32) (tpd her flt vlu : Int32) (bit lon : Nat → Int32) (cel btw : Nat → Int64) (x1 : Int32) (x2 : Int32) (x3 : Int64) (res : Bool) (hres : fX6_isSaid sv x1 x2 x3 = some res) : CtI l D (tyL cI cJ cS) 16 a Env yX6_isSaid wsX6_isSaid rX6_isSaid [.ref (a 0), .int x1, .int x2, .long x3] (wM a cI cJ cS sv kep bef isk fnd man nex wor sng hea lat tap tpd her flt vlu bit lon cel btw) (wM a cI cJ cS sv kep bef isk fnd man nex wor sng hea lat tap tpd her flt vlu bit lon cel btw) (bI res) := by
  refine CtI_mk (cc := cX6_isSaid) (maxL := 5) (ret := (some .boolean)) (by decide) rfl (Nat.le_of_ble_eq_true rfl) ?_
  intro p e s m args below meth c ls hx hb hr hlk hml hown hts hP hK hE hl
  have hS : va_S (adA a 16 s.heap.size) s.heap s.heap [] := va_S.rf
  have hl : lv_has ls 5 [(0, .ref (a 0)), (1, .int x1), (2, .int x2), (3, .long x3)] := hl
  have hown : s.vm.findClass RX6 = some m.cls := hown
  have u1 : (Cond.constantLong RX6 290 (25)).before args s = true := hts _ (List.mem_of_getElem? (i := 1) (by decide +kernel))
  obtain ⟨Q, hQ⟩ : ∃ Q, Q = mqI below D 16 a args s (wM a cI cJ cS sv kep bef isk fnd man nex wor sng hea lat tap tpd her flt vlu bit lon cel btw) (bI res) := ⟨_, rfl⟩
  rw [← hQ]
  unfold fX6_isSaid at hres
  refine lv_iload_n hx hb dX6_isSaid_0 rfl (lv_at hl 2 rfl) ?_
  refine lv_aload_n hx hb dX6_isSaid_1 rfl (lv_at hl 0 rfl) ?_
  refine lv_iload_n hx hb dX6_isSaid_2 rfl (lv_at hl 1 rfl) ?_
  obtain ⟨q3, e3, hres⟩ := obd hres
  refine cvI (q0 := 0) (ci := 6) hx hb hml hown hts hEo hE hK hP hS (kX6_long_ l D a cI cJ cS hd hEo sv kep bef isk fnd man nex wor sng hea lat tap tpd her flt vlu bit lon cel btw x1 q3 e3) gX6_isSaid_X6_long_ rfl hdX6_long_ rfl rfl rfl ⟨rfl, rfl⟩ ⟨Nat.le_of_ble_eq_true rfl, Nat.le_of_ble_eq_true rfl⟩ ⟨Nat.zero_le _, Nat.zero_le _⟩ rfl hl.1 rfl (Nat.le_of_ble_eq_true rfl) dX6_isSaid_3 (fun H locs hP hS => ?_)
  refine lv_icmp_ge (tgt := 42) hx hb dX6_isSaid_6 (by decide) (fun c6 => ?_) (fun c6 => ?_)
  · have hres := (itl hres).1 c6
    refine lv_iconst (v := 0) hx hb dX6_isSaid_42 (by decide) ?_
    exact hQ ▸ rtZ (v := false)  hx hb hr hlk hP hS (by rw [← (Option.some.inj hres)]) rfl dX6_isSaid_43
  · have hres := (itl hres).2 c6
    refine lv_lload_n hx hb dX6_isSaid_9 rfl (lv_at hl 3 rfl) ?_
    refine lv_lconst (v := 0) hx hb dX6_isSaid_10 (by decide) ?_
    refine W.lcmp hx hb dX6_isSaid_11 ?_
    refine lv_if_lt (tgt := 42) hx hb dX6_isSaid_12 (by decide) (fun c12 => ?_) (fun c12 => ?_)
    · have hres := (itl hres).1 c12
      refine lv_iconst (v := 0) hx hb dX6_isSaid_42 (by decide) ?_
      exact hQ ▸ rtZ (v := false)  hx hb hr hlk hP hS (by rw [← (Option.some.inj hres)]) rfl dX6_isSaid_43
    · have hres := (itl hres).2 c12
      refine lv_lload_n hx hb dX6_isSaid_15 rfl (lv_at hl 3 rfl) ?_
      refine lv_ldc2 hx hb hown u1 dX6_isSaid_16 ?_
      refine W.lcmp hx hb dX6_isSaid_19 ?_
      refine lv_if_ge (tgt := 42) hx hb dX6_isSaid_20 (by decide) (fun c20 => ?_) (fun c20 => ?_)
      · have hres := (itl hres).1 c20
        refine lv_iconst (v := 0) hx hb dX6_isSaid_42 (by decide) ?_
        exact hQ ▸ rtZ (v := false)  hx hb hr hlk hP hS (by rw [← (Option.some.inj hres)]) rfl dX6_isSaid_43
      · have hres := (itl hres).2 c20
        refine lv_aload_n hx hb dX6_isSaid_23 rfl (lv_at hl 0 rfl) ?_
        refine lv_aload_n hx hb dX6_isSaid_24 rfl (lv_at hl 0 rfl) ?_
        refine lv_iload_n hx hb dX6_isSaid_25 rfl (lv_at hl 1 rfl) ?_
        refine lv_iload_n hx hb dX6_isSaid_26 rfl (lv_at hl 2 rfl) ?_
        obtain ⟨q27, e27, hres⟩ := obd hres
        refine cvI (q0 := 0) (ci := 6) hx hb hml hown hts hEo hE hK hP hS (kX6_nth l D a cI cJ cS hd hEo sv kep bef isk fnd man nex wor sng hea lat tap tpd her flt vlu bit lon cel btw x1 x2 q27 e27) gX6_isSaid_X6_nth rfl hdX6_nth rfl rfl rfl ⟨rfl, rfl⟩ ⟨Nat.le_of_ble_eq_true rfl, Nat.le_of_ble_eq_true rfl⟩ ⟨Nat.zero_le _, Nat.zero_le _⟩ rfl hl.1 rfl (Nat.le_of_ble_eq_true rfl) dX6_isSaid_27 (fun H locs hP hS => ?_)
        refine lv_lload_n hx hb dX6_isSaid_30 rfl (lv_at hl 3 rfl) ?_
        refine lv_l2i hx hb dX6_isSaid_31 rfl ?_
        obtain ⟨q32, e32, hres⟩ := obd hres
        refine cvI (q0 := 0) (ci := 6) hx hb hml hown hts hEo hE hK hP hS (kX6_isLength l D a cI cJ cS hd hEo sv kep bef isk fnd man nex wor sng hea lat tap tpd her flt vlu bit lon cel btw q27 x3.toInt32 q32 e32) gX6_isSaid_X6_isLength rfl hdX6_isLength rfl rfl rfl ⟨rfl, rfl⟩ ⟨Nat.le_of_ble_eq_true rfl, Nat.le_of_ble_eq_true rfl⟩ ⟨Nat.zero_le _, Nat.zero_le _⟩ rfl hl.1 rfl (Nat.le_of_ble_eq_true rfl) dX6_isSaid_32 (fun H locs hP hS => ?_)
        refine lv_if_eq (tgt := 42) hx hb dX6_isSaid_35 (by decide) (fun c35 => ?_) (fun c35 => ?_)
        · have hres := (itl hres).1 c35
          refine lv_iconst (v := 0) hx hb dX6_isSaid_42 (by decide) ?_
          exact hQ ▸ rtZ (v := false)  hx hb hr hlk hP hS (by rw [← (Option.some.inj hres)]) rfl dX6_isSaid_43
        · have hres := (itl hres).2 c35
          refine lv_iconst (v := 1) hx hb dX6_isSaid_38 (by decide) ?_
          refine lv_goto (tgt := 43) hx hb dX6_isSaid_39 (by decide) ?_
          exact hQ ▸ rtZ (v := true)  hx hb hr hlk hP hS (by rw [← (Option.some.inj hres)]) rfl dX6_isSaid_43
