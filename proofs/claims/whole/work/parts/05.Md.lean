def fX6_chain_l37 (sv : Nat → Int32) (fnd : Nat → Int32) (x1 : Int32) (K37 : Int32 → Int32 → (Nat → Int64) → (Nat → Int64) → Option (Int32 × (Nat → Int32) × (Nat → Int64) × (Nat → Int64))) (x2 : Int32) (x3 : Int32) (man : Nat → Int64) (nex : Nat → Int64) : Option (Int32 × (Nat → Int32) × (Nat → Int64) × (Nat → Int64)) :=
  if (sv (3 : Int32).toNatClampNeg) ≤ x3 then some (x2, fnd, man, nex) else (fX6_passed sv man nex x1 x2 x3).bind fun q51 => K37 q51.1 (x3 + 1) q51.2.1 q51.2.2
def fX6_chain (sv : Nat → Int32) (fnd : Nat → Int32) (man : Nat → Int64) (nex : Nat → Int64) (x1 : Int32) : Option (Int32 × (Nat → Int32) × (Nat → Int64) × (Nat → Int64)) :=
 (fX6_isTale sv x1).bind fun q2 => if (bI q2) = 0 then (fX6_no fnd (0 : Int32)).bind fun q10 => some (q10.1, q10.2, man, nex) else if (sv (3 : Int32).toNatClampNeg) = 0 then (fX6_no fnd (3 : Int32)).bind fun q25 => some (q25.1, q25.2, man, nex) else (fX6_long_ sv x1).bind fun q31 => fix4 (fX6_chain_l37 sv fnd x1) 2000 q31 (0 : Int32) man nex
abbrev rX6_chain : Room := { frames := 5, cells := 0, slots := 0, locals := 118 }
set_option maxHeartbeats 4000000 in
set_option maxRecDepth 100000 in
theorem kX6_chain (l : Launch) (D : va_G) (a : Nat → Nat) (cI cJ cS : ClassId) (hd : aok a 16) {Env : (Nat → Prop) → State → Heap → Prop} (hEo : envOK Env) (sv kep bef : Nat → Int32) (isk : Int32) (fnd : Nat → Int32) (man nex : Nat → Int64) (wor sng hea lat tap : Nat → Int32) (tpd her flt vlu : Int32) (bit lon : Nat → Int32) (cel btw : Nat → Int64) (x1 : Int32) (res : Int32 × (Nat → Int32) × (Nat → Int64) × (Nat → Int64)) (hres : fX6_chain sv fnd man nex x1 = some res) : CtI l D (tyL cI cJ cS) 16 a Env yX6_chain wsX6_chain rX6_chain [.ref (a 0), .int x1] (wM a cI cJ cS sv kep bef isk fnd man nex wor sng hea lat tap tpd her flt vlu bit lon cel btw) (wM a cI cJ cS sv kep bef isk res.2.1 res.2.2.1 res.2.2.2 wor sng hea lat tap tpd her flt vlu bit lon cel btw) res.1 := by
  refine CtI_mk (cc := cX6_chain) (maxL := 4) (ret := (some .int)) (by decide) rfl (Nat.le_of_ble_eq_true rfl) ?_
  intro p e s m args below meth c ls hx hb hr hlk hml hown hts hP hK hE hl
  have hS : va_S (adA a 16 s.heap.size) s.heap s.heap [] := va_S.rf
  have hl : lv_has ls 4 [(0, .ref (a 0)), (1, .int x1)] := hl
  have hown : s.vm.findClass RX6 = some m.cls := hown
  have hw6 : ∀ w ∈ wsX60, w.before args s = true := fun w h => hts w (List.mem_cons_of_mem _ (List.mem_append_right _ h))
  have u1 : (Cond.fieldLink RX6 9 "YearWordsModel" "s" "[I").before args s = true := hts _ (List.mem_of_getElem? (i := 1) (by decide +kernel))
  obtain ⟨Q, hQ⟩ : ∃ Q, Q = mqI below D 16 a args s (wM a cI cJ cS sv kep bef isk res.2.1 res.2.2.1 res.2.2.2 wor sng hea lat tap tpd her flt vlu bit lon cel btw) res.1 := ⟨_, rfl⟩
  rw [← hQ]
  have b37 : ∀ (fnd : Nat → Int32) (n : Nat) (x2 : Int32) (x3 : Int32) (man : Nat → Int64) (nex : Nat → Int64), fix4 (fX6_chain_l37 sv fnd x1) n x2 x3 man nex = some res → ∀ (H : Heap) (locs : List Loc) (ls : Array Slot), va_P D vwCl (wM a cI cJ cS sv kep bef isk fnd man nex wor sng hea lat tap tpd her flt vlu bit lon cel btw) H → va_S (adA a 16 s.heap.size) s.heap H locs → lv_has ls 4 [(0, .ref (a 0)), (1, .int x1), (2, .int x2), (3, .int x3)] → W p l e rX6_chain s m args below meth c H locs 0 0 Q (F0 m 37 ls []) := by
    intro fnd
    refine fix4_r ?_
    intro K37 hK37 x2 x3 man nex hres H locs ls hP hS hl
    unfold fX6_chain_l37 at hres
    refine lv_iload_n hx hb dX6_chain_37 rfl (lv_at hl 3 rfl) ?_
    refine lv_aload_n hx hb dX6_chain_38 rfl (lv_at hl 0 rfl) ?_
    refine gM_this6_s hx hb hown hw6 hK hP u1 dX6_chain_39 ?_
    refine lv_iconst (v := 3) hx hb dX6_chain_42 (by decide) ?_
    have i43 : vp_in (3 : Int32) 166 := ib_in (by decide)
    refine lM_sv hx hb hK hP i43 dX6_chain_43 ?_
    refine lv_icmp_ge (tgt := 61) hx hb dX6_chain_44 (by decide) (fun c44 => ?_) (fun c44 => ?_)
    · have hres := (itl hres).1 c44
      refine lv_iload_n hx hb dX6_chain_61 rfl (lv_at hl 2 rfl) ?_
      exact hQ ▸ rtI (v := x2)  hx hb hr hlk hP hS (by rw [← (Option.some.inj hres)]) (by rw [← (Option.some.inj hres)]) dX6_chain_62
    · have hres := (itl hres).2 c44
      refine lv_aload_n hx hb dX6_chain_47 rfl (lv_at hl 0 rfl) ?_
      refine lv_iload_n hx hb dX6_chain_48 rfl (lv_at hl 1 rfl) ?_
      refine lv_iload_n hx hb dX6_chain_49 rfl (lv_at hl 2 rfl) ?_
      refine lv_iload_n hx hb dX6_chain_50 rfl (lv_at hl 3 rfl) ?_
      obtain ⟨q51, e51, hres⟩ := obd hres
      refine cvI (q0 := 0) (ci := 6) hx hb hml hown hts hEo hE hK hP hS (kX6_passed l D a cI cJ cS hd hEo sv kep bef isk fnd man nex wor sng hea lat tap tpd her flt vlu bit lon cel btw x1 x2 x3 q51 e51) gX6_chain_X6_passed rfl hdX6_passed rfl rfl rfl ⟨rfl, rfl⟩ ⟨Nat.le_of_ble_eq_true rfl, Nat.le_of_ble_eq_true rfl⟩ ⟨Nat.zero_le _, Nat.zero_le _⟩ rfl hl.1 rfl (Nat.le_of_ble_eq_true rfl) dX6_chain_51 (fun H locs hP hS => ?_)
      refine lv_istore_n (lv' := [(2, .int q51.1), (0, .ref (a 0)), (1, .int x1), (3, .int x3)]) hx hb dX6_chain_54 rfl hl (by decide) rfl (fun ls hl => ?_)
      refine lv_iinc (v := x3 + 1) (lv' := [(3, .int (x3 + 1)), (2, .int q51.1), (0, .ref (a 0)), (1, .int x1)]) hx hb dX6_chain_55 hl (k := 3) rfl (congrArg (fun z => x3 + z) (by decide)) (by decide) rfl (fun ls hl => ?_)
      refine lv_goto (tgt := 37) hx hb dX6_chain_58 (by decide) ?_
      exact hK37 q51.1 (x3 + 1) q51.2.1 q51.2.2 hres _ _ _ hP hS (lv_sub hl [2, 3, 1, 0] rfl)
  unfold fX6_chain at hres
  refine lv_aload_n hx hb dX6_chain_0 rfl (lv_at hl 0 rfl) ?_
  refine lv_iload_n hx hb dX6_chain_1 rfl (lv_at hl 1 rfl) ?_
  obtain ⟨q2, e2, hres⟩ := obd hres
  refine cvI (q0 := 0) (ci := 6) hx hb hml hown hts hEo hE hK hP hS (kX6_isTale l D a cI cJ cS hd hEo sv kep bef isk fnd man nex wor sng hea lat tap tpd her flt vlu bit lon cel btw x1 q2 e2) gX6_chain_X6_isTale rfl hdX6_isTale rfl rfl rfl ⟨rfl, rfl⟩ ⟨Nat.le_of_ble_eq_true rfl, Nat.le_of_ble_eq_true rfl⟩ ⟨Nat.zero_le _, Nat.zero_le _⟩ rfl hl.1 rfl (Nat.le_of_ble_eq_true rfl) dX6_chain_2 (fun H locs hP hS => ?_)
  refine lv_if_ne (tgt := 14) hx hb dX6_chain_5 (by decide) (fun c5 => ?_) (fun c5 => ?_)
  · have hres := (itl hres).2 c5
    refine lv_aload_n hx hb dX6_chain_14 rfl (lv_at hl 0 rfl) ?_
    refine gM_this6_s hx hb hown hw6 hK hP u1 dX6_chain_15 ?_
    refine lv_iconst (v := 3) hx hb dX6_chain_18 (by decide) ?_
    have i19 : vp_in (3 : Int32) 166 := ib_in (by decide)
    refine lM_sv hx hb hK hP i19 dX6_chain_19 ?_
    refine lv_if_ne (tgt := 29) hx hb dX6_chain_20 (by decide) (fun c20 => ?_) (fun c20 => ?_)
    · have hres := (itl hres).2 c20
      refine lv_aload_n hx hb dX6_chain_29 rfl (lv_at hl 0 rfl) ?_
      refine lv_iload_n hx hb dX6_chain_30 rfl (lv_at hl 1 rfl) ?_
      obtain ⟨q31, e31, hres⟩ := obd hres
      refine cvI (q0 := 0) (ci := 6) hx hb hml hown hts hEo hE hK hP hS (kX6_long_ l D a cI cJ cS hd hEo sv kep bef isk fnd man nex wor sng hea lat tap tpd her flt vlu bit lon cel btw x1 q31 e31) gX6_chain_X6_long_ rfl hdX6_long_ rfl rfl rfl ⟨rfl, rfl⟩ ⟨Nat.le_of_ble_eq_true rfl, Nat.le_of_ble_eq_true rfl⟩ ⟨Nat.zero_le _, Nat.zero_le _⟩ rfl hl.1 rfl (Nat.le_of_ble_eq_true rfl) dX6_chain_31 (fun H locs hP hS => ?_)
      refine lv_istore_n (lv' := [(2, .int q31), (0, .ref (a 0)), (1, .int x1)]) hx hb dX6_chain_34 rfl hl (by decide) rfl (fun ls hl => ?_)
      refine lv_iconst (v := 0) hx hb dX6_chain_35 (by decide) ?_
      refine lv_istore_n (lv' := [(3, .int (0 : Int32)), (2, .int q31), (0, .ref (a 0)), (1, .int x1)]) hx hb dX6_chain_36 rfl hl (by decide) rfl (fun ls hl => ?_)
      exact b37 fnd 2000 q31 (0 : Int32) man nex hres _ _ _ hP hS (lv_sub hl [2, 3, 1, 0] rfl)
    · have hres := (itl hres).1 c20
      refine lv_aload_n hx hb dX6_chain_23 rfl (lv_at hl 0 rfl) ?_
      refine lv_iconst (v := 3) hx hb dX6_chain_24 (by decide) ?_
      obtain ⟨q25, e25, hres⟩ := obd hres
      refine cvI (q0 := 0) (ci := 6) hx hb hml hown hts hEo hE hK hP hS (kX6_no l D a cI cJ cS hd hEo sv kep bef isk fnd man nex wor sng hea lat tap tpd her flt vlu bit lon cel btw (3 : Int32) q25 e25) gX6_chain_X6_no rfl hdX6_no rfl rfl rfl ⟨rfl, rfl⟩ ⟨Nat.le_of_ble_eq_true rfl, Nat.le_of_ble_eq_true rfl⟩ ⟨Nat.zero_le _, Nat.zero_le _⟩ rfl hl.1 rfl (Nat.le_of_ble_eq_true rfl) dX6_chain_25 (fun H locs hP hS => ?_)
      exact hQ ▸ rtI (v := q25.1)  hx hb hr hlk hP hS (by rw [← (Option.some.inj hres)]) (by rw [← (Option.some.inj hres)]) dX6_chain_28
  · have hres := (itl hres).1 c5
    refine lv_aload_n hx hb dX6_chain_8 rfl (lv_at hl 0 rfl) ?_
    refine lv_iconst (v := 0) hx hb dX6_chain_9 (by decide) ?_
    obtain ⟨q10, e10, hres⟩ := obd hres
    refine cvI (q0 := 0) (ci := 6) hx hb hml hown hts hEo hE hK hP hS (kX6_no l D a cI cJ cS hd hEo sv kep bef isk fnd man nex wor sng hea lat tap tpd her flt vlu bit lon cel btw (0 : Int32) q10 e10) gX6_chain_X6_no rfl hdX6_no rfl rfl rfl ⟨rfl, rfl⟩ ⟨Nat.le_of_ble_eq_true rfl, Nat.le_of_ble_eq_true rfl⟩ ⟨Nat.zero_le _, Nat.zero_le _⟩ rfl hl.1 rfl (Nat.le_of_ble_eq_true rfl) dX6_chain_10 (fun H locs hP hS => ?_)
    exact hQ ▸ rtI (v := q10.1)  hx hb hr hlk hP hS (by rw [← (Option.some.inj hres)]) (by rw [← (Option.some.inj hres)]) dX6_chain_13
def fX6_isNear_b78 (K6 : Bool → Int32 → Option (Bool)) (x5 : Int32) (z0 : Bool) : Option (Bool) :=
  K6 z0 (x5 + 1)
def fX6_isNear_b77 (K6 : Bool → Int32 → Option (Bool)) (x5 : Int32) : Option (Bool) :=
  fX6_isNear_b78 K6 x5 false
def fX6_isNear_b69 (K6 : Bool → Int32 → Option (Bool)) (x3 : Int32) (x5 : Int32) (z0 : Int32) : Option (Bool) :=
  if x3 < z0 then fX6_isNear_b77 K6 x5 else fX6_isNear_b78 K6 x5 true
def fX6_isNear_l6 (sv : Nat → Int32) (x1 : Int32) (x2 : Int32) (x3 : Int32) (K6 : Bool → Int32 → Option (Bool)) (x4 : Bool) (x5 : Int32) : Option (Bool) :=
  if (sv (3 : Int32).toNatClampNeg) ≤ x5 then some x4 else if (bI x4) = 0 then gd (ib ((156 : Int32) + x1) 166) (gd (ib ((156 : Int32) + x5) 166) (if ((x2 >>> (x5 &&& 31)) &&& (1 : Int32)) = (1 : Int32) then if 0 ≤ ((sv ((156 : Int32) + x1).toNatClampNeg) - (sv ((156 : Int32) + x5).toNatClampNeg)) then fX6_isNear_b69 K6 x3 x5 ((sv ((156 : Int32) + x1).toNatClampNeg) - (sv ((156 : Int32) + x5).toNatClampNeg)) else fX6_isNear_b69 K6 x3 x5 (-((sv ((156 : Int32) + x1).toNatClampNeg) - (sv ((156 : Int32) + x5).toNatClampNeg))) else fX6_isNear_b77 K6 x5)) else some x4
def fX6_isNear (sv : Nat → Int32) (x1 : Int32) (x2 : Int32) (x3 : Int32) : Option (Bool) :=
  fix2 (fX6_isNear_l6 sv x1 x2 x3) 2000 false (0 : Int32)
abbrev rX6_isNear : Room := { frames := 0, cells := 0, slots := 0, locals := 0 }
set_option maxHeartbeats 4000000 in
set_option maxRecDepth 100000 in
theorem kX6_isNear (l : Launch) (D : va_G) (a : Nat → Nat) (cI cJ cS : ClassId) (hd : aok a 16) {Env : (Nat → Prop) → State → Heap → Prop} (hEo : envOK Env) (sv kep bef : Nat → Int32) (isk : Int32) (fnd : Nat → Int32) (man nex : Nat → Int64) (wor sng hea lat tap : Nat → Int32) (tpd her flt vlu : Int32) (bit lon : Nat → Int32) (cel btw : Nat → Int64) (x1 : Int32) (x2 : Int32) (x3 : Int32) (res : Bool) (hres : fX6_isNear sv x1 x2 x3 = some res) : CtI l D (tyL cI cJ cS) 16 a Env yX6_isNear wsX6_isNear rX6_isNear [.ref (a 0), .int x1, .int x2, .int x3] (wM a cI cJ cS sv kep bef isk fnd man nex wor sng hea lat tap tpd her flt vlu bit lon cel btw) (wM a cI cJ cS sv kep bef isk fnd man nex wor sng hea lat tap tpd her flt vlu bit lon cel btw) (bI res) := by
  refine CtI_mk (cc := cX6_isNear) (maxL := 7) (ret := (some .boolean)) (by decide) rfl (Nat.le_of_ble_eq_true rfl) ?_
  intro p e s m args below meth c ls hx hb hr hlk hml hown hts hP hK hE hl
  have hS : va_S (adA a 16 s.heap.size) s.heap s.heap [] := va_S.rf
  have hl : lv_has ls 7 [(0, .ref (a 0)), (1, .int x1), (2, .int x2), (3, .int x3)] := hl
  have hown : s.vm.findClass RX6 = some m.cls := hown
  have hw6 : ∀ w ∈ wsX60, w.before args s = true := fun w h => hts w (List.mem_cons_of_mem _ (List.mem_append_right _ h))
  have u1 : (Cond.fieldLink RX6 9 "YearWordsModel" "s" "[I").before args s = true := hts _ (List.mem_of_getElem? (i := 1) (by decide +kernel))
  obtain ⟨Q, hQ⟩ : ∃ Q, Q = mqI below D 16 a args s (wM a cI cJ cS sv kep bef isk fnd man nex wor sng hea lat tap tpd her flt vlu bit lon cel btw) (bI res) := ⟨_, rfl⟩
  rw [← hQ]
  have b6 : ∀  (n : Nat) (x4 : Bool) (x5 : Int32), fix2 (fX6_isNear_l6 sv x1 x2 x3) n x4 x5 = some res → ∀ (H : Heap) (locs : List Loc) (ls : Array Slot), va_P D vwCl (wM a cI cJ cS sv kep bef isk fnd man nex wor sng hea lat tap tpd her flt vlu bit lon cel btw) H → va_S (adA a 16 s.heap.size) s.heap H locs → lv_has ls 7 [(0, .ref (a 0)), (1, .int x1), (2, .int x2), (3, .int x3), (4, .int (bI x4)), (5, .int x5)] → W p l e rX6_isNear s m args below meth c H locs 0 0 Q (F0 m 6 ls []) := by
    refine fix2_r ?_
    intro K6 hK6 x4 x5 hres H locs ls hP hS hl
    have b78 : ∀ (x5 : Int32) (z0 : Bool), fX6_isNear_b78 K6 x5 z0 = some res → ∀ (H : Heap) (locs : List Loc) (ls : Array Slot), va_P D vwCl (wM a cI cJ cS sv kep bef isk fnd man nex wor sng hea lat tap tpd her flt vlu bit lon cel btw) H → va_S (adA a 16 s.heap.size) s.heap H locs → lv_has ls 7 [(0, .ref (a 0)), (1, .int x1), (2, .int x2), (3, .int x3), (5, .int x5)] → W p l e rX6_isNear s m args below meth c H locs 0 0 Q (F0 m 78 ls [.int (bI z0)]) := by
      intro x5 z0 hres H locs ls hP hS hl
      unfold fX6_isNear_b78 at hres
      refine lv_istore (lv' := [(4, .int (bI z0)), (0, .ref (a 0)), (1, .int x1), (2, .int x2), (3, .int x3), (5, .int x5)]) hx hb dX6_isNear_78 hl (by decide) rfl (fun ls hl => ?_)
      refine lv_iinc (v := x5 + 1) (lv' := [(5, .int (x5 + 1)), (4, .int (bI z0)), (0, .ref (a 0)), (1, .int x1), (2, .int x2), (3, .int x3)]) hx hb dX6_isNear_80 hl (k := 5) rfl (congrArg (fun z => x5 + z) (by decide)) (by decide) rfl (fun ls hl => ?_)
      refine lv_goto (tgt := 6) hx hb dX6_isNear_83 (by decide) ?_
      exact hK6 z0 (x5 + 1) hres _ _ _ hP hS (lv_sub hl [2, 3, 4, 5, 1, 0] rfl)
    have b77 : ∀ (x5 : Int32), fX6_isNear_b77 K6 x5 = some res → ∀ (H : Heap) (locs : List Loc) (ls : Array Slot), va_P D vwCl (wM a cI cJ cS sv kep bef isk fnd man nex wor sng hea lat tap tpd her flt vlu bit lon cel btw) H → va_S (adA a 16 s.heap.size) s.heap H locs → lv_has ls 7 [(0, .ref (a 0)), (1, .int x1), (2, .int x2), (3, .int x3), (5, .int x5)] → W p l e rX6_isNear s m args below meth c H locs 0 0 Q (F0 m 77 ls []) := by
      intro x5 hres H locs ls hP hS hl
      unfold fX6_isNear_b77 at hres
      refine lv_iconst (v := 0) hx hb dX6_isNear_77 (by decide) ?_
      exact b78 x5 false hres _ _ _ hP hS (lv_sub hl [0, 1, 2, 3, 4] rfl)
    have b69 : ∀ (x5 : Int32) (z0 : Int32), fX6_isNear_b69 K6 x3 x5 z0 = some res → ∀ (H : Heap) (locs : List Loc) (ls : Array Slot), va_P D vwCl (wM a cI cJ cS sv kep bef isk fnd man nex wor sng hea lat tap tpd her flt vlu bit lon cel btw) H → va_S (adA a 16 s.heap.size) s.heap H locs → lv_has ls 7 [(0, .ref (a 0)), (1, .int x1), (2, .int x2), (3, .int x3), (5, .int x5)] → W p l e rX6_isNear s m args below meth c H locs 0 0 Q (F0 m 69 ls [.int z0]) := by
      intro x5 z0 hres H locs ls hP hS hl
      unfold fX6_isNear_b69 at hres
      refine lv_iload_n hx hb dX6_isNear_69 rfl (lv_at hl 3 rfl) ?_
      refine lv_icmp_gt (tgt := 77) hx hb dX6_isNear_70 (by decide) (fun c70 => ?_) (fun c70 => ?_)
      · have hres := (itl hres).1 c70
        exact b77 x5 hres _ _ _ hP hS (lv_sub hl [0, 1, 2, 3, 4] rfl)
      · have hres := (itl hres).2 c70
        refine lv_iconst (v := 1) hx hb dX6_isNear_73 (by decide) ?_
        refine lv_goto (tgt := 78) hx hb dX6_isNear_74 (by decide) ?_
        exact b78 x5 true hres _ _ _ hP hS (lv_sub hl [0, 1, 2, 3, 4] rfl)
    unfold fX6_isNear_l6 at hres
    refine lv_iload hx hb dX6_isNear_6 (lv_at hl 5 rfl) ?_
    refine lv_aload_n hx hb dX6_isNear_8 rfl (lv_at hl 0 rfl) ?_
    refine gM_this6_s hx hb hown hw6 hK hP u1 dX6_isNear_9 ?_
    refine lv_iconst (v := 3) hx hb dX6_isNear_12 (by decide) ?_
    have i13 : vp_in (3 : Int32) 166 := ib_in (by decide)
    refine lM_sv hx hb hK hP i13 dX6_isNear_13 ?_
    refine lv_icmp_ge (tgt := 86) hx hb dX6_isNear_14 (by decide) (fun c14 => ?_) (fun c14 => ?_)
    · have hres := (itl hres).1 c14
      refine lv_iload hx hb dX6_isNear_86 (lv_at hl 4 rfl) ?_
      exact hQ ▸ rtZ (v := x4)  hx hb hr hlk hP hS (by rw [← (Option.some.inj hres)]) rfl dX6_isNear_88
    · have hres := (itl hres).2 c14
      refine lv_iload hx hb dX6_isNear_17 (lv_at hl 4 rfl) ?_
      refine lv_if_ne (tgt := 86) hx hb dX6_isNear_19 (by decide) (fun c19 => ?_) (fun c19 => ?_)
      · have hres := (itl hres).2 c19
        refine lv_iload hx hb dX6_isNear_86 (lv_at hl 4 rfl) ?_
        exact hQ ▸ rtZ (v := x4)  hx hb hr hlk hP hS (by rw [← (Option.some.inj hres)]) rfl dX6_isNear_88
      · have hres := (itl hres).1 c19
        refine lv_aload_n hx hb dX6_isNear_22 rfl (lv_at hl 0 rfl) ?_
        refine gM_this6_s hx hb hown hw6 hK hP u1 dX6_isNear_23 ?_
        refine lv_sipush (v := 156) hx hb dX6_isNear_26 (by decide) ?_
        refine lv_iload_n hx hb dX6_isNear_29 rfl (lv_at hl 1 rfl) ?_
        refine lv_iadd hx hb dX6_isNear_30 ?_
        obtain ⟨i31, hres⟩ := gdi hres
        refine lM_sv hx hb hK hP i31 dX6_isNear_31 ?_
        refine lv_aload_n hx hb dX6_isNear_32 rfl (lv_at hl 0 rfl) ?_
        refine gM_this6_s hx hb hown hw6 hK hP u1 dX6_isNear_33 ?_
        refine lv_sipush (v := 156) hx hb dX6_isNear_36 (by decide) ?_
        refine lv_iload hx hb dX6_isNear_39 (lv_at hl 5 rfl) ?_
        refine lv_iadd hx hb dX6_isNear_41 ?_
        obtain ⟨i42, hres⟩ := gdi hres
        refine lM_sv hx hb hK hP i42 dX6_isNear_42 ?_
        refine lv_isub hx hb dX6_isNear_43 ?_
        refine lv_istore (lv' := [(6, .int ((sv ((156 : Int32) + x1).toNatClampNeg) - (sv ((156 : Int32) + x5).toNatClampNeg))), (0, .ref (a 0)), (1, .int x1), (2, .int x2), (3, .int x3), (4, .int (bI x4)), (5, .int x5)]) hx hb dX6_isNear_44 hl (by decide) rfl (fun ls hl => ?_)
        refine lv_iload_n hx hb dX6_isNear_46 rfl (lv_at hl 3 rfl) ?_
        refine lv_iload hx hb dX6_isNear_47 (lv_at hl 6 rfl) ?_
        refine lv_ishr hx hb dX6_isNear_49 ?_
        refine lv_iconst (v := 1) hx hb dX6_isNear_50 (by decide) ?_
        refine lv_iand hx hb dX6_isNear_51 ?_
        refine lv_iconst (v := 1) hx hb dX6_isNear_52 (by decide) ?_
        refine lv_icmp_ne (tgt := 77) hx hb dX6_isNear_53 (by decide) (fun c53 => ?_) (fun c53 => ?_)
        · have hres := (itl hres).2 c53
          exact b77 x5 hres _ _ _ hP hS (lv_sub hl [1, 2, 3, 4, 6] rfl)
        · have hres := (itl hres).1 c53
          refine lv_iload hx hb dX6_isNear_56 (lv_at hl 0 rfl) ?_
          refine lv_if_ge (tgt := 67) hx hb dX6_isNear_58 (by decide) (fun c58 => ?_) (fun c58 => ?_)
          · have hres := (itl hres).1 c58
            refine lv_iload hx hb dX6_isNear_67 (lv_at hl 0 rfl) ?_
            exact b69 x5 ((sv ((156 : Int32) + x1).toNatClampNeg) - (sv ((156 : Int32) + x5).toNatClampNeg)) hres _ _ _ hP hS (lv_sub hl [1, 2, 3, 4, 6] rfl)
          · have hres := (itl hres).2 c58
            refine lv_iload hx hb dX6_isNear_61 (lv_at hl 0 rfl) ?_
            refine lv_ineg hx hb dX6_isNear_63 ?_
            refine lv_goto (tgt := 69) hx hb dX6_isNear_64 (by decide) ?_
            exact b69 x5 (-((sv ((156 : Int32) + x1).toNatClampNeg) - (sv ((156 : Int32) + x5).toNatClampNeg))) hres _ _ _ hP hS (lv_sub hl [1, 2, 3, 4, 6] rfl)
  unfold fX6_isNear at hres
  refine lv_iconst (v := 0) hx hb dX6_isNear_0 (by decide) ?_
  refine lv_istore (lv' := [(4, .int (0 : Int32)), (0, .ref (a 0)), (1, .int x1), (2, .int x2), (3, .int x3)]) hx hb dX6_isNear_1 hl (by decide) rfl (fun ls hl => ?_)
  refine lv_iconst (v := 0) hx hb dX6_isNear_3 (by decide) ?_
  refine lv_istore (lv' := [(5, .int (0 : Int32)), (4, .int (0 : Int32)), (0, .ref (a 0)), (1, .int x1), (2, .int x2), (3, .int x3)]) hx hb dX6_isNear_4 hl (by decide) rfl (fun ls hl => ?_)
  exact b6  2000 false (0 : Int32) hres _ _ _ hP hS (lv_sub hl [2, 3, 4, 5, 1, 0] rfl)
def fX6_spread_b15 (fnd : Nat → Int32) (man : Nat → Int64) (nex : Nat → Int64) : Option (Int32 × (Nat → Int32) × (Nat → Int64) × (Nat → Int64)) :=
 (fX6_no fnd (0 : Int32)).bind fun q17 => some (q17.1, q17.2, man, nex)
def fX6_spread_b105 (K62 : Int32 → Int32 → Option (Int32 × (Nat → Int32) × (Nat → Int64) × (Nat → Int64))) (x7 : Int32) (z0 : Int32) (z1 : Int32) : Option (Int32 × (Nat → Int32) × (Nat → Int64) × (Nat → Int64)) :=
  K62 (z0 ||| z1) (x7 + 1)
def fX6_spread_b104 (K62 : Int32 → Int32 → Option (Int32 × (Nat → Int32) × (Nat → Int64) × (Nat → Int64))) (x7 : Int32) (z0 : Int32) : Option (Int32 × (Nat → Int32) × (Nat → Int64) × (Nat → Int64)) :=
  fX6_spread_b105 K62 x7 z0 (0 : Int32)
def fX6_spread_b114 (K48 : Int32 → Int32 → Option (Int32 × (Nat → Int32) × (Nat → Int64) × (Nat → Int64))) (x5 : Int32) (x6 : Int32) : Option (Int32 × (Nat → Int32) × (Nat → Int64) × (Nat → Int64)) :=
  K48 x6 (x5 + 1)
def fX6_spread_l62 (K48 : Int32 → Int32 → Option (Int32 × (Nat → Int32) × (Nat → Int64) × (Nat → Int64))) (sv : Nat → Int32) (x2 : Int32) (x3 : Int32) (x4 : Int32) (x5 : Int32) (K62 : Int32 → Int32 → Option (Int32 × (Nat → Int32) × (Nat → Int64) × (Nat → Int64))) (x6 : Int32) (x7 : Int32) : Option (Int32 × (Nat → Int32) × (Nat → Int64) × (Nat → Int64)) :=
  if (sv (3 : Int32).toNatClampNeg) ≤ x7 then fX6_spread_b114 K48 x5 x6 else if ((x3 >>> (x7 &&& 31)) &&& (1 : Int32)) = (1 : Int32) then (fX6_isNear sv x7 x4 x2).bind fun q91 => if (bI q91) = 0 then fX6_spread_b104 K62 x7 x6 else fX6_spread_b105 K62 x7 x6 ((1 : Int32) <<< (x7 &&& 31)) else fX6_spread_b104 K62 x7 x6
def fX6_spread_l48 (sv : Nat → Int32) (fnd : Nat → Int32) (man : Nat → Int64) (nex : Nat → Int64) (x2 : Int32) (x3 : Int32) (K48 : Int32 → Int32 → Option (Int32 × (Nat → Int32) × (Nat → Int64) × (Nat → Int64))) (x4 : Int32) (x5 : Int32) : Option (Int32 × (Nat → Int32) × (Nat → Int64) × (Nat → Int64)) :=
  if (10 : Int32) ≤ x5 then some (x4, fnd, man, nex) else fix2 (fX6_spread_l62 K48 sv x2 x3 x4 x5) 2000 x4 (0 : Int32)
def fX6_spread (sv : Nat → Int32) (fnd : Nat → Int32) (man : Nat → Int64) (nex : Nat → Int64) (x1 : Int32) (x2 : Int32) : Option (Int32 × (Nat → Int32) × (Nat → Int64) × (Nat → Int64)) :=
 (fX6_isTale sv x1).bind fun q2 => if (bI q2) = 0 then fX6_spread_b15 fnd man nex else if (bI (fX6_isAge x2)) = 0 then fX6_spread_b15 fnd man nex else if (sv (3 : Int32).toNatClampNeg) = 0 then (fX6_no fnd (3 : Int32)).bind fun q32 => some (q32.1, q32.2, man, nex) else (fX6_toWhom sv man nex x1).bind fun q38 => fix2 (fX6_spread_l48 sv fnd q38.2.1 q38.2.2 x2 q38.1) 2000 (1 : Int32) (0 : Int32)
theorem hdX6_isNear : yX6_isNear.cls = RX6 ∧ yX6_isNear.cls ≠ "java/lang/invoke/MethodHandle" ∧ yX6_isNear.cls ≠ "java/lang/invoke/VarHandle" ∧ (parseMethodDescriptor yX6_isNear.desc).map (fun d => d.parameters.length) = some 3 := by decide +kernel
abbrev rX6_spread : Room := { frames := 4, cells := 0, slots := 0, locals := 94 }
set_option maxHeartbeats 4000000 in
set_option maxRecDepth 100000 in
theorem kX6_spread (l : Launch) (D : va_G) (a : Nat → Nat) (cI cJ cS : ClassId) (hd : aok a 16) {Env : (Nat → Prop) → State → Heap → Prop} (hEo : envOK Env) (sv kep bef : Nat → Int32) (isk : Int32) (fnd : Nat → Int32) (man nex : Nat → Int64) (wor sng hea lat tap : Nat → Int32) (tpd her flt vlu : Int32) (bit lon : Nat → Int32) (cel btw : Nat → Int64) (x1 : Int32) (x2 : Int32) (res : Int32 × (Nat → Int32) × (Nat → Int64) × (Nat → Int64)) (hres : fX6_spread sv fnd man nex x1 x2 = some res) : CtI l D (tyL cI cJ cS) 16 a Env yX6_spread wsX6_spread rX6_spread [.ref (a 0), .int x1, .int x2] (wM a cI cJ cS sv kep bef isk fnd man nex wor sng hea lat tap tpd her flt vlu bit lon cel btw) (wM a cI cJ cS sv kep bef isk res.2.1 res.2.2.1 res.2.2.2 wor sng hea lat tap tpd her flt vlu bit lon cel btw) res.1 := by
  refine CtI_mk (cc := cX6_spread) (maxL := 8) (ret := (some .int)) (by decide) rfl (Nat.le_of_ble_eq_true rfl) ?_
  intro p e s m args below meth c ls hx hb hr hlk hml hown hts hP hK hE hl
  have hS : va_S (adA a 16 s.heap.size) s.heap s.heap [] := va_S.rf
  have hl : lv_has ls 8 [(0, .ref (a 0)), (1, .int x1), (2, .int x2)] := hl
  have hown : s.vm.findClass RX6 = some m.cls := hown
  have hw6 : ∀ w ∈ wsX60, w.before args s = true := fun w h => hts w (List.mem_cons_of_mem _ (List.mem_append_right _ h))
  have u1 : (Cond.fieldLink RX6 9 "YearWordsModel" "s" "[I").before args s = true := hts _ (List.mem_of_getElem? (i := 1) (by decide +kernel))
  obtain ⟨Q, hQ⟩ : ∃ Q, Q = mqI below D 16 a args s (wM a cI cJ cS sv kep bef isk res.2.1 res.2.2.1 res.2.2.2 wor sng hea lat tap tpd her flt vlu bit lon cel btw) res.1 := ⟨_, rfl⟩
  rw [← hQ]
  have b15 : ∀ (fnd : Nat → Int32) (man : Nat → Int64) (nex : Nat → Int64), fX6_spread_b15 fnd man nex = some res → ∀ (H : Heap) (locs : List Loc) (ls : Array Slot), va_P D vwCl (wM a cI cJ cS sv kep bef isk fnd man nex wor sng hea lat tap tpd her flt vlu bit lon cel btw) H → va_S (adA a 16 s.heap.size) s.heap H locs → lv_has ls 8 [(0, .ref (a 0))] → W p l e rX6_spread s m args below meth c H locs 0 0 Q (F0 m 15 ls []) := by
    intro fnd man nex hres H locs ls hP hS hl
    unfold fX6_spread_b15 at hres
    refine lv_aload_n hx hb dX6_spread_15 rfl (lv_at hl 0 rfl) ?_
    refine lv_iconst (v := 0) hx hb dX6_spread_16 (by decide) ?_
    obtain ⟨q17, e17, hres⟩ := obd hres
    refine cvI (q0 := 0) (ci := 6) hx hb hml hown hts hEo hE hK hP hS (kX6_no l D a cI cJ cS hd hEo sv kep bef isk fnd man nex wor sng hea lat tap tpd her flt vlu bit lon cel btw (0 : Int32) q17 e17) gX6_spread_X6_no rfl hdX6_no rfl rfl rfl ⟨rfl, rfl⟩ ⟨Nat.le_of_ble_eq_true rfl, Nat.le_of_ble_eq_true rfl⟩ ⟨Nat.zero_le _, Nat.zero_le _⟩ rfl hl.1 rfl (Nat.le_of_ble_eq_true rfl) dX6_spread_17 (fun H locs hP hS => ?_)
    exact hQ ▸ rtI (v := q17.1)  hx hb hr hlk hP hS (by rw [← (Option.some.inj hres)]) (by rw [← (Option.some.inj hres)]) dX6_spread_20
  have b48 : ∀ (fnd : Nat → Int32) (man : Nat → Int64) (nex : Nat → Int64) (x3 : Int32) (n : Nat) (x4 : Int32) (x5 : Int32), fix2 (fX6_spread_l48 sv fnd man nex x2 x3) n x4 x5 = some res → ∀ (H : Heap) (locs : List Loc) (ls : Array Slot), va_P D vwCl (wM a cI cJ cS sv kep bef isk fnd man nex wor sng hea lat tap tpd her flt vlu bit lon cel btw) H → va_S (adA a 16 s.heap.size) s.heap H locs → lv_has ls 8 [(0, .ref (a 0)), (2, .int x2), (3, .int x3), (4, .int x4), (5, .int x5)] → W p l e rX6_spread s m args below meth c H locs 0 0 Q (F0 m 48 ls []) := by
    intro fnd man nex x3
    refine fix2_r ?_
    intro K48 hK48 x4 x5 hres H locs ls hP hS hl
    have b114 : ∀ (x5 : Int32) (x6 : Int32), fX6_spread_b114 K48 x5 x6 = some res → ∀ (H : Heap) (locs : List Loc) (ls : Array Slot), va_P D vwCl (wM a cI cJ cS sv kep bef isk fnd man nex wor sng hea lat tap tpd her flt vlu bit lon cel btw) H → va_S (adA a 16 s.heap.size) s.heap H locs → lv_has ls 8 [(0, .ref (a 0)), (2, .int x2), (3, .int x3), (5, .int x5), (6, .int x6)] → W p l e rX6_spread s m args below meth c H locs 0 0 Q (F0 m 114 ls []) := by
      intro x5 x6 hres H locs ls hP hS hl
      unfold fX6_spread_b114 at hres
      refine lv_iload hx hb dX6_spread_114 (lv_at hl 4 rfl) ?_
      refine lv_istore (lv' := [(4, .int x6), (0, .ref (a 0)), (2, .int x2), (3, .int x3), (5, .int x5), (6, .int x6)]) hx hb dX6_spread_116 hl (by decide) rfl (fun ls hl => ?_)
      refine lv_iinc (v := x5 + 1) (lv' := [(5, .int (x5 + 1)), (4, .int x6), (0, .ref (a 0)), (2, .int x2), (3, .int x3), (6, .int x6)]) hx hb dX6_spread_118 hl (k := 4) rfl (congrArg (fun z => x5 + z) (by decide)) (by decide) rfl (fun ls hl => ?_)
      refine lv_goto (tgt := 48) hx hb dX6_spread_121 (by decide) ?_
      exact hK48 x6 (x5 + 1) hres _ _ _ hP hS (lv_sub hl [2, 3, 4, 1, 0] rfl)
    have b62 : ∀ (x4 : Int32) (x5 : Int32) (n : Nat) (x6 : Int32) (x7 : Int32), fix2 (fX6_spread_l62 K48 sv x2 x3 x4 x5) n x6 x7 = some res → ∀ (H : Heap) (locs : List Loc) (ls : Array Slot), va_P D vwCl (wM a cI cJ cS sv kep bef isk fnd man nex wor sng hea lat tap tpd her flt vlu bit lon cel btw) H → va_S (adA a 16 s.heap.size) s.heap H locs → lv_has ls 8 [(0, .ref (a 0)), (2, .int x2), (3, .int x3), (4, .int x4), (5, .int x5), (6, .int x6), (7, .int x7)] → W p l e rX6_spread s m args below meth c H locs 0 0 Q (F0 m 62 ls []) := by
      intro x4 x5
      refine fix2_r ?_
      intro K62 hK62 x6 x7 hres H locs ls hP hS hl
      have b105 : ∀ (x7 : Int32) (z0 : Int32) (z1 : Int32), fX6_spread_b105 K62 x7 z0 z1 = some res → ∀ (H : Heap) (locs : List Loc) (ls : Array Slot), va_P D vwCl (wM a cI cJ cS sv kep bef isk fnd man nex wor sng hea lat tap tpd her flt vlu bit lon cel btw) H → va_S (adA a 16 s.heap.size) s.heap H locs → lv_has ls 8 [(0, .ref (a 0)), (2, .int x2), (3, .int x3), (4, .int x4), (5, .int x5), (7, .int x7)] → W p l e rX6_spread s m args below meth c H locs 0 0 Q (F0 m 105 ls [.int z1, .int z0]) := by
        intro x7 z0 z1 hres H locs ls hP hS hl
        unfold fX6_spread_b105 at hres
        refine lv_ior hx hb dX6_spread_105 ?_
        refine lv_istore (lv' := [(6, .int (z0 ||| z1)), (0, .ref (a 0)), (2, .int x2), (3, .int x3), (4, .int x4), (5, .int x5), (7, .int x7)]) hx hb dX6_spread_106 hl (by decide) rfl (fun ls hl => ?_)
        refine lv_iinc (v := x7 + 1) (lv' := [(7, .int (x7 + 1)), (6, .int (z0 ||| z1)), (0, .ref (a 0)), (2, .int x2), (3, .int x3), (4, .int x4), (5, .int x5)]) hx hb dX6_spread_108 hl (k := 6) rfl (congrArg (fun z => x7 + z) (by decide)) (by decide) rfl (fun ls hl => ?_)
        refine lv_goto (tgt := 62) hx hb dX6_spread_111 (by decide) ?_
        exact hK62 (z0 ||| z1) (x7 + 1) hres _ _ _ hP hS (lv_sub hl [2, 3, 4, 5, 6, 1, 0] rfl)
      have b104 : ∀ (x7 : Int32) (z0 : Int32), fX6_spread_b104 K62 x7 z0 = some res → ∀ (H : Heap) (locs : List Loc) (ls : Array Slot), va_P D vwCl (wM a cI cJ cS sv kep bef isk fnd man nex wor sng hea lat tap tpd her flt vlu bit lon cel btw) H → va_S (adA a 16 s.heap.size) s.heap H locs → lv_has ls 8 [(0, .ref (a 0)), (2, .int x2), (3, .int x3), (4, .int x4), (5, .int x5), (7, .int x7)] → W p l e rX6_spread s m args below meth c H locs 0 0 Q (F0 m 104 ls [.int z0]) := by
        intro x7 z0 hres H locs ls hP hS hl
        unfold fX6_spread_b104 at hres
        refine lv_iconst (v := 0) hx hb dX6_spread_104 (by decide) ?_
        exact b105 x7 z0 (0 : Int32) hres _ _ _ hP hS (lv_sub hl [0, 1, 2, 3, 4, 5] rfl)
      unfold fX6_spread_l62 at hres
      refine lv_iload hx hb dX6_spread_62 (lv_at hl 6 rfl) ?_
      refine lv_aload_n hx hb dX6_spread_64 rfl (lv_at hl 0 rfl) ?_
      refine gM_this6_s hx hb hown hw6 hK hP u1 dX6_spread_65 ?_
      refine lv_iconst (v := 3) hx hb dX6_spread_68 (by decide) ?_
      have i69 : vp_in (3 : Int32) 166 := ib_in (by decide)
      refine lM_sv hx hb hK hP i69 dX6_spread_69 ?_
      refine lv_icmp_ge (tgt := 114) hx hb dX6_spread_70 (by decide) (fun c70 => ?_) (fun c70 => ?_)
      · have hres := (itl hres).1 c70
        exact b114 x5 x6 hres _ _ _ hP hS (lv_sub hl [0, 1, 2, 4, 5] rfl)
      · have hres := (itl hres).2 c70
        refine lv_iload hx hb dX6_spread_73 (lv_at hl 5 rfl) ?_
        refine lv_iload_n hx hb dX6_spread_75 rfl (lv_at hl 2 rfl) ?_
        refine lv_iload hx hb dX6_spread_76 (lv_at hl 6 rfl) ?_
        refine lv_ishr hx hb dX6_spread_78 ?_
        refine lv_iconst (v := 1) hx hb dX6_spread_79 (by decide) ?_
        refine lv_iand hx hb dX6_spread_80 ?_
        refine lv_iconst (v := 1) hx hb dX6_spread_81 (by decide) ?_
        refine lv_icmp_ne (tgt := 104) hx hb dX6_spread_82 (by decide) (fun c82 => ?_) (fun c82 => ?_)
        · have hres := (itl hres).2 c82
          exact b104 x7 x6 hres _ _ _ hP hS (lv_sub hl [0, 1, 2, 3, 4, 6] rfl)
        · have hres := (itl hres).1 c82
          refine lv_aload_n hx hb dX6_spread_85 rfl (lv_at hl 0 rfl) ?_
          refine lv_iload hx hb dX6_spread_86 (lv_at hl 6 rfl) ?_
          refine lv_iload hx hb dX6_spread_88 (lv_at hl 3 rfl) ?_
          refine lv_iload_n hx hb dX6_spread_90 rfl (lv_at hl 1 rfl) ?_
          obtain ⟨q91, e91, hres⟩ := obd hres
          refine cvI (q0 := 0) (ci := 6) hx hb hml hown hts hEo hE hK hP hS (kX6_isNear l D a cI cJ cS hd hEo sv kep bef isk fnd man nex wor sng hea lat tap tpd her flt vlu bit lon cel btw x7 x4 x2 q91 e91) gX6_spread_X6_isNear rfl hdX6_isNear rfl rfl rfl ⟨rfl, rfl⟩ ⟨Nat.le_of_ble_eq_true rfl, Nat.le_of_ble_eq_true rfl⟩ ⟨Nat.zero_le _, Nat.zero_le _⟩ rfl hl.1 rfl (Nat.le_of_ble_eq_true rfl) dX6_spread_91 (fun H locs hP hS => ?_)
          refine lv_if_eq (tgt := 104) hx hb dX6_spread_94 (by decide) (fun c94 => ?_) (fun c94 => ?_)
          · have hres := (itl hres).1 c94
            exact b104 x7 x6 hres _ _ _ hP hS (lv_sub hl [0, 1, 2, 3, 4, 6] rfl)
          · have hres := (itl hres).2 c94
            refine lv_iconst (v := 1) hx hb dX6_spread_97 (by decide) ?_
            refine lv_iload hx hb dX6_spread_98 (lv_at hl 6 rfl) ?_
            refine lv_ishl hx hb dX6_spread_100 ?_
            refine lv_goto (tgt := 105) hx hb dX6_spread_101 (by decide) ?_
            exact b105 x7 x6 ((1 : Int32) <<< (x7 &&& 31)) hres _ _ _ hP hS (lv_sub hl [0, 1, 2, 3, 4, 6] rfl)
    unfold fX6_spread_l48 at hres
    refine lv_iload hx hb dX6_spread_48 (lv_at hl 4 rfl) ?_
    refine lv_bipush (v := 10) hx hb dX6_spread_50 (by decide) ?_
    refine lv_icmp_ge (tgt := 124) hx hb dX6_spread_52 (by decide) (fun c52 => ?_) (fun c52 => ?_)
    · have hres := (itl hres).1 c52
      refine lv_iload hx hb dX6_spread_124 (lv_at hl 3 rfl) ?_
      exact hQ ▸ rtI (v := x4)  hx hb hr hlk hP hS (by rw [← (Option.some.inj hres)]) (by rw [← (Option.some.inj hres)]) dX6_spread_126
    · have hres := (itl hres).2 c52
      refine lv_iload hx hb dX6_spread_55 (lv_at hl 3 rfl) ?_
      refine lv_istore (lv' := [(6, .int x4), (0, .ref (a 0)), (2, .int x2), (3, .int x3), (4, .int x4), (5, .int x5)]) hx hb dX6_spread_57 hl (by decide) rfl (fun ls hl => ?_)
      refine lv_iconst (v := 0) hx hb dX6_spread_59 (by decide) ?_
      refine lv_istore (lv' := [(7, .int (0 : Int32)), (6, .int x4), (0, .ref (a 0)), (2, .int x2), (3, .int x3), (4, .int x4), (5, .int x5)]) hx hb dX6_spread_60 hl (by decide) rfl (fun ls hl => ?_)
      exact b62 x4 x5 2000 x4 (0 : Int32) hres _ _ _ hP hS (lv_sub hl [2, 3, 4, 5, 6, 1, 0] rfl)
  unfold fX6_spread at hres
  refine lv_aload_n hx hb dX6_spread_0 rfl (lv_at hl 0 rfl) ?_
  refine lv_iload_n hx hb dX6_spread_1 rfl (lv_at hl 1 rfl) ?_
  obtain ⟨q2, e2, hres⟩ := obd hres
  refine cvI (q0 := 0) (ci := 6) hx hb hml hown hts hEo hE hK hP hS (kX6_isTale l D a cI cJ cS hd hEo sv kep bef isk fnd man nex wor sng hea lat tap tpd her flt vlu bit lon cel btw x1 q2 e2) gX6_spread_X6_isTale rfl hdX6_isTale rfl rfl rfl ⟨rfl, rfl⟩ ⟨Nat.le_of_ble_eq_true rfl, Nat.le_of_ble_eq_true rfl⟩ ⟨Nat.zero_le _, Nat.zero_le _⟩ rfl hl.1 rfl (Nat.le_of_ble_eq_true rfl) dX6_spread_2 (fun H locs hP hS => ?_)
  refine lv_if_eq (tgt := 15) hx hb dX6_spread_5 (by decide) (fun c5 => ?_) (fun c5 => ?_)
  · have hres := (itl hres).1 c5
    exact b15 fnd man nex hres _ _ _ hP hS (lv_sub hl [0] rfl)
  · have hres := (itl hres).2 c5
    refine lv_iload_n hx hb dX6_spread_8 rfl (lv_at hl 2 rfl) ?_
    refine csI hx hb hml hown hts hEo hE hK hP hS (kX6_isAge l D a cI cJ cS hd hEo sv kep bef isk fnd man nex wor sng hea lat tap tpd her flt vlu bit lon cel btw x2) gX6_spread_X6_isAge rfl hdX6_isAge ⟨rfl, rfl⟩ ⟨Nat.le_of_ble_eq_true rfl, Nat.le_of_ble_eq_true rfl⟩ ⟨Nat.zero_le _, Nat.zero_le _⟩ rfl hl.1 rfl (Nat.le_of_ble_eq_true rfl) dX6_spread_9 (fun H locs hP hS => ?_)
    refine lv_if_ne (tgt := 21) hx hb dX6_spread_12 (by decide) (fun c12 => ?_) (fun c12 => ?_)
    · have hres := (itl hres).2 c12
      refine lv_aload_n hx hb dX6_spread_21 rfl (lv_at hl 0 rfl) ?_
      refine gM_this6_s hx hb hown hw6 hK hP u1 dX6_spread_22 ?_
      refine lv_iconst (v := 3) hx hb dX6_spread_25 (by decide) ?_
      have i26 : vp_in (3 : Int32) 166 := ib_in (by decide)
      refine lM_sv hx hb hK hP i26 dX6_spread_26 ?_
      refine lv_if_ne (tgt := 36) hx hb dX6_spread_27 (by decide) (fun c27 => ?_) (fun c27 => ?_)
      · have hres := (itl hres).2 c27
        refine lv_aload_n hx hb dX6_spread_36 rfl (lv_at hl 0 rfl) ?_
        refine lv_iload_n hx hb dX6_spread_37 rfl (lv_at hl 1 rfl) ?_
        obtain ⟨q38, e38, hres⟩ := obd hres
        refine cvI (q0 := 0) (ci := 6) hx hb hml hown hts hEo hE hK hP hS (kX6_toWhom l D a cI cJ cS hd hEo sv kep bef isk fnd man nex wor sng hea lat tap tpd her flt vlu bit lon cel btw x1 q38 e38) gX6_spread_X6_toWhom rfl hdX6_toWhom rfl rfl rfl ⟨rfl, rfl⟩ ⟨Nat.le_of_ble_eq_true rfl, Nat.le_of_ble_eq_true rfl⟩ ⟨Nat.zero_le _, Nat.zero_le _⟩ rfl hl.1 rfl (Nat.le_of_ble_eq_true rfl) dX6_spread_38 (fun H locs hP hS => ?_)
        refine lv_istore_n (lv' := [(3, .int q38.1), (0, .ref (a 0)), (1, .int x1), (2, .int x2)]) hx hb dX6_spread_41 rfl hl (by decide) rfl (fun ls hl => ?_)
        refine lv_iconst (v := 1) hx hb dX6_spread_42 (by decide) ?_
        refine lv_istore (lv' := [(4, .int (1 : Int32)), (3, .int q38.1), (0, .ref (a 0)), (1, .int x1), (2, .int x2)]) hx hb dX6_spread_43 hl (by decide) rfl (fun ls hl => ?_)
        refine lv_iconst (v := 0) hx hb dX6_spread_45 (by decide) ?_
        refine lv_istore (lv' := [(5, .int (0 : Int32)), (4, .int (1 : Int32)), (3, .int q38.1), (0, .ref (a 0)), (1, .int x1), (2, .int x2)]) hx hb dX6_spread_46 hl (by decide) rfl (fun ls hl => ?_)
        exact b48 fnd q38.2.1 q38.2.2 q38.1 2000 (1 : Int32) (0 : Int32) hres _ _ _ hP hS (lv_sub hl [3, 5, 2, 1, 0] rfl)
      · have hres := (itl hres).1 c27
        refine lv_aload_n hx hb dX6_spread_30 rfl (lv_at hl 0 rfl) ?_
        refine lv_iconst (v := 3) hx hb dX6_spread_31 (by decide) ?_
        obtain ⟨q32, e32, hres⟩ := obd hres
        refine cvI (q0 := 0) (ci := 6) hx hb hml hown hts hEo hE hK hP hS (kX6_no l D a cI cJ cS hd hEo sv kep bef isk fnd man nex wor sng hea lat tap tpd her flt vlu bit lon cel btw (3 : Int32) q32 e32) gX6_spread_X6_no rfl hdX6_no rfl rfl rfl ⟨rfl, rfl⟩ ⟨Nat.le_of_ble_eq_true rfl, Nat.le_of_ble_eq_true rfl⟩ ⟨Nat.zero_le _, Nat.zero_le _⟩ rfl hl.1 rfl (Nat.le_of_ble_eq_true rfl) dX6_spread_32 (fun H locs hP hS => ?_)
        exact hQ ▸ rtI (v := q32.1)  hx hb hr hlk hP hS (by rw [← (Option.some.inj hres)]) (by rw [← (Option.some.inj hres)]) dX6_spread_35
    · have hres := (itl hres).1 c12
      exact b15 fnd man nex hres _ _ _ hP hS (lv_sub hl [0] rfl)
def fX6_feed_b75 (fnd : Nat → Int32) (tap : Nat → Int32) (tpd : Int32) : Option (Int32 × (Nat → Int32) × (Nat → Int32) × Int32) :=
  some (tpd, fnd, tap, tpd)
def fX6_feed_l36 (fnd : Nat → Int32) (x1 : Int32) (K36 : Int32 → (Nat → Int32) → Int32 → Option (Int32 × (Nat → Int32) × (Nat → Int32) × Int32)) (x3 : Int32) (tap : Nat → Int32) (tpd : Int32) : Option (Int32 × (Nat → Int32) × (Nat → Int32) × Int32) :=
  if x3 < 0 then fX6_feed_b75 fnd tap tpd else gd (ib tpd 120) (K36 (x3 + (-1)) (upd tap tpd.toNatClampNeg ((x1 >>> (((8 : Int32) * x3) &&& 31)) &&& (255 : Int32))) (tpd + (1 : Int32)))
def fX6_feed (fnd : Nat → Int32) (tap : Nat → Int32) (tpd : Int32) (x1 : Int32) (x2 : Int32) : Option (Int32 × (Nat → Int32) × (Nat → Int32) × Int32) :=
  if (bI (fX6_in x2 (1 : Int32) (4 : Int32))) = 0 then (fX6_no fnd (0 : Int32)).bind fun q11 => some (q11.1, q11.2, tap, tpd) else if (tpd + x2) ≤ (120 : Int32) then fix3 (fX6_feed_l36 fnd x1) 2000 (x2 - (1 : Int32)) tap tpd else (fX6_no fnd (1 : Int32)).bind fun q28 => some (q28.1, q28.2, tap, tpd)
abbrev rX6_feed : Room := { frames := 1, cells := 0, slots := 0, locals := 22 }
set_option maxHeartbeats 4000000 in
set_option maxRecDepth 100000 in
theorem kX6_feed (l : Launch) (D : va_G) (a : Nat → Nat) (cI cJ cS : ClassId) (hd : aok a 16) {Env : (Nat → Prop) → State → Heap → Prop} (hEo : envOK Env) (sv kep bef : Nat → Int32) (isk : Int32) (fnd : Nat → Int32) (man nex : Nat → Int64) (wor sng hea lat tap : Nat → Int32) (tpd her flt vlu : Int32) (bit lon : Nat → Int32) (cel btw : Nat → Int64) (x1 : Int32) (x2 : Int32) (res : Int32 × (Nat → Int32) × (Nat → Int32) × Int32) (hres : fX6_feed fnd tap tpd x1 x2 = some res) : CtI l D (tyL cI cJ cS) 16 a Env yX6_feed wsX6_feed rX6_feed [.ref (a 0), .int x1, .int x2] (wM a cI cJ cS sv kep bef isk fnd man nex wor sng hea lat tap tpd her flt vlu bit lon cel btw) (wM a cI cJ cS sv kep bef isk res.2.1 man nex wor sng hea lat res.2.2.1 res.2.2.2 her flt vlu bit lon cel btw) res.1 := by
  refine CtI_mk (cc := cX6_feed) (maxL := 4) (ret := (some .int)) (by decide) rfl (Nat.le_of_ble_eq_true rfl) ?_
  intro p e s m args below meth c ls hx hb hr hlk hml hown hts hP hK hE hl
  have hS : va_S (adA a 16 s.heap.size) s.heap s.heap [] := va_S.rf
  have hl : lv_has ls 4 [(0, .ref (a 0)), (1, .int x1), (2, .int x2)] := hl
  have hown : s.vm.findClass RX6 = some m.cls := hown
  have hw6 : ∀ w ∈ wsX60, w.before args s = true := fun w h => hts w (List.mem_cons_of_mem _ (List.mem_append_right _ h))
  have u1 : (Cond.fieldLink RX6 170 "YearWordsModel" "taped" "I").before args s = true := hts _ (List.mem_of_getElem? (i := 1) (by decide +kernel))
  have u2 : (Cond.fieldLink RX6 41 "YearWordsModel" "tape" "[I").before args s = true := hts _ (List.mem_of_getElem? (i := 2) (by decide +kernel))
  obtain ⟨Q, hQ⟩ : ∃ Q, Q = mqI below D 16 a args s (wM a cI cJ cS sv kep bef isk res.2.1 man nex wor sng hea lat res.2.2.1 res.2.2.2 her flt vlu bit lon cel btw) res.1 := ⟨_, rfl⟩
  rw [← hQ]
  have b75 : ∀ (fnd : Nat → Int32) (tap : Nat → Int32) (tpd : Int32), fX6_feed_b75 fnd tap tpd = some res → ∀ (H : Heap) (locs : List Loc) (ls : Array Slot), va_P D vwCl (wM a cI cJ cS sv kep bef isk fnd man nex wor sng hea lat tap tpd her flt vlu bit lon cel btw) H → va_S (adA a 16 s.heap.size) s.heap H locs → lv_has ls 4 [(0, .ref (a 0))] → W p l e rX6_feed s m args below meth c H locs 0 0 Q (F0 m 75 ls []) := by
    intro fnd tap tpd hres H locs ls hP hS hl
    unfold fX6_feed_b75 at hres
    refine lv_aload_n hx hb dX6_feed_75 rfl (lv_at hl 0 rfl) ?_
    refine gM_this6_taped hx hb hown hw6 hK hP u1 dX6_feed_76 ?_
    exact hQ ▸ rtI (v := tpd)  hx hb hr hlk hP hS (by rw [← (Option.some.inj hres)]) (by rw [← (Option.some.inj hres)]) dX6_feed_79
  have b36 : ∀ (fnd : Nat → Int32) (n : Nat) (x3 : Int32) (tap : Nat → Int32) (tpd : Int32), fix3 (fX6_feed_l36 fnd x1) n x3 tap tpd = some res → ∀ (H : Heap) (locs : List Loc) (ls : Array Slot), va_P D vwCl (wM a cI cJ cS sv kep bef isk fnd man nex wor sng hea lat tap tpd her flt vlu bit lon cel btw) H → va_S (adA a 16 s.heap.size) s.heap H locs → lv_has ls 4 [(0, .ref (a 0)), (1, .int x1), (3, .int x3)] → W p l e rX6_feed s m args below meth c H locs 0 0 Q (F0 m 36 ls []) := by
    intro fnd
    refine fix3_r ?_
    intro K36 hK36 x3 tap tpd hres H locs ls hP hS hl
    unfold fX6_feed_l36 at hres
    refine lv_iload_n hx hb dX6_feed_36 rfl (lv_at hl 2 rfl) ?_
    refine lv_if_lt (tgt := 75) hx hb dX6_feed_37 (by decide) (fun c37 => ?_) (fun c37 => ?_)
    · have hres := (itl hres).1 c37
      exact b75 fnd tap tpd hres _ _ _ hP hS (lv_sub hl [0] rfl)
    · have hres := (itl hres).2 c37
      refine lv_aload_n hx hb dX6_feed_40 rfl (lv_at hl 0 rfl) ?_
      refine gM_this6_tape hx hb hown hw6 hK hP u2 dX6_feed_41 ?_
      refine lv_aload_n hx hb dX6_feed_44 rfl (lv_at hl 0 rfl) ?_
      refine gM_this6_taped hx hb hown hw6 hK hP u1 dX6_feed_45 ?_
      refine lv_iload_n hx hb dX6_feed_48 rfl (lv_at hl 1 rfl) ?_
      refine lv_bipush (v := 8) hx hb dX6_feed_49 (by decide) ?_
      refine lv_iload_n hx hb dX6_feed_51 rfl (lv_at hl 2 rfl) ?_
      refine lv_imul hx hb dX6_feed_52 ?_
      refine lv_ishr hx hb dX6_feed_53 ?_
      refine lv_sipush (v := 255) hx hb dX6_feed_54 (by decide) ?_
      refine lv_iand hx hb dX6_feed_57 ?_
      obtain ⟨i58, hres⟩ := gdi hres
      refine sM_tap hx hb hK hP hd hS i58 dX6_feed_58 (fun H locs hP hS => ?_)
      refine lv_aload_n hx hb dX6_feed_59 rfl (lv_at hl 0 rfl) ?_
      refine lv_dup hx hb dX6_feed_60 rfl ?_
      refine gM_this6_taped hx hb hown hw6 hK hP u1 dX6_feed_61 ?_
      refine lv_iconst (v := 1) hx hb dX6_feed_64 (by decide) ?_
      refine lv_iadd hx hb dX6_feed_65 ?_
      refine pM_this6_taped hx hb hown hw6 hK hP hd hS u1 dX6_feed_66 (fun H locs hP hS => ?_)
      refine lv_iinc (v := x3 + (-1)) (lv' := [(3, .int (x3 + (-1))), (0, .ref (a 0)), (1, .int x1)]) hx hb dX6_feed_69 hl (k := 2) rfl (congrArg (fun z => x3 + z) (by decide)) (by decide) rfl (fun ls hl => ?_)
      refine lv_goto (tgt := 36) hx hb dX6_feed_72 (by decide) ?_
      exact hK36 (x3 + (-1)) (upd tap tpd.toNatClampNeg ((x1 >>> (((8 : Int32) * x3) &&& 31)) &&& (255 : Int32))) (tpd + (1 : Int32)) hres _ _ _ hP hS (lv_sub hl [1, 2, 0] rfl)
  unfold fX6_feed at hres
  refine lv_iload_n hx hb dX6_feed_0 rfl (lv_at hl 2 rfl) ?_
  refine lv_iconst (v := 1) hx hb dX6_feed_1 (by decide) ?_
  refine lv_iconst (v := 4) hx hb dX6_feed_2 (by decide) ?_
  refine csI hx hb hml hown hts hEo hE hK hP hS (kX6_in l D a cI cJ cS hd hEo sv kep bef isk fnd man nex wor sng hea lat tap tpd her flt vlu bit lon cel btw x2 (1 : Int32) (4 : Int32)) gX6_feed_X6_in rfl hdX6_in ⟨rfl, rfl⟩ ⟨Nat.le_of_ble_eq_true rfl, Nat.le_of_ble_eq_true rfl⟩ ⟨Nat.zero_le _, Nat.zero_le _⟩ rfl hl.1 rfl (Nat.le_of_ble_eq_true rfl) dX6_feed_3 (fun H locs hP hS => ?_)
  refine lv_if_ne (tgt := 15) hx hb dX6_feed_6 (by decide) (fun c6 => ?_) (fun c6 => ?_)
  · have hres := (itl hres).2 c6
    refine lv_aload_n hx hb dX6_feed_15 rfl (lv_at hl 0 rfl) ?_
    refine gM_this6_taped hx hb hown hw6 hK hP u1 dX6_feed_16 ?_
    refine lv_iload_n hx hb dX6_feed_19 rfl (lv_at hl 2 rfl) ?_
    refine lv_iadd hx hb dX6_feed_20 ?_
    refine lv_bipush (v := 120) hx hb dX6_feed_21 (by decide) ?_
    refine lv_icmp_le (tgt := 32) hx hb dX6_feed_23 (by decide) (fun c23 => ?_) (fun c23 => ?_)
    · have hres := (itl hres).1 c23
      refine lv_iload_n hx hb dX6_feed_32 rfl (lv_at hl 2 rfl) ?_
      refine lv_iconst (v := 1) hx hb dX6_feed_33 (by decide) ?_
      refine lv_isub hx hb dX6_feed_34 ?_
      refine lv_istore_n (lv' := [(3, .int (x2 - (1 : Int32))), (0, .ref (a 0)), (1, .int x1), (2, .int x2)]) hx hb dX6_feed_35 rfl hl (by decide) rfl (fun ls hl => ?_)
      exact b36 fnd 2000 (x2 - (1 : Int32)) tap tpd hres _ _ _ hP hS (lv_sub hl [1, 2, 0] rfl)
    · have hres := (itl hres).2 c23
      refine lv_aload_n hx hb dX6_feed_26 rfl (lv_at hl 0 rfl) ?_
      refine lv_iconst (v := 1) hx hb dX6_feed_27 (by decide) ?_
      obtain ⟨q28, e28, hres⟩ := obd hres
      refine cvI (q0 := 0) (ci := 6) hx hb hml hown hts hEo hE hK hP hS (kX6_no l D a cI cJ cS hd hEo sv kep bef isk fnd man nex wor sng hea lat tap tpd her flt vlu bit lon cel btw (1 : Int32) q28 e28) gX6_feed_X6_no rfl hdX6_no rfl rfl rfl ⟨rfl, rfl⟩ ⟨Nat.le_of_ble_eq_true rfl, Nat.le_of_ble_eq_true rfl⟩ ⟨Nat.zero_le _, Nat.zero_le _⟩ rfl hl.1 rfl (Nat.le_of_ble_eq_true rfl) dX6_feed_28 (fun H locs hP hS => ?_)
      exact hQ ▸ rtI (v := q28.1)  hx hb hr hlk hP hS (by rw [← (Option.some.inj hres)]) (by rw [← (Option.some.inj hres)]) dX6_feed_31
  · have hres := (itl hres).1 c6
    refine lv_aload_n hx hb dX6_feed_9 rfl (lv_at hl 0 rfl) ?_
    refine lv_iconst (v := 0) hx hb dX6_feed_10 (by decide) ?_
    obtain ⟨q11, e11, hres⟩ := obd hres
    refine cvI (q0 := 0) (ci := 6) hx hb hml hown hts hEo hE hK hP hS (kX6_no l D a cI cJ cS hd hEo sv kep bef isk fnd man nex wor sng hea lat tap tpd her flt vlu bit lon cel btw (0 : Int32) q11 e11) gX6_feed_X6_no rfl hdX6_no rfl rfl rfl ⟨rfl, rfl⟩ ⟨Nat.le_of_ble_eq_true rfl, Nat.le_of_ble_eq_true rfl⟩ ⟨Nat.zero_le _, Nat.zero_le _⟩ rfl hl.1 rfl (Nat.le_of_ble_eq_true rfl) dX6_feed_11 (fun H locs hP hS => ?_)
    exact hQ ▸ rtI (v := q11.1)  hx hb hr hlk hP hS (by rw [← (Option.some.inj hres)]) (by rw [← (Option.some.inj hres)]) dX6_feed_14
def fX6_wipe (tpd : Int32) : Int32 × Int32 :=
 (tpd, (0 : Int32))
abbrev rX6_wipe : Room := { frames := 0, cells := 0, slots := 0, locals := 0 }
set_option maxHeartbeats 4000000 in
set_option maxRecDepth 100000 in
theorem kX6_wipe (l : Launch) (D : va_G) (a : Nat → Nat) (cI cJ cS : ClassId) (hd : aok a 16) {Env : (Nat → Prop) → State → Heap → Prop} (hEo : envOK Env) (sv kep bef : Nat → Int32) (isk : Int32) (fnd : Nat → Int32) (man nex : Nat → Int64) (wor sng hea lat tap : Nat → Int32) (tpd her flt vlu : Int32) (bit lon : Nat → Int32) (cel btw : Nat → Int64)  : CtI l D (tyL cI cJ cS) 16 a Env yX6_wipe wsX6_wipe rX6_wipe [.ref (a 0)] (wM a cI cJ cS sv kep bef isk fnd man nex wor sng hea lat tap tpd her flt vlu bit lon cel btw) (wM a cI cJ cS sv kep bef isk fnd man nex wor sng hea lat tap (fX6_wipe tpd).2 her flt vlu bit lon cel btw) (fX6_wipe tpd).1 := by
  generalize hres : fX6_wipe tpd = res
  refine CtI_mk (cc := cX6_wipe) (maxL := 2) (ret := (some .int)) (by decide) rfl (Nat.le_of_ble_eq_true rfl) ?_
  intro p e s m args below meth c ls hx hb hr hlk hml hown hts hP hK hE hl
  have hS : va_S (adA a 16 s.heap.size) s.heap s.heap [] := va_S.rf
  have hl : lv_has ls 2 [(0, .ref (a 0))] := hl
  have hown : s.vm.findClass RX6 = some m.cls := hown
  have hw6 : ∀ w ∈ wsX60, w.before args s = true := fun w h => hts w (List.mem_cons_of_mem _ (List.mem_append_right _ h))
  have u1 : (Cond.fieldLink RX6 170 "YearWordsModel" "taped" "I").before args s = true := hts _ (List.mem_of_getElem? (i := 1) (by decide +kernel))
  obtain ⟨Q, hQ⟩ : ∃ Q, Q = mqI below D 16 a args s (wM a cI cJ cS sv kep bef isk fnd man nex wor sng hea lat tap res.2 her flt vlu bit lon cel btw) res.1 := ⟨_, rfl⟩
  rw [← hQ]
  unfold fX6_wipe at hres
  refine lv_aload_n hx hb dX6_wipe_0 rfl (lv_at hl 0 rfl) ?_
  refine gM_this6_taped hx hb hown hw6 hK hP u1 dX6_wipe_1 ?_
  refine lv_istore_n (lv' := [(1, .int tpd), (0, .ref (a 0))]) hx hb dX6_wipe_4 rfl hl (by decide) rfl (fun ls hl => ?_)
  refine lv_aload_n hx hb dX6_wipe_5 rfl (lv_at hl 1 rfl) ?_
  refine lv_iconst (v := 0) hx hb dX6_wipe_6 (by decide) ?_
  refine pM_this6_taped hx hb hown hw6 hK hP hd hS u1 dX6_wipe_7 (fun H locs hP hS => ?_)
  refine lv_iload_n hx hb dX6_wipe_10 rfl (lv_at hl 0 rfl) ?_
  exact hQ ▸ rtI (v := tpd)  hx hb hr hlk hP hS (by rw [← hres]) (by rw [← hres]) dX6_wipe_11
def fX6_byteAt (tap : Nat → Int32) (tpd : Int32) (x1 : Int32) : Option (Int32) :=
  if tpd ≤ x1 then some (-1 : Int32) else gd (ib x1 120) (some (tap x1.toNatClampNeg))
abbrev rX6_byteAt : Room := { frames := 0, cells := 0, slots := 0, locals := 0 }
set_option maxHeartbeats 4000000 in
set_option maxRecDepth 100000 in
theorem kX6_byteAt (l : Launch) (D : va_G) (a : Nat → Nat) (cI cJ cS : ClassId) (hd : aok a 16) {Env : (Nat → Prop) → State → Heap → Prop} (hEo : envOK Env) (sv kep bef : Nat → Int32) (isk : Int32) (fnd : Nat → Int32) (man nex : Nat → Int64) (wor sng hea lat tap : Nat → Int32) (tpd her flt vlu : Int32) (bit lon : Nat → Int32) (cel btw : Nat → Int64) (x1 : Int32) (res : Int32) (hres : fX6_byteAt tap tpd x1 = some res) : CtI l D (tyL cI cJ cS) 16 a Env yX6_byteAt wsX6_byteAt rX6_byteAt [.ref (a 0), .int x1] (wM a cI cJ cS sv kep bef isk fnd man nex wor sng hea lat tap tpd her flt vlu bit lon cel btw) (wM a cI cJ cS sv kep bef isk fnd man nex wor sng hea lat tap tpd her flt vlu bit lon cel btw) res := by
  refine CtI_mk (cc := cX6_byteAt) (maxL := 2) (ret := (some .int)) (by decide) rfl (Nat.le_of_ble_eq_true rfl) ?_
  intro p e s m args below meth c ls hx hb hr hlk hml hown hts hP hK hE hl
  have hS : va_S (adA a 16 s.heap.size) s.heap s.heap [] := va_S.rf
  have hl : lv_has ls 2 [(0, .ref (a 0)), (1, .int x1)] := hl
  have hown : s.vm.findClass RX6 = some m.cls := hown
  have hw6 : ∀ w ∈ wsX60, w.before args s = true := fun w h => hts w (List.mem_cons_of_mem _ (List.mem_append_right _ h))
  have u1 : (Cond.fieldLink RX6 170 "YearWordsModel" "taped" "I").before args s = true := hts _ (List.mem_of_getElem? (i := 1) (by decide +kernel))
  have u2 : (Cond.fieldLink RX6 41 "YearWordsModel" "tape" "[I").before args s = true := hts _ (List.mem_of_getElem? (i := 2) (by decide +kernel))
  obtain ⟨Q, hQ⟩ : ∃ Q, Q = mqI below D 16 a args s (wM a cI cJ cS sv kep bef isk fnd man nex wor sng hea lat tap tpd her flt vlu bit lon cel btw) res := ⟨_, rfl⟩
  rw [← hQ]
  unfold fX6_byteAt at hres
  refine lv_iload_n hx hb dX6_byteAt_0 rfl (lv_at hl 1 rfl) ?_
  refine lv_aload_n hx hb dX6_byteAt_1 rfl (lv_at hl 0 rfl) ?_
  refine gM_this6_taped hx hb hown hw6 hK hP u1 dX6_byteAt_2 ?_
  refine lv_icmp_ge (tgt := 17) hx hb dX6_byteAt_5 (by decide) (fun c5 => ?_) (fun c5 => ?_)
  · have hres := (itl hres).1 c5
    refine lv_iconst (v := (-1)) hx hb dX6_byteAt_17 (by decide) ?_
    exact hQ ▸ rtI (v := (-1 : Int32))  hx hb hr hlk hP hS (by rw [← (Option.some.inj hres)]) rfl dX6_byteAt_18
  · have hres := (itl hres).2 c5
    refine lv_aload_n hx hb dX6_byteAt_8 rfl (lv_at hl 0 rfl) ?_
    refine gM_this6_tape hx hb hown hw6 hK hP u2 dX6_byteAt_9 ?_
    refine lv_iload_n hx hb dX6_byteAt_12 rfl (lv_at hl 1 rfl) ?_
    obtain ⟨i13, hres⟩ := gdi hres
    refine lM_tap hx hb hK hP i13 dX6_byteAt_13 ?_
    refine lv_goto (tgt := 18) hx hb dX6_byteAt_14 (by decide) ?_
    exact hQ ▸ rtI (v := tap x1.toNatClampNeg)  hx hb hr hlk hP hS (by rw [← (Option.some.inj hres)]) rfl dX6_byteAt_18
def fX6_blanks_l0 (tap : Nat → Int32) (tpd : Int32) (K0 : Int32 → Option (Int32)) (her : Int32) : Option (Int32) :=
 (fX6_byteAt tap tpd her).bind fun q5 => if q5 = (32 : Int32) then K0 (her + (1 : Int32)) else some her
def fX6_blanks (tap : Nat → Int32) (tpd : Int32) (her : Int32) : Option (Int32) :=
  fix1 (fX6_blanks_l0 tap tpd) 2000 her
theorem hdX6_byteAt : yX6_byteAt.cls = RX6 ∧ yX6_byteAt.cls ≠ "java/lang/invoke/MethodHandle" ∧ yX6_byteAt.cls ≠ "java/lang/invoke/VarHandle" ∧ (parseMethodDescriptor yX6_byteAt.desc).map (fun d => d.parameters.length) = some 1 := by decide +kernel
abbrev rX6_blanks : Room := { frames := 1, cells := 0, slots := 0, locals := 21 }
set_option maxHeartbeats 4000000 in
set_option maxRecDepth 100000 in
theorem kX6_blanks (l : Launch) (D : va_G) (a : Nat → Nat) (cI cJ cS : ClassId) (hd : aok a 16) {Env : (Nat → Prop) → State → Heap → Prop} (hEo : envOK Env) (sv kep bef : Nat → Int32) (isk : Int32) (fnd : Nat → Int32) (man nex : Nat → Int64) (wor sng hea lat tap : Nat → Int32) (tpd her flt vlu : Int32) (bit lon : Nat → Int32) (cel btw : Nat → Int64)  (res : Int32) (hres : fX6_blanks tap tpd her = some res) : CtV l D (tyL cI cJ cS) 16 a Env yX6_blanks wsX6_blanks rX6_blanks [.ref (a 0)] (wM a cI cJ cS sv kep bef isk fnd man nex wor sng hea lat tap tpd her flt vlu bit lon cel btw) (wM a cI cJ cS sv kep bef isk fnd man nex wor sng hea lat tap tpd res flt vlu bit lon cel btw) := by
  refine CtV_mk (cc := cX6_blanks) (maxL := 1) (ret := none) (by decide) rfl (Nat.le_of_ble_eq_true rfl) ?_
  intro p e s m args below meth c ls hx hb hr hlk hml hown hts hP hK hE hl
  have hS : va_S (adA a 16 s.heap.size) s.heap s.heap [] := va_S.rf
  have hl : lv_has ls 1 [(0, .ref (a 0))] := hl
  have hown : s.vm.findClass RX6 = some m.cls := hown
  have hw6 : ∀ w ∈ wsX60, w.before args s = true := fun w h => hts w (List.mem_cons_of_mem _ (List.mem_append_right _ h))
  have u1 : (Cond.fieldLink RX6 174 "YearWordsModel" "here" "I").before args s = true := hts _ (List.mem_of_getElem? (i := 1) (by decide +kernel))
  obtain ⟨Q, hQ⟩ : ∃ Q, Q = mqV below D 16 a args s (wM a cI cJ cS sv kep bef isk fnd man nex wor sng hea lat tap tpd res flt vlu bit lon cel btw) := ⟨_, rfl⟩
  rw [← hQ]
  have b0 : ∀  (n : Nat) (her : Int32), fix1 (fX6_blanks_l0 tap tpd) n her = some res → ∀ (H : Heap) (locs : List Loc) (ls : Array Slot), va_P D vwCl (wM a cI cJ cS sv kep bef isk fnd man nex wor sng hea lat tap tpd her flt vlu bit lon cel btw) H → va_S (adA a 16 s.heap.size) s.heap H locs → lv_has ls 1 [(0, .ref (a 0))] → W p l e rX6_blanks s m args below meth c H locs 0 0 Q (F0 m 0 ls []) := by
    refine fix1_r ?_
    intro K0 hK0 her hres H locs ls hP hS hl
    unfold fX6_blanks_l0 at hres
    refine lv_aload_n hx hb dX6_blanks_0 rfl (lv_at hl 0 rfl) ?_
    refine lv_aload_n hx hb dX6_blanks_1 rfl (lv_at hl 0 rfl) ?_
    refine gM_this6_here hx hb hown hw6 hK hP u1 dX6_blanks_2 ?_
    obtain ⟨q5, e5, hres⟩ := obd hres
    refine cvI (q0 := 0) (ci := 6) hx hb hml hown hts hEo hE hK hP hS (kX6_byteAt l D a cI cJ cS hd hEo sv kep bef isk fnd man nex wor sng hea lat tap tpd her flt vlu bit lon cel btw her q5 e5) gX6_blanks_X6_byteAt rfl hdX6_byteAt rfl rfl rfl ⟨rfl, rfl⟩ ⟨Nat.le_of_ble_eq_true rfl, Nat.le_of_ble_eq_true rfl⟩ ⟨Nat.zero_le _, Nat.zero_le _⟩ rfl hl.1 rfl (Nat.le_of_ble_eq_true rfl) dX6_blanks_5 (fun H locs hP hS => ?_)
    refine lv_bipush (v := 32) hx hb dX6_blanks_8 (by decide) ?_
    refine lv_icmp_ne (tgt := 26) hx hb dX6_blanks_10 (by decide) (fun c10 => ?_) (fun c10 => ?_)
    · have hres := (itl hres).2 c10
      exact hQ ▸ rtV hx hb hr hlk hP hS (by rw [← (Option.some.inj hres)]) dX6_blanks_26
    · have hres := (itl hres).1 c10
      refine lv_aload_n hx hb dX6_blanks_13 rfl (lv_at hl 0 rfl) ?_
      refine lv_dup hx hb dX6_blanks_14 rfl ?_
      refine gM_this6_here hx hb hown hw6 hK hP u1 dX6_blanks_15 ?_
      refine lv_iconst (v := 1) hx hb dX6_blanks_18 (by decide) ?_
      refine lv_iadd hx hb dX6_blanks_19 ?_
      refine pM_this6_here hx hb hown hw6 hK hP hd hS u1 dX6_blanks_20 (fun H locs hP hS => ?_)
      refine lv_goto (tgt := 0) hx hb dX6_blanks_23 (by decide) ?_
      exact hK0 (her + (1 : Int32)) hres _ _ _ hP hS (lv_sub hl [0] rfl)
  unfold fX6_blanks at hres
  exact b0  2000 her hres _ _ _ hP hS (lv_sub hl [0] rfl)
def fX6_fails_b19 (flt : Int32) (z1 : Int32) : Bool × Int32 :=
 (false, z1)
def fX6_fails (her : Int32) (flt : Int32) : Bool × Int32 :=
  if 0 ≤ flt then fX6_fails_b19 flt flt else fX6_fails_b19 flt her
abbrev rX6_fails : Room := { frames := 0, cells := 0, slots := 0, locals := 0 }
set_option maxHeartbeats 4000000 in
set_option maxRecDepth 100000 in
theorem kX6_fails (l : Launch) (D : va_G) (a : Nat → Nat) (cI cJ cS : ClassId) (hd : aok a 16) {Env : (Nat → Prop) → State → Heap → Prop} (hEo : envOK Env) (sv kep bef : Nat → Int32) (isk : Int32) (fnd : Nat → Int32) (man nex : Nat → Int64) (wor sng hea lat tap : Nat → Int32) (tpd her flt vlu : Int32) (bit lon : Nat → Int32) (cel btw : Nat → Int64)  : CtI l D (tyL cI cJ cS) 16 a Env yX6_fails wsX6_fails rX6_fails [.ref (a 0)] (wM a cI cJ cS sv kep bef isk fnd man nex wor sng hea lat tap tpd her flt vlu bit lon cel btw) (wM a cI cJ cS sv kep bef isk fnd man nex wor sng hea lat tap tpd her (fX6_fails her flt).2 vlu bit lon cel btw) (bI (fX6_fails her flt).1) := by
  generalize hres : fX6_fails her flt = res
  refine CtI_mk (cc := cX6_fails) (maxL := 1) (ret := (some .boolean)) (by decide) rfl (Nat.le_of_ble_eq_true rfl) ?_
  intro p e s m args below meth c ls hx hb hr hlk hml hown hts hP hK hE hl
  have hS : va_S (adA a 16 s.heap.size) s.heap s.heap [] := va_S.rf
  have hl : lv_has ls 1 [(0, .ref (a 0))] := hl
  have hown : s.vm.findClass RX6 = some m.cls := hown
  have hw6 : ∀ w ∈ wsX60, w.before args s = true := fun w h => hts w (List.mem_cons_of_mem _ (List.mem_append_right _ h))
  have u1 : (Cond.fieldLink RX6 180 "YearWordsModel" "fault" "I").before args s = true := hts _ (List.mem_of_getElem? (i := 1) (by decide +kernel))
  have u2 : (Cond.fieldLink RX6 174 "YearWordsModel" "here" "I").before args s = true := hts _ (List.mem_of_getElem? (i := 2) (by decide +kernel))
  obtain ⟨Q, hQ⟩ : ∃ Q, Q = mqI below D 16 a args s (wM a cI cJ cS sv kep bef isk fnd man nex wor sng hea lat tap tpd her res.2 vlu bit lon cel btw) (bI res.1) := ⟨_, rfl⟩
  rw [← hQ]
  have b19 : ∀ (flt : Int32) (z1 : Int32), fX6_fails_b19 flt z1 = res → ∀ (H : Heap) (locs : List Loc) (ls : Array Slot), va_P D vwCl (wM a cI cJ cS sv kep bef isk fnd man nex wor sng hea lat tap tpd her flt vlu bit lon cel btw) H → va_S (adA a 16 s.heap.size) s.heap H locs → lv_has ls 1 [(0, .ref (a 0))] → W p l e rX6_fails s m args below meth c H locs 0 0 Q (F0 m 19 ls [.int z1, .ref (a 0)]) := by
    intro flt z1 hres H locs ls hP hS hl
    unfold fX6_fails_b19 at hres
    refine pM_this6_fault hx hb hown hw6 hK hP hd hS u1 dX6_fails_19 (fun H locs hP hS => ?_)
    refine lv_iconst (v := 0) hx hb dX6_fails_22 (by decide) ?_
    exact hQ ▸ rtZ (v := false)  hx hb hr hlk hP hS (by rw [← hres]) (by rw [← hres]) dX6_fails_23
  unfold fX6_fails at hres
  refine lv_aload_n hx hb dX6_fails_0 rfl (lv_at hl 0 rfl) ?_
  refine lv_aload_n hx hb dX6_fails_1 rfl (lv_at hl 0 rfl) ?_
  refine gM_this6_fault hx hb hown hw6 hK hP u1 dX6_fails_2 ?_
  refine lv_if_ge (tgt := 15) hx hb dX6_fails_5 (by decide) (fun c5 => ?_) (fun c5 => ?_)
  · have hres := (itl hres).1 c5
    refine lv_aload_n hx hb dX6_fails_15 rfl (lv_at hl 0 rfl) ?_
    refine gM_this6_fault hx hb hown hw6 hK hP u1 dX6_fails_16 ?_
    exact b19 flt flt hres _ _ _ hP hS (lv_sub hl [0] rfl)
  · have hres := (itl hres).2 c5
    refine lv_aload_n hx hb dX6_fails_8 rfl (lv_at hl 0 rfl) ?_
    refine gM_this6_here hx hb hown hw6 hK hP u2 dX6_fails_9 ?_
    refine lv_goto (tgt := 19) hx hb dX6_fails_12 (by decide) ?_
    exact b19 flt her hres _ _ _ hP hS (lv_sub hl [0] rfl)
def fX6_isLetter (x0 : Int32) : Bool :=
 (fX6_in x0 (97 : Int32) (122 : Int32))
abbrev rX6_isLetter : Room := { frames := 1, cells := 0, slots := 0, locals := 22 }
set_option maxHeartbeats 4000000 in
set_option maxRecDepth 100000 in
theorem kX6_isLetter (l : Launch) (D : va_G) (a : Nat → Nat) (cI cJ cS : ClassId) (hd : aok a 16) {Env : (Nat → Prop) → State → Heap → Prop} (hEo : envOK Env) (sv kep bef : Nat → Int32) (isk : Int32) (fnd : Nat → Int32) (man nex : Nat → Int64) (wor sng hea lat tap : Nat → Int32) (tpd her flt vlu : Int32) (bit lon : Nat → Int32) (cel btw : Nat → Int64) (x0 : Int32) : CtI l D (tyL cI cJ cS) 16 a Env yX6_isLetter wsX6_isLetter rX6_isLetter [.int x0] (wM a cI cJ cS sv kep bef isk fnd man nex wor sng hea lat tap tpd her flt vlu bit lon cel btw) (wM a cI cJ cS sv kep bef isk fnd man nex wor sng hea lat tap tpd her flt vlu bit lon cel btw) (bI (fX6_isLetter x0)) := by
  generalize hres : fX6_isLetter x0 = res
  refine CtI_mk (cc := cX6_isLetter) (maxL := 1) (ret := (some .boolean)) (by decide) rfl (Nat.le_of_ble_eq_true rfl) ?_
  intro p e s m args below meth c ls hx hb hr hlk hml hown hts hP hK hE hl
  have hS : va_S (adA a 16 s.heap.size) s.heap s.heap [] := va_S.rf
  have hl : lv_has ls 1 [(0, .int x0)] := hl
  have hown : s.vm.findClass RX6 = some m.cls := hown
  obtain ⟨Q, hQ⟩ : ∃ Q, Q = mqI below D 16 a args s (wM a cI cJ cS sv kep bef isk fnd man nex wor sng hea lat tap tpd her flt vlu bit lon cel btw) (bI res) := ⟨_, rfl⟩
  rw [← hQ]
  unfold fX6_isLetter at hres
  refine lv_iload_n hx hb dX6_isLetter_0 rfl (lv_at hl 0 rfl) ?_
  refine lv_bipush (v := 97) hx hb dX6_isLetter_1 (by decide) ?_
  refine lv_bipush (v := 122) hx hb dX6_isLetter_3 (by decide) ?_
  refine csI hx hb hml hown hts hEo hE hK hP hS (kX6_in l D a cI cJ cS hd hEo sv kep bef isk fnd man nex wor sng hea lat tap tpd her flt vlu bit lon cel btw x0 (97 : Int32) (122 : Int32)) gX6_isLetter_X6_in rfl hdX6_in ⟨rfl, rfl⟩ ⟨Nat.le_of_ble_eq_true rfl, Nat.le_of_ble_eq_true rfl⟩ ⟨Nat.zero_le _, Nat.zero_le _⟩ rfl hl.1 rfl (Nat.le_of_ble_eq_true rfl) dX6_isLetter_5 (fun H locs hP hS => ?_)
  exact hQ ▸ rtZ (v := (fX6_in x0 (97 : Int32) (122 : Int32)))  hx hb hr hlk hP hS (by rw [← hres]) rfl dX6_isLetter_8
def fX6_isDigit (x0 : Int32) : Bool :=
 (fX6_in x0 (48 : Int32) (57 : Int32))
abbrev rX6_isDigit : Room := { frames := 1, cells := 0, slots := 0, locals := 22 }
set_option maxHeartbeats 4000000 in
set_option maxRecDepth 100000 in
theorem kX6_isDigit (l : Launch) (D : va_G) (a : Nat → Nat) (cI cJ cS : ClassId) (hd : aok a 16) {Env : (Nat → Prop) → State → Heap → Prop} (hEo : envOK Env) (sv kep bef : Nat → Int32) (isk : Int32) (fnd : Nat → Int32) (man nex : Nat → Int64) (wor sng hea lat tap : Nat → Int32) (tpd her flt vlu : Int32) (bit lon : Nat → Int32) (cel btw : Nat → Int64) (x0 : Int32) : CtI l D (tyL cI cJ cS) 16 a Env yX6_isDigit wsX6_isDigit rX6_isDigit [.int x0] (wM a cI cJ cS sv kep bef isk fnd man nex wor sng hea lat tap tpd her flt vlu bit lon cel btw) (wM a cI cJ cS sv kep bef isk fnd man nex wor sng hea lat tap tpd her flt vlu bit lon cel btw) (bI (fX6_isDigit x0)) := by
  generalize hres : fX6_isDigit x0 = res
  refine CtI_mk (cc := cX6_isDigit) (maxL := 1) (ret := (some .boolean)) (by decide) rfl (Nat.le_of_ble_eq_true rfl) ?_
  intro p e s m args below meth c ls hx hb hr hlk hml hown hts hP hK hE hl
  have hS : va_S (adA a 16 s.heap.size) s.heap s.heap [] := va_S.rf
  have hl : lv_has ls 1 [(0, .int x0)] := hl
  have hown : s.vm.findClass RX6 = some m.cls := hown
  obtain ⟨Q, hQ⟩ : ∃ Q, Q = mqI below D 16 a args s (wM a cI cJ cS sv kep bef isk fnd man nex wor sng hea lat tap tpd her flt vlu bit lon cel btw) (bI res) := ⟨_, rfl⟩
  rw [← hQ]
  unfold fX6_isDigit at hres
  refine lv_iload_n hx hb dX6_isDigit_0 rfl (lv_at hl 0 rfl) ?_
  refine lv_bipush (v := 48) hx hb dX6_isDigit_1 (by decide) ?_
  refine lv_bipush (v := 57) hx hb dX6_isDigit_3 (by decide) ?_
  refine csI hx hb hml hown hts hEo hE hK hP hS (kX6_in l D a cI cJ cS hd hEo sv kep bef isk fnd man nex wor sng hea lat tap tpd her flt vlu bit lon cel btw x0 (48 : Int32) (57 : Int32)) gX6_isDigit_X6_in rfl hdX6_in ⟨rfl, rfl⟩ ⟨Nat.le_of_ble_eq_true rfl, Nat.le_of_ble_eq_true rfl⟩ ⟨Nat.zero_le _, Nat.zero_le _⟩ rfl hl.1 rfl (Nat.le_of_ble_eq_true rfl) dX6_isDigit_5 (fun H locs hP hS => ?_)
  exact hQ ▸ rtZ (v := (fX6_in x0 (48 : Int32) (57 : Int32)))  hx hb hr hlk hP hS (by rw [← hres]) rfl dX6_isDigit_8
def fX6_wordEnd_l5 (tap : Nat → Int32) (tpd : Int32) (K5 : Int32 → Option (Int32)) (x1 : Int32) : Option (Int32) :=
 (fX6_byteAt tap tpd x1).bind fun q7 => if (bI (fX6_isLetter q7)) = 0 then some x1 else K5 (x1 + 1)
def fX6_wordEnd (tap : Nat → Int32) (tpd : Int32) (her : Int32) : Option (Int32) :=
  fix1 (fX6_wordEnd_l5 tap tpd) 2000 her
theorem hdX6_isLetter : yX6_isLetter.cls ≠ "java/lang/invoke/MethodHandle" ∧ yX6_isLetter.cls ≠ "java/lang/invoke/VarHandle" ∧ (parseMethodDescriptor yX6_isLetter.desc).map (fun d => d.parameters.length) = some 1 := by decide +kernel
abbrev rX6_wordEnd : Room := { frames := 2, cells := 0, slots := 0, locals := 42 }
set_option maxHeartbeats 4000000 in
set_option maxRecDepth 100000 in
theorem kX6_wordEnd (l : Launch) (D : va_G) (a : Nat → Nat) (cI cJ cS : ClassId) (hd : aok a 16) {Env : (Nat → Prop) → State → Heap → Prop} (hEo : envOK Env) (sv kep bef : Nat → Int32) (isk : Int32) (fnd : Nat → Int32) (man nex : Nat → Int64) (wor sng hea lat tap : Nat → Int32) (tpd her flt vlu : Int32) (bit lon : Nat → Int32) (cel btw : Nat → Int64)  (res : Int32) (hres : fX6_wordEnd tap tpd her = some res) : CtI l D (tyL cI cJ cS) 16 a Env yX6_wordEnd wsX6_wordEnd rX6_wordEnd [.ref (a 0)] (wM a cI cJ cS sv kep bef isk fnd man nex wor sng hea lat tap tpd her flt vlu bit lon cel btw) (wM a cI cJ cS sv kep bef isk fnd man nex wor sng hea lat tap tpd her flt vlu bit lon cel btw) res := by
  refine CtI_mk (cc := cX6_wordEnd) (maxL := 2) (ret := (some .int)) (by decide) rfl (Nat.le_of_ble_eq_true rfl) ?_
  intro p e s m args below meth c ls hx hb hr hlk hml hown hts hP hK hE hl
  have hS : va_S (adA a 16 s.heap.size) s.heap s.heap [] := va_S.rf
  have hl : lv_has ls 2 [(0, .ref (a 0))] := hl
  have hown : s.vm.findClass RX6 = some m.cls := hown
  have hw6 : ∀ w ∈ wsX60, w.before args s = true := fun w h => hts w (List.mem_cons_of_mem _ (List.mem_append_right _ h))
  have u1 : (Cond.fieldLink RX6 174 "YearWordsModel" "here" "I").before args s = true := hts _ (List.mem_of_getElem? (i := 1) (by decide +kernel))
  obtain ⟨Q, hQ⟩ : ∃ Q, Q = mqI below D 16 a args s (wM a cI cJ cS sv kep bef isk fnd man nex wor sng hea lat tap tpd her flt vlu bit lon cel btw) res := ⟨_, rfl⟩
  rw [← hQ]
  have b5 : ∀  (n : Nat) (x1 : Int32), fix1 (fX6_wordEnd_l5 tap tpd) n x1 = some res → ∀ (H : Heap) (locs : List Loc) (ls : Array Slot), va_P D vwCl (wM a cI cJ cS sv kep bef isk fnd man nex wor sng hea lat tap tpd her flt vlu bit lon cel btw) H → va_S (adA a 16 s.heap.size) s.heap H locs → lv_has ls 2 [(0, .ref (a 0)), (1, .int x1)] → W p l e rX6_wordEnd s m args below meth c H locs 0 0 Q (F0 m 5 ls []) := by
    refine fix1_r ?_
    intro K5 hK5 x1 hres H locs ls hP hS hl
    unfold fX6_wordEnd_l5 at hres
    refine lv_aload_n hx hb dX6_wordEnd_5 rfl (lv_at hl 0 rfl) ?_
    refine lv_iload_n hx hb dX6_wordEnd_6 rfl (lv_at hl 1 rfl) ?_
    obtain ⟨q7, e7, hres⟩ := obd hres
    refine cvI (q0 := 0) (ci := 6) hx hb hml hown hts hEo hE hK hP hS (kX6_byteAt l D a cI cJ cS hd hEo sv kep bef isk fnd man nex wor sng hea lat tap tpd her flt vlu bit lon cel btw x1 q7 e7) gX6_wordEnd_X6_byteAt rfl hdX6_byteAt rfl rfl rfl ⟨rfl, rfl⟩ ⟨Nat.le_of_ble_eq_true rfl, Nat.le_of_ble_eq_true rfl⟩ ⟨Nat.zero_le _, Nat.zero_le _⟩ rfl hl.1 rfl (Nat.le_of_ble_eq_true rfl) dX6_wordEnd_7 (fun H locs hP hS => ?_)
    refine csI hx hb hml hown hts hEo hE hK hP hS (kX6_isLetter l D a cI cJ cS hd hEo sv kep bef isk fnd man nex wor sng hea lat tap tpd her flt vlu bit lon cel btw q7) gX6_wordEnd_X6_isLetter rfl hdX6_isLetter ⟨rfl, rfl⟩ ⟨Nat.le_of_ble_eq_true rfl, Nat.le_of_ble_eq_true rfl⟩ ⟨Nat.zero_le _, Nat.zero_le _⟩ rfl hl.1 rfl (Nat.le_of_ble_eq_true rfl) dX6_wordEnd_10 (fun H locs hP hS => ?_)
    refine lv_if_eq (tgt := 22) hx hb dX6_wordEnd_13 (by decide) (fun c13 => ?_) (fun c13 => ?_)
    · have hres := (itl hres).1 c13
      refine lv_iload_n hx hb dX6_wordEnd_22 rfl (lv_at hl 1 rfl) ?_
      exact hQ ▸ rtI (v := x1)  hx hb hr hlk hP hS (by rw [← (Option.some.inj hres)]) rfl dX6_wordEnd_23
    · have hres := (itl hres).2 c13
      refine lv_iinc (v := x1 + 1) (lv' := [(1, .int (x1 + 1)), (0, .ref (a 0))]) hx hb dX6_wordEnd_16 hl (k := 1) rfl (congrArg (fun z => x1 + z) (by decide)) (by decide) rfl (fun ls hl => ?_)
      refine lv_goto (tgt := 5) hx hb dX6_wordEnd_19 (by decide) ?_
      exact hK5 (x1 + 1) hres _ _ _ hP hS (lv_sub hl [1, 0] rfl)
  unfold fX6_wordEnd at hres
  refine lv_aload_n hx hb dX6_wordEnd_0 rfl (lv_at hl 0 rfl) ?_
  refine gM_this6_here hx hb hown hw6 hK hP u1 dX6_wordEnd_1 ?_
  refine lv_istore_n (lv' := [(1, .int her), (0, .ref (a 0))]) hx hb dX6_wordEnd_4 rfl hl (by decide) rfl (fun ls hl => ?_)
  exact b5  2000 her hres _ _ _ hP hS (lv_sub hl [1, 0] rfl)
def fX6_isWord_b63 (K28 : Bool → Int32 → Option (Bool × Int32)) (x3 : Int32) (z0 : Bool) : Option (Bool × Int32) :=
  K28 z0 (x3 + 1)
def fX6_isWord_l28 (tap : Nat → Int32) (tpd : Int32) (her : Int32) (x1 : Nat) (K28 : Bool → Int32 → Option (Bool × Int32)) (x2 : Bool) (x3 : Int32) : Option (Bool × Int32) :=
  if (nI (strLen.getD x1 0)) ≤ x3 then some (x2, her) else if (bI x2) = 0 then some (x2, her) else (fX6_byteAt tap tpd (her + x3)).bind fun q47 => gd (ib x3 (strLen.getD x1 0)) (if q47 = (strC x1 x3.toNatClampNeg) then fX6_isWord_b63 K28 x3 true else fX6_isWord_b63 K28 x3 false)
def fX6_isWord_b25 (tap : Nat → Int32) (tpd : Int32) (her : Int32) (x1 : Nat) (z0 : Bool) : Option (Bool × Int32) :=
  fix2 (fX6_isWord_l28 tap tpd her x1) 2000 z0 (0 : Int32)
def fX6_isWord (tap : Nat → Int32) (tpd : Int32) (her : Int32) (x1 : Nat) : Option (Bool × Int32) :=
 (fX6_blanks tap tpd her).bind fun q1 => (fX6_wordEnd tap tpd q1).bind fun q5 => if (q5 - q1) = (nI (strLen.getD x1 0)) then fX6_isWord_b25 tap tpd q1 x1 true else fX6_isWord_b25 tap tpd q1 x1 false
theorem hdX6_blanks : yX6_blanks.cls = RX6 ∧ yX6_blanks.cls ≠ "java/lang/invoke/MethodHandle" ∧ yX6_blanks.cls ≠ "java/lang/invoke/VarHandle" ∧ (parseMethodDescriptor yX6_blanks.desc).map (fun d => d.parameters.length) = some 0 := by decide +kernel
theorem hdX6_wordEnd : yX6_wordEnd.cls = RX6 ∧ yX6_wordEnd.cls ≠ "java/lang/invoke/MethodHandle" ∧ yX6_wordEnd.cls ≠ "java/lang/invoke/VarHandle" ∧ (parseMethodDescriptor yX6_wordEnd.desc).map (fun d => d.parameters.length) = some 0 := by decide +kernel
abbrev rX6_isWord : Room := { frames := 4, cells := 0, slots := 0, locals := 85 }
set_option maxHeartbeats 4000000 in
set_option maxRecDepth 100000 in
theorem kX6_isWord (l : Launch) (D : va_G) (a : Nat → Nat) (cI cJ cS : ClassId) (hd : aok a 16) {Env : (Nat → Prop) → State → Heap → Prop} (hEo : envOK Env) (sa sb : Nat → Nat) (hEX : envM Env sa sb) (sv kep bef : Nat → Int32) (isk : Int32) (fnd : Nat → Int32) (man nex : Nat → Int64) (wor sng hea lat tap : Nat → Int32) (tpd her flt vlu : Int32) (bit lon : Nat → Int32) (cel btw : Nat → Int64) (x1 : Nat) (hi1 : x1 < 11) (res : Bool × Int32) (hres : fX6_isWord tap tpd her x1 = some res) : CtI l D (tyL cI cJ cS) 16 a Env yX6_isWord wsX6_isWord rX6_isWord [.ref (a 0), .ref (sa x1)] (wM a cI cJ cS sv kep bef isk fnd man nex wor sng hea lat tap tpd her flt vlu bit lon cel btw) (wM a cI cJ cS sv kep bef isk fnd man nex wor sng hea lat tap tpd res.2 flt vlu bit lon cel btw) (bI res.1) := by
  refine CtI_mk (cc := cX6_isWord) (maxL := 4) (ret := (some .boolean)) (by decide) rfl (Nat.le_of_ble_eq_true rfl) ?_
  intro p e s m args below meth c ls hx hb hr hlk hml hown hts hP hK hE hl
  have hS : va_S (adA a 16 s.heap.size) s.heap s.heap [] := va_S.rf
  have hl : lv_has ls 4 [(0, .ref (a 0)), (1, .ref (sa x1))] := hl
  have hown : s.vm.findClass RX6 = some m.cls := hown
  have hw6 : ∀ w ∈ wsX60, w.before args s = true := fun w h => hts w (List.mem_cons_of_mem _ (List.mem_append_right _ h))
  have u1 : (Cond.fieldLink RX6 174 "YearWordsModel" "here" "I").before args s = true := hts _ (List.mem_of_getElem? (i := 1) (by decide +kernel))
  obtain ⟨Q, hQ⟩ : ∃ Q, Q = mqI below D 16 a args s (wM a cI cJ cS sv kep bef isk fnd man nex wor sng hea lat tap tpd res.2 flt vlu bit lon cel btw) (bI res.1) := ⟨_, rfl⟩
  rw [← hQ]
  have b28 : ∀ (her : Int32) (n : Nat) (x2 : Bool) (x3 : Int32), fix2 (fX6_isWord_l28 tap tpd her x1) n x2 x3 = some res → x1 < 11 → ∀ (H : Heap) (locs : List Loc) (ls : Array Slot), va_P D vwCl (wM a cI cJ cS sv kep bef isk fnd man nex wor sng hea lat tap tpd her flt vlu bit lon cel btw) H → va_S (adA a 16 s.heap.size) s.heap H locs → lv_has ls 4 [(0, .ref (a 0)), (1, .ref (sa x1)), (2, .int (bI x2)), (3, .int x3)] → W p l e rX6_isWord s m args below meth c H locs 0 0 Q (F0 m 28 ls []) := by
    intro her
    refine fix2_r ?_
    intro K28 hK28 x2 x3 hres hi1 H locs ls hP hS hl
    have b63 : ∀ (x3 : Int32) (z0 : Bool), fX6_isWord_b63 K28 x3 z0 = some res → x1 < 11 → ∀ (H : Heap) (locs : List Loc) (ls : Array Slot), va_P D vwCl (wM a cI cJ cS sv kep bef isk fnd man nex wor sng hea lat tap tpd her flt vlu bit lon cel btw) H → va_S (adA a 16 s.heap.size) s.heap H locs → lv_has ls 4 [(0, .ref (a 0)), (1, .ref (sa x1)), (3, .int x3)] → W p l e rX6_isWord s m args below meth c H locs 0 0 Q (F0 m 63 ls [.int (bI z0)]) := by
      intro x3 z0 hres hi1 H locs ls hP hS hl
      unfold fX6_isWord_b63 at hres
      refine lv_istore_n (lv' := [(2, .int (bI z0)), (0, .ref (a 0)), (1, .ref (sa x1)), (3, .int x3)]) hx hb dX6_isWord_63 rfl hl (by decide) rfl (fun ls hl => ?_)
      refine lv_iinc (v := x3 + 1) (lv' := [(3, .int (x3 + 1)), (2, .int (bI z0)), (0, .ref (a 0)), (1, .ref (sa x1))]) hx hb dX6_isWord_64 hl (k := 3) rfl (congrArg (fun z => x3 + z) (by decide)) (by decide) rfl (fun ls hl => ?_)
      refine lv_goto (tgt := 28) hx hb dX6_isWord_67 (by decide) ?_
      exact hK28 z0 (x3 + 1) hres hi1 _ _ _ hP hS (lv_sub hl [2, 3, 1, 0] rfl)
    unfold fX6_isWord_l28 at hres
    refine lv_iload_n hx hb dX6_isWord_28 rfl (lv_at hl 3 rfl) ?_
    refine lv_aload_n hx hb dX6_isWord_29 rfl (lv_at hl 1 rfl) ?_
    refine cwI_ (vk_recv (hEX.1 _ _ _ hE).1 hi1 hS) hx hb hml hown hts hEo hE hK hP hS (kJ0_length l D (tyL cI cJ cS) 16 a hEo (wM a cI cJ cS sv kep bef isk fnd man nex wor sng hea lat tap tpd her flt vlu bit lon cel btw) sa sb hEX.1 x1 hi1) gX6_isWord_J0_length_8abf5 rfl hdJ0_length_8abf5 ⟨rfl, rfl⟩ ⟨Nat.le_of_ble_eq_true rfl, Nat.le_of_ble_eq_true rfl⟩ ⟨Nat.zero_le _, Nat.zero_le _⟩ rfl hl.1 rfl (Nat.le_of_ble_eq_true rfl) dX6_isWord_30 (fun H locs hP hS => ?_)
    refine lv_icmp_ge (tgt := 70) hx hb dX6_isWord_33 (by decide) (fun c33 => ?_) (fun c33 => ?_)
    · have hres := (itl hres).1 c33
      refine lv_iload_n hx hb dX6_isWord_70 rfl (lv_at hl 2 rfl) ?_
      exact hQ ▸ rtZ (v := x2)  hx hb hr hlk hP hS (by rw [← (Option.some.inj hres)]) (by rw [← (Option.some.inj hres)]) dX6_isWord_71
    · have hres := (itl hres).2 c33
      refine lv_iload_n hx hb dX6_isWord_36 rfl (lv_at hl 2 rfl) ?_
      refine lv_if_eq (tgt := 70) hx hb dX6_isWord_37 (by decide) (fun c37 => ?_) (fun c37 => ?_)
      · have hres := (itl hres).1 c37
        refine lv_iload_n hx hb dX6_isWord_70 rfl (lv_at hl 2 rfl) ?_
        exact hQ ▸ rtZ (v := x2)  hx hb hr hlk hP hS (by rw [← (Option.some.inj hres)]) (by rw [← (Option.some.inj hres)]) dX6_isWord_71
      · have hres := (itl hres).2 c37
        refine lv_aload_n hx hb dX6_isWord_40 rfl (lv_at hl 0 rfl) ?_
        refine lv_aload_n hx hb dX6_isWord_41 rfl (lv_at hl 0 rfl) ?_
        refine gM_this6_here hx hb hown hw6 hK hP u1 dX6_isWord_42 ?_
        refine lv_iload_n hx hb dX6_isWord_45 rfl (lv_at hl 3 rfl) ?_
        refine lv_iadd hx hb dX6_isWord_46 ?_
        obtain ⟨q47, e47, hres⟩ := obd hres
        refine cvI (q0 := 0) (ci := 6) hx hb hml hown hts hEo hE hK hP hS (kX6_byteAt l D a cI cJ cS hd hEo sv kep bef isk fnd man nex wor sng hea lat tap tpd her flt vlu bit lon cel btw (her + x3) q47 e47) gX6_isWord_X6_byteAt rfl hdX6_byteAt rfl rfl rfl ⟨rfl, rfl⟩ ⟨Nat.le_of_ble_eq_true rfl, Nat.le_of_ble_eq_true rfl⟩ ⟨Nat.zero_le _, Nat.zero_le _⟩ rfl hl.1 rfl (Nat.le_of_ble_eq_true rfl) dX6_isWord_47 (fun H locs hP hS => ?_)
        refine lv_aload_n hx hb dX6_isWord_50 rfl (lv_at hl 1 rfl) ?_
        refine lv_iload_n hx hb dX6_isWord_51 rfl (lv_at hl 3 rfl) ?_
        obtain ⟨i52, hres⟩ := gdi hres
        refine cwI_ (vk_recv (hEX.1 _ _ _ hE).1 hi1 hS) hx hb hml hown hts hEo hE hK hP hS (kJ0_charAt l D (tyL cI cJ cS) 16 a hEo (wM a cI cJ cS sv kep bef isk fnd man nex wor sng hea lat tap tpd her flt vlu bit lon cel btw) sa sb hEX.1 x1 hi1 x3 i52) gX6_isWord_J0_charAt_5068e rfl hdJ0_charAt_5068e ⟨rfl, rfl⟩ ⟨Nat.le_of_ble_eq_true rfl, Nat.le_of_ble_eq_true rfl⟩ ⟨Nat.zero_le _, Nat.zero_le _⟩ rfl hl.1 rfl (Nat.le_of_ble_eq_true rfl) dX6_isWord_52 (fun H locs hP hS => ?_)
        refine lv_icmp_ne (tgt := 62) hx hb dX6_isWord_55 (by decide) (fun c55 => ?_) (fun c55 => ?_)
        · have hres := (itl hres).2 c55
          refine lv_iconst (v := 0) hx hb dX6_isWord_62 (by decide) ?_
          exact b63 x3 false hres hi1 _ _ _ hP hS (lv_sub hl [0, 1, 3] rfl)
        · have hres := (itl hres).1 c55
          refine lv_iconst (v := 1) hx hb dX6_isWord_58 (by decide) ?_
          refine lv_goto (tgt := 63) hx hb dX6_isWord_59 (by decide) ?_
          exact b63 x3 true hres hi1 _ _ _ hP hS (lv_sub hl [0, 1, 3] rfl)
  have b25 : ∀ (her : Int32) (z0 : Bool), fX6_isWord_b25 tap tpd her x1 z0 = some res → x1 < 11 → ∀ (H : Heap) (locs : List Loc) (ls : Array Slot), va_P D vwCl (wM a cI cJ cS sv kep bef isk fnd man nex wor sng hea lat tap tpd her flt vlu bit lon cel btw) H → va_S (adA a 16 s.heap.size) s.heap H locs → lv_has ls 4 [(0, .ref (a 0)), (1, .ref (sa x1))] → W p l e rX6_isWord s m args below meth c H locs 0 0 Q (F0 m 25 ls [.int (bI z0)]) := by
    intro her z0 hres hi1 H locs ls hP hS hl
    unfold fX6_isWord_b25 at hres
    refine lv_istore_n (lv' := [(2, .int (bI z0)), (0, .ref (a 0)), (1, .ref (sa x1))]) hx hb dX6_isWord_25 rfl hl (by decide) rfl (fun ls hl => ?_)
    refine lv_iconst (v := 0) hx hb dX6_isWord_26 (by decide) ?_
    refine lv_istore_n (lv' := [(3, .int (0 : Int32)), (2, .int (bI z0)), (0, .ref (a 0)), (1, .ref (sa x1))]) hx hb dX6_isWord_27 rfl hl (by decide) rfl (fun ls hl => ?_)
    exact b28 her 2000 z0 (0 : Int32) hres hi1 _ _ _ hP hS (lv_sub hl [2, 3, 1, 0] rfl)
  unfold fX6_isWord at hres
  refine lv_aload_n hx hb dX6_isWord_0 rfl (lv_at hl 0 rfl) ?_
  obtain ⟨q1, e1, hres⟩ := obd hres
  refine cvV (q0 := 0) (ci := 6) hx hb hml hown hts hEo hE hK hP hS (kX6_blanks l D a cI cJ cS hd hEo sv kep bef isk fnd man nex wor sng hea lat tap tpd her flt vlu bit lon cel btw  q1 e1) gX6_isWord_X6_blanks rfl hdX6_blanks rfl rfl rfl ⟨rfl, rfl⟩ ⟨Nat.le_of_ble_eq_true rfl, Nat.le_of_ble_eq_true rfl⟩ ⟨Nat.zero_le _, Nat.zero_le _⟩ rfl hl.1 rfl (Nat.le_of_ble_eq_true rfl) dX6_isWord_1 (fun H locs hP hS => ?_)
  refine lv_aload_n hx hb dX6_isWord_4 rfl (lv_at hl 0 rfl) ?_
  obtain ⟨q5, e5, hres⟩ := obd hres
  refine cvI (q0 := 0) (ci := 6) hx hb hml hown hts hEo hE hK hP hS (kX6_wordEnd l D a cI cJ cS hd hEo sv kep bef isk fnd man nex wor sng hea lat tap tpd q1 flt vlu bit lon cel btw  q5 e5) gX6_isWord_X6_wordEnd rfl hdX6_wordEnd rfl rfl rfl ⟨rfl, rfl⟩ ⟨Nat.le_of_ble_eq_true rfl, Nat.le_of_ble_eq_true rfl⟩ ⟨Nat.zero_le _, Nat.zero_le _⟩ rfl hl.1 rfl (Nat.le_of_ble_eq_true rfl) dX6_isWord_5 (fun H locs hP hS => ?_)
  refine lv_aload_n hx hb dX6_isWord_8 rfl (lv_at hl 0 rfl) ?_
  refine gM_this6_here hx hb hown hw6 hK hP u1 dX6_isWord_9 ?_
  refine lv_isub hx hb dX6_isWord_12 ?_
  refine lv_aload_n hx hb dX6_isWord_13 rfl (lv_at hl 1 rfl) ?_
  refine cwI_ (vk_recv (hEX.1 _ _ _ hE).1 hi1 hS) hx hb hml hown hts hEo hE hK hP hS (kJ0_length l D (tyL cI cJ cS) 16 a hEo (wM a cI cJ cS sv kep bef isk fnd man nex wor sng hea lat tap tpd q1 flt vlu bit lon cel btw) sa sb hEX.1 x1 hi1) gX6_isWord_J0_length_8abf5 rfl hdJ0_length_8abf5 ⟨rfl, rfl⟩ ⟨Nat.le_of_ble_eq_true rfl, Nat.le_of_ble_eq_true rfl⟩ ⟨Nat.zero_le _, Nat.zero_le _⟩ rfl hl.1 rfl (Nat.le_of_ble_eq_true rfl) dX6_isWord_14 (fun H locs hP hS => ?_)
  refine lv_icmp_ne (tgt := 24) hx hb dX6_isWord_17 (by decide) (fun c17 => ?_) (fun c17 => ?_)
  · have hres := (itl hres).2 c17
    refine lv_iconst (v := 0) hx hb dX6_isWord_24 (by decide) ?_
    exact b25 q1 false hres hi1 _ _ _ hP hS (lv_sub hl [0, 1] rfl)
  · have hres := (itl hres).1 c17
    refine lv_iconst (v := 1) hx hb dX6_isWord_20 (by decide) ?_
    refine lv_goto (tgt := 25) hx hb dX6_isWord_21 (by decide) ?_
    exact b25 q1 true hres hi1 _ _ _ hP hS (lv_sub hl [0, 1] rfl)
def fX6_may_b38 (her : Int32) (x2 : Bool) (z1 : Int32) (z2 : Int32) : Option (Bool × Int32) :=
  some (x2, z1 + z2)
def fX6_may_b20 (her : Int32) (x1 : Nat) (z0 : Bool) : Option (Bool × Int32) :=
  if (bI z0) = 0 then fX6_may_b38 her z0 her (0 : Int32) else fX6_may_b38 her z0 her (nI (strLen.getD x1 0))
def fX6_may_b19 (her : Int32) (x1 : Nat) : Option (Bool × Int32) :=
  fX6_may_b20 her x1 false
def fX6_may (tap : Nat → Int32) (tpd : Int32) (her : Int32) (flt : Int32) (x1 : Nat) : Option (Bool × Int32) :=
  if 0 ≤ flt then fX6_may_b19 her x1 else (fX6_isWord tap tpd her x1).bind fun q9 => if (bI q9.1) = 0 then fX6_may_b19 q9.2 x1 else fX6_may_b20 q9.2 x1 true
theorem hdX6_isWord : yX6_isWord.cls = RX6 ∧ yX6_isWord.cls ≠ "java/lang/invoke/MethodHandle" ∧ yX6_isWord.cls ≠ "java/lang/invoke/VarHandle" ∧ (parseMethodDescriptor yX6_isWord.desc).map (fun d => d.parameters.length) = some 1 := by decide +kernel
abbrev rX6_may : Room := { frames := 5, cells := 0, slots := 0, locals := 108 }
set_option maxHeartbeats 4000000 in
set_option maxRecDepth 100000 in
theorem kX6_may (l : Launch) (D : va_G) (a : Nat → Nat) (cI cJ cS : ClassId) (hd : aok a 16) {Env : (Nat → Prop) → State → Heap → Prop} (hEo : envOK Env) (sa sb : Nat → Nat) (hEX : envM Env sa sb) (sv kep bef : Nat → Int32) (isk : Int32) (fnd : Nat → Int32) (man nex : Nat → Int64) (wor sng hea lat tap : Nat → Int32) (tpd her flt vlu : Int32) (bit lon : Nat → Int32) (cel btw : Nat → Int64) (x1 : Nat) (hi1 : x1 < 11) (res : Bool × Int32) (hres : fX6_may tap tpd her flt x1 = some res) : CtI l D (tyL cI cJ cS) 16 a Env yX6_may wsX6_may rX6_may [.ref (a 0), .ref (sa x1)] (wM a cI cJ cS sv kep bef isk fnd man nex wor sng hea lat tap tpd her flt vlu bit lon cel btw) (wM a cI cJ cS sv kep bef isk fnd man nex wor sng hea lat tap tpd res.2 flt vlu bit lon cel btw) (bI res.1) := by
  refine CtI_mk (cc := cX6_may) (maxL := 3) (ret := (some .boolean)) (by decide) rfl (Nat.le_of_ble_eq_true rfl) ?_
  intro p e s m args below meth c ls hx hb hr hlk hml hown hts hP hK hE hl
  have hS : va_S (adA a 16 s.heap.size) s.heap s.heap [] := va_S.rf
  have hl : lv_has ls 3 [(0, .ref (a 0)), (1, .ref (sa x1))] := hl
  have hown : s.vm.findClass RX6 = some m.cls := hown
  have hw6 : ∀ w ∈ wsX60, w.before args s = true := fun w h => hts w (List.mem_cons_of_mem _ (List.mem_append_right _ h))
  have u1 : (Cond.fieldLink RX6 180 "YearWordsModel" "fault" "I").before args s = true := hts _ (List.mem_of_getElem? (i := 1) (by decide +kernel))
  have u2 : (Cond.fieldLink RX6 174 "YearWordsModel" "here" "I").before args s = true := hts _ (List.mem_of_getElem? (i := 2) (by decide +kernel))
  obtain ⟨Q, hQ⟩ : ∃ Q, Q = mqI below D 16 a args s (wM a cI cJ cS sv kep bef isk fnd man nex wor sng hea lat tap tpd res.2 flt vlu bit lon cel btw) (bI res.1) := ⟨_, rfl⟩
  rw [← hQ]
  have b38 : ∀ (her : Int32) (x2 : Bool) (z1 : Int32) (z2 : Int32), fX6_may_b38 her x2 z1 z2 = some res → ∀ (H : Heap) (locs : List Loc) (ls : Array Slot), va_P D vwCl (wM a cI cJ cS sv kep bef isk fnd man nex wor sng hea lat tap tpd her flt vlu bit lon cel btw) H → va_S (adA a 16 s.heap.size) s.heap H locs → lv_has ls 3 [(0, .ref (a 0)), (2, .int (bI x2))] → W p l e rX6_may s m args below meth c H locs 0 0 Q (F0 m 38 ls [.int z2, .int z1, .ref (a 0)]) := by
    intro her x2 z1 z2 hres H locs ls hP hS hl
    unfold fX6_may_b38 at hres
    refine lv_iadd hx hb dX6_may_38 ?_
    refine pM_this6_here hx hb hown hw6 hK hP hd hS u2 dX6_may_39 (fun H locs hP hS => ?_)
    refine lv_iload_n hx hb dX6_may_42 rfl (lv_at hl 1 rfl) ?_
    exact hQ ▸ rtZ (v := x2)  hx hb hr hlk hP hS (by rw [← (Option.some.inj hres)]) (by rw [← (Option.some.inj hres)]) dX6_may_43
  have b20 : ∀ (her : Int32) (z0 : Bool), fX6_may_b20 her x1 z0 = some res → x1 < 11 → ∀ (H : Heap) (locs : List Loc) (ls : Array Slot), va_P D vwCl (wM a cI cJ cS sv kep bef isk fnd man nex wor sng hea lat tap tpd her flt vlu bit lon cel btw) H → va_S (adA a 16 s.heap.size) s.heap H locs → lv_has ls 3 [(0, .ref (a 0)), (1, .ref (sa x1))] → W p l e rX6_may s m args below meth c H locs 0 0 Q (F0 m 20 ls [.int (bI z0)]) := by
    intro her z0 hres hi1 H locs ls hP hS hl
    unfold fX6_may_b20 at hres
    refine lv_istore_n (lv' := [(2, .int (bI z0)), (0, .ref (a 0)), (1, .ref (sa x1))]) hx hb dX6_may_20 rfl hl (by decide) rfl (fun ls hl => ?_)
    refine lv_aload_n hx hb dX6_may_21 rfl (lv_at hl 1 rfl) ?_
    refine lv_dup hx hb dX6_may_22 rfl ?_
    refine gM_this6_here hx hb hown hw6 hK hP u2 dX6_may_23 ?_
    refine lv_iload_n hx hb dX6_may_26 rfl (lv_at hl 0 rfl) ?_
    refine lv_if_eq (tgt := 37) hx hb dX6_may_27 (by decide) (fun c27 => ?_) (fun c27 => ?_)
    · have hres := (itl hres).1 c27
      refine lv_iconst (v := 0) hx hb dX6_may_37 (by decide) ?_
      exact b38 her z0 her (0 : Int32) hres _ _ _ hP hS (lv_sub hl [1, 0] rfl)
    · have hres := (itl hres).2 c27
      refine lv_aload_n hx hb dX6_may_30 rfl (lv_at hl 2 rfl) ?_
      refine cwI_ (vk_recv (hEX.1 _ _ _ hE).1 hi1 hS) hx hb hml hown hts hEo hE hK hP hS (kJ0_length l D (tyL cI cJ cS) 16 a hEo (wM a cI cJ cS sv kep bef isk fnd man nex wor sng hea lat tap tpd her flt vlu bit lon cel btw) sa sb hEX.1 x1 hi1) gX6_may_J0_length_8abf5 rfl hdJ0_length_8abf5 ⟨rfl, rfl⟩ ⟨Nat.le_of_ble_eq_true rfl, Nat.le_of_ble_eq_true rfl⟩ ⟨Nat.zero_le _, Nat.zero_le _⟩ rfl hl.1 rfl (Nat.le_of_ble_eq_true rfl) dX6_may_31 (fun H locs hP hS => ?_)
      refine lv_goto (tgt := 38) hx hb dX6_may_34 (by decide) ?_
      exact b38 her z0 her (nI (strLen.getD x1 0)) hres _ _ _ hP hS (lv_sub hl [1, 0] rfl)
  have b19 : ∀ (her : Int32), fX6_may_b19 her x1 = some res → x1 < 11 → ∀ (H : Heap) (locs : List Loc) (ls : Array Slot), va_P D vwCl (wM a cI cJ cS sv kep bef isk fnd man nex wor sng hea lat tap tpd her flt vlu bit lon cel btw) H → va_S (adA a 16 s.heap.size) s.heap H locs → lv_has ls 3 [(0, .ref (a 0)), (1, .ref (sa x1))] → W p l e rX6_may s m args below meth c H locs 0 0 Q (F0 m 19 ls []) := by
    intro her hres hi1 H locs ls hP hS hl
    unfold fX6_may_b19 at hres
    refine lv_iconst (v := 0) hx hb dX6_may_19 (by decide) ?_
    exact b20 her false hres hi1 _ _ _ hP hS (lv_sub hl [0, 1] rfl)
  unfold fX6_may at hres
  refine lv_aload_n hx hb dX6_may_0 rfl (lv_at hl 0 rfl) ?_
  refine gM_this6_fault hx hb hown hw6 hK hP u1 dX6_may_1 ?_
  refine lv_if_ge (tgt := 19) hx hb dX6_may_4 (by decide) (fun c4 => ?_) (fun c4 => ?_)
  · have hres := (itl hres).1 c4
    exact b19 her hres hi1 _ _ _ hP hS (lv_sub hl [0, 1] rfl)
  · have hres := (itl hres).2 c4
    refine lv_aload_n hx hb dX6_may_7 rfl (lv_at hl 0 rfl) ?_
    refine lv_aload_n hx hb dX6_may_8 rfl (lv_at hl 1 rfl) ?_
    obtain ⟨q9, e9, hres⟩ := obd hres
    refine cvI (q0 := 0) (ci := 6) hx hb hml hown hts hEo hE hK hP hS (kX6_isWord l D a cI cJ cS hd hEo sa sb hEX sv kep bef isk fnd man nex wor sng hea lat tap tpd her flt vlu bit lon cel btw x1 hi1 q9 e9) gX6_may_X6_isWord rfl hdX6_isWord rfl rfl rfl ⟨rfl, rfl⟩ ⟨Nat.le_of_ble_eq_true rfl, Nat.le_of_ble_eq_true rfl⟩ ⟨Nat.zero_le _, Nat.zero_le _⟩ rfl hl.1 rfl (Nat.le_of_ble_eq_true rfl) dX6_may_9 (fun H locs hP hS => ?_)
    refine lv_if_eq (tgt := 19) hx hb dX6_may_12 (by decide) (fun c12 => ?_) (fun c12 => ?_)
    · have hres := (itl hres).1 c12
      exact b19 q9.2 hres hi1 _ _ _ hP hS (lv_sub hl [0, 1] rfl)
    · have hres := (itl hres).2 c12
      refine lv_iconst (v := 1) hx hb dX6_may_15 (by decide) ?_
      refine lv_goto (tgt := 20) hx hb dX6_may_16 (by decide) ?_
      exact b20 q9.2 true hres hi1 _ _ _ hP hS (lv_sub hl [0, 1] rfl)
def fX6_must (tap : Nat → Int32) (tpd : Int32) (her : Int32) (flt : Int32) (x1 : Nat) : Option (Bool × Int32 × Int32) :=
 (fX6_may tap tpd her flt x1).bind fun q2 => if (bI q2.1) = 0 then if (bI ((fX6_fails q2.2 flt).1)) = 0 then some (false, q2.2, (fX6_fails q2.2 flt).2) else some (true, q2.2, (fX6_fails q2.2 flt).2) else some (true, q2.2, flt)
theorem hdX6_fails : yX6_fails.cls = RX6 ∧ yX6_fails.cls ≠ "java/lang/invoke/MethodHandle" ∧ yX6_fails.cls ≠ "java/lang/invoke/VarHandle" ∧ (parseMethodDescriptor yX6_fails.desc).map (fun d => d.parameters.length) = some 0 := by decide +kernel
theorem hdX6_may : yX6_may.cls = RX6 ∧ yX6_may.cls ≠ "java/lang/invoke/MethodHandle" ∧ yX6_may.cls ≠ "java/lang/invoke/VarHandle" ∧ (parseMethodDescriptor yX6_may.desc).map (fun d => d.parameters.length) = some 1 := by decide +kernel
abbrev rX6_must : Room := { frames := 6, cells := 0, slots := 0, locals := 130 }
set_option maxHeartbeats 4000000 in
set_option maxRecDepth 100000 in
theorem kX6_must (l : Launch) (D : va_G) (a : Nat → Nat) (cI cJ cS : ClassId) (hd : aok a 16) {Env : (Nat → Prop) → State → Heap → Prop} (hEo : envOK Env) (sa sb : Nat → Nat) (hEX : envM Env sa sb) (sv kep bef : Nat → Int32) (isk : Int32) (fnd : Nat → Int32) (man nex : Nat → Int64) (wor sng hea lat tap : Nat → Int32) (tpd her flt vlu : Int32) (bit lon : Nat → Int32) (cel btw : Nat → Int64) (x1 : Nat) (hi1 : x1 < 11) (res : Bool × Int32 × Int32) (hres : fX6_must tap tpd her flt x1 = some res) : CtI l D (tyL cI cJ cS) 16 a Env yX6_must wsX6_must rX6_must [.ref (a 0), .ref (sa x1)] (wM a cI cJ cS sv kep bef isk fnd man nex wor sng hea lat tap tpd her flt vlu bit lon cel btw) (wM a cI cJ cS sv kep bef isk fnd man nex wor sng hea lat tap tpd res.2.1 res.2.2 vlu bit lon cel btw) (bI res.1) := by
  refine CtI_mk (cc := cX6_must) (maxL := 2) (ret := (some .boolean)) (by decide) rfl (Nat.le_of_ble_eq_true rfl) ?_
  intro p e s m args below meth c ls hx hb hr hlk hml hown hts hP hK hE hl
  have hS : va_S (adA a 16 s.heap.size) s.heap s.heap [] := va_S.rf
  have hl : lv_has ls 2 [(0, .ref (a 0)), (1, .ref (sa x1))] := hl
  have hown : s.vm.findClass RX6 = some m.cls := hown
  obtain ⟨Q, hQ⟩ : ∃ Q, Q = mqI below D 16 a args s (wM a cI cJ cS sv kep bef isk fnd man nex wor sng hea lat tap tpd res.2.1 res.2.2 vlu bit lon cel btw) (bI res.1) := ⟨_, rfl⟩
  rw [← hQ]
  unfold fX6_must at hres
  refine lv_aload_n hx hb dX6_must_0 rfl (lv_at hl 0 rfl) ?_
  refine lv_aload_n hx hb dX6_must_1 rfl (lv_at hl 1 rfl) ?_
  obtain ⟨q2, e2, hres⟩ := obd hres
  refine cvI (q0 := 0) (ci := 6) hx hb hml hown hts hEo hE hK hP hS (kX6_may l D a cI cJ cS hd hEo sa sb hEX sv kep bef isk fnd man nex wor sng hea lat tap tpd her flt vlu bit lon cel btw x1 hi1 q2 e2) gX6_must_X6_may rfl hdX6_may rfl rfl rfl ⟨rfl, rfl⟩ ⟨Nat.le_of_ble_eq_true rfl, Nat.le_of_ble_eq_true rfl⟩ ⟨Nat.zero_le _, Nat.zero_le _⟩ rfl hl.1 rfl (Nat.le_of_ble_eq_true rfl) dX6_must_2 (fun H locs hP hS => ?_)
  refine lv_if_ne (tgt := 15) hx hb dX6_must_5 (by decide) (fun c5 => ?_) (fun c5 => ?_)
  · have hres := (itl hres).2 c5
    refine lv_iconst (v := 1) hx hb dX6_must_15 (by decide) ?_
    refine lv_goto (tgt := 20) hx hb dX6_must_16 (by decide) ?_
    exact hQ ▸ rtZ (v := true)  hx hb hr hlk hP hS (by rw [← (Option.some.inj hres)]) (by rw [← (Option.some.inj hres)]) dX6_must_20
  · have hres := (itl hres).1 c5
    refine lv_aload_n hx hb dX6_must_8 rfl (lv_at hl 0 rfl) ?_
    refine cvI (q0 := 0) (ci := 6) hx hb hml hown hts hEo hE hK hP hS (kX6_fails l D a cI cJ cS hd hEo sv kep bef isk fnd man nex wor sng hea lat tap tpd q2.2 flt vlu bit lon cel btw ) gX6_must_X6_fails rfl hdX6_fails rfl rfl rfl ⟨rfl, rfl⟩ ⟨Nat.le_of_ble_eq_true rfl, Nat.le_of_ble_eq_true rfl⟩ ⟨Nat.zero_le _, Nat.zero_le _⟩ rfl hl.1 rfl (Nat.le_of_ble_eq_true rfl) dX6_must_9 (fun H locs hP hS => ?_)
    refine lv_if_eq (tgt := 19) hx hb dX6_must_12 (by decide) (fun c12 => ?_) (fun c12 => ?_)
    · have hres := (itl hres).1 c12
      refine lv_iconst (v := 0) hx hb dX6_must_19 (by decide) ?_
      exact hQ ▸ rtZ (v := false)  hx hb hr hlk hP hS (by rw [← (Option.some.inj hres)]) (by rw [← (Option.some.inj hres)]) dX6_must_20
    · have hres := (itl hres).2 c12
      refine lv_iconst (v := 1) hx hb dX6_must_15 (by decide) ?_
      refine lv_goto (tgt := 20) hx hb dX6_must_16 (by decide) ?_
      exact hQ ▸ rtZ (v := true)  hx hb hr hlk hP hS (by rw [← (Option.some.inj hres)]) (by rw [← (Option.some.inj hres)]) dX6_must_20
def fX6_number_b25 (her : Int32) (flt : Int32) (vlu : Int32) : Option (Bool × Int32 × Int32 × Int32) :=
  some ((fX6_fails her flt).1, her, (fX6_fails her flt).2, vlu)
def fX6_number_b94 (her : Int32) (flt : Int32) (vlu : Int32) : Option (Bool × Int32 × Int32 × Int32) :=
  some ((fX6_fails her flt).1, her, (fX6_fails her flt).2, vlu)
def fX6_number_b80 (her : Int32) (flt : Int32) (vlu : Int32) (x1 : Int32) (x2 : Int32) (x3 : Int64) (x5 : Int32) : Option (Bool × Int32 × Int32 × Int32) :=
  if (lg_cmp x3 x1.toInt64) < 0 then fX6_number_b94 her flt vlu else if (lg_cmp x3 x2.toInt64) ≤ 0 then some (true, x5, flt, x3.toInt32) else fX6_number_b94 her flt vlu
def fX6_number_l38 (tap : Nat → Int32) (tpd : Int32) (her : Int32) (flt : Int32) (vlu : Int32) (x1 : Int32) (x2 : Int32) (K38 : Int64 → Int32 → Option (Bool × Int32 × Int32 × Int32)) (x3 : Int64) (x5 : Int32) : Option (Bool × Int32 × Int32 × Int32) :=
 (fX6_byteAt tap tpd x5).bind fun q41 => if (bI (fX6_isDigit q41)) = 0 then fX6_number_b80 her flt vlu x1 x2 x3 x5 else (fX6_byteAt tap tpd x5).bind fun q61 => K38 (if (((((10) : Int64) * x3) + q61.toInt64) - ((48) : Int64)) < ((99999) : Int64) then (((((10) : Int64) * x3) + q61.toInt64) - ((48) : Int64)) else ((99999) : Int64)) (x5 + 1)
def fX6_number (tap : Nat → Int32) (tpd : Int32) (her : Int32) (flt : Int32) (vlu : Int32) (x1 : Int32) (x2 : Int32) : Option (Bool × Int32 × Int32 × Int32) :=
 (fX6_blanks tap tpd her).bind fun q1 => if 0 ≤ flt then fX6_number_b25 q1 flt vlu else (fX6_byteAt tap tpd q1).bind fun q16 => if (bI (fX6_isDigit q16)) = 0 then fX6_number_b25 q1 flt vlu else fix2 (fX6_number_l38 tap tpd q1 flt vlu x1 x2) 2000 (0 : Int64) q1
theorem hdX6_isDigit : yX6_isDigit.cls ≠ "java/lang/invoke/MethodHandle" ∧ yX6_isDigit.cls ≠ "java/lang/invoke/VarHandle" ∧ (parseMethodDescriptor yX6_isDigit.desc).map (fun d => d.parameters.length) = some 1 := by decide +kernel
abbrev rX6_number : Room := { frames := 2, cells := 0, slots := 0, locals := 42 }
set_option maxHeartbeats 4000000 in
set_option maxRecDepth 100000 in
theorem kX6_number (l : Launch) (D : va_G) (a : Nat → Nat) (cI cJ cS : ClassId) (hd : aok a 16) {Env : (Nat → Prop) → State → Heap → Prop} (hEo : envOK Env) (sv kep bef : Nat → Int32) (isk : Int32) (fnd : Nat → Int32) (man nex : Nat → Int64) (wor sng hea lat tap : Nat → Int32) (tpd her flt vlu : Int32) (bit lon : Nat → Int32) (cel btw : Nat → Int64) (x1 : Int32) (x2 : Int32) (res : Bool × Int32 × Int32 × Int32) (hres : fX6_number tap tpd her flt vlu x1 x2 = some res) : CtI l D (tyL cI cJ cS) 16 a Env yX6_number wsX6_number rX6_number [.ref (a 0), .int x1, .int x2] (wM a cI cJ cS sv kep bef isk fnd man nex wor sng hea lat tap tpd her flt vlu bit lon cel btw) (wM a cI cJ cS sv kep bef isk fnd man nex wor sng hea lat tap tpd res.2.1 res.2.2.1 res.2.2.2 bit lon cel btw) (bI res.1) := by
  refine CtI_mk (cc := cX6_number) (maxL := 6) (ret := (some .boolean)) (by decide) rfl (Nat.le_of_ble_eq_true rfl) ?_
  intro p e s m args below meth c ls hx hb hr hlk hml hown hts hP hK hE hl
  have hS : va_S (adA a 16 s.heap.size) s.heap s.heap [] := va_S.rf
  have hl : lv_has ls 6 [(0, .ref (a 0)), (1, .int x1), (2, .int x2)] := hl
  have hown : s.vm.findClass RX6 = some m.cls := hown
  have hw6 : ∀ w ∈ wsX60, w.before args s = true := fun w h => hts w (List.mem_cons_of_mem _ (List.mem_append_right _ h))
  have u1 : (Cond.fieldLink RX6 180 "YearWordsModel" "fault" "I").before args s = true := hts _ (List.mem_of_getElem? (i := 1) (by decide +kernel))
  have u2 : (Cond.fieldLink RX6 174 "YearWordsModel" "here" "I").before args s = true := hts _ (List.mem_of_getElem? (i := 2) (by decide +kernel))
  have u3 : (Cond.constantLong RX6 216 (99999)).before args s = true := hts _ (List.mem_of_getElem? (i := 3) (by decide +kernel))
  have u4 : (Cond.constantLong RX6 218 (10)).before args s = true := hts _ (List.mem_of_getElem? (i := 4) (by decide +kernel))
  have u5 : (Cond.constantLong RX6 220 (48)).before args s = true := hts _ (List.mem_of_getElem? (i := 5) (by decide +kernel))
  have u6 : (Cond.methodLink RX6 222 Lib.MathLoose.min_long.x).before args s = true := hts _ (List.mem_of_getElem? (i := 6) (by decide +kernel))
  have u7 : (Cond.static Lib.MathLoose.min_long.x).before args s = true := hts _ (List.mem_of_getElem? (i := 7) (by decide +kernel))
  have u8 : (Cond.initialized "java/lang/Math").before args s = true := hts _ (List.mem_of_getElem? (i := 8) (by decide +kernel))
  have u9 : (Cond.code Lib.MathLoose.min_long.x Lib.MathLoose.min_long.code 4 (some .long)).before args s = true := hts _ (List.mem_of_getElem? (i := 9) (by decide +kernel))
  have u10 : (Cond.fieldLink RX6 228 "YearWordsModel" "value" "I").before args s = true := hts _ (List.mem_of_getElem? (i := 10) (by decide +kernel))
  obtain ⟨Q, hQ⟩ : ∃ Q, Q = mqI below D 16 a args s (wM a cI cJ cS sv kep bef isk fnd man nex wor sng hea lat tap tpd res.2.1 res.2.2.1 res.2.2.2 bit lon cel btw) (bI res.1) := ⟨_, rfl⟩
  rw [← hQ]
  have b25 : ∀ (her : Int32) (flt : Int32) (vlu : Int32), fX6_number_b25 her flt vlu = some res → ∀ (H : Heap) (locs : List Loc) (ls : Array Slot), va_P D vwCl (wM a cI cJ cS sv kep bef isk fnd man nex wor sng hea lat tap tpd her flt vlu bit lon cel btw) H → va_S (adA a 16 s.heap.size) s.heap H locs → lv_has ls 6 [(0, .ref (a 0))] → W p l e rX6_number s m args below meth c H locs 0 0 Q (F0 m 25 ls []) := by
    intro her flt vlu hres H locs ls hP hS hl
    unfold fX6_number_b25 at hres
    refine lv_aload_n hx hb dX6_number_25 rfl (lv_at hl 0 rfl) ?_
    refine cvI (q0 := 0) (ci := 6) hx hb hml hown hts hEo hE hK hP hS (kX6_fails l D a cI cJ cS hd hEo sv kep bef isk fnd man nex wor sng hea lat tap tpd her flt vlu bit lon cel btw ) gX6_number_X6_fails rfl hdX6_fails rfl rfl rfl ⟨rfl, rfl⟩ ⟨Nat.le_of_ble_eq_true rfl, Nat.le_of_ble_eq_true rfl⟩ ⟨Nat.zero_le _, Nat.zero_le _⟩ rfl hl.1 rfl (Nat.le_of_ble_eq_true rfl) dX6_number_26 (fun H locs hP hS => ?_)
    exact hQ ▸ rtZ (v := (fX6_fails her flt).1)  hx hb hr hlk hP hS (by rw [← (Option.some.inj hres)]) (by rw [← (Option.some.inj hres)]) dX6_number_29
  have b94 : ∀ (her : Int32) (flt : Int32) (vlu : Int32), fX6_number_b94 her flt vlu = some res → ∀ (H : Heap) (locs : List Loc) (ls : Array Slot), va_P D vwCl (wM a cI cJ cS sv kep bef isk fnd man nex wor sng hea lat tap tpd her flt vlu bit lon cel btw) H → va_S (adA a 16 s.heap.size) s.heap H locs → lv_has ls 6 [(0, .ref (a 0))] → W p l e rX6_number s m args below meth c H locs 0 0 Q (F0 m 94 ls []) := by
    intro her flt vlu hres H locs ls hP hS hl
    unfold fX6_number_b94 at hres
    refine lv_aload_n hx hb dX6_number_94 rfl (lv_at hl 0 rfl) ?_
    refine cvI (q0 := 0) (ci := 6) hx hb hml hown hts hEo hE hK hP hS (kX6_fails l D a cI cJ cS hd hEo sv kep bef isk fnd man nex wor sng hea lat tap tpd her flt vlu bit lon cel btw ) gX6_number_X6_fails rfl hdX6_fails rfl rfl rfl ⟨rfl, rfl⟩ ⟨Nat.le_of_ble_eq_true rfl, Nat.le_of_ble_eq_true rfl⟩ ⟨Nat.zero_le _, Nat.zero_le _⟩ rfl hl.1 rfl (Nat.le_of_ble_eq_true rfl) dX6_number_95 (fun H locs hP hS => ?_)
    exact hQ ▸ rtZ (v := (fX6_fails her flt).1)  hx hb hr hlk hP hS (by rw [← (Option.some.inj hres)]) (by rw [← (Option.some.inj hres)]) dX6_number_98
  have b80 : ∀ (her : Int32) (flt : Int32) (vlu : Int32) (x3 : Int64) (x5 : Int32), fX6_number_b80 her flt vlu x1 x2 x3 x5 = some res → ∀ (H : Heap) (locs : List Loc) (ls : Array Slot), va_P D vwCl (wM a cI cJ cS sv kep bef isk fnd man nex wor sng hea lat tap tpd her flt vlu bit lon cel btw) H → va_S (adA a 16 s.heap.size) s.heap H locs → lv_has ls 6 [(0, .ref (a 0)), (1, .int x1), (2, .int x2), (3, .long x3), (5, .int x5)] → W p l e rX6_number s m args below meth c H locs 0 0 Q (F0 m 80 ls []) := by
    intro her flt vlu x3 x5 hres H locs ls hP hS hl
    unfold fX6_number_b80 at hres
    refine lv_lload_n hx hb dX6_number_80 rfl (lv_at hl 3 rfl) ?_
    refine lv_iload_n hx hb dX6_number_81 rfl (lv_at hl 1 rfl) ?_
    refine lv_i2l hx hb dX6_number_82 rfl ?_
    refine W.lcmp hx hb dX6_number_83 ?_
    refine lv_if_lt (tgt := 94) hx hb dX6_number_84 (by decide) (fun c84 => ?_) (fun c84 => ?_)
    · have hres := (itl hres).1 c84
      exact b94 her flt vlu hres _ _ _ hP hS (lv_sub hl [0] rfl)
    · have hres := (itl hres).2 c84
      refine lv_lload_n hx hb dX6_number_87 rfl (lv_at hl 3 rfl) ?_
      refine lv_iload_n hx hb dX6_number_88 rfl (lv_at hl 2 rfl) ?_
      refine lv_i2l hx hb dX6_number_89 rfl ?_
      refine W.lcmp hx hb dX6_number_90 ?_
      refine lv_if_le (tgt := 99) hx hb dX6_number_91 (by decide) (fun c91 => ?_) (fun c91 => ?_)
      · have hres := (itl hres).1 c91
        refine lv_aload_n hx hb dX6_number_99 rfl (lv_at hl 0 rfl) ?_
        refine lv_iload hx hb dX6_number_100 (lv_at hl 4 rfl) ?_
        refine pM_this6_here hx hb hown hw6 hK hP hd hS u2 dX6_number_102 (fun H locs hP hS => ?_)
        refine lv_aload_n hx hb dX6_number_105 rfl (lv_at hl 0 rfl) ?_
        refine lv_lload_n hx hb dX6_number_106 rfl (lv_at hl 3 rfl) ?_
        refine lv_l2i hx hb dX6_number_107 rfl ?_
        refine pM_this6_value hx hb hown hw6 hK hP hd hS u10 dX6_number_108 (fun H locs hP hS => ?_)
        refine lv_iconst (v := 1) hx hb dX6_number_111 (by decide) ?_
        exact hQ ▸ rtZ (v := true)  hx hb hr hlk hP hS (by rw [← (Option.some.inj hres)]) (by rw [← (Option.some.inj hres)]) dX6_number_112
      · have hres := (itl hres).2 c91
        exact b94 her flt vlu hres _ _ _ hP hS (lv_sub hl [0] rfl)
  have b38 : ∀ (her : Int32) (flt : Int32) (vlu : Int32) (n : Nat) (x3 : Int64) (x5 : Int32), fix2 (fX6_number_l38 tap tpd her flt vlu x1 x2) n x3 x5 = some res → ∀ (H : Heap) (locs : List Loc) (ls : Array Slot), va_P D vwCl (wM a cI cJ cS sv kep bef isk fnd man nex wor sng hea lat tap tpd her flt vlu bit lon cel btw) H → va_S (adA a 16 s.heap.size) s.heap H locs → lv_has ls 6 [(0, .ref (a 0)), (1, .int x1), (2, .int x2), (3, .long x3), (5, .int x5)] → W p l e rX6_number s m args below meth c H locs 0 0 Q (F0 m 38 ls []) := by
    intro her flt vlu
    refine fix2_r ?_
    intro K38 hK38 x3 x5 hres H locs ls hP hS hl
    unfold fX6_number_l38 at hres
    refine lv_aload_n hx hb dX6_number_38 rfl (lv_at hl 0 rfl) ?_
    refine lv_iload hx hb dX6_number_39 (lv_at hl 4 rfl) ?_
    obtain ⟨q41, e41, hres⟩ := obd hres
    refine cvI (q0 := 0) (ci := 6) hx hb hml hown hts hEo hE hK hP hS (kX6_byteAt l D a cI cJ cS hd hEo sv kep bef isk fnd man nex wor sng hea lat tap tpd her flt vlu bit lon cel btw x5 q41 e41) gX6_number_X6_byteAt rfl hdX6_byteAt rfl rfl rfl ⟨rfl, rfl⟩ ⟨Nat.le_of_ble_eq_true rfl, Nat.le_of_ble_eq_true rfl⟩ ⟨Nat.zero_le _, Nat.zero_le _⟩ rfl hl.1 rfl (Nat.le_of_ble_eq_true rfl) dX6_number_41 (fun H locs hP hS => ?_)
    refine csI hx hb hml hown hts hEo hE hK hP hS (kX6_isDigit l D a cI cJ cS hd hEo sv kep bef isk fnd man nex wor sng hea lat tap tpd her flt vlu bit lon cel btw q41) gX6_number_X6_isDigit rfl hdX6_isDigit ⟨rfl, rfl⟩ ⟨Nat.le_of_ble_eq_true rfl, Nat.le_of_ble_eq_true rfl⟩ ⟨Nat.zero_le _, Nat.zero_le _⟩ rfl hl.1 rfl (Nat.le_of_ble_eq_true rfl) dX6_number_44 (fun H locs hP hS => ?_)
    refine lv_if_eq (tgt := 80) hx hb dX6_number_47 (by decide) (fun c47 => ?_) (fun c47 => ?_)
    · have hres := (itl hres).1 c47
      exact b80 her flt vlu x3 x5 hres _ _ _ hP hS (lv_sub hl [0, 1, 2, 3, 4] rfl)
    · have hres := (itl hres).2 c47
      refine lv_ldc2 hx hb hown u3 dX6_number_50 ?_
      refine lv_ldc2 hx hb hown u4 dX6_number_53 ?_
      refine lv_lload_n hx hb dX6_number_56 rfl (lv_at hl 3 rfl) ?_
      refine lv_lmul hx hb dX6_number_57 ?_
      refine lv_aload_n hx hb dX6_number_58 rfl (lv_at hl 0 rfl) ?_
      refine lv_iload hx hb dX6_number_59 (lv_at hl 4 rfl) ?_
      obtain ⟨q61, e61, hres⟩ := obd hres
      refine cvI (q0 := 0) (ci := 6) hx hb hml hown hts hEo hE hK hP hS (kX6_byteAt l D a cI cJ cS hd hEo sv kep bef isk fnd man nex wor sng hea lat tap tpd her flt vlu bit lon cel btw x5 q61 e61) gX6_number_X6_byteAt rfl hdX6_byteAt rfl rfl rfl ⟨rfl, rfl⟩ ⟨Nat.le_of_ble_eq_true rfl, Nat.le_of_ble_eq_true rfl⟩ ⟨Nat.zero_le _, Nat.zero_le _⟩ rfl hl.1 rfl (Nat.le_of_ble_eq_true rfl) dX6_number_61 (fun H locs hP hS => ?_)
      refine lv_i2l hx hb dX6_number_64 rfl ?_
      refine lv_ladd hx hb dX6_number_65 ?_
      refine lv_ldc2 hx hb hown u5 dX6_number_66 ?_
      refine lv_lsub hx hb dX6_number_69 ?_
      refine va_mmin_long hx hb (hml.trans hl.1.symm) hown u6 u7 u8 u9 (Nat.le_of_ble_eq_true rfl) (Nat.le_of_ble_eq_true rfl) (Nat.zero_le _) (Nat.zero_le _) dX6_number_70 ?_
      refine lv_lstore_n (lv' := [(3, .long (if (((((10) : Int64) * x3) + q61.toInt64) - ((48) : Int64)) < ((99999) : Int64) then (((((10) : Int64) * x3) + q61.toInt64) - ((48) : Int64)) else ((99999) : Int64))), (0, .ref (a 0)), (1, .int x1), (2, .int x2), (5, .int x5)]) hx hb dX6_number_73 rfl hl (by decide) rfl (fun ls hl => ?_)
      refine lv_iinc (v := x5 + 1) (lv' := [(5, .int (x5 + 1)), (3, .long (if (((((10) : Int64) * x3) + q61.toInt64) - ((48) : Int64)) < ((99999) : Int64) then (((((10) : Int64) * x3) + q61.toInt64) - ((48) : Int64)) else ((99999) : Int64))), (0, .ref (a 0)), (1, .int x1), (2, .int x2)]) hx hb dX6_number_74 hl (k := 4) rfl (congrArg (fun z => x5 + z) (by decide)) (by decide) rfl (fun ls hl => ?_)
      refine lv_goto (tgt := 38) hx hb dX6_number_77 (by decide) ?_
      exact hK38 (if (((((10) : Int64) * x3) + q61.toInt64) - ((48) : Int64)) < ((99999) : Int64) then (((((10) : Int64) * x3) + q61.toInt64) - ((48) : Int64)) else ((99999) : Int64)) (x5 + 1) hres _ _ _ hP hS (lv_sub hl [2, 3, 4, 1, 0] rfl)
  unfold fX6_number at hres
  refine lv_aload_n hx hb dX6_number_0 rfl (lv_at hl 0 rfl) ?_
  obtain ⟨q1, e1, hres⟩ := obd hres
  refine cvV (q0 := 0) (ci := 6) hx hb hml hown hts hEo hE hK hP hS (kX6_blanks l D a cI cJ cS hd hEo sv kep bef isk fnd man nex wor sng hea lat tap tpd her flt vlu bit lon cel btw  q1 e1) gX6_number_X6_blanks rfl hdX6_blanks rfl rfl rfl ⟨rfl, rfl⟩ ⟨Nat.le_of_ble_eq_true rfl, Nat.le_of_ble_eq_true rfl⟩ ⟨Nat.zero_le _, Nat.zero_le _⟩ rfl hl.1 rfl (Nat.le_of_ble_eq_true rfl) dX6_number_1 (fun H locs hP hS => ?_)
  refine lv_aload_n hx hb dX6_number_4 rfl (lv_at hl 0 rfl) ?_
  refine gM_this6_fault hx hb hown hw6 hK hP u1 dX6_number_5 ?_
  refine lv_if_ge (tgt := 25) hx hb dX6_number_8 (by decide) (fun c8 => ?_) (fun c8 => ?_)
  · have hres := (itl hres).1 c8
    exact b25 q1 flt vlu hres _ _ _ hP hS (lv_sub hl [0] rfl)
  · have hres := (itl hres).2 c8
    refine lv_aload_n hx hb dX6_number_11 rfl (lv_at hl 0 rfl) ?_
    refine lv_aload_n hx hb dX6_number_12 rfl (lv_at hl 0 rfl) ?_
    refine gM_this6_here hx hb hown hw6 hK hP u2 dX6_number_13 ?_
    obtain ⟨q16, e16, hres⟩ := obd hres
    refine cvI (q0 := 0) (ci := 6) hx hb hml hown hts hEo hE hK hP hS (kX6_byteAt l D a cI cJ cS hd hEo sv kep bef isk fnd man nex wor sng hea lat tap tpd q1 flt vlu bit lon cel btw q1 q16 e16) gX6_number_X6_byteAt rfl hdX6_byteAt rfl rfl rfl ⟨rfl, rfl⟩ ⟨Nat.le_of_ble_eq_true rfl, Nat.le_of_ble_eq_true rfl⟩ ⟨Nat.zero_le _, Nat.zero_le _⟩ rfl hl.1 rfl (Nat.le_of_ble_eq_true rfl) dX6_number_16 (fun H locs hP hS => ?_)
    refine csI hx hb hml hown hts hEo hE hK hP hS (kX6_isDigit l D a cI cJ cS hd hEo sv kep bef isk fnd man nex wor sng hea lat tap tpd q1 flt vlu bit lon cel btw q16) gX6_number_X6_isDigit rfl hdX6_isDigit ⟨rfl, rfl⟩ ⟨Nat.le_of_ble_eq_true rfl, Nat.le_of_ble_eq_true rfl⟩ ⟨Nat.zero_le _, Nat.zero_le _⟩ rfl hl.1 rfl (Nat.le_of_ble_eq_true rfl) dX6_number_19 (fun H locs hP hS => ?_)
    refine lv_if_ne (tgt := 30) hx hb dX6_number_22 (by decide) (fun c22 => ?_) (fun c22 => ?_)
    · have hres := (itl hres).2 c22
      refine lv_lconst (v := 0) hx hb dX6_number_30 (by decide) ?_
      refine lv_lstore_n (lv' := [(3, .long (0 : Int64)), (0, .ref (a 0)), (1, .int x1), (2, .int x2)]) hx hb dX6_number_31 rfl hl (by decide) rfl (fun ls hl => ?_)
      refine lv_aload_n hx hb dX6_number_32 rfl (lv_at hl 1 rfl) ?_
      refine gM_this6_here hx hb hown hw6 hK hP u2 dX6_number_33 ?_
      refine lv_istore (lv' := [(5, .int q1), (3, .long (0 : Int64)), (0, .ref (a 0)), (1, .int x1), (2, .int x2)]) hx hb dX6_number_36 hl (by decide) rfl (fun ls hl => ?_)
      exact b38 q1 flt vlu 2000 (0 : Int64) q1 hres _ _ _ hP hS (lv_sub hl [2, 3, 4, 1, 0] rfl)
    · have hres := (itl hres).1 c22
      exact b25 q1 flt vlu hres _ _ _ hP hS (lv_sub hl [0] rfl)
def fX6_isNumber (tap : Nat → Int32) (tpd : Int32) (her : Int32) (flt : Int32) : Option (Bool × Int32) :=
 (fX6_blanks tap tpd her).bind fun q1 => if 0 ≤ flt then some (false, q1) else (fX6_byteAt tap tpd q1).bind fun q16 => if (bI (fX6_isDigit q16)) = 0 then some (false, q1) else some (true, q1)
abbrev rX6_isNumber : Room := { frames := 2, cells := 0, slots := 0, locals := 42 }
set_option maxHeartbeats 4000000 in
set_option maxRecDepth 100000 in
theorem kX6_isNumber (l : Launch) (D : va_G) (a : Nat → Nat) (cI cJ cS : ClassId) (hd : aok a 16) {Env : (Nat → Prop) → State → Heap → Prop} (hEo : envOK Env) (sv kep bef : Nat → Int32) (isk : Int32) (fnd : Nat → Int32) (man nex : Nat → Int64) (wor sng hea lat tap : Nat → Int32) (tpd her flt vlu : Int32) (bit lon : Nat → Int32) (cel btw : Nat → Int64)  (res : Bool × Int32) (hres : fX6_isNumber tap tpd her flt = some res) : CtI l D (tyL cI cJ cS) 16 a Env yX6_isNumber wsX6_isNumber rX6_isNumber [.ref (a 0)] (wM a cI cJ cS sv kep bef isk fnd man nex wor sng hea lat tap tpd her flt vlu bit lon cel btw) (wM a cI cJ cS sv kep bef isk fnd man nex wor sng hea lat tap tpd res.2 flt vlu bit lon cel btw) (bI res.1) := by
  refine CtI_mk (cc := cX6_isNumber) (maxL := 1) (ret := (some .boolean)) (by decide) rfl (Nat.le_of_ble_eq_true rfl) ?_
  intro p e s m args below meth c ls hx hb hr hlk hml hown hts hP hK hE hl
  have hS : va_S (adA a 16 s.heap.size) s.heap s.heap [] := va_S.rf
  have hl : lv_has ls 1 [(0, .ref (a 0))] := hl
  have hown : s.vm.findClass RX6 = some m.cls := hown
  have hw6 : ∀ w ∈ wsX60, w.before args s = true := fun w h => hts w (List.mem_cons_of_mem _ (List.mem_append_right _ h))
  have u1 : (Cond.fieldLink RX6 180 "YearWordsModel" "fault" "I").before args s = true := hts _ (List.mem_of_getElem? (i := 1) (by decide +kernel))
  have u2 : (Cond.fieldLink RX6 174 "YearWordsModel" "here" "I").before args s = true := hts _ (List.mem_of_getElem? (i := 2) (by decide +kernel))
  obtain ⟨Q, hQ⟩ : ∃ Q, Q = mqI below D 16 a args s (wM a cI cJ cS sv kep bef isk fnd man nex wor sng hea lat tap tpd res.2 flt vlu bit lon cel btw) (bI res.1) := ⟨_, rfl⟩
  rw [← hQ]
  unfold fX6_isNumber at hres
  refine lv_aload_n hx hb dX6_isNumber_0 rfl (lv_at hl 0 rfl) ?_
  obtain ⟨q1, e1, hres⟩ := obd hres
  refine cvV (q0 := 0) (ci := 6) hx hb hml hown hts hEo hE hK hP hS (kX6_blanks l D a cI cJ cS hd hEo sv kep bef isk fnd man nex wor sng hea lat tap tpd her flt vlu bit lon cel btw  q1 e1) gX6_isNumber_X6_blanks rfl hdX6_blanks rfl rfl rfl ⟨rfl, rfl⟩ ⟨Nat.le_of_ble_eq_true rfl, Nat.le_of_ble_eq_true rfl⟩ ⟨Nat.zero_le _, Nat.zero_le _⟩ rfl hl.1 rfl (Nat.le_of_ble_eq_true rfl) dX6_isNumber_1 (fun H locs hP hS => ?_)
  refine lv_aload_n hx hb dX6_isNumber_4 rfl (lv_at hl 0 rfl) ?_
  refine gM_this6_fault hx hb hown hw6 hK hP u1 dX6_isNumber_5 ?_
  refine lv_if_ge (tgt := 29) hx hb dX6_isNumber_8 (by decide) (fun c8 => ?_) (fun c8 => ?_)
  · have hres := (itl hres).1 c8
    refine lv_iconst (v := 0) hx hb dX6_isNumber_29 (by decide) ?_
    exact hQ ▸ rtZ (v := false)  hx hb hr hlk hP hS (by rw [← (Option.some.inj hres)]) (by rw [← (Option.some.inj hres)]) dX6_isNumber_30
  · have hres := (itl hres).2 c8
    refine lv_aload_n hx hb dX6_isNumber_11 rfl (lv_at hl 0 rfl) ?_
    refine lv_aload_n hx hb dX6_isNumber_12 rfl (lv_at hl 0 rfl) ?_
    refine gM_this6_here hx hb hown hw6 hK hP u2 dX6_isNumber_13 ?_
    obtain ⟨q16, e16, hres⟩ := obd hres
    refine cvI (q0 := 0) (ci := 6) hx hb hml hown hts hEo hE hK hP hS (kX6_byteAt l D a cI cJ cS hd hEo sv kep bef isk fnd man nex wor sng hea lat tap tpd q1 flt vlu bit lon cel btw q1 q16 e16) gX6_isNumber_X6_byteAt rfl hdX6_byteAt rfl rfl rfl ⟨rfl, rfl⟩ ⟨Nat.le_of_ble_eq_true rfl, Nat.le_of_ble_eq_true rfl⟩ ⟨Nat.zero_le _, Nat.zero_le _⟩ rfl hl.1 rfl (Nat.le_of_ble_eq_true rfl) dX6_isNumber_16 (fun H locs hP hS => ?_)
    refine csI hx hb hml hown hts hEo hE hK hP hS (kX6_isDigit l D a cI cJ cS hd hEo sv kep bef isk fnd man nex wor sng hea lat tap tpd q1 flt vlu bit lon cel btw q16) gX6_isNumber_X6_isDigit rfl hdX6_isDigit ⟨rfl, rfl⟩ ⟨Nat.le_of_ble_eq_true rfl, Nat.le_of_ble_eq_true rfl⟩ ⟨Nat.zero_le _, Nat.zero_le _⟩ rfl hl.1 rfl (Nat.le_of_ble_eq_true rfl) dX6_isNumber_19 (fun H locs hP hS => ?_)
    refine lv_if_eq (tgt := 29) hx hb dX6_isNumber_22 (by decide) (fun c22 => ?_) (fun c22 => ?_)
    · have hres := (itl hres).1 c22
      refine lv_iconst (v := 0) hx hb dX6_isNumber_29 (by decide) ?_
      exact hQ ▸ rtZ (v := false)  hx hb hr hlk hP hS (by rw [← (Option.some.inj hres)]) (by rw [← (Option.some.inj hres)]) dX6_isNumber_30
    · have hres := (itl hres).2 c22
      refine lv_iconst (v := 1) hx hb dX6_isNumber_25 (by decide) ?_
      refine lv_goto (tgt := 30) hx hb dX6_isNumber_26 (by decide) ?_
      exact hQ ▸ rtZ (v := true)  hx hb hr hlk hP hS (by rw [← (Option.some.inj hres)]) (by rw [← (Option.some.inj hres)]) dX6_isNumber_30
def fX6_kindName (x0 : Int32) : Nat :=
  if x0 = 0 then 0 else if x0 = 1 then 1 else if x0 = 2 then 2 else if x0 = 3 then 3 else if x0 = 4 then 4 else 5
theorem hkX6_kindName (x0 : Int32) : fX6_kindName x0 < 11 := by
  unfold fX6_kindName
  repeat' split
  all_goals decide
abbrev rX6_kindName : Room := { frames := 0, cells := 0, slots := 0, locals := 0 }
set_option maxHeartbeats 4000000 in
set_option maxRecDepth 100000 in
theorem kX6_kindName (l : Launch) (D : va_G) (a : Nat → Nat) (cI cJ cS : ClassId) (hd : aok a 16) {Env : (Nat → Prop) → State → Heap → Prop} (hEo : envOK Env) (sa sb : Nat → Nat) (hEX : envM Env sa sb) (sv kep bef : Nat → Int32) (isk : Int32) (fnd : Nat → Int32) (man nex : Nat → Int64) (wor sng hea lat tap : Nat → Int32) (tpd her flt vlu : Int32) (bit lon : Nat → Int32) (cel btw : Nat → Int64) (x0 : Int32) : CtR l D (tyL cI cJ cS) 16 a Env yX6_kindName wsX6_kindName rX6_kindName [.int x0] (wM a cI cJ cS sv kep bef isk fnd man nex wor sng hea lat tap tpd her flt vlu bit lon cel btw) (wM a cI cJ cS sv kep bef isk fnd man nex wor sng hea lat tap tpd her flt vlu bit lon cel btw) (sa (fX6_kindName x0)) := by
  generalize hres : fX6_kindName x0 = res
  refine CtR_mk (cc := cX6_kindName) (maxL := 1) (ret := (some (.object "java/lang/String"))) (by decide) rfl (Nat.le_of_ble_eq_true rfl) ?_
  intro p e s m args below meth c ls hx hb hr hlk hml hown hts hP hK hE hl
  have hS : va_S (adA a 16 s.heap.size) s.heap s.heap [] := va_S.rf
  have hl : lv_has ls 1 [(0, .int x0)] := hl
  have hown : s.vm.findClass RX6 = some m.cls := hown
  obtain ⟨Q, hQ⟩ : ∃ Q, Q = mqR below D 16 a args s (wM a cI cJ cS sv kep bef isk fnd man nex wor sng hea lat tap tpd her flt vlu bit lon cel btw) (sa res) := ⟨_, rfl⟩
  rw [← hQ]
  unfold fX6_kindName at hres
  refine lv_iload_n hx hb dX6_kindName_0 rfl (lv_at hl 0 rfl) ?_
  by_cases v1_0 : x0 = 0
  · have hres := (itl hres).1 v1_0
    refine lv_tableIn (off := 35) (tgt := 36) hx hb dX6_kindName_1 (by rw [v1_0]; decide) (by rw [v1_0]; decide) (by rw [v1_0]; rfl) (by decide) ?_
    refine va_ldcS hx hb hown ((hEX.2 _ _ _ hE).1) dX6_kindName_36 ?_
    exact hQ ▸ rtR (v := sa 0) hx hb hr hlk hP hS (by rw [← hres]) rfl dX6_kindName_38
  · have hres := (itl hres).2 v1_0
    by_cases v1_1 : x0 = 1
    · have hres := (itl hres).1 v1_1
      refine lv_tableIn (off := 38) (tgt := 39) hx hb dX6_kindName_1 (by rw [v1_1]; decide) (by rw [v1_1]; decide) (by rw [v1_1]; rfl) (by decide) ?_
      refine va_ldcS hx hb hown ((hEX.2 _ _ _ hE).2.1) dX6_kindName_39 ?_
      exact hQ ▸ rtR (v := sa 1) hx hb hr hlk hP hS (by rw [← hres]) rfl dX6_kindName_41
    · have hres := (itl hres).2 v1_1
      by_cases v1_2 : x0 = 2
      · have hres := (itl hres).1 v1_2
        refine lv_tableIn (off := 41) (tgt := 42) hx hb dX6_kindName_1 (by rw [v1_2]; decide) (by rw [v1_2]; decide) (by rw [v1_2]; rfl) (by decide) ?_
        refine va_ldcS hx hb hown ((hEX.2 _ _ _ hE).2.2.1) dX6_kindName_42 ?_
        exact hQ ▸ rtR (v := sa 2) hx hb hr hlk hP hS (by rw [← hres]) rfl dX6_kindName_44
      · have hres := (itl hres).2 v1_2
        by_cases v1_3 : x0 = 3
        · have hres := (itl hres).1 v1_3
          refine lv_tableIn (off := 44) (tgt := 45) hx hb dX6_kindName_1 (by rw [v1_3]; decide) (by rw [v1_3]; decide) (by rw [v1_3]; rfl) (by decide) ?_
          refine va_ldcS hx hb hown ((hEX.2 _ _ _ hE).2.2.2.1) dX6_kindName_45 ?_
          exact hQ ▸ rtR (v := sa 3) hx hb hr hlk hP hS (by rw [← hres]) rfl dX6_kindName_47
        · have hres := (itl hres).2 v1_3
          by_cases v1_4 : x0 = 4
          · have hres := (itl hres).1 v1_4
            refine lv_tableIn (off := 47) (tgt := 48) hx hb dX6_kindName_1 (by rw [v1_4]; decide) (by rw [v1_4]; decide) (by rw [v1_4]; rfl) (by decide) ?_
            refine va_ldcS hx hb hown ((hEX.2 _ _ _ hE).2.2.2.2.1) dX6_kindName_48 ?_
            exact hQ ▸ rtR (v := sa 4) hx hb hr hlk hP hS (by rw [← hres]) rfl dX6_kindName_50
          · have hres := (itl hres).2 v1_4
            refine lv_tableOut (tgt := 51) hx hb dX6_kindName_1 (sw04 v1_0 v1_1 v1_2 v1_3 v1_4) (by decide) ?_
            refine va_ldcS hx hb hown ((hEX.2 _ _ _ hE).2.2.2.2.2.1) dX6_kindName_51 ?_
            exact hQ ▸ rtR (v := sa 5) hx hb hr hlk hP hS (by rw [← hres]) rfl dX6_kindName_53
def fX6_partTold_b78 (sv : Nat → Int32) (her : Int32) (flt : Int32) (vlu : Int32) (x1 : Int32) (x2 : Int32) (x3 : Int32) (x4 : Int32) : Option (Bool × (Nat → Int32) × Int32 × Int32 × Int32) :=
 (fX6_adds sv x1 x2 x3 x4).bind fun q84 => some (true, q84, her, flt, vlu)
def fX6_partTold_b51 (sv : Nat → Int32) (tap : Nat → Int32) (tpd : Int32) (her : Int32) (flt : Int32) (vlu : Int32) (x1 : Int32) (x2 : Int32) (x3 : Int32) (x4 : Bool) : Option (Bool × (Nat → Int32) × Int32 × Int32 × Int32) :=
 (fX6_may tap tpd her flt 9).bind fun q54 => if (bI q54.1) = 0 then fX6_partTold_b78 sv q54.2 flt vlu x1 x2 x3 (bI x4) else (fX6_number tap tpd q54.2 flt vlu (0 : Int32) (9 : Int32)).bind fun q64 => if (bI q64.1) = 0 then some (false, sv, q64.2.1, q64.2.2.1, q64.2.2.2) else fX6_partTold_b78 sv q64.2.1 q64.2.2.1 q64.2.2.2 x1 x2 x3 q64.2.2.2
def fX6_partTold (sv : Nat → Int32) (tap : Nat → Int32) (tpd : Int32) (her : Int32) (flt : Int32) (vlu : Int32) (x1 : Int32) : Option (Bool × (Nat → Int32) × Int32 × Int32 × Int32) :=
 (fX6_number tap tpd her flt vlu (1 : Int32) (12 : Int32)).bind fun q4 => if (bI q4.1) = 0 then some (false, sv, q4.2.1, q4.2.2.1, q4.2.2.2) else (fX6_may tap tpd q4.2.1 q4.2.2.1 8).bind fun q28 => if (bI q28.1) = 0 then fX6_partTold_b51 sv tap tpd q28.2 q4.2.2.1 q4.2.2.2 x1 q4.2.2.2 q4.2.2.2 true else (fX6_number tap tpd q28.2 q4.2.2.1 q4.2.2.2 q4.2.2.2 (12 : Int32)).bind fun q38 => if (bI q38.1) = 0 then some (false, sv, q38.2.1, q38.2.2.1, q38.2.2.2) else fX6_partTold_b51 sv tap tpd q38.2.1 q38.2.2.1 q38.2.2.2 x1 q4.2.2.2 q38.2.2.2 true
theorem hdX6_number : yX6_number.cls = RX6 ∧ yX6_number.cls ≠ "java/lang/invoke/MethodHandle" ∧ yX6_number.cls ≠ "java/lang/invoke/VarHandle" ∧ (parseMethodDescriptor yX6_number.desc).map (fun d => d.parameters.length) = some 2 := by decide +kernel
abbrev rX6_partTold : Room := { frames := 6, cells := 0, slots := 0, locals := 130 }
set_option maxHeartbeats 4000000 in
set_option maxRecDepth 100000 in
theorem kX6_partTold (l : Launch) (D : va_G) (a : Nat → Nat) (cI cJ cS : ClassId) (hd : aok a 16) {Env : (Nat → Prop) → State → Heap → Prop} (hEo : envOK Env) (sa sb : Nat → Nat) (hEX : envM Env sa sb) (sv kep bef : Nat → Int32) (isk : Int32) (fnd : Nat → Int32) (man nex : Nat → Int64) (wor sng hea lat tap : Nat → Int32) (tpd her flt vlu : Int32) (bit lon : Nat → Int32) (cel btw : Nat → Int64) (x1 : Int32) (res : Bool × (Nat → Int32) × Int32 × Int32 × Int32) (hres : fX6_partTold sv tap tpd her flt vlu x1 = some res) : CtI l D (tyL cI cJ cS) 16 a Env yX6_partTold wsX6_partTold rX6_partTold [.ref (a 0), .int x1] (wM a cI cJ cS sv kep bef isk fnd man nex wor sng hea lat tap tpd her flt vlu bit lon cel btw) (wM a cI cJ cS res.2.1 kep bef isk fnd man nex wor sng hea lat tap tpd res.2.2.1 res.2.2.2.1 res.2.2.2.2 bit lon cel btw) (bI res.1) := by
  refine CtI_mk (cc := cX6_partTold) (maxL := 5) (ret := (some .boolean)) (by decide) rfl (Nat.le_of_ble_eq_true rfl) ?_
  intro p e s m args below meth c ls hx hb hr hlk hml hown hts hP hK hE hl
  have hS : va_S (adA a 16 s.heap.size) s.heap s.heap [] := va_S.rf
  have hl : lv_has ls 5 [(0, .ref (a 0)), (1, .int x1)] := hl
  have hown : s.vm.findClass RX6 = some m.cls := hown
  have hw6 : ∀ w ∈ wsX60, w.before args s = true := fun w h => hts w (List.mem_cons_of_mem _ (List.mem_append_right _ h))
  have u1 : (Cond.fieldLink RX6 228 "YearWordsModel" "value" "I").before args s = true := hts _ (List.mem_of_getElem? (i := 1) (by decide +kernel))
  obtain ⟨Q, hQ⟩ : ∃ Q, Q = mqI below D 16 a args s (wM a cI cJ cS res.2.1 kep bef isk fnd man nex wor sng hea lat tap tpd res.2.2.1 res.2.2.2.1 res.2.2.2.2 bit lon cel btw) (bI res.1) := ⟨_, rfl⟩
  rw [← hQ]
  have b78 : ∀ (sv : Nat → Int32) (her : Int32) (flt : Int32) (vlu : Int32) (x2 : Int32) (x3 : Int32) (x4 : Int32), fX6_partTold_b78 sv her flt vlu x1 x2 x3 x4 = some res → ∀ (H : Heap) (locs : List Loc) (ls : Array Slot), va_P D vwCl (wM a cI cJ cS sv kep bef isk fnd man nex wor sng hea lat tap tpd her flt vlu bit lon cel btw) H → va_S (adA a 16 s.heap.size) s.heap H locs → lv_has ls 5 [(0, .ref (a 0)), (1, .int x1), (2, .int x2), (3, .int x3), (4, .int x4)] → W p l e rX6_partTold s m args below meth c H locs 0 0 Q (F0 m 78 ls []) := by
    intro sv her flt vlu x2 x3 x4 hres H locs ls hP hS hl
    unfold fX6_partTold_b78 at hres
    refine lv_aload_n hx hb dX6_partTold_78 rfl (lv_at hl 0 rfl) ?_
    refine lv_iload_n hx hb dX6_partTold_79 rfl (lv_at hl 1 rfl) ?_
    refine lv_iload_n hx hb dX6_partTold_80 rfl (lv_at hl 2 rfl) ?_
    refine lv_iload_n hx hb dX6_partTold_81 rfl (lv_at hl 3 rfl) ?_
    refine lv_iload hx hb dX6_partTold_82 (lv_at hl 4 rfl) ?_
    obtain ⟨q84, e84, hres⟩ := obd hres
    refine cvV (q0 := 0) (ci := 6) hx hb hml hown hts hEo hE hK hP hS (kX6_adds l D a cI cJ cS hd hEo sv kep bef isk fnd man nex wor sng hea lat tap tpd her flt vlu bit lon cel btw x1 x2 x3 x4 q84 e84) gX6_partTold_X6_adds rfl hdX6_adds rfl rfl rfl ⟨rfl, rfl⟩ ⟨Nat.le_of_ble_eq_true rfl, Nat.le_of_ble_eq_true rfl⟩ ⟨Nat.zero_le _, Nat.zero_le _⟩ rfl hl.1 rfl (Nat.le_of_ble_eq_true rfl) dX6_partTold_84 (fun H locs hP hS => ?_)
    refine lv_iconst (v := 1) hx hb dX6_partTold_87 (by decide) ?_
    exact hQ ▸ rtZ (v := true)  hx hb hr hlk hP hS (by rw [← (Option.some.inj hres)]) (by rw [← (Option.some.inj hres)]) dX6_partTold_88
  have b51 : ∀ (sv : Nat → Int32) (her : Int32) (flt : Int32) (vlu : Int32) (x2 : Int32) (x3 : Int32) (x4 : Bool), fX6_partTold_b51 sv tap tpd her flt vlu x1 x2 x3 x4 = some res → ∀ (H : Heap) (locs : List Loc) (ls : Array Slot), va_P D vwCl (wM a cI cJ cS sv kep bef isk fnd man nex wor sng hea lat tap tpd her flt vlu bit lon cel btw) H → va_S (adA a 16 s.heap.size) s.heap H locs → lv_has ls 5 [(0, .ref (a 0)), (1, .int x1), (2, .int x2), (3, .int x3), (4, .int (bI x4))] → W p l e rX6_partTold s m args below meth c H locs 0 0 Q (F0 m 51 ls []) := by
    intro sv her flt vlu x2 x3 x4 hres H locs ls hP hS hl
    unfold fX6_partTold_b51 at hres
    refine lv_aload_n hx hb dX6_partTold_51 rfl (lv_at hl 0 rfl) ?_
    refine va_ldcS hx hb hown ((hEX.2 _ _ _ hE).2.2.2.2.2.2.2.2.2.1) dX6_partTold_52 ?_
    obtain ⟨q54, e54, hres⟩ := obd hres
    refine cvI (q0 := 0) (ci := 6) hx hb hml hown hts hEo hE hK hP hS (kX6_may l D a cI cJ cS hd hEo sa sb hEX sv kep bef isk fnd man nex wor sng hea lat tap tpd her flt vlu bit lon cel btw 9 (by decide) q54 e54) gX6_partTold_X6_may rfl hdX6_may rfl rfl rfl ⟨rfl, rfl⟩ ⟨Nat.le_of_ble_eq_true rfl, Nat.le_of_ble_eq_true rfl⟩ ⟨Nat.zero_le _, Nat.zero_le _⟩ rfl hl.1 rfl (Nat.le_of_ble_eq_true rfl) dX6_partTold_54 (fun H locs hP hS => ?_)
    refine lv_if_eq (tgt := 78) hx hb dX6_partTold_57 (by decide) (fun c57 => ?_) (fun c57 => ?_)
    · have hres := (itl hres).1 c57
      exact b78 sv q54.2 flt vlu x2 x3 (bI x4) hres _ _ _ hP hS (lv_sub hl [0, 1, 2, 3, 4] rfl)
    · have hres := (itl hres).2 c57
      refine lv_aload_n hx hb dX6_partTold_60 rfl (lv_at hl 0 rfl) ?_
      refine lv_iconst (v := 0) hx hb dX6_partTold_61 (by decide) ?_
      refine lv_bipush (v := 9) hx hb dX6_partTold_62 (by decide) ?_
      obtain ⟨q64, e64, hres⟩ := obd hres
      refine cvI (q0 := 0) (ci := 6) hx hb hml hown hts hEo hE hK hP hS (kX6_number l D a cI cJ cS hd hEo sv kep bef isk fnd man nex wor sng hea lat tap tpd q54.2 flt vlu bit lon cel btw (0 : Int32) (9 : Int32) q64 e64) gX6_partTold_X6_number rfl hdX6_number rfl rfl rfl ⟨rfl, rfl⟩ ⟨Nat.le_of_ble_eq_true rfl, Nat.le_of_ble_eq_true rfl⟩ ⟨Nat.zero_le _, Nat.zero_le _⟩ rfl hl.1 rfl (Nat.le_of_ble_eq_true rfl) dX6_partTold_64 (fun H locs hP hS => ?_)
      refine lv_if_ne (tgt := 72) hx hb dX6_partTold_67 (by decide) (fun c67 => ?_) (fun c67 => ?_)
      · have hres := (itl hres).2 c67
        refine lv_aload_n hx hb dX6_partTold_72 rfl (lv_at hl 0 rfl) ?_
        refine gM_this6_value hx hb hown hw6 hK hP u1 dX6_partTold_73 ?_
        refine lv_istore (lv' := [(4, .int q64.2.2.2), (0, .ref (a 0)), (1, .int x1), (2, .int x2), (3, .int x3)]) hx hb dX6_partTold_76 hl (by decide) rfl (fun ls hl => ?_)
        exact b78 sv q64.2.1 q64.2.2.1 q64.2.2.2 x2 x3 q64.2.2.2 hres _ _ _ hP hS (lv_sub hl [1, 2, 3, 4, 0] rfl)
      · have hres := (itl hres).1 c67
        refine lv_iconst (v := 0) hx hb dX6_partTold_70 (by decide) ?_
        exact hQ ▸ rtZ (v := false)  hx hb hr hlk hP hS (by rw [← (Option.some.inj hres)]) (by rw [← (Option.some.inj hres)]) dX6_partTold_71
  unfold fX6_partTold at hres
  refine lv_aload_n hx hb dX6_partTold_0 rfl (lv_at hl 0 rfl) ?_
  refine lv_iconst (v := 1) hx hb dX6_partTold_1 (by decide) ?_
  refine lv_bipush (v := 12) hx hb dX6_partTold_2 (by decide) ?_
  obtain ⟨q4, e4, hres⟩ := obd hres
  refine cvI (q0 := 0) (ci := 6) hx hb hml hown hts hEo hE hK hP hS (kX6_number l D a cI cJ cS hd hEo sv kep bef isk fnd man nex wor sng hea lat tap tpd her flt vlu bit lon cel btw (1 : Int32) (12 : Int32) q4 e4) gX6_partTold_X6_number rfl hdX6_number rfl rfl rfl ⟨rfl, rfl⟩ ⟨Nat.le_of_ble_eq_true rfl, Nat.le_of_ble_eq_true rfl⟩ ⟨Nat.zero_le _, Nat.zero_le _⟩ rfl hl.1 rfl (Nat.le_of_ble_eq_true rfl) dX6_partTold_4 (fun H locs hP hS => ?_)
  refine lv_if_ne (tgt := 12) hx hb dX6_partTold_7 (by decide) (fun c7 => ?_) (fun c7 => ?_)
  · have hres := (itl hres).2 c7
    refine lv_aload_n hx hb dX6_partTold_12 rfl (lv_at hl 0 rfl) ?_
    refine gM_this6_value hx hb hown hw6 hK hP u1 dX6_partTold_13 ?_
    refine lv_istore_n (lv' := [(2, .int q4.2.2.2), (0, .ref (a 0)), (1, .int x1)]) hx hb dX6_partTold_16 rfl hl (by decide) rfl (fun ls hl => ?_)
    refine lv_aload_n hx hb dX6_partTold_17 rfl (lv_at hl 1 rfl) ?_
    refine gM_this6_value hx hb hown hw6 hK hP u1 dX6_partTold_18 ?_
    refine lv_istore_n (lv' := [(3, .int q4.2.2.2), (2, .int q4.2.2.2), (0, .ref (a 0)), (1, .int x1)]) hx hb dX6_partTold_21 rfl hl (by decide) rfl (fun ls hl => ?_)
    refine lv_iconst (v := 1) hx hb dX6_partTold_22 (by decide) ?_
    refine lv_istore (lv' := [(4, .int (1 : Int32)), (3, .int q4.2.2.2), (2, .int q4.2.2.2), (0, .ref (a 0)), (1, .int x1)]) hx hb dX6_partTold_23 hl (by decide) rfl (fun ls hl => ?_)
    refine lv_aload_n hx hb dX6_partTold_25 rfl (lv_at hl 3 rfl) ?_
    refine va_ldcS hx hb hown ((hEX.2 _ _ _ hE).2.2.2.2.2.2.2.2.1) dX6_partTold_26 ?_
    obtain ⟨q28, e28, hres⟩ := obd hres
    refine cvI (q0 := 0) (ci := 6) hx hb hml hown hts hEo hE hK hP hS (kX6_may l D a cI cJ cS hd hEo sa sb hEX sv kep bef isk fnd man nex wor sng hea lat tap tpd q4.2.1 q4.2.2.1 q4.2.2.2 bit lon cel btw 8 (by decide) q28 e28) gX6_partTold_X6_may rfl hdX6_may rfl rfl rfl ⟨rfl, rfl⟩ ⟨Nat.le_of_ble_eq_true rfl, Nat.le_of_ble_eq_true rfl⟩ ⟨Nat.zero_le _, Nat.zero_le _⟩ rfl hl.1 rfl (Nat.le_of_ble_eq_true rfl) dX6_partTold_28 (fun H locs hP hS => ?_)
    refine lv_if_eq (tgt := 51) hx hb dX6_partTold_31 (by decide) (fun c31 => ?_) (fun c31 => ?_)
    · have hres := (itl hres).1 c31
      exact b51 sv q28.2 q4.2.2.1 q4.2.2.2 q4.2.2.2 q4.2.2.2 true hres _ _ _ hP hS (lv_sub hl [3, 4, 2, 1, 0] rfl)
    · have hres := (itl hres).2 c31
      refine lv_aload_n hx hb dX6_partTold_34 rfl (lv_at hl 3 rfl) ?_
      refine lv_iload_n hx hb dX6_partTold_35 rfl (lv_at hl 2 rfl) ?_
      refine lv_bipush (v := 12) hx hb dX6_partTold_36 (by decide) ?_
      obtain ⟨q38, e38, hres⟩ := obd hres
      refine cvI (q0 := 0) (ci := 6) hx hb hml hown hts hEo hE hK hP hS (kX6_number l D a cI cJ cS hd hEo sv kep bef isk fnd man nex wor sng hea lat tap tpd q28.2 q4.2.2.1 q4.2.2.2 bit lon cel btw q4.2.2.2 (12 : Int32) q38 e38) gX6_partTold_X6_number rfl hdX6_number rfl rfl rfl ⟨rfl, rfl⟩ ⟨Nat.le_of_ble_eq_true rfl, Nat.le_of_ble_eq_true rfl⟩ ⟨Nat.zero_le _, Nat.zero_le _⟩ rfl hl.1 rfl (Nat.le_of_ble_eq_true rfl) dX6_partTold_38 (fun H locs hP hS => ?_)
      refine lv_if_ne (tgt := 46) hx hb dX6_partTold_41 (by decide) (fun c41 => ?_) (fun c41 => ?_)
      · have hres := (itl hres).2 c41
        refine lv_aload_n hx hb dX6_partTold_46 rfl (lv_at hl 3 rfl) ?_
        refine gM_this6_value hx hb hown hw6 hK hP u1 dX6_partTold_47 ?_
        refine lv_istore_n (lv' := [(3, .int q38.2.2.2), (4, .int (1 : Int32)), (2, .int q4.2.2.2), (0, .ref (a 0)), (1, .int x1)]) hx hb dX6_partTold_50 rfl hl (by decide) rfl (fun ls hl => ?_)
        exact b51 sv q38.2.1 q38.2.2.1 q38.2.2.2 q4.2.2.2 q38.2.2.2 true hres _ _ _ hP hS (lv_sub hl [3, 4, 2, 0, 1] rfl)
      · have hres := (itl hres).1 c41
        refine lv_iconst (v := 0) hx hb dX6_partTold_44 (by decide) ?_
        exact hQ ▸ rtZ (v := false)  hx hb hr hlk hP hS (by rw [← (Option.some.inj hres)]) (by rw [← (Option.some.inj hres)]) dX6_partTold_45
  · have hres := (itl hres).1 c7
    refine lv_iconst (v := 0) hx hb dX6_partTold_10 (by decide) ?_
    exact hQ ▸ rtZ (v := false)  hx hb hr hlk hP hS (by rw [← (Option.some.inj hres)]) (by rw [← (Option.some.inj hres)]) dX6_partTold_11
def fX6_taleTold_b26 (sv : Nat → Int32) (fnd : Nat → Int32) (her : Int32) (flt : Int32) (vlu : Int32) : Option (Bool × (Nat → Int32) × (Nat → Int32) × Int32 × Int32 × Int32) :=
  some ((fX6_fails her flt).1, sv, fnd, her, (fX6_fails her flt).2, vlu)
def fX6_taleTold_l16 (fnd : Nat → Int32) (tap : Nat → Int32) (tpd : Int32) (x1 : Int32) (K16 : (Nat → Int32) → Int32 → Int32 → Int32 → Option (Bool × (Nat → Int32) × (Nat → Int32) × Int32 × Int32 × Int32)) (sv : Nat → Int32) (her : Int32) (flt : Int32) (vlu : Int32) : Option (Bool × (Nat → Int32) × (Nat → Int32) × Int32 × Int32 × Int32) :=
 (fX6_long_ sv x1).bind fun q18 => if q18 = (10 : Int32) then fX6_taleTold_b26 sv fnd her flt vlu else (fX6_number tap tpd her flt vlu (0 : Int32) ((sv (1 : Int32).toNatClampNeg) - (1 : Int32))).bind fun q41 => if (bI q41.1) = 0 then some (false, sv, fnd, q41.2.1, q41.2.2.1, q41.2.2.2) else (fX6_tells sv x1 q41.2.2.2).bind fun q55 => (fX6_isNumber tap tpd q41.2.1 q41.2.2.1).bind fun q59 => if (bI q59.1) = 0 then some (true, q55, fnd, q59.2, q41.2.2.1, q41.2.2.2) else K16 q55 q59.2 q41.2.2.1 q41.2.2.2
def fX6_taleTold (sv : Nat → Int32) (fnd : Nat → Int32) (tap : Nat → Int32) (tpd : Int32) (her : Int32) (flt : Int32) (vlu : Int32) : Option (Bool × (Nat → Int32) × (Nat → Int32) × Int32 × Int32 × Int32) :=
 (fX6_tale sv fnd).bind fun q1 => (fX6_may tap tpd her flt 10).bind fun q8 => if (bI q8.1) = 0 then some (true, q1.2.1, q1.2.2, q8.2, flt, vlu) else fix4 (fX6_taleTold_l16 q1.2.2 tap tpd q1.1) 2000 q1.2.1 q8.2 flt vlu
theorem hdX6_isNumber : yX6_isNumber.cls = RX6 ∧ yX6_isNumber.cls ≠ "java/lang/invoke/MethodHandle" ∧ yX6_isNumber.cls ≠ "java/lang/invoke/VarHandle" ∧ (parseMethodDescriptor yX6_isNumber.desc).map (fun d => d.parameters.length) = some 0 := by decide +kernel
theorem hdX6_tale : yX6_tale.cls = RX6 ∧ yX6_tale.cls ≠ "java/lang/invoke/MethodHandle" ∧ yX6_tale.cls ≠ "java/lang/invoke/VarHandle" ∧ (parseMethodDescriptor yX6_tale.desc).map (fun d => d.parameters.length) = some 0 := by decide +kernel
abbrev rX6_taleTold : Room := { frames := 6, cells := 0, slots := 0, locals := 130 }
set_option maxHeartbeats 4000000 in
set_option maxRecDepth 100000 in
theorem kX6_taleTold (l : Launch) (D : va_G) (a : Nat → Nat) (cI cJ cS : ClassId) (hd : aok a 16) {Env : (Nat → Prop) → State → Heap → Prop} (hEo : envOK Env) (sa sb : Nat → Nat) (hEX : envM Env sa sb) (sv kep bef : Nat → Int32) (isk : Int32) (fnd : Nat → Int32) (man nex : Nat → Int64) (wor sng hea lat tap : Nat → Int32) (tpd her flt vlu : Int32) (bit lon : Nat → Int32) (cel btw : Nat → Int64)  (res : Bool × (Nat → Int32) × (Nat → Int32) × Int32 × Int32 × Int32) (hres : fX6_taleTold sv fnd tap tpd her flt vlu = some res) : CtI l D (tyL cI cJ cS) 16 a Env yX6_taleTold wsX6_taleTold rX6_taleTold [.ref (a 0)] (wM a cI cJ cS sv kep bef isk fnd man nex wor sng hea lat tap tpd her flt vlu bit lon cel btw) (wM a cI cJ cS res.2.1 kep bef isk res.2.2.1 man nex wor sng hea lat tap tpd res.2.2.2.1 res.2.2.2.2.1 res.2.2.2.2.2 bit lon cel btw) (bI res.1) := by
  refine CtI_mk (cc := cX6_taleTold) (maxL := 2) (ret := (some .boolean)) (by decide) rfl (Nat.le_of_ble_eq_true rfl) ?_
  intro p e s m args below meth c ls hx hb hr hlk hml hown hts hP hK hE hl
  have hS : va_S (adA a 16 s.heap.size) s.heap s.heap [] := va_S.rf
  have hl : lv_has ls 2 [(0, .ref (a 0))] := hl
  have hown : s.vm.findClass RX6 = some m.cls := hown
  have hw6 : ∀ w ∈ wsX60, w.before args s = true := fun w h => hts w (List.mem_cons_of_mem _ (List.mem_append_right _ h))
  have u1 : (Cond.fieldLink RX6 9 "YearWordsModel" "s" "[I").before args s = true := hts _ (List.mem_of_getElem? (i := 1) (by decide +kernel))
  have u2 : (Cond.fieldLink RX6 228 "YearWordsModel" "value" "I").before args s = true := hts _ (List.mem_of_getElem? (i := 2) (by decide +kernel))
  obtain ⟨Q, hQ⟩ : ∃ Q, Q = mqI below D 16 a args s (wM a cI cJ cS res.2.1 kep bef isk res.2.2.1 man nex wor sng hea lat tap tpd res.2.2.2.1 res.2.2.2.2.1 res.2.2.2.2.2 bit lon cel btw) (bI res.1) := ⟨_, rfl⟩
  rw [← hQ]
  have b26 : ∀ (sv : Nat → Int32) (fnd : Nat → Int32) (her : Int32) (flt : Int32) (vlu : Int32), fX6_taleTold_b26 sv fnd her flt vlu = some res → ∀ (H : Heap) (locs : List Loc) (ls : Array Slot), va_P D vwCl (wM a cI cJ cS sv kep bef isk fnd man nex wor sng hea lat tap tpd her flt vlu bit lon cel btw) H → va_S (adA a 16 s.heap.size) s.heap H locs → lv_has ls 2 [(0, .ref (a 0))] → W p l e rX6_taleTold s m args below meth c H locs 0 0 Q (F0 m 26 ls []) := by
    intro sv fnd her flt vlu hres H locs ls hP hS hl
    unfold fX6_taleTold_b26 at hres
    refine lv_aload_n hx hb dX6_taleTold_26 rfl (lv_at hl 0 rfl) ?_
    refine cvI (q0 := 0) (ci := 6) hx hb hml hown hts hEo hE hK hP hS (kX6_fails l D a cI cJ cS hd hEo sv kep bef isk fnd man nex wor sng hea lat tap tpd her flt vlu bit lon cel btw ) gX6_taleTold_X6_fails rfl hdX6_fails rfl rfl rfl ⟨rfl, rfl⟩ ⟨Nat.le_of_ble_eq_true rfl, Nat.le_of_ble_eq_true rfl⟩ ⟨Nat.zero_le _, Nat.zero_le _⟩ rfl hl.1 rfl (Nat.le_of_ble_eq_true rfl) dX6_taleTold_27 (fun H locs hP hS => ?_)
    exact hQ ▸ rtZ (v := (fX6_fails her flt).1)  hx hb hr hlk hP hS (by rw [← (Option.some.inj hres)]) (by rw [← (Option.some.inj hres)]) dX6_taleTold_30
  have b16 : ∀ (fnd : Nat → Int32) (x1 : Int32) (n : Nat) (sv : Nat → Int32) (her : Int32) (flt : Int32) (vlu : Int32), fix4 (fX6_taleTold_l16 fnd tap tpd x1) n sv her flt vlu = some res → ∀ (H : Heap) (locs : List Loc) (ls : Array Slot), va_P D vwCl (wM a cI cJ cS sv kep bef isk fnd man nex wor sng hea lat tap tpd her flt vlu bit lon cel btw) H → va_S (adA a 16 s.heap.size) s.heap H locs → lv_has ls 2 [(0, .ref (a 0)), (1, .int x1)] → W p l e rX6_taleTold s m args below meth c H locs 0 0 Q (F0 m 16 ls []) := by
    intro fnd x1
    refine fix4_r ?_
    intro K16 hK16 sv her flt vlu hres H locs ls hP hS hl
    unfold fX6_taleTold_l16 at hres
    refine lv_aload_n hx hb dX6_taleTold_16 rfl (lv_at hl 0 rfl) ?_
    refine lv_iload_n hx hb dX6_taleTold_17 rfl (lv_at hl 1 rfl) ?_
    obtain ⟨q18, e18, hres⟩ := obd hres
    refine cvI (q0 := 0) (ci := 6) hx hb hml hown hts hEo hE hK hP hS (kX6_long_ l D a cI cJ cS hd hEo sv kep bef isk fnd man nex wor sng hea lat tap tpd her flt vlu bit lon cel btw x1 q18 e18) gX6_taleTold_X6_long_ rfl hdX6_long_ rfl rfl rfl ⟨rfl, rfl⟩ ⟨Nat.le_of_ble_eq_true rfl, Nat.le_of_ble_eq_true rfl⟩ ⟨Nat.zero_le _, Nat.zero_le _⟩ rfl hl.1 rfl (Nat.le_of_ble_eq_true rfl) dX6_taleTold_18 (fun H locs hP hS => ?_)
    refine lv_bipush (v := 10) hx hb dX6_taleTold_21 (by decide) ?_
    refine lv_icmp_ne (tgt := 31) hx hb dX6_taleTold_23 (by decide) (fun c23 => ?_) (fun c23 => ?_)
    · have hres := (itl hres).2 c23
      refine lv_aload_n hx hb dX6_taleTold_31 rfl (lv_at hl 0 rfl) ?_
      refine lv_iconst (v := 0) hx hb dX6_taleTold_32 (by decide) ?_
      refine lv_aload_n hx hb dX6_taleTold_33 rfl (lv_at hl 0 rfl) ?_
      refine gM_this6_s hx hb hown hw6 hK hP u1 dX6_taleTold_34 ?_
      refine lv_iconst (v := 1) hx hb dX6_taleTold_37 (by decide) ?_
      have i38 : vp_in (1 : Int32) 166 := ib_in (by decide)
      refine lM_sv hx hb hK hP i38 dX6_taleTold_38 ?_
      refine lv_iconst (v := 1) hx hb dX6_taleTold_39 (by decide) ?_
      refine lv_isub hx hb dX6_taleTold_40 ?_
      obtain ⟨q41, e41, hres⟩ := obd hres
      refine cvI (q0 := 0) (ci := 6) hx hb hml hown hts hEo hE hK hP hS (kX6_number l D a cI cJ cS hd hEo sv kep bef isk fnd man nex wor sng hea lat tap tpd her flt vlu bit lon cel btw (0 : Int32) ((sv (1 : Int32).toNatClampNeg) - (1 : Int32)) q41 e41) gX6_taleTold_X6_number rfl hdX6_number rfl rfl rfl ⟨rfl, rfl⟩ ⟨Nat.le_of_ble_eq_true rfl, Nat.le_of_ble_eq_true rfl⟩ ⟨Nat.zero_le _, Nat.zero_le _⟩ rfl hl.1 rfl (Nat.le_of_ble_eq_true rfl) dX6_taleTold_41 (fun H locs hP hS => ?_)
      refine lv_if_ne (tgt := 49) hx hb dX6_taleTold_44 (by decide) (fun c44 => ?_) (fun c44 => ?_)
      · have hres := (itl hres).2 c44
        refine lv_aload_n hx hb dX6_taleTold_49 rfl (lv_at hl 0 rfl) ?_
        refine lv_iload_n hx hb dX6_taleTold_50 rfl (lv_at hl 1 rfl) ?_
        refine lv_aload_n hx hb dX6_taleTold_51 rfl (lv_at hl 0 rfl) ?_
        refine gM_this6_value hx hb hown hw6 hK hP u2 dX6_taleTold_52 ?_
        obtain ⟨q55, e55, hres⟩ := obd hres
        refine cvV (q0 := 0) (ci := 6) hx hb hml hown hts hEo hE hK hP hS (kX6_tells l D a cI cJ cS hd hEo sv kep bef isk fnd man nex wor sng hea lat tap tpd q41.2.1 q41.2.2.1 q41.2.2.2 bit lon cel btw x1 q41.2.2.2 q55 e55) gX6_taleTold_X6_tells rfl hdX6_tells rfl rfl rfl ⟨rfl, rfl⟩ ⟨Nat.le_of_ble_eq_true rfl, Nat.le_of_ble_eq_true rfl⟩ ⟨Nat.zero_le _, Nat.zero_le _⟩ rfl hl.1 rfl (Nat.le_of_ble_eq_true rfl) dX6_taleTold_55 (fun H locs hP hS => ?_)
        refine lv_aload_n hx hb dX6_taleTold_58 rfl (lv_at hl 0 rfl) ?_
        obtain ⟨q59, e59, hres⟩ := obd hres
        refine cvI (q0 := 0) (ci := 6) hx hb hml hown hts hEo hE hK hP hS (kX6_isNumber l D a cI cJ cS hd hEo q55 kep bef isk fnd man nex wor sng hea lat tap tpd q41.2.1 q41.2.2.1 q41.2.2.2 bit lon cel btw  q59 e59) gX6_taleTold_X6_isNumber rfl hdX6_isNumber rfl rfl rfl ⟨rfl, rfl⟩ ⟨Nat.le_of_ble_eq_true rfl, Nat.le_of_ble_eq_true rfl⟩ ⟨Nat.zero_le _, Nat.zero_le _⟩ rfl hl.1 rfl (Nat.le_of_ble_eq_true rfl) dX6_taleTold_59 (fun H locs hP hS => ?_)
        refine lv_if_ne (tgt := 16) hx hb dX6_taleTold_62 (by decide) (fun c62 => ?_) (fun c62 => ?_)
        · have hres := (itl hres).2 c62
          exact hK16 q55 q59.2 q41.2.2.1 q41.2.2.2 hres _ _ _ hP hS (lv_sub hl [0, 1] rfl)
        · have hres := (itl hres).1 c62
          refine lv_iconst (v := 1) hx hb dX6_taleTold_65 (by decide) ?_
          exact hQ ▸ rtZ (v := true)  hx hb hr hlk hP hS (by rw [← (Option.some.inj hres)]) (by rw [← (Option.some.inj hres)]) dX6_taleTold_66
      · have hres := (itl hres).1 c44
        refine lv_iconst (v := 0) hx hb dX6_taleTold_47 (by decide) ?_
        exact hQ ▸ rtZ (v := false)  hx hb hr hlk hP hS (by rw [← (Option.some.inj hres)]) (by rw [← (Option.some.inj hres)]) dX6_taleTold_48
    · have hres := (itl hres).1 c23
      exact b26 sv fnd her flt vlu hres _ _ _ hP hS (lv_sub hl [0] rfl)
  unfold fX6_taleTold at hres
  refine lv_aload_n hx hb dX6_taleTold_0 rfl (lv_at hl 0 rfl) ?_
  obtain ⟨q1, e1, hres⟩ := obd hres
  refine cvI (q0 := 0) (ci := 6) hx hb hml hown hts hEo hE hK hP hS (kX6_tale l D a cI cJ cS hd hEo sv kep bef isk fnd man nex wor sng hea lat tap tpd her flt vlu bit lon cel btw  q1 e1) gX6_taleTold_X6_tale rfl hdX6_tale rfl rfl rfl ⟨rfl, rfl⟩ ⟨Nat.le_of_ble_eq_true rfl, Nat.le_of_ble_eq_true rfl⟩ ⟨Nat.zero_le _, Nat.zero_le _⟩ rfl hl.1 rfl (Nat.le_of_ble_eq_true rfl) dX6_taleTold_1 (fun H locs hP hS => ?_)
  refine lv_istore_n (lv' := [(1, .int q1.1), (0, .ref (a 0))]) hx hb dX6_taleTold_4 rfl hl (by decide) rfl (fun ls hl => ?_)
  refine lv_aload_n hx hb dX6_taleTold_5 rfl (lv_at hl 1 rfl) ?_
  refine va_ldcS hx hb hown ((hEX.2 _ _ _ hE).2.2.2.2.2.2.2.2.2.2) dX6_taleTold_6 ?_
  obtain ⟨q8, e8, hres⟩ := obd hres
  refine cvI (q0 := 0) (ci := 6) hx hb hml hown hts hEo hE hK hP hS (kX6_may l D a cI cJ cS hd hEo sa sb hEX q1.2.1 kep bef isk q1.2.2 man nex wor sng hea lat tap tpd her flt vlu bit lon cel btw 10 (by decide) q8 e8) gX6_taleTold_X6_may rfl hdX6_may rfl rfl rfl ⟨rfl, rfl⟩ ⟨Nat.le_of_ble_eq_true rfl, Nat.le_of_ble_eq_true rfl⟩ ⟨Nat.zero_le _, Nat.zero_le _⟩ rfl hl.1 rfl (Nat.le_of_ble_eq_true rfl) dX6_taleTold_8 (fun H locs hP hS => ?_)
  refine lv_if_ne (tgt := 16) hx hb dX6_taleTold_11 (by decide) (fun c11 => ?_) (fun c11 => ?_)
  · have hres := (itl hres).2 c11
    exact b16 q1.2.2 q1.1 2000 q1.2.1 q8.2 flt vlu hres _ _ _ hP hS (lv_sub hl [1, 0] rfl)
  · have hres := (itl hres).1 c11
    refine lv_iconst (v := 1) hx hb dX6_taleTold_14 (by decide) ?_
    exact hQ ▸ rtZ (v := true)  hx hb hr hlk hP hS (by rw [← (Option.some.inj hres)]) (by rw [← (Option.some.inj hres)]) dX6_taleTold_15
def fX6_item_b30 (sv : Nat → Int32) (fnd : Nat → Int32) (her : Int32) (flt : Int32) (vlu : Int32) : Option (Bool × (Nat → Int32) × (Nat → Int32) × Int32 × Int32 × Int32) :=
  some ((fX6_fails her flt).1, sv, fnd, her, (fX6_fails her flt).2, vlu)
def fX6_item_b46 (sv : Nat → Int32) (fnd : Nat → Int32) (tap : Nat → Int32) (tpd : Int32) (her : Int32) (flt : Int32) (vlu : Int32) (x1 : Int32) : Option (Bool × (Nat → Int32) × (Nat → Int32) × Int32 × Int32 × Int32) :=
 (fX6_partTold sv tap tpd her flt vlu x1).bind fun q48 => some (q48.1, q48.2.1, fnd, q48.2.2.1, q48.2.2.2.1, q48.2.2.2.2)
def fX6_item_b35 (K2 : Int32 → Int32 → Option (Bool × (Nat → Int32) × (Nat → Int32) × Int32 × Int32 × Int32)) (sv : Nat → Int32) (fnd : Nat → Int32) (tap : Nat → Int32) (tpd : Int32) (her : Int32) (flt : Int32) (vlu : Int32) (x1 : Int32) : Option (Bool × (Nat → Int32) × (Nat → Int32) × Int32 × Int32 × Int32) :=
 (fX6_may tap tpd her flt (fX6_kindName x1)).bind fun q40 => if (bI q40.1) = 0 then K2 (x1 + 1) q40.2 else fX6_item_b46 sv fnd tap tpd q40.2 flt vlu x1
def fX6_item_b125 (sv : Nat → Int32) (fnd : Nat → Int32) (tap : Nat → Int32) (tpd : Int32) (her : Int32) (flt : Int32) (vlu : Int32) : Option (Bool × (Nat → Int32) × (Nat → Int32) × Int32 × Int32 × Int32) :=
 (fX6_must tap tpd her flt 7).bind fun q129 => if (bI q129.1) = 0 then some (false, sv, fnd, q129.2.1, q129.2.2, vlu) else (fX6_number tap tpd q129.2.1 q129.2.2 vlu (0 : Int32) (99 : Int32)).bind fun q139 => if (bI q139.1) = 0 then some (false, sv, fnd, q139.2.1, q139.2.2.1, q139.2.2.2) else gd (ib ((156 : Int32) + (sv (3 : Int32).toNatClampNeg)) 166) (some (true, upd (upd sv ((156 : Int32) + (sv (3 : Int32).toNatClampNeg)).toNatClampNeg q139.2.2.2) (3 : Int32).toNatClampNeg (((upd sv ((156 : Int32) + (sv (3 : Int32).toNatClampNeg)).toNatClampNeg q139.2.2.2) (3 : Int32).toNatClampNeg) + (1 : Int32)), fnd, q139.2.1, q139.2.2.1, q139.2.2.2))
def fX6_item_b84 (sv : Nat → Int32) (fnd : Nat → Int32) (tap : Nat → Int32) (tpd : Int32) (her : Int32) (flt : Int32) (vlu : Int32) : Option (Bool × (Nat → Int32) × (Nat → Int32) × Int32 × Int32 × Int32) :=
 (fX6_may tap tpd her flt 6).bind fun q88 => if (bI q88.1) = 0 then (fX6_isWord tap tpd q88.2 7).bind fun q103 => if (bI q103.1) = 0 then fX6_item_b125 sv fnd tap tpd q103.2 flt vlu else if (sv (3 : Int32).toNatClampNeg) = (10 : Int32) then some ((fX6_fails q103.2 flt).1, sv, fnd, q103.2, (fX6_fails q103.2 flt).2, vlu) else fX6_item_b125 sv fnd tap tpd q103.2 flt vlu else (fX6_taleTold sv fnd tap tpd q88.2 flt vlu).bind fun q95 => some (q95.1, q95.2.1, q95.2.2.1, q95.2.2.2.1, q95.2.2.2.2.1, q95.2.2.2.2.2)
def fX6_item_b58 (sv : Nat → Int32) (fnd : Nat → Int32) (tap : Nat → Int32) (tpd : Int32) (her : Int32) (flt : Int32) (vlu : Int32) : Option (Bool × (Nat → Int32) × (Nat → Int32) × Int32 × Int32 × Int32) :=
 (fX6_isWord tap tpd her 6).bind fun q62 => if (bI q62.1) = 0 then fX6_item_b84 sv fnd tap tpd q62.2 flt vlu else if (sv (2 : Int32).toNatClampNeg) = (8 : Int32) then some ((fX6_fails q62.2 flt).1, sv, fnd, q62.2, (fX6_fails q62.2 flt).2, vlu) else fX6_item_b84 sv fnd tap tpd q62.2 flt vlu
def fX6_item_l2 (sv : Nat → Int32) (fnd : Nat → Int32) (tap : Nat → Int32) (tpd : Int32) (flt : Int32) (vlu : Int32) (K2 : Int32 → Int32 → Option (Bool × (Nat → Int32) × (Nat → Int32) × Int32 × Int32 × Int32)) (x1 : Int32) (her : Int32) : Option (Bool × (Nat → Int32) × (Nat → Int32) × Int32 × Int32 × Int32) :=
  if (6 : Int32) ≤ x1 then fX6_item_b58 sv fnd tap tpd her flt vlu else (fX6_isWord tap tpd her (fX6_kindName x1)).bind fun q13 => if (bI q13.1) = 0 then fX6_item_b35 K2 sv fnd tap tpd q13.2 flt vlu x1 else if (sv (1 : Int32).toNatClampNeg) = (16 : Int32) then fX6_item_b30 sv fnd q13.2 flt vlu else fX6_item_b35 K2 sv fnd tap tpd q13.2 flt vlu x1
def fX6_item (sv : Nat → Int32) (fnd : Nat → Int32) (tap : Nat → Int32) (tpd : Int32) (her : Int32) (flt : Int32) (vlu : Int32) : Option (Bool × (Nat → Int32) × (Nat → Int32) × Int32 × Int32 × Int32) :=
  fix2 (fX6_item_l2 sv fnd tap tpd flt vlu) 2000 (0 : Int32) her
theorem hdX6_kindName : yX6_kindName.cls ≠ "java/lang/invoke/MethodHandle" ∧ yX6_kindName.cls ≠ "java/lang/invoke/VarHandle" ∧ (parseMethodDescriptor yX6_kindName.desc).map (fun d => d.parameters.length) = some 1 := by decide +kernel
theorem hdX6_must : yX6_must.cls = RX6 ∧ yX6_must.cls ≠ "java/lang/invoke/MethodHandle" ∧ yX6_must.cls ≠ "java/lang/invoke/VarHandle" ∧ (parseMethodDescriptor yX6_must.desc).map (fun d => d.parameters.length) = some 1 := by decide +kernel
theorem hdX6_partTold : yX6_partTold.cls = RX6 ∧ yX6_partTold.cls ≠ "java/lang/invoke/MethodHandle" ∧ yX6_partTold.cls ≠ "java/lang/invoke/VarHandle" ∧ (parseMethodDescriptor yX6_partTold.desc).map (fun d => d.parameters.length) = some 1 := by decide +kernel
theorem hdX6_taleTold : yX6_taleTold.cls = RX6 ∧ yX6_taleTold.cls ≠ "java/lang/invoke/MethodHandle" ∧ yX6_taleTold.cls ≠ "java/lang/invoke/VarHandle" ∧ (parseMethodDescriptor yX6_taleTold.desc).map (fun d => d.parameters.length) = some 0 := by decide +kernel
abbrev rX6_item : Room := { frames := 7, cells := 0, slots := 0, locals := 154 }
set_option maxHeartbeats 4000000 in
set_option maxRecDepth 100000 in
theorem kX6_item (l : Launch) (D : va_G) (a : Nat → Nat) (cI cJ cS : ClassId) (hd : aok a 16) {Env : (Nat → Prop) → State → Heap → Prop} (hEo : envOK Env) (sa sb : Nat → Nat) (hEX : envM Env sa sb) (sv kep bef : Nat → Int32) (isk : Int32) (fnd : Nat → Int32) (man nex : Nat → Int64) (wor sng hea lat tap : Nat → Int32) (tpd her flt vlu : Int32) (bit lon : Nat → Int32) (cel btw : Nat → Int64)  (res : Bool × (Nat → Int32) × (Nat → Int32) × Int32 × Int32 × Int32) (hres : fX6_item sv fnd tap tpd her flt vlu = some res) : CtI l D (tyL cI cJ cS) 16 a Env yX6_item wsX6_item rX6_item [.ref (a 0)] (wM a cI cJ cS sv kep bef isk fnd man nex wor sng hea lat tap tpd her flt vlu bit lon cel btw) (wM a cI cJ cS res.2.1 kep bef isk res.2.2.1 man nex wor sng hea lat tap tpd res.2.2.2.1 res.2.2.2.2.1 res.2.2.2.2.2 bit lon cel btw) (bI res.1) := by
  refine CtI_mk (cc := cX6_item) (maxL := 2) (ret := (some .boolean)) (by decide) rfl (Nat.le_of_ble_eq_true rfl) ?_
  intro p e s m args below meth c ls hx hb hr hlk hml hown hts hP hK hE hl
  have hS : va_S (adA a 16 s.heap.size) s.heap s.heap [] := va_S.rf
  have hl : lv_has ls 2 [(0, .ref (a 0))] := hl
  have hown : s.vm.findClass RX6 = some m.cls := hown
  have hw6 : ∀ w ∈ wsX60, w.before args s = true := fun w h => hts w (List.mem_cons_of_mem _ (List.mem_append_right _ h))
  have u1 : (Cond.fieldLink RX6 9 "YearWordsModel" "s" "[I").before args s = true := hts _ (List.mem_of_getElem? (i := 1) (by decide +kernel))
  have u2 : (Cond.fieldLink RX6 228 "YearWordsModel" "value" "I").before args s = true := hts _ (List.mem_of_getElem? (i := 2) (by decide +kernel))
  obtain ⟨Q, hQ⟩ : ∃ Q, Q = mqI below D 16 a args s (wM a cI cJ cS res.2.1 kep bef isk res.2.2.1 man nex wor sng hea lat tap tpd res.2.2.2.1 res.2.2.2.2.1 res.2.2.2.2.2 bit lon cel btw) (bI res.1) := ⟨_, rfl⟩
  rw [← hQ]
  have b30 : ∀ (sv : Nat → Int32) (fnd : Nat → Int32) (her : Int32) (flt : Int32) (vlu : Int32), fX6_item_b30 sv fnd her flt vlu = some res → ∀ (H : Heap) (locs : List Loc) (ls : Array Slot), va_P D vwCl (wM a cI cJ cS sv kep bef isk fnd man nex wor sng hea lat tap tpd her flt vlu bit lon cel btw) H → va_S (adA a 16 s.heap.size) s.heap H locs → lv_has ls 2 [(0, .ref (a 0))] → W p l e rX6_item s m args below meth c H locs 0 0 Q (F0 m 30 ls []) := by
    intro sv fnd her flt vlu hres H locs ls hP hS hl
    unfold fX6_item_b30 at hres
    refine lv_aload_n hx hb dX6_item_30 rfl (lv_at hl 0 rfl) ?_
    refine cvI (q0 := 0) (ci := 6) hx hb hml hown hts hEo hE hK hP hS (kX6_fails l D a cI cJ cS hd hEo sv kep bef isk fnd man nex wor sng hea lat tap tpd her flt vlu bit lon cel btw ) gX6_item_X6_fails rfl hdX6_fails rfl rfl rfl ⟨rfl, rfl⟩ ⟨Nat.le_of_ble_eq_true rfl, Nat.le_of_ble_eq_true rfl⟩ ⟨Nat.zero_le _, Nat.zero_le _⟩ rfl hl.1 rfl (Nat.le_of_ble_eq_true rfl) dX6_item_31 (fun H locs hP hS => ?_)
    exact hQ ▸ rtZ (v := (fX6_fails her flt).1)  hx hb hr hlk hP hS (by rw [← (Option.some.inj hres)]) (by rw [← (Option.some.inj hres)]) dX6_item_34
  have b46 : ∀ (sv : Nat → Int32) (fnd : Nat → Int32) (her : Int32) (flt : Int32) (vlu : Int32) (x1 : Int32), fX6_item_b46 sv fnd tap tpd her flt vlu x1 = some res → ∀ (H : Heap) (locs : List Loc) (ls : Array Slot), va_P D vwCl (wM a cI cJ cS sv kep bef isk fnd man nex wor sng hea lat tap tpd her flt vlu bit lon cel btw) H → va_S (adA a 16 s.heap.size) s.heap H locs → lv_has ls 2 [(0, .ref (a 0)), (1, .int x1)] → W p l e rX6_item s m args below meth c H locs 0 0 Q (F0 m 46 ls []) := by
    intro sv fnd her flt vlu x1 hres H locs ls hP hS hl
    unfold fX6_item_b46 at hres
    refine lv_aload_n hx hb dX6_item_46 rfl (lv_at hl 0 rfl) ?_
    refine lv_iload_n hx hb dX6_item_47 rfl (lv_at hl 1 rfl) ?_
    obtain ⟨q48, e48, hres⟩ := obd hres
    refine cvI (q0 := 0) (ci := 6) hx hb hml hown hts hEo hE hK hP hS (kX6_partTold l D a cI cJ cS hd hEo sa sb hEX sv kep bef isk fnd man nex wor sng hea lat tap tpd her flt vlu bit lon cel btw x1 q48 e48) gX6_item_X6_partTold rfl hdX6_partTold rfl rfl rfl ⟨rfl, rfl⟩ ⟨Nat.le_of_ble_eq_true rfl, Nat.le_of_ble_eq_true rfl⟩ ⟨Nat.zero_le _, Nat.zero_le _⟩ rfl hl.1 rfl (Nat.le_of_ble_eq_true rfl) dX6_item_48 (fun H locs hP hS => ?_)
    exact hQ ▸ rtZ (v := q48.1)  hx hb hr hlk hP hS (by rw [← (Option.some.inj hres)]) (by rw [← (Option.some.inj hres)]) dX6_item_51
  have b125 : ∀ (sv : Nat → Int32) (fnd : Nat → Int32) (her : Int32) (flt : Int32) (vlu : Int32), fX6_item_b125 sv fnd tap tpd her flt vlu = some res → ∀ (H : Heap) (locs : List Loc) (ls : Array Slot), va_P D vwCl (wM a cI cJ cS sv kep bef isk fnd man nex wor sng hea lat tap tpd her flt vlu bit lon cel btw) H → va_S (adA a 16 s.heap.size) s.heap H locs → lv_has ls 2 [(0, .ref (a 0))] → W p l e rX6_item s m args below meth c H locs 0 0 Q (F0 m 125 ls []) := by
    intro sv fnd her flt vlu hres H locs ls hP hS hl
    unfold fX6_item_b125 at hres
    refine lv_aload_n hx hb dX6_item_125 rfl (lv_at hl 0 rfl) ?_
    refine va_ldcSW hx hb hown ((hEX.2 _ _ _ hE).2.2.2.2.2.2.2.1) dX6_item_126 ?_
    obtain ⟨q129, e129, hres⟩ := obd hres
    refine cvI (q0 := 0) (ci := 6) hx hb hml hown hts hEo hE hK hP hS (kX6_must l D a cI cJ cS hd hEo sa sb hEX sv kep bef isk fnd man nex wor sng hea lat tap tpd her flt vlu bit lon cel btw 7 (by decide) q129 e129) gX6_item_X6_must rfl hdX6_must rfl rfl rfl ⟨rfl, rfl⟩ ⟨Nat.le_of_ble_eq_true rfl, Nat.le_of_ble_eq_true rfl⟩ ⟨Nat.zero_le _, Nat.zero_le _⟩ rfl hl.1 rfl (Nat.le_of_ble_eq_true rfl) dX6_item_129 (fun H locs hP hS => ?_)
    refine lv_if_eq (tgt := 145) hx hb dX6_item_132 (by decide) (fun c132 => ?_) (fun c132 => ?_)
    · have hres := (itl hres).1 c132
      refine lv_iconst (v := 0) hx hb dX6_item_145 (by decide) ?_
      exact hQ ▸ rtZ (v := false)  hx hb hr hlk hP hS (by rw [← (Option.some.inj hres)]) (by rw [← (Option.some.inj hres)]) dX6_item_146
    · have hres := (itl hres).2 c132
      refine lv_aload_n hx hb dX6_item_135 rfl (lv_at hl 0 rfl) ?_
      refine lv_iconst (v := 0) hx hb dX6_item_136 (by decide) ?_
      refine lv_bipush (v := 99) hx hb dX6_item_137 (by decide) ?_
      obtain ⟨q139, e139, hres⟩ := obd hres
      refine cvI (q0 := 0) (ci := 6) hx hb hml hown hts hEo hE hK hP hS (kX6_number l D a cI cJ cS hd hEo sv kep bef isk fnd man nex wor sng hea lat tap tpd q129.2.1 q129.2.2 vlu bit lon cel btw (0 : Int32) (99 : Int32) q139 e139) gX6_item_X6_number rfl hdX6_number rfl rfl rfl ⟨rfl, rfl⟩ ⟨Nat.le_of_ble_eq_true rfl, Nat.le_of_ble_eq_true rfl⟩ ⟨Nat.zero_le _, Nat.zero_le _⟩ rfl hl.1 rfl (Nat.le_of_ble_eq_true rfl) dX6_item_139 (fun H locs hP hS => ?_)
      refine lv_if_ne (tgt := 147) hx hb dX6_item_142 (by decide) (fun c142 => ?_) (fun c142 => ?_)
      · have hres := (itl hres).2 c142
        refine lv_aload_n hx hb dX6_item_147 rfl (lv_at hl 0 rfl) ?_
        refine gM_this6_s hx hb hown hw6 hK hP u1 dX6_item_148 ?_
        refine lv_sipush (v := 156) hx hb dX6_item_151 (by decide) ?_
        refine lv_aload_n hx hb dX6_item_154 rfl (lv_at hl 0 rfl) ?_
        refine gM_this6_s hx hb hown hw6 hK hP u1 dX6_item_155 ?_
        refine lv_iconst (v := 3) hx hb dX6_item_158 (by decide) ?_
        have i159 : vp_in (3 : Int32) 166 := ib_in (by decide)
        refine lM_sv hx hb hK hP i159 dX6_item_159 ?_
        refine lv_iadd hx hb dX6_item_160 ?_
        refine lv_aload_n hx hb dX6_item_161 rfl (lv_at hl 0 rfl) ?_
        refine gM_this6_value hx hb hown hw6 hK hP u2 dX6_item_162 ?_
        obtain ⟨i165, hres⟩ := gdi hres
        refine sM_sv hx hb hK hP hd hS i165 dX6_item_165 (fun H locs hP hS => ?_)
        refine lv_aload_n hx hb dX6_item_166 rfl (lv_at hl 0 rfl) ?_
        refine gM_this6_s hx hb hown hw6 hK hP u1 dX6_item_167 ?_
        refine lv_iconst (v := 3) hx hb dX6_item_170 (by decide) ?_
        refine lv_dup2_11 hx hb dX6_item_171 rfl rfl ?_
        have i172 : vp_in (3 : Int32) 166 := ib_in (by decide)
        refine lM_sv hx hb hK hP i172 dX6_item_172 ?_
        refine lv_iconst (v := 1) hx hb dX6_item_173 (by decide) ?_
        refine lv_iadd hx hb dX6_item_174 ?_
        have i175 : vp_in (3 : Int32) 166 := ib_in (by decide)
        refine sM_sv hx hb hK hP hd hS i175 dX6_item_175 (fun H locs hP hS => ?_)
        refine lv_iconst (v := 1) hx hb dX6_item_176 (by decide) ?_
        exact hQ ▸ rtZ (v := true)  hx hb hr hlk hP hS (by rw [← (Option.some.inj hres)]) (by rw [← (Option.some.inj hres)]) dX6_item_177
      · have hres := (itl hres).1 c142
        refine lv_iconst (v := 0) hx hb dX6_item_145 (by decide) ?_
        exact hQ ▸ rtZ (v := false)  hx hb hr hlk hP hS (by rw [← (Option.some.inj hres)]) (by rw [← (Option.some.inj hres)]) dX6_item_146
  have b84 : ∀ (sv : Nat → Int32) (fnd : Nat → Int32) (her : Int32) (flt : Int32) (vlu : Int32), fX6_item_b84 sv fnd tap tpd her flt vlu = some res → ∀ (H : Heap) (locs : List Loc) (ls : Array Slot), va_P D vwCl (wM a cI cJ cS sv kep bef isk fnd man nex wor sng hea lat tap tpd her flt vlu bit lon cel btw) H → va_S (adA a 16 s.heap.size) s.heap H locs → lv_has ls 2 [(0, .ref (a 0))] → W p l e rX6_item s m args below meth c H locs 0 0 Q (F0 m 84 ls []) := by
    intro sv fnd her flt vlu hres H locs ls hP hS hl
    unfold fX6_item_b84 at hres
    refine lv_aload_n hx hb dX6_item_84 rfl (lv_at hl 0 rfl) ?_
    refine va_ldcSW hx hb hown ((hEX.2 _ _ _ hE).2.2.2.2.2.2.1) dX6_item_85 ?_
    obtain ⟨q88, e88, hres⟩ := obd hres
    refine cvI (q0 := 0) (ci := 6) hx hb hml hown hts hEo hE hK hP hS (kX6_may l D a cI cJ cS hd hEo sa sb hEX sv kep bef isk fnd man nex wor sng hea lat tap tpd her flt vlu bit lon cel btw 6 (by decide) q88 e88) gX6_item_X6_may rfl hdX6_may rfl rfl rfl ⟨rfl, rfl⟩ ⟨Nat.le_of_ble_eq_true rfl, Nat.le_of_ble_eq_true rfl⟩ ⟨Nat.zero_le _, Nat.zero_le _⟩ rfl hl.1 rfl (Nat.le_of_ble_eq_true rfl) dX6_item_88 (fun H locs hP hS => ?_)
    refine lv_if_eq (tgt := 99) hx hb dX6_item_91 (by decide) (fun c91 => ?_) (fun c91 => ?_)
    · have hres := (itl hres).1 c91
      refine lv_aload_n hx hb dX6_item_99 rfl (lv_at hl 0 rfl) ?_
      refine va_ldcSW hx hb hown ((hEX.2 _ _ _ hE).2.2.2.2.2.2.2.1) dX6_item_100 ?_
      obtain ⟨q103, e103, hres⟩ := obd hres
      refine cvI (q0 := 0) (ci := 6) hx hb hml hown hts hEo hE hK hP hS (kX6_isWord l D a cI cJ cS hd hEo sa sb hEX sv kep bef isk fnd man nex wor sng hea lat tap tpd q88.2 flt vlu bit lon cel btw 7 (by decide) q103 e103) gX6_item_X6_isWord rfl hdX6_isWord rfl rfl rfl ⟨rfl, rfl⟩ ⟨Nat.le_of_ble_eq_true rfl, Nat.le_of_ble_eq_true rfl⟩ ⟨Nat.zero_le _, Nat.zero_le _⟩ rfl hl.1 rfl (Nat.le_of_ble_eq_true rfl) dX6_item_103 (fun H locs hP hS => ?_)
      refine lv_if_eq (tgt := 125) hx hb dX6_item_106 (by decide) (fun c106 => ?_) (fun c106 => ?_)
      · have hres := (itl hres).1 c106
        exact b125 sv fnd q103.2 flt vlu hres _ _ _ hP hS (lv_sub hl [0] rfl)
      · have hres := (itl hres).2 c106
        refine lv_aload_n hx hb dX6_item_109 rfl (lv_at hl 0 rfl) ?_
        refine gM_this6_s hx hb hown hw6 hK hP u1 dX6_item_110 ?_
        refine lv_iconst (v := 3) hx hb dX6_item_113 (by decide) ?_
        have i114 : vp_in (3 : Int32) 166 := ib_in (by decide)
        refine lM_sv hx hb hK hP i114 dX6_item_114 ?_
        refine lv_bipush (v := 10) hx hb dX6_item_115 (by decide) ?_
        refine lv_icmp_ne (tgt := 125) hx hb dX6_item_117 (by decide) (fun c117 => ?_) (fun c117 => ?_)
        · have hres := (itl hres).2 c117
          exact b125 sv fnd q103.2 flt vlu hres _ _ _ hP hS (lv_sub hl [0] rfl)
        · have hres := (itl hres).1 c117
          refine lv_aload_n hx hb dX6_item_120 rfl (lv_at hl 0 rfl) ?_
          refine cvI (q0 := 0) (ci := 6) hx hb hml hown hts hEo hE hK hP hS (kX6_fails l D a cI cJ cS hd hEo sv kep bef isk fnd man nex wor sng hea lat tap tpd q103.2 flt vlu bit lon cel btw ) gX6_item_X6_fails rfl hdX6_fails rfl rfl rfl ⟨rfl, rfl⟩ ⟨Nat.le_of_ble_eq_true rfl, Nat.le_of_ble_eq_true rfl⟩ ⟨Nat.zero_le _, Nat.zero_le _⟩ rfl hl.1 rfl (Nat.le_of_ble_eq_true rfl) dX6_item_121 (fun H locs hP hS => ?_)
          exact hQ ▸ rtZ (v := (fX6_fails q103.2 flt).1)  hx hb hr hlk hP hS (by rw [← (Option.some.inj hres)]) (by rw [← (Option.some.inj hres)]) dX6_item_124
    · have hres := (itl hres).2 c91
      refine lv_aload_n hx hb dX6_item_94 rfl (lv_at hl 0 rfl) ?_
      obtain ⟨q95, e95, hres⟩ := obd hres
      refine cvI (q0 := 0) (ci := 6) hx hb hml hown hts hEo hE hK hP hS (kX6_taleTold l D a cI cJ cS hd hEo sa sb hEX sv kep bef isk fnd man nex wor sng hea lat tap tpd q88.2 flt vlu bit lon cel btw  q95 e95) gX6_item_X6_taleTold rfl hdX6_taleTold rfl rfl rfl ⟨rfl, rfl⟩ ⟨Nat.le_of_ble_eq_true rfl, Nat.le_of_ble_eq_true rfl⟩ ⟨Nat.zero_le _, Nat.zero_le _⟩ rfl hl.1 rfl (Nat.le_of_ble_eq_true rfl) dX6_item_95 (fun H locs hP hS => ?_)
      exact hQ ▸ rtZ (v := q95.1)  hx hb hr hlk hP hS (by rw [← (Option.some.inj hres)]) (by rw [← (Option.some.inj hres)]) dX6_item_98
  have b58 : ∀ (sv : Nat → Int32) (fnd : Nat → Int32) (her : Int32) (flt : Int32) (vlu : Int32), fX6_item_b58 sv fnd tap tpd her flt vlu = some res → ∀ (H : Heap) (locs : List Loc) (ls : Array Slot), va_P D vwCl (wM a cI cJ cS sv kep bef isk fnd man nex wor sng hea lat tap tpd her flt vlu bit lon cel btw) H → va_S (adA a 16 s.heap.size) s.heap H locs → lv_has ls 2 [(0, .ref (a 0))] → W p l e rX6_item s m args below meth c H locs 0 0 Q (F0 m 58 ls []) := by
    intro sv fnd her flt vlu hres H locs ls hP hS hl
    unfold fX6_item_b58 at hres
    refine lv_aload_n hx hb dX6_item_58 rfl (lv_at hl 0 rfl) ?_
    refine va_ldcSW hx hb hown ((hEX.2 _ _ _ hE).2.2.2.2.2.2.1) dX6_item_59 ?_
    obtain ⟨q62, e62, hres⟩ := obd hres
    refine cvI (q0 := 0) (ci := 6) hx hb hml hown hts hEo hE hK hP hS (kX6_isWord l D a cI cJ cS hd hEo sa sb hEX sv kep bef isk fnd man nex wor sng hea lat tap tpd her flt vlu bit lon cel btw 6 (by decide) q62 e62) gX6_item_X6_isWord rfl hdX6_isWord rfl rfl rfl ⟨rfl, rfl⟩ ⟨Nat.le_of_ble_eq_true rfl, Nat.le_of_ble_eq_true rfl⟩ ⟨Nat.zero_le _, Nat.zero_le _⟩ rfl hl.1 rfl (Nat.le_of_ble_eq_true rfl) dX6_item_62 (fun H locs hP hS => ?_)
    refine lv_if_eq (tgt := 84) hx hb dX6_item_65 (by decide) (fun c65 => ?_) (fun c65 => ?_)
    · have hres := (itl hres).1 c65
      exact b84 sv fnd q62.2 flt vlu hres _ _ _ hP hS (lv_sub hl [0] rfl)
    · have hres := (itl hres).2 c65
      refine lv_aload_n hx hb dX6_item_68 rfl (lv_at hl 0 rfl) ?_
      refine gM_this6_s hx hb hown hw6 hK hP u1 dX6_item_69 ?_
      refine lv_iconst (v := 2) hx hb dX6_item_72 (by decide) ?_
      have i73 : vp_in (2 : Int32) 166 := ib_in (by decide)
      refine lM_sv hx hb hK hP i73 dX6_item_73 ?_
      refine lv_bipush (v := 8) hx hb dX6_item_74 (by decide) ?_
      refine lv_icmp_ne (tgt := 84) hx hb dX6_item_76 (by decide) (fun c76 => ?_) (fun c76 => ?_)
      · have hres := (itl hres).2 c76
        exact b84 sv fnd q62.2 flt vlu hres _ _ _ hP hS (lv_sub hl [0] rfl)
      · have hres := (itl hres).1 c76
        refine lv_aload_n hx hb dX6_item_79 rfl (lv_at hl 0 rfl) ?_
        refine cvI (q0 := 0) (ci := 6) hx hb hml hown hts hEo hE hK hP hS (kX6_fails l D a cI cJ cS hd hEo sv kep bef isk fnd man nex wor sng hea lat tap tpd q62.2 flt vlu bit lon cel btw ) gX6_item_X6_fails rfl hdX6_fails rfl rfl rfl ⟨rfl, rfl⟩ ⟨Nat.le_of_ble_eq_true rfl, Nat.le_of_ble_eq_true rfl⟩ ⟨Nat.zero_le _, Nat.zero_le _⟩ rfl hl.1 rfl (Nat.le_of_ble_eq_true rfl) dX6_item_80 (fun H locs hP hS => ?_)
        exact hQ ▸ rtZ (v := (fX6_fails q62.2 flt).1)  hx hb hr hlk hP hS (by rw [← (Option.some.inj hres)]) (by rw [← (Option.some.inj hres)]) dX6_item_83
  have b2 : ∀ (sv : Nat → Int32) (fnd : Nat → Int32) (flt : Int32) (vlu : Int32) (n : Nat) (x1 : Int32) (her : Int32), fix2 (fX6_item_l2 sv fnd tap tpd flt vlu) n x1 her = some res → ∀ (H : Heap) (locs : List Loc) (ls : Array Slot), va_P D vwCl (wM a cI cJ cS sv kep bef isk fnd man nex wor sng hea lat tap tpd her flt vlu bit lon cel btw) H → va_S (adA a 16 s.heap.size) s.heap H locs → lv_has ls 2 [(0, .ref (a 0)), (1, .int x1)] → W p l e rX6_item s m args below meth c H locs 0 0 Q (F0 m 2 ls []) := by
    intro sv fnd flt vlu
    refine fix2_r ?_
    intro K2 hK2 x1 her hres H locs ls hP hS hl
    have b35 : ∀ (her : Int32) (x1 : Int32), fX6_item_b35 K2 sv fnd tap tpd her flt vlu x1 = some res → ∀ (H : Heap) (locs : List Loc) (ls : Array Slot), va_P D vwCl (wM a cI cJ cS sv kep bef isk fnd man nex wor sng hea lat tap tpd her flt vlu bit lon cel btw) H → va_S (adA a 16 s.heap.size) s.heap H locs → lv_has ls 2 [(0, .ref (a 0)), (1, .int x1)] → W p l e rX6_item s m args below meth c H locs 0 0 Q (F0 m 35 ls []) := by
      intro her x1 hres H locs ls hP hS hl
      unfold fX6_item_b35 at hres
      refine lv_aload_n hx hb dX6_item_35 rfl (lv_at hl 0 rfl) ?_
      refine lv_iload_n hx hb dX6_item_36 rfl (lv_at hl 1 rfl) ?_
      refine csR hx hb hml hown hts hEo hE hK hP hS (kX6_kindName l D a cI cJ cS hd hEo sa sb hEX sv kep bef isk fnd man nex wor sng hea lat tap tpd her flt vlu bit lon cel btw x1) gX6_item_X6_kindName rfl hdX6_kindName ⟨rfl, rfl⟩ ⟨Nat.le_of_ble_eq_true rfl, Nat.le_of_ble_eq_true rfl⟩ ⟨Nat.zero_le _, Nat.zero_le _⟩ rfl hl.1 rfl (Nat.le_of_ble_eq_true rfl) dX6_item_37 (fun H locs hP hS => ?_)
      obtain ⟨q40, e40, hres⟩ := obd hres
      refine cvI (q0 := 0) (ci := 6) hx hb hml hown hts hEo hE hK hP hS (kX6_may l D a cI cJ cS hd hEo sa sb hEX sv kep bef isk fnd man nex wor sng hea lat tap tpd her flt vlu bit lon cel btw (fX6_kindName x1) (hkX6_kindName x1) q40 e40) gX6_item_X6_may rfl hdX6_may rfl rfl rfl ⟨rfl, rfl⟩ ⟨Nat.le_of_ble_eq_true rfl, Nat.le_of_ble_eq_true rfl⟩ ⟨Nat.zero_le _, Nat.zero_le _⟩ rfl hl.1 rfl (Nat.le_of_ble_eq_true rfl) dX6_item_40 (fun H locs hP hS => ?_)
      refine lv_if_eq (tgt := 52) hx hb dX6_item_43 (by decide) (fun c43 => ?_) (fun c43 => ?_)
      · have hres := (itl hres).1 c43
        refine lv_iinc (v := x1 + 1) (lv' := [(1, .int (x1 + 1)), (0, .ref (a 0))]) hx hb dX6_item_52 hl (k := 1) rfl (congrArg (fun z => x1 + z) (by decide)) (by decide) rfl (fun ls hl => ?_)
        refine lv_goto (tgt := 2) hx hb dX6_item_55 (by decide) ?_
        exact hK2 (x1 + 1) q40.2 hres _ _ _ hP hS (lv_sub hl [1, 0] rfl)
      · have hres := (itl hres).2 c43
        exact b46 sv fnd q40.2 flt vlu x1 hres _ _ _ hP hS (lv_sub hl [0, 1] rfl)
    unfold fX6_item_l2 at hres
    refine lv_iload_n hx hb dX6_item_2 rfl (lv_at hl 1 rfl) ?_
    refine lv_bipush (v := 6) hx hb dX6_item_3 (by decide) ?_
    refine lv_icmp_ge (tgt := 58) hx hb dX6_item_5 (by decide) (fun c5 => ?_) (fun c5 => ?_)
    · have hres := (itl hres).1 c5
      exact b58 sv fnd her flt vlu hres _ _ _ hP hS (lv_sub hl [0] rfl)
    · have hres := (itl hres).2 c5
      refine lv_aload_n hx hb dX6_item_8 rfl (lv_at hl 0 rfl) ?_
      refine lv_iload_n hx hb dX6_item_9 rfl (lv_at hl 1 rfl) ?_
      refine csR hx hb hml hown hts hEo hE hK hP hS (kX6_kindName l D a cI cJ cS hd hEo sa sb hEX sv kep bef isk fnd man nex wor sng hea lat tap tpd her flt vlu bit lon cel btw x1) gX6_item_X6_kindName rfl hdX6_kindName ⟨rfl, rfl⟩ ⟨Nat.le_of_ble_eq_true rfl, Nat.le_of_ble_eq_true rfl⟩ ⟨Nat.zero_le _, Nat.zero_le _⟩ rfl hl.1 rfl (Nat.le_of_ble_eq_true rfl) dX6_item_10 (fun H locs hP hS => ?_)
      obtain ⟨q13, e13, hres⟩ := obd hres
      refine cvI (q0 := 0) (ci := 6) hx hb hml hown hts hEo hE hK hP hS (kX6_isWord l D a cI cJ cS hd hEo sa sb hEX sv kep bef isk fnd man nex wor sng hea lat tap tpd her flt vlu bit lon cel btw (fX6_kindName x1) (hkX6_kindName x1) q13 e13) gX6_item_X6_isWord rfl hdX6_isWord rfl rfl rfl ⟨rfl, rfl⟩ ⟨Nat.le_of_ble_eq_true rfl, Nat.le_of_ble_eq_true rfl⟩ ⟨Nat.zero_le _, Nat.zero_le _⟩ rfl hl.1 rfl (Nat.le_of_ble_eq_true rfl) dX6_item_13 (fun H locs hP hS => ?_)
      refine lv_if_eq (tgt := 35) hx hb dX6_item_16 (by decide) (fun c16 => ?_) (fun c16 => ?_)
      · have hres := (itl hres).1 c16
        exact b35 q13.2 x1 hres _ _ _ hP hS (lv_sub hl [0, 1] rfl)
      · have hres := (itl hres).2 c16
        refine lv_aload_n hx hb dX6_item_19 rfl (lv_at hl 0 rfl) ?_
        refine gM_this6_s hx hb hown hw6 hK hP u1 dX6_item_20 ?_
        refine lv_iconst (v := 1) hx hb dX6_item_23 (by decide) ?_
        have i24 : vp_in (1 : Int32) 166 := ib_in (by decide)
        refine lM_sv hx hb hK hP i24 dX6_item_24 ?_
        refine lv_bipush (v := 16) hx hb dX6_item_25 (by decide) ?_
        refine lv_icmp_ne (tgt := 35) hx hb dX6_item_27 (by decide) (fun c27 => ?_) (fun c27 => ?_)
        · have hres := (itl hres).2 c27
          exact b35 q13.2 x1 hres _ _ _ hP hS (lv_sub hl [0, 1] rfl)
        · have hres := (itl hres).1 c27
          exact b30 sv fnd q13.2 flt vlu hres _ _ _ hP hS (lv_sub hl [0] rfl)
  unfold fX6_item at hres
  refine lv_iconst (v := 0) hx hb dX6_item_0 (by decide) ?_
  refine lv_istore_n (lv' := [(1, .int (0 : Int32)), (0, .ref (a 0))]) hx hb dX6_item_1 rfl hl (by decide) rfl (fun ls hl => ?_)
  exact b2 sv fnd flt vlu 2000 (0 : Int32) her hres _ _ _ hP hS (lv_sub hl [1, 0] rfl)
def fX6_book_b76 (K25 : Int32 → Bool → (Nat → Int32) → (Nat → Int32) → Int32 → Int32 → Int32 → Option (Int32 × (Nat → Int32) × (Nat → Int32) × (Nat → Int32) × Int32 × Int32 × Int32 × Int32)) (sv : Nat → Int32) (fnd : Nat → Int32) (her : Int32) (flt : Int32) (vlu : Int32) (x1 : Int32) (x2 : Bool) (z1 : Int32) (z2 : Bool) : Option (Int32 × (Nat → Int32) × (Nat → Int32) × (Nat → Int32) × Int32 × Int32 × Int32 × Int32) :=
  K25 x1 x2 sv fnd (z1 + (bI z2)) flt vlu
def fX6_book_b61 (K25 : Int32 → Bool → (Nat → Int32) → (Nat → Int32) → Int32 → Int32 → Int32 → Option (Int32 × (Nat → Int32) × (Nat → Int32) × (Nat → Int32) × Int32 × Int32 × Int32 × Int32)) (sv : Nat → Int32) (fnd : Nat → Int32) (her : Int32) (flt : Int32) (vlu : Int32) (x1 : Int32) (z0 : Bool) : Option (Int32 × (Nat → Int32) × (Nat → Int32) × (Nat → Int32) × Int32 × Int32 × Int32 × Int32) :=
  if (bI z0) = 0 then fX6_book_b76 K25 sv fnd her flt vlu x1 z0 her false else fX6_book_b76 K25 sv fnd her flt vlu x1 z0 her true
def fX6_book_b106 (sv : Nat → Int32) (bef : Nat → Int32) (fnd : Nat → Int32) (tpd : Int32) (her : Int32) (flt : Int32) (vlu : Int32) (x1 : Int32) : Option (Int32 × (Nat → Int32) × (Nat → Int32) × (Nat → Int32) × Int32 × Int32 × Int32 × Int32) :=
  if flt < 0 then some (x1, sv, bef, fnd, (0 : Int32), her, flt, vlu) else (fX6_lay_bef_sv sv bef).bind fun q126 => some ((-1 : Int32) - flt, q126, bef, fnd, (0 : Int32), her, flt, vlu)
def fX6_book_b83 (sv : Nat → Int32) (bef : Nat → Int32) (fnd : Nat → Int32) (tpd : Int32) (her : Int32) (flt : Int32) (vlu : Int32) (x1 : Int32) : Option (Int32 × (Nat → Int32) × (Nat → Int32) × (Nat → Int32) × Int32 × Int32 × Int32 × Int32) :=
  if 0 ≤ flt then fX6_book_b106 sv bef fnd tpd her flt vlu x1 else if tpd ≤ her then fX6_book_b106 sv bef fnd tpd her flt vlu x1 else fX6_book_b106 sv bef fnd tpd her ((fX6_fails her flt).2) vlu x1
def fX6_book_l25 (bef : Nat → Int32) (tap : Nat → Int32) (tpd : Int32) (K25 : Int32 → Bool → (Nat → Int32) → (Nat → Int32) → Int32 → Int32 → Int32 → Option (Int32 × (Nat → Int32) × (Nat → Int32) × (Nat → Int32) × Int32 × Int32 × Int32 × Int32)) (x1 : Int32) (x2 : Bool) (sv : Nat → Int32) (fnd : Nat → Int32) (her : Int32) (flt : Int32) (vlu : Int32) : Option (Int32 × (Nat → Int32) × (Nat → Int32) × (Nat → Int32) × Int32 × Int32 × Int32 × Int32) :=
  if (bI x2) = 0 then fX6_book_b83 sv bef fnd tpd her flt vlu x1 else (fX6_item sv fnd tap tpd her flt vlu).bind fun q30 => if (bI q30.1) = 0 then fX6_book_b83 q30.2.1 bef q30.2.2.1 tpd q30.2.2.2.1 q30.2.2.2.2.1 q30.2.2.2.2.2 x1 else (fX6_blanks tap tpd q30.2.2.2.1).bind fun q40 => (fX6_byteAt tap tpd q40).bind fun q48 => if q48 = (59 : Int32) then fX6_book_b61 K25 q30.2.1 q30.2.2.1 q40 q30.2.2.2.2.1 q30.2.2.2.2.2 (x1 + 1) true else fX6_book_b61 K25 q30.2.1 q30.2.2.1 q40 q30.2.2.2.2.1 q30.2.2.2.2.2 (x1 + 1) false
def fX6_book (sv : Nat → Int32) (bef : Nat → Int32) (fnd : Nat → Int32) (tap : Nat → Int32) (tpd : Int32) (her : Int32) (flt : Int32) (vlu : Int32) : Option (Int32 × (Nat → Int32) × (Nat → Int32) × (Nat → Int32) × Int32 × Int32 × Int32 × Int32) :=
 (fX6_lay_sv_bef sv bef).bind fun q18 => fix7 (fX6_book_l25 q18 tap tpd) 2000 (0 : Int32) true sv fnd (0 : Int32) (-1 : Int32) vlu
theorem hdX6_item : yX6_item.cls = RX6 ∧ yX6_item.cls ≠ "java/lang/invoke/MethodHandle" ∧ yX6_item.cls ≠ "java/lang/invoke/VarHandle" ∧ (parseMethodDescriptor yX6_item.desc).map (fun d => d.parameters.length) = some 0 := by decide +kernel
theorem hdX6_lay : yX6_lay.cls ≠ "java/lang/invoke/MethodHandle" ∧ yX6_lay.cls ≠ "java/lang/invoke/VarHandle" ∧ (parseMethodDescriptor yX6_lay.desc).map (fun d => d.parameters.length) = some 2 := by decide +kernel
abbrev rX6_book : Room := { frames := 8, cells := 0, slots := 0, locals := 175 }
set_option maxHeartbeats 4000000 in
set_option maxRecDepth 100000 in
theorem kX6_book (l : Launch) (D : va_G) (a : Nat → Nat) (cI cJ cS : ClassId) (hd : aok a 16) {Env : (Nat → Prop) → State → Heap → Prop} (hEo : envOK Env) (sa sb : Nat → Nat) (hEX : envM Env sa sb) (sv kep bef : Nat → Int32) (isk : Int32) (fnd : Nat → Int32) (man nex : Nat → Int64) (wor sng hea lat tap : Nat → Int32) (tpd her flt vlu : Int32) (bit lon : Nat → Int32) (cel btw : Nat → Int64)  (res : Int32 × (Nat → Int32) × (Nat → Int32) × (Nat → Int32) × Int32 × Int32 × Int32 × Int32) (hres : fX6_book sv bef fnd tap tpd her flt vlu = some res) : CtI l D (tyL cI cJ cS) 16 a Env yX6_book wsX6_book rX6_book [.ref (a 0)] (wM a cI cJ cS sv kep bef isk fnd man nex wor sng hea lat tap tpd her flt vlu bit lon cel btw) (wM a cI cJ cS res.2.1 kep res.2.2.1 isk res.2.2.2.1 man nex wor sng hea lat tap res.2.2.2.2.1 res.2.2.2.2.2.1 res.2.2.2.2.2.2.1 res.2.2.2.2.2.2.2 bit lon cel btw) res.1 := by
  refine CtI_mk (cc := cX6_book) (maxL := 3) (ret := (some .int)) (by decide) rfl (Nat.le_of_ble_eq_true rfl) ?_
  intro p e s m args below meth c ls hx hb hr hlk hml hown hts hP hK hE hl
  have hS : va_S (adA a 16 s.heap.size) s.heap s.heap [] := va_S.rf
  have hl : lv_has ls 3 [(0, .ref (a 0))] := hl
  have hown : s.vm.findClass RX6 = some m.cls := hown
  have hw6 : ∀ w ∈ wsX60, w.before args s = true := fun w h => hts w (List.mem_cons_of_mem _ (List.mem_append_right _ h))
  have u1 : (Cond.fieldLink RX6 174 "YearWordsModel" "here" "I").before args s = true := hts _ (List.mem_of_getElem? (i := 1) (by decide +kernel))
  have u2 : (Cond.fieldLink RX6 180 "YearWordsModel" "fault" "I").before args s = true := hts _ (List.mem_of_getElem? (i := 2) (by decide +kernel))
  have u3 : (Cond.fieldLink RX6 9 "YearWordsModel" "s" "[I").before args s = true := hts _ (List.mem_of_getElem? (i := 3) (by decide +kernel))
  have u4 : (Cond.fieldLink RX6 16 "YearWordsModel" "before" "[I").before args s = true := hts _ (List.mem_of_getElem? (i := 4) (by decide +kernel))
  have u5 : (Cond.fieldLink RX6 170 "YearWordsModel" "taped" "I").before args s = true := hts _ (List.mem_of_getElem? (i := 5) (by decide +kernel))
  obtain ⟨Q, hQ⟩ : ∃ Q, Q = mqI below D 16 a args s (wM a cI cJ cS res.2.1 kep res.2.2.1 isk res.2.2.2.1 man nex wor sng hea lat tap res.2.2.2.2.1 res.2.2.2.2.2.1 res.2.2.2.2.2.2.1 res.2.2.2.2.2.2.2 bit lon cel btw) res.1 := ⟨_, rfl⟩
  rw [← hQ]
  have b106 : ∀ (sv : Nat → Int32) (bef : Nat → Int32) (fnd : Nat → Int32) (tpd : Int32) (her : Int32) (flt : Int32) (vlu : Int32) (x1 : Int32), fX6_book_b106 sv bef fnd tpd her flt vlu x1 = some res → ∀ (H : Heap) (locs : List Loc) (ls : Array Slot), va_P D vwCl (wM a cI cJ cS sv kep bef isk fnd man nex wor sng hea lat tap tpd her flt vlu bit lon cel btw) H → va_S (adA a 16 s.heap.size) s.heap H locs → lv_has ls 3 [(0, .ref (a 0)), (1, .int x1)] → W p l e rX6_book s m args below meth c H locs 0 0 Q (F0 m 106 ls []) := by
    intro sv bef fnd tpd her flt vlu x1 hres H locs ls hP hS hl
    unfold fX6_book_b106 at hres
    refine lv_aload_n hx hb dX6_book_106 rfl (lv_at hl 0 rfl) ?_
    refine lv_iconst (v := 0) hx hb dX6_book_107 (by decide) ?_
    refine pM_this6_taped hx hb hown hw6 hK hP hd hS u5 dX6_book_108 (fun H locs hP hS => ?_)
    refine lv_aload_n hx hb dX6_book_111 rfl (lv_at hl 0 rfl) ?_
    refine gM_this6_fault hx hb hown hw6 hK hP u2 dX6_book_112 ?_
    refine lv_if_lt (tgt := 136) hx hb dX6_book_115 (by decide) (fun c115 => ?_) (fun c115 => ?_)
    · have hres := (itl hres).1 c115
      refine lv_iload_n hx hb dX6_book_136 rfl (lv_at hl 1 rfl) ?_
      exact hQ ▸ rtI (v := x1)  hx hb hr hlk hP hS (by rw [← (Option.some.inj hres)]) (by rw [← (Option.some.inj hres)]) dX6_book_137
    · have hres := (itl hres).2 c115
      refine lv_aload_n hx hb dX6_book_118 rfl (lv_at hl 0 rfl) ?_
      refine gM_this6_before hx hb hown hw6 hK hP u4 dX6_book_119 ?_
      refine lv_aload_n hx hb dX6_book_122 rfl (lv_at hl 0 rfl) ?_
      refine gM_this6_s hx hb hown hw6 hK hP u3 dX6_book_123 ?_
      obtain ⟨q126, e126, hres⟩ := obd hres
      refine csV hx hb hml hown hts hEo hE hK hP hS (kX6_lay_bef_sv l D a cI cJ cS hd hEo sv kep bef isk fnd man nex wor sng hea lat tap (0 : Int32) her flt vlu bit lon cel btw  q126 e126) gX6_book_X6_lay rfl hdX6_lay ⟨rfl, rfl⟩ ⟨Nat.le_of_ble_eq_true rfl, Nat.le_of_ble_eq_true rfl⟩ ⟨Nat.zero_le _, Nat.zero_le _⟩ rfl hl.1 rfl (Nat.le_of_ble_eq_true rfl) dX6_book_126 (fun H locs hP hS => ?_)
      refine lv_iconst (v := (-1)) hx hb dX6_book_129 (by decide) ?_
      refine lv_aload_n hx hb dX6_book_130 rfl (lv_at hl 0 rfl) ?_
      refine gM_this6_fault hx hb hown hw6 hK hP u2 dX6_book_131 ?_
      refine lv_isub hx hb dX6_book_134 ?_
      exact hQ ▸ rtI (v := (-1 : Int32) - flt)  hx hb hr hlk hP hS (by rw [← (Option.some.inj hres)]) (by rw [← (Option.some.inj hres)]) dX6_book_135
  have b83 : ∀ (sv : Nat → Int32) (bef : Nat → Int32) (fnd : Nat → Int32) (tpd : Int32) (her : Int32) (flt : Int32) (vlu : Int32) (x1 : Int32), fX6_book_b83 sv bef fnd tpd her flt vlu x1 = some res → ∀ (H : Heap) (locs : List Loc) (ls : Array Slot), va_P D vwCl (wM a cI cJ cS sv kep bef isk fnd man nex wor sng hea lat tap tpd her flt vlu bit lon cel btw) H → va_S (adA a 16 s.heap.size) s.heap H locs → lv_has ls 3 [(0, .ref (a 0)), (1, .int x1)] → W p l e rX6_book s m args below meth c H locs 0 0 Q (F0 m 83 ls []) := by
    intro sv bef fnd tpd her flt vlu x1 hres H locs ls hP hS hl
    unfold fX6_book_b83 at hres
    refine lv_aload_n hx hb dX6_book_83 rfl (lv_at hl 0 rfl) ?_
    refine gM_this6_fault hx hb hown hw6 hK hP u2 dX6_book_84 ?_
    refine lv_if_ge (tgt := 106) hx hb dX6_book_87 (by decide) (fun c87 => ?_) (fun c87 => ?_)
    · have hres := (itl hres).1 c87
      exact b106 sv bef fnd tpd her flt vlu x1 hres _ _ _ hP hS (lv_sub hl [0, 1] rfl)
    · have hres := (itl hres).2 c87
      refine lv_aload_n hx hb dX6_book_90 rfl (lv_at hl 0 rfl) ?_
      refine gM_this6_here hx hb hown hw6 hK hP u1 dX6_book_91 ?_
      refine lv_aload_n hx hb dX6_book_94 rfl (lv_at hl 0 rfl) ?_
      refine gM_this6_taped hx hb hown hw6 hK hP u5 dX6_book_95 ?_
      refine lv_icmp_ge (tgt := 106) hx hb dX6_book_98 (by decide) (fun c98 => ?_) (fun c98 => ?_)
      · have hres := (itl hres).1 c98
        exact b106 sv bef fnd tpd her flt vlu x1 hres _ _ _ hP hS (lv_sub hl [0, 1] rfl)
      · have hres := (itl hres).2 c98
        refine lv_aload_n hx hb dX6_book_101 rfl (lv_at hl 0 rfl) ?_
        refine cvI (q0 := 0) (ci := 6) hx hb hml hown hts hEo hE hK hP hS (kX6_fails l D a cI cJ cS hd hEo sv kep bef isk fnd man nex wor sng hea lat tap tpd her flt vlu bit lon cel btw ) gX6_book_X6_fails rfl hdX6_fails rfl rfl rfl ⟨rfl, rfl⟩ ⟨Nat.le_of_ble_eq_true rfl, Nat.le_of_ble_eq_true rfl⟩ ⟨Nat.zero_le _, Nat.zero_le _⟩ rfl hl.1 rfl (Nat.le_of_ble_eq_true rfl) dX6_book_102 (fun H locs hP hS => ?_)
        refine lv_pop hx hb dX6_book_105 rfl ?_
        exact b106 sv bef fnd tpd her ((fX6_fails her flt).2) vlu x1 hres _ _ _ hP hS (lv_sub hl [0, 1] rfl)
  have b25 : ∀ (bef : Nat → Int32) (tpd : Int32) (n : Nat) (x1 : Int32) (x2 : Bool) (sv : Nat → Int32) (fnd : Nat → Int32) (her : Int32) (flt : Int32) (vlu : Int32), fix7 (fX6_book_l25 bef tap tpd) n x1 x2 sv fnd her flt vlu = some res → ∀ (H : Heap) (locs : List Loc) (ls : Array Slot), va_P D vwCl (wM a cI cJ cS sv kep bef isk fnd man nex wor sng hea lat tap tpd her flt vlu bit lon cel btw) H → va_S (adA a 16 s.heap.size) s.heap H locs → lv_has ls 3 [(0, .ref (a 0)), (1, .int x1), (2, .int (bI x2))] → W p l e rX6_book s m args below meth c H locs 0 0 Q (F0 m 25 ls []) := by
    intro bef tpd
    refine fix7_r ?_
    intro K25 hK25 x1 x2 sv fnd her flt vlu hres H locs ls hP hS hl
    have b76 : ∀ (sv : Nat → Int32) (fnd : Nat → Int32) (her : Int32) (flt : Int32) (vlu : Int32) (x1 : Int32) (x2 : Bool) (z1 : Int32) (z2 : Bool), fX6_book_b76 K25 sv fnd her flt vlu x1 x2 z1 z2 = some res → ∀ (H : Heap) (locs : List Loc) (ls : Array Slot), va_P D vwCl (wM a cI cJ cS sv kep bef isk fnd man nex wor sng hea lat tap tpd her flt vlu bit lon cel btw) H → va_S (adA a 16 s.heap.size) s.heap H locs → lv_has ls 3 [(0, .ref (a 0)), (1, .int x1), (2, .int (bI x2))] → W p l e rX6_book s m args below meth c H locs 0 0 Q (F0 m 76 ls [.int (bI z2), .int z1, .ref (a 0)]) := by
      intro sv fnd her flt vlu x1 x2 z1 z2 hres H locs ls hP hS hl
      unfold fX6_book_b76 at hres
      refine lv_iadd hx hb dX6_book_76 ?_
      refine pM_this6_here hx hb hown hw6 hK hP hd hS u1 dX6_book_77 (fun H locs hP hS => ?_)
      refine lv_goto (tgt := 25) hx hb dX6_book_80 (by decide) ?_
      exact hK25 x1 x2 sv fnd (z1 + (bI z2)) flt vlu hres _ _ _ hP hS (lv_sub hl [0, 1, 2] rfl)
    have b61 : ∀ (sv : Nat → Int32) (fnd : Nat → Int32) (her : Int32) (flt : Int32) (vlu : Int32) (x1 : Int32) (z0 : Bool), fX6_book_b61 K25 sv fnd her flt vlu x1 z0 = some res → ∀ (H : Heap) (locs : List Loc) (ls : Array Slot), va_P D vwCl (wM a cI cJ cS sv kep bef isk fnd man nex wor sng hea lat tap tpd her flt vlu bit lon cel btw) H → va_S (adA a 16 s.heap.size) s.heap H locs → lv_has ls 3 [(0, .ref (a 0)), (1, .int x1)] → W p l e rX6_book s m args below meth c H locs 0 0 Q (F0 m 61 ls [.int (bI z0)]) := by
      intro sv fnd her flt vlu x1 z0 hres H locs ls hP hS hl
      unfold fX6_book_b61 at hres
      refine lv_istore_n (lv' := [(2, .int (bI z0)), (0, .ref (a 0)), (1, .int x1)]) hx hb dX6_book_61 rfl hl (by decide) rfl (fun ls hl => ?_)
      refine lv_aload_n hx hb dX6_book_62 rfl (lv_at hl 1 rfl) ?_
      refine lv_dup hx hb dX6_book_63 rfl ?_
      refine gM_this6_here hx hb hown hw6 hK hP u1 dX6_book_64 ?_
      refine lv_iload_n hx hb dX6_book_67 rfl (lv_at hl 0 rfl) ?_
      refine lv_if_eq (tgt := 75) hx hb dX6_book_68 (by decide) (fun c68 => ?_) (fun c68 => ?_)
      · have hres := (itl hres).1 c68
        refine lv_iconst (v := 0) hx hb dX6_book_75 (by decide) ?_
        exact b76 sv fnd her flt vlu x1 z0 her false hres _ _ _ hP hS (lv_sub hl [1, 2, 0] rfl)
      · have hres := (itl hres).2 c68
        refine lv_iconst (v := 1) hx hb dX6_book_71 (by decide) ?_
        refine lv_goto (tgt := 76) hx hb dX6_book_72 (by decide) ?_
        exact b76 sv fnd her flt vlu x1 z0 her true hres _ _ _ hP hS (lv_sub hl [1, 2, 0] rfl)
    unfold fX6_book_l25 at hres
    refine lv_iload_n hx hb dX6_book_25 rfl (lv_at hl 2 rfl) ?_
    refine lv_if_eq (tgt := 83) hx hb dX6_book_26 (by decide) (fun c26 => ?_) (fun c26 => ?_)
    · have hres := (itl hres).1 c26
      exact b83 sv bef fnd tpd her flt vlu x1 hres _ _ _ hP hS (lv_sub hl [0, 1] rfl)
    · have hres := (itl hres).2 c26
      refine lv_aload_n hx hb dX6_book_29 rfl (lv_at hl 0 rfl) ?_
      obtain ⟨q30, e30, hres⟩ := obd hres
      refine cvI (q0 := 0) (ci := 6) hx hb hml hown hts hEo hE hK hP hS (kX6_item l D a cI cJ cS hd hEo sa sb hEX sv kep bef isk fnd man nex wor sng hea lat tap tpd her flt vlu bit lon cel btw  q30 e30) gX6_book_X6_item rfl hdX6_item rfl rfl rfl ⟨rfl, rfl⟩ ⟨Nat.le_of_ble_eq_true rfl, Nat.le_of_ble_eq_true rfl⟩ ⟨Nat.zero_le _, Nat.zero_le _⟩ rfl hl.1 rfl (Nat.le_of_ble_eq_true rfl) dX6_book_30 (fun H locs hP hS => ?_)
      refine lv_if_eq (tgt := 83) hx hb dX6_book_33 (by decide) (fun c33 => ?_) (fun c33 => ?_)
      · have hres := (itl hres).1 c33
        exact b83 q30.2.1 bef q30.2.2.1 tpd q30.2.2.2.1 q30.2.2.2.2.1 q30.2.2.2.2.2 x1 hres _ _ _ hP hS (lv_sub hl [0, 1] rfl)
      · have hres := (itl hres).2 c33
        refine lv_iinc (v := x1 + 1) (lv' := [(1, .int (x1 + 1)), (0, .ref (a 0)), (2, .int (bI x2))]) hx hb dX6_book_36 hl (k := 1) rfl (congrArg (fun z => x1 + z) (by decide)) (by decide) rfl (fun ls hl => ?_)
        refine lv_aload_n hx hb dX6_book_39 rfl (lv_at hl 1 rfl) ?_
        obtain ⟨q40, e40, hres⟩ := obd hres
        refine cvV (q0 := 0) (ci := 6) hx hb hml hown hts hEo hE hK hP hS (kX6_blanks l D a cI cJ cS hd hEo q30.2.1 kep bef isk q30.2.2.1 man nex wor sng hea lat tap tpd q30.2.2.2.1 q30.2.2.2.2.1 q30.2.2.2.2.2 bit lon cel btw  q40 e40) gX6_book_X6_blanks rfl hdX6_blanks rfl rfl rfl ⟨rfl, rfl⟩ ⟨Nat.le_of_ble_eq_true rfl, Nat.le_of_ble_eq_true rfl⟩ ⟨Nat.zero_le _, Nat.zero_le _⟩ rfl hl.1 rfl (Nat.le_of_ble_eq_true rfl) dX6_book_40 (fun H locs hP hS => ?_)
        refine lv_aload_n hx hb dX6_book_43 rfl (lv_at hl 1 rfl) ?_
        refine lv_aload_n hx hb dX6_book_44 rfl (lv_at hl 1 rfl) ?_
        refine gM_this6_here hx hb hown hw6 hK hP u1 dX6_book_45 ?_
        obtain ⟨q48, e48, hres⟩ := obd hres
        refine cvI (q0 := 0) (ci := 6) hx hb hml hown hts hEo hE hK hP hS (kX6_byteAt l D a cI cJ cS hd hEo q30.2.1 kep bef isk q30.2.2.1 man nex wor sng hea lat tap tpd q40 q30.2.2.2.2.1 q30.2.2.2.2.2 bit lon cel btw q40 q48 e48) gX6_book_X6_byteAt rfl hdX6_byteAt rfl rfl rfl ⟨rfl, rfl⟩ ⟨Nat.le_of_ble_eq_true rfl, Nat.le_of_ble_eq_true rfl⟩ ⟨Nat.zero_le _, Nat.zero_le _⟩ rfl hl.1 rfl (Nat.le_of_ble_eq_true rfl) dX6_book_48 (fun H locs hP hS => ?_)
        refine lv_bipush (v := 59) hx hb dX6_book_51 (by decide) ?_
        refine lv_icmp_ne (tgt := 60) hx hb dX6_book_53 (by decide) (fun c53 => ?_) (fun c53 => ?_)
        · have hres := (itl hres).2 c53
          refine lv_iconst (v := 0) hx hb dX6_book_60 (by decide) ?_
          exact b61 q30.2.1 q30.2.2.1 q40 q30.2.2.2.2.1 q30.2.2.2.2.2 (x1 + 1) false hres _ _ _ hP hS (lv_sub hl [1, 0] rfl)
        · have hres := (itl hres).1 c53
          refine lv_iconst (v := 1) hx hb dX6_book_56 (by decide) ?_
          refine lv_goto (tgt := 61) hx hb dX6_book_57 (by decide) ?_
          exact b61 q30.2.1 q30.2.2.1 q40 q30.2.2.2.2.1 q30.2.2.2.2.2 (x1 + 1) true hres _ _ _ hP hS (lv_sub hl [1, 0] rfl)
  unfold fX6_book at hres
  refine lv_aload_n hx hb dX6_book_0 rfl (lv_at hl 0 rfl) ?_
  refine lv_iconst (v := 0) hx hb dX6_book_1 (by decide) ?_
  refine pM_this6_here hx hb hown hw6 hK hP hd hS u1 dX6_book_2 (fun H locs hP hS => ?_)
  refine lv_aload_n hx hb dX6_book_5 rfl (lv_at hl 0 rfl) ?_
  refine lv_iconst (v := (-1)) hx hb dX6_book_6 (by decide) ?_
  refine pM_this6_fault hx hb hown hw6 hK hP hd hS u2 dX6_book_7 (fun H locs hP hS => ?_)
  refine lv_aload_n hx hb dX6_book_10 rfl (lv_at hl 0 rfl) ?_
  refine gM_this6_s hx hb hown hw6 hK hP u3 dX6_book_11 ?_
  refine lv_aload_n hx hb dX6_book_14 rfl (lv_at hl 0 rfl) ?_
  refine gM_this6_before hx hb hown hw6 hK hP u4 dX6_book_15 ?_
  obtain ⟨q18, e18, hres⟩ := obd hres
  refine csV hx hb hml hown hts hEo hE hK hP hS (kX6_lay_sv_bef l D a cI cJ cS hd hEo sv kep bef isk fnd man nex wor sng hea lat tap tpd (0 : Int32) (-1 : Int32) vlu bit lon cel btw  q18 e18) gX6_book_X6_lay rfl hdX6_lay ⟨rfl, rfl⟩ ⟨Nat.le_of_ble_eq_true rfl, Nat.le_of_ble_eq_true rfl⟩ ⟨Nat.zero_le _, Nat.zero_le _⟩ rfl hl.1 rfl (Nat.le_of_ble_eq_true rfl) dX6_book_18 (fun H locs hP hS => ?_)
  refine lv_iconst (v := 0) hx hb dX6_book_21 (by decide) ?_
  refine lv_istore_n (lv' := [(1, .int (0 : Int32)), (0, .ref (a 0))]) hx hb dX6_book_22 rfl hl (by decide) rfl (fun ls hl => ?_)
  refine lv_iconst (v := 1) hx hb dX6_book_23 (by decide) ?_
  refine lv_istore_n (lv' := [(2, .int (1 : Int32)), (1, .int (0 : Int32)), (0, .ref (a 0))]) hx hb dX6_book_24 rfl hl (by decide) rfl (fun ls hl => ?_)
  exact b25 q18 tpd 2000 (0 : Int32) true sv fnd (0 : Int32) (-1 : Int32) vlu hres _ _ _ hP hS (lv_sub hl [2, 1, 0] rfl)
