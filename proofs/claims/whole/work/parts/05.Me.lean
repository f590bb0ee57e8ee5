def fX6_isSheet (x0 : Int32) : Bool :=
 (fX6_in x0 (0 : Int32) (3 : Int32))
abbrev rX6_isSheet : Room := { frames := 1, cells := 0, slots := 0, locals := 22 }
set_option maxHeartbeats 4000000 in
set_option maxRecDepth 100000 in
theorem kX6_isSheet (l : Launch) (D : va_G) (a : Nat → Nat) (cI cJ cS : ClassId) (hd : aok a 16) {Env : (Nat → Prop) → State → Heap → Prop} (hEo : envOK Env) (sv kep bef : Nat → Int32) (isk : Int32) (fnd : Nat → Int32) (man nex : Nat → Int64) (wor sng hea lat tap : Nat → Int32) (tpd her flt vlu : Int32) (bit lon : Nat → Int32) (cel btw : Nat → Int64) (x0 : Int32) : CtI l D (tyL cI cJ cS) 16 a Env yX6_isSheet wsX6_isSheet rX6_isSheet [.int x0] (wM a cI cJ cS sv kep bef isk fnd man nex wor sng hea lat tap tpd her flt vlu bit lon cel btw) (wM a cI cJ cS sv kep bef isk fnd man nex wor sng hea lat tap tpd her flt vlu bit lon cel btw) (bI (fX6_isSheet x0)) := by
  generalize hres : fX6_isSheet x0 = res
  refine CtI_mk (cc := cX6_isSheet) (maxL := 1) (ret := (some .boolean)) (by decide) rfl (Nat.le_of_ble_eq_true rfl) ?_
  intro p e s m args below meth c ls hx hb hr hlk hml hown hts hP hK hE hl
  have hS : va_S (adA a 16 s.heap.size) s.heap s.heap [] := va_S.rf
  have hl : lv_has ls 1 [(0, .int x0)] := hl
  have hown : s.vm.findClass RX6 = some m.cls := hown
  obtain ⟨Q, hQ⟩ : ∃ Q, Q = mqI below D 16 a args s (wM a cI cJ cS sv kep bef isk fnd man nex wor sng hea lat tap tpd her flt vlu bit lon cel btw) (bI res) := ⟨_, rfl⟩
  rw [← hQ]
  unfold fX6_isSheet at hres
  refine lv_iload_n hx hb dX6_isSheet_0 rfl (lv_at hl 0 rfl) ?_
  refine lv_iconst (v := 0) hx hb dX6_isSheet_1 (by decide) ?_
  refine lv_iconst (v := 3) hx hb dX6_isSheet_2 (by decide) ?_
  refine csI hx hb hml hown hts hEo hE hK hP hS (kX6_in l D a cI cJ cS hd hEo sv kep bef isk fnd man nex wor sng hea lat tap tpd her flt vlu bit lon cel btw x0 (0 : Int32) (3 : Int32)) gX6_isSheet_X6_in rfl hdX6_in ⟨rfl, rfl⟩ ⟨Nat.le_of_ble_eq_true rfl, Nat.le_of_ble_eq_true rfl⟩ ⟨Nat.zero_le _, Nat.zero_le _⟩ rfl hl.1 rfl (Nat.le_of_ble_eq_true rfl) dX6_isSheet_3 (fun H locs hP hS => ?_)
  exact hQ ▸ rtZ (v := (fX6_in x0 (0 : Int32) (3 : Int32)))  hx hb hr hlk hP hS (by rw [← hres]) rfl dX6_isSheet_6
def fX6_sheet_b29 (fnd : Nat → Int32) (bit : Nat → Int32) (lon : Nat → Int32) (cel : Nat → Int64) : Option (Int32 × (Nat → Int32) × (Nat → Int32) × (Nat → Int32) × (Nat → Int64)) :=
 (fX6_no fnd (0 : Int32)).bind fun q31 => some (q31.1, q31.2, bit, lon, cel)
def fX6_sheet_b109 (fnd : Nat → Int32) (bit : Nat → Int32) (lon : Nat → Int32) (cel : Nat → Int64) (x1 : Int32) : Option (Int32 × (Nat → Int32) × (Nat → Int32) × (Nat → Int32) × (Nat → Int64)) :=
  gd (ib x1 4) (some (lon x1.toNatClampNeg, fnd, bit, lon, cel))
def fX6_sheet_l83 (fnd : Nat → Int32) (bit : Nat → Int32) (lon : Nat → Int32) (x1 : Int32) (K83 : Int32 → (Nat → Int64) → Option (Int32 × (Nat → Int32) × (Nat → Int32) × (Nat → Int32) × (Nat → Int64))) (x4 : Int32) (cel : Nat → Int64) : Option (Int32 × (Nat → Int32) × (Nat → Int32) × (Nat → Int32) × (Nat → Int64)) :=
  if (40 : Int32) ≤ x4 then fX6_sheet_b109 fnd bit lon cel x1 else gd (ib (((40 : Int32) * x1) + x4) 160) (K83 (x4 + 1) (vp_updL cel (((40 : Int32) * x1) + x4).toNatClampNeg (0 : Int64)))
def fX6_sheet_b79 (fnd : Nat → Int32) (bit : Nat → Int32) (lon : Nat → Int32) (cel : Nat → Int64) (x1 : Int32) (z1 : Int32) (z2 : Int32) : Option (Int32 × (Nat → Int32) × (Nat → Int32) × (Nat → Int32) × (Nat → Int64)) :=
  gd (ib z1 4) (fix2 (fX6_sheet_l83 fnd bit (upd lon z1.toNatClampNeg z2) x1) 2000 (0 : Int32) cel)
def fX6_sheet_b35 (fnd : Nat → Int32) (bit : Nat → Int32) (lon : Nat → Int32) (cel : Nat → Int64) (x1 : Int32) (x2 : Int32) (x3 : Int32) : Option (Int32 × (Nat → Int32) × (Nat → Int32) × (Nat → Int32) × (Nat → Int64)) :=
  if 0 ≤ x3 then if x3 ≤ (40 : Int32) then gd (ib x1 4) (if x2 = 0 then fX6_sheet_b79 fnd (upd bit x1.toNatClampNeg x2) lon cel x1 x1 (0 : Int32) else fX6_sheet_b79 fnd (upd bit x1.toNatClampNeg x2) lon cel x1 x1 x3) else (fX6_no fnd (0 : Int32)).bind fun q54 => some (q54.1, q54.2, bit, lon, cel) else (fX6_no fnd (6 : Int32)).bind fun q42 => some (q42.1, q42.2, bit, lon, cel)
def fX6_sheet (fnd : Nat → Int32) (bit : Nat → Int32) (lon : Nat → Int32) (cel : Nat → Int64) (x1 : Int32) (x2 : Int32) (x3 : Int32) : Option (Int32 × (Nat → Int32) × (Nat → Int32) × (Nat → Int32) × (Nat → Int64)) :=
  if (bI (fX6_isSheet x1)) = 0 then fX6_sheet_b29 fnd bit lon cel else if x2 = 0 then fX6_sheet_b35 fnd bit lon cel x1 x2 x3 else if x2 = (8 : Int32) then fX6_sheet_b35 fnd bit lon cel x1 x2 x3 else if x2 = (16 : Int32) then fX6_sheet_b35 fnd bit lon cel x1 x2 x3 else if x2 = (64 : Int32) then fX6_sheet_b35 fnd bit lon cel x1 x2 x3 else fX6_sheet_b29 fnd bit lon cel
theorem hdX6_isSheet : yX6_isSheet.cls ≠ "java/lang/invoke/MethodHandle" ∧ yX6_isSheet.cls ≠ "java/lang/invoke/VarHandle" ∧ (parseMethodDescriptor yX6_isSheet.desc).map (fun d => d.parameters.length) = some 1 := by decide +kernel
abbrev rX6_sheet : Room := { frames := 2, cells := 0, slots := 0, locals := 42 }
set_option maxHeartbeats 4000000 in
set_option maxRecDepth 100000 in
theorem kX6_sheet (l : Launch) (D : va_G) (a : Nat → Nat) (cI cJ cS : ClassId) (hd : aok a 16) {Env : (Nat → Prop) → State → Heap → Prop} (hEo : envOK Env) (sv kep bef : Nat → Int32) (isk : Int32) (fnd : Nat → Int32) (man nex : Nat → Int64) (wor sng hea lat tap : Nat → Int32) (tpd her flt vlu : Int32) (bit lon : Nat → Int32) (cel btw : Nat → Int64) (x1 : Int32) (x2 : Int32) (x3 : Int32) (res : Int32 × (Nat → Int32) × (Nat → Int32) × (Nat → Int32) × (Nat → Int64)) (hres : fX6_sheet fnd bit lon cel x1 x2 x3 = some res) : CtI l D (tyL cI cJ cS) 16 a Env yX6_sheet wsX6_sheet rX6_sheet [.ref (a 0), .int x1, .int x2, .int x3] (wM a cI cJ cS sv kep bef isk fnd man nex wor sng hea lat tap tpd her flt vlu bit lon cel btw) (wM a cI cJ cS sv kep bef isk res.2.1 man nex wor sng hea lat tap tpd her flt vlu res.2.2.1 res.2.2.2.1 res.2.2.2.2 btw) res.1 := by
  refine CtI_mk (cc := cX6_sheet) (maxL := 5) (ret := (some .int)) (by decide) rfl (Nat.le_of_ble_eq_true rfl) ?_
  intro p e s m args below meth c ls hx hb hr hlk hml hown hts hP hK hE hl
  have hS : va_S (adA a 16 s.heap.size) s.heap s.heap [] := va_S.rf
  have hl : lv_has ls 5 [(0, .ref (a 0)), (1, .int x1), (2, .int x2), (3, .int x3)] := hl
  have hown : s.vm.findClass RX6 = some m.cls := hown
  have hw6 : ∀ w ∈ wsX60, w.before args s = true := fun w h => hts w (List.mem_cons_of_mem _ (List.mem_append_right _ h))
  have u1 : (Cond.fieldLink RX6 44 "YearWordsModel" "bits" "[I").before args s = true := hts _ (List.mem_of_getElem? (i := 1) (by decide +kernel))
  have u2 : (Cond.fieldLink RX6 47 "YearWordsModel" "longs" "[I").before args s = true := hts _ (List.mem_of_getElem? (i := 2) (by decide +kernel))
  have u3 : (Cond.fieldLink RX6 50 "YearWordsModel" "cells" "[J").before args s = true := hts _ (List.mem_of_getElem? (i := 3) (by decide +kernel))
  obtain ⟨Q, hQ⟩ : ∃ Q, Q = mqI below D 16 a args s (wM a cI cJ cS sv kep bef isk res.2.1 man nex wor sng hea lat tap tpd her flt vlu res.2.2.1 res.2.2.2.1 res.2.2.2.2 btw) res.1 := ⟨_, rfl⟩
  rw [← hQ]
  have b29 : ∀ (fnd : Nat → Int32) (bit : Nat → Int32) (lon : Nat → Int32) (cel : Nat → Int64), fX6_sheet_b29 fnd bit lon cel = some res → ∀ (H : Heap) (locs : List Loc) (ls : Array Slot), va_P D vwCl (wM a cI cJ cS sv kep bef isk fnd man nex wor sng hea lat tap tpd her flt vlu bit lon cel btw) H → va_S (adA a 16 s.heap.size) s.heap H locs → lv_has ls 5 [(0, .ref (a 0))] → W p l e rX6_sheet s m args below meth c H locs 0 0 Q (F0 m 29 ls []) := by
    intro fnd bit lon cel hres H locs ls hP hS hl
    unfold fX6_sheet_b29 at hres
    refine lv_aload_n hx hb dX6_sheet_29 rfl (lv_at hl 0 rfl) ?_
    refine lv_iconst (v := 0) hx hb dX6_sheet_30 (by decide) ?_
    obtain ⟨q31, e31, hres⟩ := obd hres
    refine cvI (q0 := 0) (ci := 6) hx hb hml hown hts hEo hE hK hP hS (kX6_no l D a cI cJ cS hd hEo sv kep bef isk fnd man nex wor sng hea lat tap tpd her flt vlu bit lon cel btw (0 : Int32) q31 e31) gX6_sheet_X6_no rfl hdX6_no rfl rfl rfl ⟨rfl, rfl⟩ ⟨Nat.le_of_ble_eq_true rfl, Nat.le_of_ble_eq_true rfl⟩ ⟨Nat.zero_le _, Nat.zero_le _⟩ rfl hl.1 rfl (Nat.le_of_ble_eq_true rfl) dX6_sheet_31 (fun H locs hP hS => ?_)
    exact hQ ▸ rtI (v := q31.1)  hx hb hr hlk hP hS (by rw [← (Option.some.inj hres)]) (by rw [← (Option.some.inj hres)]) dX6_sheet_34
  have b109 : ∀ (fnd : Nat → Int32) (bit : Nat → Int32) (lon : Nat → Int32) (cel : Nat → Int64), fX6_sheet_b109 fnd bit lon cel x1 = some res → ∀ (H : Heap) (locs : List Loc) (ls : Array Slot), va_P D vwCl (wM a cI cJ cS sv kep bef isk fnd man nex wor sng hea lat tap tpd her flt vlu bit lon cel btw) H → va_S (adA a 16 s.heap.size) s.heap H locs → lv_has ls 5 [(0, .ref (a 0)), (1, .int x1)] → W p l e rX6_sheet s m args below meth c H locs 0 0 Q (F0 m 109 ls []) := by
    intro fnd bit lon cel hres H locs ls hP hS hl
    unfold fX6_sheet_b109 at hres
    refine lv_aload_n hx hb dX6_sheet_109 rfl (lv_at hl 0 rfl) ?_
    refine gM_this6_longs hx hb hown hw6 hK hP u2 dX6_sheet_110 ?_
    refine lv_iload_n hx hb dX6_sheet_113 rfl (lv_at hl 1 rfl) ?_
    obtain ⟨i114, hres⟩ := gdi hres
    refine lM_lon hx hb hK hP i114 dX6_sheet_114 ?_
    exact hQ ▸ rtI (v := lon x1.toNatClampNeg)  hx hb hr hlk hP hS (by rw [← (Option.some.inj hres)]) (by rw [← (Option.some.inj hres)]) dX6_sheet_115
  have b83 : ∀ (fnd : Nat → Int32) (bit : Nat → Int32) (lon : Nat → Int32) (n : Nat) (x4 : Int32) (cel : Nat → Int64), fix2 (fX6_sheet_l83 fnd bit lon x1) n x4 cel = some res → ∀ (H : Heap) (locs : List Loc) (ls : Array Slot), va_P D vwCl (wM a cI cJ cS sv kep bef isk fnd man nex wor sng hea lat tap tpd her flt vlu bit lon cel btw) H → va_S (adA a 16 s.heap.size) s.heap H locs → lv_has ls 5 [(0, .ref (a 0)), (1, .int x1), (4, .int x4)] → W p l e rX6_sheet s m args below meth c H locs 0 0 Q (F0 m 83 ls []) := by
    intro fnd bit lon
    refine fix2_r ?_
    intro K83 hK83 x4 cel hres H locs ls hP hS hl
    unfold fX6_sheet_l83 at hres
    refine lv_iload hx hb dX6_sheet_83 (lv_at hl 2 rfl) ?_
    refine lv_bipush (v := 40) hx hb dX6_sheet_85 (by decide) ?_
    refine lv_icmp_ge (tgt := 109) hx hb dX6_sheet_87 (by decide) (fun c87 => ?_) (fun c87 => ?_)
    · have hres := (itl hres).1 c87
      exact b109 fnd bit lon cel hres _ _ _ hP hS (lv_sub hl [0, 1] rfl)
    · have hres := (itl hres).2 c87
      refine lv_aload_n hx hb dX6_sheet_90 rfl (lv_at hl 0 rfl) ?_
      refine gM_this6_cells hx hb hown hw6 hK hP u3 dX6_sheet_91 ?_
      refine lv_bipush (v := 40) hx hb dX6_sheet_94 (by decide) ?_
      refine lv_iload_n hx hb dX6_sheet_96 rfl (lv_at hl 1 rfl) ?_
      refine lv_imul hx hb dX6_sheet_97 ?_
      refine lv_iload hx hb dX6_sheet_98 (lv_at hl 2 rfl) ?_
      refine lv_iadd hx hb dX6_sheet_100 ?_
      refine lv_lconst (v := 0) hx hb dX6_sheet_101 (by decide) ?_
      obtain ⟨i102, hres⟩ := gdi hres
      refine sM_cel hx hb hK hP hd hS i102 dX6_sheet_102 (fun H locs hP hS => ?_)
      refine lv_iinc (v := x4 + 1) (lv' := [(4, .int (x4 + 1)), (0, .ref (a 0)), (1, .int x1)]) hx hb dX6_sheet_103 hl (k := 2) rfl (congrArg (fun z => x4 + z) (by decide)) (by decide) rfl (fun ls hl => ?_)
      refine lv_goto (tgt := 83) hx hb dX6_sheet_106 (by decide) ?_
      exact hK83 (x4 + 1) (vp_updL cel (((40 : Int32) * x1) + x4).toNatClampNeg (0 : Int64)) hres _ _ _ hP hS (lv_sub hl [1, 2, 0] rfl)
  have b79 : ∀ (fnd : Nat → Int32) (bit : Nat → Int32) (lon : Nat → Int32) (cel : Nat → Int64) (z1 : Int32) (z2 : Int32), fX6_sheet_b79 fnd bit lon cel x1 z1 z2 = some res → ∀ (H : Heap) (locs : List Loc) (ls : Array Slot), va_P D vwCl (wM a cI cJ cS sv kep bef isk fnd man nex wor sng hea lat tap tpd her flt vlu bit lon cel btw) H → va_S (adA a 16 s.heap.size) s.heap H locs → lv_has ls 5 [(0, .ref (a 0)), (1, .int x1)] → W p l e rX6_sheet s m args below meth c H locs 0 0 Q (F0 m 79 ls [.int z2, .int z1, .ref (a 13)]) := by
    intro fnd bit lon cel z1 z2 hres H locs ls hP hS hl
    unfold fX6_sheet_b79 at hres
    obtain ⟨i79, hres⟩ := gdi hres
    refine sM_lon hx hb hK hP hd hS i79 dX6_sheet_79 (fun H locs hP hS => ?_)
    refine lv_iconst (v := 0) hx hb dX6_sheet_80 (by decide) ?_
    refine lv_istore (lv' := [(4, .int (0 : Int32)), (0, .ref (a 0)), (1, .int x1)]) hx hb dX6_sheet_81 hl (by decide) rfl (fun ls hl => ?_)
    exact b83 fnd bit (upd lon z1.toNatClampNeg z2) 2000 (0 : Int32) cel hres _ _ _ hP hS (lv_sub hl [1, 2, 0] rfl)
  have b35 : ∀ (fnd : Nat → Int32) (bit : Nat → Int32) (lon : Nat → Int32) (cel : Nat → Int64), fX6_sheet_b35 fnd bit lon cel x1 x2 x3 = some res → ∀ (H : Heap) (locs : List Loc) (ls : Array Slot), va_P D vwCl (wM a cI cJ cS sv kep bef isk fnd man nex wor sng hea lat tap tpd her flt vlu bit lon cel btw) H → va_S (adA a 16 s.heap.size) s.heap H locs → lv_has ls 5 [(0, .ref (a 0)), (1, .int x1), (2, .int x2), (3, .int x3)] → W p l e rX6_sheet s m args below meth c H locs 0 0 Q (F0 m 35 ls []) := by
    intro fnd bit lon cel hres H locs ls hP hS hl
    unfold fX6_sheet_b35 at hres
    refine lv_iload_n hx hb dX6_sheet_35 rfl (lv_at hl 3 rfl) ?_
    refine lv_if_ge (tgt := 46) hx hb dX6_sheet_36 (by decide) (fun c36 => ?_) (fun c36 => ?_)
    · have hres := (itl hres).1 c36
      refine lv_iload_n hx hb dX6_sheet_46 rfl (lv_at hl 3 rfl) ?_
      refine lv_bipush (v := 40) hx hb dX6_sheet_47 (by decide) ?_
      refine lv_icmp_le (tgt := 58) hx hb dX6_sheet_49 (by decide) (fun c49 => ?_) (fun c49 => ?_)
      · have hres := (itl hres).1 c49
        refine lv_aload_n hx hb dX6_sheet_58 rfl (lv_at hl 0 rfl) ?_
        refine gM_this6_bits hx hb hown hw6 hK hP u1 dX6_sheet_59 ?_
        refine lv_iload_n hx hb dX6_sheet_62 rfl (lv_at hl 1 rfl) ?_
        refine lv_iload_n hx hb dX6_sheet_63 rfl (lv_at hl 2 rfl) ?_
        obtain ⟨i64, hres⟩ := gdi hres
        refine sM_bit hx hb hK hP hd hS i64 dX6_sheet_64 (fun H locs hP hS => ?_)
        refine lv_aload_n hx hb dX6_sheet_65 rfl (lv_at hl 0 rfl) ?_
        refine gM_this6_longs hx hb hown hw6 hK hP u2 dX6_sheet_66 ?_
        refine lv_iload_n hx hb dX6_sheet_69 rfl (lv_at hl 1 rfl) ?_
        refine lv_iload_n hx hb dX6_sheet_70 rfl (lv_at hl 2 rfl) ?_
        refine lv_if_ne (tgt := 78) hx hb dX6_sheet_71 (by decide) (fun c71 => ?_) (fun c71 => ?_)
        · have hres := (itl hres).2 c71
          refine lv_iload_n hx hb dX6_sheet_78 rfl (lv_at hl 3 rfl) ?_
          exact b79 fnd (upd bit x1.toNatClampNeg x2) lon cel x1 x3 hres _ _ _ hP hS (lv_sub hl [0, 1] rfl)
        · have hres := (itl hres).1 c71
          refine lv_iconst (v := 0) hx hb dX6_sheet_74 (by decide) ?_
          refine lv_goto (tgt := 79) hx hb dX6_sheet_75 (by decide) ?_
          exact b79 fnd (upd bit x1.toNatClampNeg x2) lon cel x1 (0 : Int32) hres _ _ _ hP hS (lv_sub hl [0, 1] rfl)
      · have hres := (itl hres).2 c49
        refine lv_aload_n hx hb dX6_sheet_52 rfl (lv_at hl 0 rfl) ?_
        refine lv_iconst (v := 0) hx hb dX6_sheet_53 (by decide) ?_
        obtain ⟨q54, e54, hres⟩ := obd hres
        refine cvI (q0 := 0) (ci := 6) hx hb hml hown hts hEo hE hK hP hS (kX6_no l D a cI cJ cS hd hEo sv kep bef isk fnd man nex wor sng hea lat tap tpd her flt vlu bit lon cel btw (0 : Int32) q54 e54) gX6_sheet_X6_no rfl hdX6_no rfl rfl rfl ⟨rfl, rfl⟩ ⟨Nat.le_of_ble_eq_true rfl, Nat.le_of_ble_eq_true rfl⟩ ⟨Nat.zero_le _, Nat.zero_le _⟩ rfl hl.1 rfl (Nat.le_of_ble_eq_true rfl) dX6_sheet_54 (fun H locs hP hS => ?_)
        exact hQ ▸ rtI (v := q54.1)  hx hb hr hlk hP hS (by rw [← (Option.some.inj hres)]) (by rw [← (Option.some.inj hres)]) dX6_sheet_57
    · have hres := (itl hres).2 c36
      refine lv_aload_n hx hb dX6_sheet_39 rfl (lv_at hl 0 rfl) ?_
      refine lv_bipush (v := 6) hx hb dX6_sheet_40 (by decide) ?_
      obtain ⟨q42, e42, hres⟩ := obd hres
      refine cvI (q0 := 0) (ci := 6) hx hb hml hown hts hEo hE hK hP hS (kX6_no l D a cI cJ cS hd hEo sv kep bef isk fnd man nex wor sng hea lat tap tpd her flt vlu bit lon cel btw (6 : Int32) q42 e42) gX6_sheet_X6_no rfl hdX6_no rfl rfl rfl ⟨rfl, rfl⟩ ⟨Nat.le_of_ble_eq_true rfl, Nat.le_of_ble_eq_true rfl⟩ ⟨Nat.zero_le _, Nat.zero_le _⟩ rfl hl.1 rfl (Nat.le_of_ble_eq_true rfl) dX6_sheet_42 (fun H locs hP hS => ?_)
      exact hQ ▸ rtI (v := q42.1)  hx hb hr hlk hP hS (by rw [← (Option.some.inj hres)]) (by rw [← (Option.some.inj hres)]) dX6_sheet_45
  unfold fX6_sheet at hres
  refine lv_iload_n hx hb dX6_sheet_0 rfl (lv_at hl 1 rfl) ?_
  refine csI hx hb hml hown hts hEo hE hK hP hS (kX6_isSheet l D a cI cJ cS hd hEo sv kep bef isk fnd man nex wor sng hea lat tap tpd her flt vlu bit lon cel btw x1) gX6_sheet_X6_isSheet rfl hdX6_isSheet ⟨rfl, rfl⟩ ⟨Nat.le_of_ble_eq_true rfl, Nat.le_of_ble_eq_true rfl⟩ ⟨Nat.zero_le _, Nat.zero_le _⟩ rfl hl.1 rfl (Nat.le_of_ble_eq_true rfl) dX6_sheet_1 (fun H locs hP hS => ?_)
  refine lv_if_eq (tgt := 29) hx hb dX6_sheet_4 (by decide) (fun c4 => ?_) (fun c4 => ?_)
  · have hres := (itl hres).1 c4
    exact b29 fnd bit lon cel hres _ _ _ hP hS (lv_sub hl [0] rfl)
  · have hres := (itl hres).2 c4
    refine lv_iload_n hx hb dX6_sheet_7 rfl (lv_at hl 2 rfl) ?_
    refine lv_if_eq (tgt := 35) hx hb dX6_sheet_8 (by decide) (fun c8 => ?_) (fun c8 => ?_)
    · have hres := (itl hres).1 c8
      exact b35 fnd bit lon cel hres _ _ _ hP hS (lv_sub hl [0, 1, 2, 3] rfl)
    · have hres := (itl hres).2 c8
      refine lv_iload_n hx hb dX6_sheet_11 rfl (lv_at hl 2 rfl) ?_
      refine lv_bipush (v := 8) hx hb dX6_sheet_12 (by decide) ?_
      refine lv_icmp_eq (tgt := 35) hx hb dX6_sheet_14 (by decide) (fun c14 => ?_) (fun c14 => ?_)
      · have hres := (itl hres).1 c14
        exact b35 fnd bit lon cel hres _ _ _ hP hS (lv_sub hl [0, 1, 2, 3] rfl)
      · have hres := (itl hres).2 c14
        refine lv_iload_n hx hb dX6_sheet_17 rfl (lv_at hl 2 rfl) ?_
        refine lv_bipush (v := 16) hx hb dX6_sheet_18 (by decide) ?_
        refine lv_icmp_eq (tgt := 35) hx hb dX6_sheet_20 (by decide) (fun c20 => ?_) (fun c20 => ?_)
        · have hres := (itl hres).1 c20
          exact b35 fnd bit lon cel hres _ _ _ hP hS (lv_sub hl [0, 1, 2, 3] rfl)
        · have hres := (itl hres).2 c20
          refine lv_iload_n hx hb dX6_sheet_23 rfl (lv_at hl 2 rfl) ?_
          refine lv_bipush (v := 64) hx hb dX6_sheet_24 (by decide) ?_
          refine lv_icmp_eq (tgt := 35) hx hb dX6_sheet_26 (by decide) (fun c26 => ?_) (fun c26 => ?_)
          · have hres := (itl hres).1 c26
            exact b35 fnd bit lon cel hres _ _ _ hP hS (lv_sub hl [0, 1, 2, 3] rfl)
          · have hres := (itl hres).2 c26
            exact b29 fnd bit lon cel hres _ _ _ hP hS (lv_sub hl [0] rfl)
def fX6_writes_b47 (cel : Nat → Int64) (z1 : Int32) (z2 : Int64) : Option ((Nat → Int64)) :=
  gd (ib z1 160) (some (vp_updL cel z1.toNatClampNeg z2))
def fX6_writes (bit : Nat → Int32) (cel : Nat → Int64) (x1 : Int32) (x2 : Int32) (x3 : Int64) : Option ((Nat → Int64)) :=
  gd (ib x1 4) (if (bit x1.toNatClampNeg) = (8 : Int32) then fX6_writes_b47 cel (((40 : Int32) * x1) + x2) x3.toInt32.toInt8.toInt32.toInt64 else gd (ib x1 4) (if (bit x1.toNatClampNeg) = (16 : Int32) then fX6_writes_b47 cel (((40 : Int32) * x1) + x2) x3.toInt32.toInt16.toInt32.toInt64 else fX6_writes_b47 cel (((40 : Int32) * x1) + x2) x3))
abbrev rX6_writes : Room := { frames := 0, cells := 0, slots := 0, locals := 0 }
set_option maxHeartbeats 4000000 in
set_option maxRecDepth 100000 in
theorem kX6_writes (l : Launch) (D : va_G) (a : Nat → Nat) (cI cJ cS : ClassId) (hd : aok a 16) {Env : (Nat → Prop) → State → Heap → Prop} (hEo : envOK Env) (sv kep bef : Nat → Int32) (isk : Int32) (fnd : Nat → Int32) (man nex : Nat → Int64) (wor sng hea lat tap : Nat → Int32) (tpd her flt vlu : Int32) (bit lon : Nat → Int32) (cel btw : Nat → Int64) (x1 : Int32) (x2 : Int32) (x3 : Int64) (res : (Nat → Int64)) (hres : fX6_writes bit cel x1 x2 x3 = some res) : CtV l D (tyL cI cJ cS) 16 a Env yX6_writes wsX6_writes rX6_writes [.ref (a 0), .int x1, .int x2, .long x3] (wM a cI cJ cS sv kep bef isk fnd man nex wor sng hea lat tap tpd her flt vlu bit lon cel btw) (wM a cI cJ cS sv kep bef isk fnd man nex wor sng hea lat tap tpd her flt vlu bit lon res btw) := by
  refine CtV_mk (cc := cX6_writes) (maxL := 5) (ret := none) (by decide) rfl (Nat.le_of_ble_eq_true rfl) ?_
  intro p e s m args below meth c ls hx hb hr hlk hml hown hts hP hK hE hl
  have hS : va_S (adA a 16 s.heap.size) s.heap s.heap [] := va_S.rf
  have hl : lv_has ls 5 [(0, .ref (a 0)), (1, .int x1), (2, .int x2), (3, .long x3)] := hl
  have hown : s.vm.findClass RX6 = some m.cls := hown
  have hw6 : ∀ w ∈ wsX60, w.before args s = true := fun w h => hts w (List.mem_cons_of_mem _ (List.mem_append_right _ h))
  have u1 : (Cond.fieldLink RX6 50 "YearWordsModel" "cells" "[J").before args s = true := hts _ (List.mem_of_getElem? (i := 1) (by decide +kernel))
  have u2 : (Cond.fieldLink RX6 44 "YearWordsModel" "bits" "[I").before args s = true := hts _ (List.mem_of_getElem? (i := 2) (by decide +kernel))
  obtain ⟨Q, hQ⟩ : ∃ Q, Q = mqV below D 16 a args s (wM a cI cJ cS sv kep bef isk fnd man nex wor sng hea lat tap tpd her flt vlu bit lon res btw) := ⟨_, rfl⟩
  rw [← hQ]
  have b47 : ∀ (cel : Nat → Int64) (z1 : Int32) (z2 : Int64), fX6_writes_b47 cel z1 z2 = some res → ∀ (H : Heap) (locs : List Loc) (ls : Array Slot), va_P D vwCl (wM a cI cJ cS sv kep bef isk fnd man nex wor sng hea lat tap tpd her flt vlu bit lon cel btw) H → va_S (adA a 16 s.heap.size) s.heap H locs → lv_has ls 5 [(0, .ref (a 0))] → W p l e rX6_writes s m args below meth c H locs 0 0 Q (F0 m 47 ls [.long z2, .int z1, .ref (a 14)]) := by
    intro cel z1 z2 hres H locs ls hP hS hl
    unfold fX6_writes_b47 at hres
    obtain ⟨i47, hres⟩ := gdi hres
    refine sM_cel hx hb hK hP hd hS i47 dX6_writes_47 (fun H locs hP hS => ?_)
    exact hQ ▸ rtV hx hb hr hlk hP hS (by rw [← (Option.some.inj hres)]) dX6_writes_48
  unfold fX6_writes at hres
  refine lv_aload_n hx hb dX6_writes_0 rfl (lv_at hl 0 rfl) ?_
  refine gM_this6_cells hx hb hown hw6 hK hP u1 dX6_writes_1 ?_
  refine lv_bipush (v := 40) hx hb dX6_writes_4 (by decide) ?_
  refine lv_iload_n hx hb dX6_writes_6 rfl (lv_at hl 1 rfl) ?_
  refine lv_imul hx hb dX6_writes_7 ?_
  refine lv_iload_n hx hb dX6_writes_8 rfl (lv_at hl 2 rfl) ?_
  refine lv_iadd hx hb dX6_writes_9 ?_
  refine lv_aload_n hx hb dX6_writes_10 rfl (lv_at hl 0 rfl) ?_
  refine gM_this6_bits hx hb hown hw6 hK hP u2 dX6_writes_11 ?_
  refine lv_iload_n hx hb dX6_writes_14 rfl (lv_at hl 1 rfl) ?_
  obtain ⟨i15, hres⟩ := gdi hres
  refine lM_bit hx hb hK hP i15 dX6_writes_15 ?_
  refine lv_bipush (v := 8) hx hb dX6_writes_16 (by decide) ?_
  refine lv_icmp_ne (tgt := 28) hx hb dX6_writes_18 (by decide) (fun c18 => ?_) (fun c18 => ?_)
  · have hres := (itl hres).2 c18
    refine lv_aload_n hx hb dX6_writes_28 rfl (lv_at hl 0 rfl) ?_
    refine gM_this6_bits hx hb hown hw6 hK hP u2 dX6_writes_29 ?_
    refine lv_iload_n hx hb dX6_writes_32 rfl (lv_at hl 1 rfl) ?_
    obtain ⟨i33, hres⟩ := gdi hres
    refine lM_bit hx hb hK hP i33 dX6_writes_33 ?_
    refine lv_bipush (v := 16) hx hb dX6_writes_34 (by decide) ?_
    refine lv_icmp_ne (tgt := 46) hx hb dX6_writes_36 (by decide) (fun c36 => ?_) (fun c36 => ?_)
    · have hres := (itl hres).2 c36
      refine lv_lload_n hx hb dX6_writes_46 rfl (lv_at hl 3 rfl) ?_
      exact b47 cel (((40 : Int32) * x1) + x2) x3 hres _ _ _ hP hS (lv_sub hl [0] rfl)
    · have hres := (itl hres).1 c36
      refine lv_lload_n hx hb dX6_writes_39 rfl (lv_at hl 3 rfl) ?_
      refine lv_l2i hx hb dX6_writes_40 rfl ?_
      refine lv_i2s hx hb dX6_writes_41 rfl ?_
      refine lv_i2l hx hb dX6_writes_42 rfl ?_
      refine lv_goto (tgt := 47) hx hb dX6_writes_43 (by decide) ?_
      exact b47 cel (((40 : Int32) * x1) + x2) x3.toInt32.toInt16.toInt32.toInt64 hres _ _ _ hP hS (lv_sub hl [0] rfl)
  · have hres := (itl hres).1 c18
    refine lv_lload_n hx hb dX6_writes_21 rfl (lv_at hl 3 rfl) ?_
    refine lv_l2i hx hb dX6_writes_22 rfl ?_
    refine lv_i2b hx hb dX6_writes_23 rfl ?_
    refine lv_i2l hx hb dX6_writes_24 rfl ?_
    refine lv_goto (tgt := 47) hx hb dX6_writes_25 (by decide) ?_
    exact b47 cel (((40 : Int32) * x1) + x2) x3.toInt32.toInt8.toInt32.toInt64 hres _ _ _ hP hS (lv_sub hl [0] rfl)
def fX6_write (fnd : Nat → Int32) (bit : Nat → Int32) (lon : Nat → Int32) (cel : Nat → Int64) (x1 : Int32) (x2 : Int32) (x3 : Int64) : Option (Int64 × (Nat → Int32) × (Nat → Int64)) :=
  if (bI (fX6_isSheet x1)) = 0 then (fX6_no fnd (0 : Int32)).bind fun q9 => some (q9.1.toInt64, q9.2, cel) else gd (ib x1 4) (if (bit x1.toNatClampNeg) = 0 then (fX6_no fnd (5 : Int32)).bind fun q25 => some (q25.1.toInt64, q25.2, cel) else gd (ib x1 4) (if (bI (fX6_in x2 (0 : Int32) ((lon x1.toNatClampNeg) - (1 : Int32)))) = 0 then (fX6_no fnd (0 : Int32)).bind fun q48 => some (q48.1.toInt64, q48.2, cel) else gd (ib (((40 : Int32) * x1) + x2) 160) ((fX6_writes bit cel x1 x2 x3).bind fun q70 => some (cel (((40 : Int32) * x1) + x2).toNatClampNeg, fnd, q70))))
theorem hdX6_writes : yX6_writes.cls = RX6 ∧ yX6_writes.cls ≠ "java/lang/invoke/MethodHandle" ∧ yX6_writes.cls ≠ "java/lang/invoke/VarHandle" ∧ (parseMethodDescriptor yX6_writes.desc).map (fun d => d.parameters.length) = some 3 := by decide +kernel
abbrev rX6_write : Room := { frames := 2, cells := 0, slots := 0, locals := 42 }
set_option maxHeartbeats 4000000 in
set_option maxRecDepth 100000 in
theorem kX6_write (l : Launch) (D : va_G) (a : Nat → Nat) (cI cJ cS : ClassId) (hd : aok a 16) {Env : (Nat → Prop) → State → Heap → Prop} (hEo : envOK Env) (sv kep bef : Nat → Int32) (isk : Int32) (fnd : Nat → Int32) (man nex : Nat → Int64) (wor sng hea lat tap : Nat → Int32) (tpd her flt vlu : Int32) (bit lon : Nat → Int32) (cel btw : Nat → Int64) (x1 : Int32) (x2 : Int32) (x3 : Int64) (res : Int64 × (Nat → Int32) × (Nat → Int64)) (hres : fX6_write fnd bit lon cel x1 x2 x3 = some res) : CtL l D (tyL cI cJ cS) 16 a Env yX6_write wsX6_write rX6_write [.ref (a 0), .int x1, .int x2, .long x3] (wM a cI cJ cS sv kep bef isk fnd man nex wor sng hea lat tap tpd her flt vlu bit lon cel btw) (wM a cI cJ cS sv kep bef isk res.2.1 man nex wor sng hea lat tap tpd her flt vlu bit lon res.2.2 btw) res.1 := by
  refine CtL_mk (cc := cX6_write) (maxL := 7) (ret := (some .long)) (by decide) rfl (Nat.le_of_ble_eq_true rfl) ?_
  intro p e s m args below meth c ls hx hb hr hlk hml hown hts hP hK hE hl
  have hS : va_S (adA a 16 s.heap.size) s.heap s.heap [] := va_S.rf
  have hl : lv_has ls 7 [(0, .ref (a 0)), (1, .int x1), (2, .int x2), (3, .long x3)] := hl
  have hown : s.vm.findClass RX6 = some m.cls := hown
  have hw6 : ∀ w ∈ wsX60, w.before args s = true := fun w h => hts w (List.mem_cons_of_mem _ (List.mem_append_right _ h))
  have u1 : (Cond.fieldLink RX6 44 "YearWordsModel" "bits" "[I").before args s = true := hts _ (List.mem_of_getElem? (i := 1) (by decide +kernel))
  have u2 : (Cond.fieldLink RX6 47 "YearWordsModel" "longs" "[I").before args s = true := hts _ (List.mem_of_getElem? (i := 2) (by decide +kernel))
  have u3 : (Cond.fieldLink RX6 50 "YearWordsModel" "cells" "[J").before args s = true := hts _ (List.mem_of_getElem? (i := 3) (by decide +kernel))
  obtain ⟨Q, hQ⟩ : ∃ Q, Q = mqL below D 16 a args s (wM a cI cJ cS sv kep bef isk res.2.1 man nex wor sng hea lat tap tpd her flt vlu bit lon res.2.2 btw) res.1 := ⟨_, rfl⟩
  rw [← hQ]
  unfold fX6_write at hres
  refine lv_iload_n hx hb dX6_write_0 rfl (lv_at hl 1 rfl) ?_
  refine csI hx hb hml hown hts hEo hE hK hP hS (kX6_isSheet l D a cI cJ cS hd hEo sv kep bef isk fnd man nex wor sng hea lat tap tpd her flt vlu bit lon cel btw x1) gX6_write_X6_isSheet rfl hdX6_isSheet ⟨rfl, rfl⟩ ⟨Nat.le_of_ble_eq_true rfl, Nat.le_of_ble_eq_true rfl⟩ ⟨Nat.zero_le _, Nat.zero_le _⟩ rfl hl.1 rfl (Nat.le_of_ble_eq_true rfl) dX6_write_1 (fun H locs hP hS => ?_)
  refine lv_if_ne (tgt := 14) hx hb dX6_write_4 (by decide) (fun c4 => ?_) (fun c4 => ?_)
  · have hres := (itl hres).2 c4
    refine lv_aload_n hx hb dX6_write_14 rfl (lv_at hl 0 rfl) ?_
    refine gM_this6_bits hx hb hown hw6 hK hP u1 dX6_write_15 ?_
    refine lv_iload_n hx hb dX6_write_18 rfl (lv_at hl 1 rfl) ?_
    obtain ⟨i19, hres⟩ := gdi hres
    refine lM_bit hx hb hK hP i19 dX6_write_19 ?_
    refine lv_if_ne (tgt := 30) hx hb dX6_write_20 (by decide) (fun c20 => ?_) (fun c20 => ?_)
    · have hres := (itl hres).2 c20
      refine lv_iload_n hx hb dX6_write_30 rfl (lv_at hl 2 rfl) ?_
      refine lv_iconst (v := 0) hx hb dX6_write_31 (by decide) ?_
      refine lv_aload_n hx hb dX6_write_32 rfl (lv_at hl 0 rfl) ?_
      refine gM_this6_longs hx hb hown hw6 hK hP u2 dX6_write_33 ?_
      refine lv_iload_n hx hb dX6_write_36 rfl (lv_at hl 1 rfl) ?_
      obtain ⟨i37, hres⟩ := gdi hres
      refine lM_lon hx hb hK hP i37 dX6_write_37 ?_
      refine lv_iconst (v := 1) hx hb dX6_write_38 (by decide) ?_
      refine lv_isub hx hb dX6_write_39 ?_
      refine csI hx hb hml hown hts hEo hE hK hP hS (kX6_in l D a cI cJ cS hd hEo sv kep bef isk fnd man nex wor sng hea lat tap tpd her flt vlu bit lon cel btw x2 (0 : Int32) ((lon x1.toNatClampNeg) - (1 : Int32))) gX6_write_X6_in rfl hdX6_in ⟨rfl, rfl⟩ ⟨Nat.le_of_ble_eq_true rfl, Nat.le_of_ble_eq_true rfl⟩ ⟨Nat.zero_le _, Nat.zero_le _⟩ rfl hl.1 rfl (Nat.le_of_ble_eq_true rfl) dX6_write_40 (fun H locs hP hS => ?_)
      refine lv_if_ne (tgt := 53) hx hb dX6_write_43 (by decide) (fun c43 => ?_) (fun c43 => ?_)
      · have hres := (itl hres).2 c43
        refine lv_aload_n hx hb dX6_write_53 rfl (lv_at hl 0 rfl) ?_
        refine gM_this6_cells hx hb hown hw6 hK hP u3 dX6_write_54 ?_
        refine lv_bipush (v := 40) hx hb dX6_write_57 (by decide) ?_
        refine lv_iload_n hx hb dX6_write_59 rfl (lv_at hl 1 rfl) ?_
        refine lv_imul hx hb dX6_write_60 ?_
        refine lv_iload_n hx hb dX6_write_61 rfl (lv_at hl 2 rfl) ?_
        refine lv_iadd hx hb dX6_write_62 ?_
        obtain ⟨i63, hres⟩ := gdi hres
        refine lM_cel hx hb hK hP i63 dX6_write_63 ?_
        refine lv_lstore (lv' := [(5, .long (cel (((40 : Int32) * x1) + x2).toNatClampNeg)), (0, .ref (a 0)), (1, .int x1), (2, .int x2), (3, .long x3)]) hx hb dX6_write_64 hl (by decide) rfl (fun ls hl => ?_)
        refine lv_aload_n hx hb dX6_write_66 rfl (lv_at hl 1 rfl) ?_
        refine lv_iload_n hx hb dX6_write_67 rfl (lv_at hl 2 rfl) ?_
        refine lv_iload_n hx hb dX6_write_68 rfl (lv_at hl 3 rfl) ?_
        refine lv_lload_n hx hb dX6_write_69 rfl (lv_at hl 4 rfl) ?_
        obtain ⟨q70, e70, hres⟩ := obd hres
        refine cvV (q0 := 0) (ci := 6) hx hb hml hown hts hEo hE hK hP hS (kX6_writes l D a cI cJ cS hd hEo sv kep bef isk fnd man nex wor sng hea lat tap tpd her flt vlu bit lon cel btw x1 x2 x3 q70 e70) gX6_write_X6_writes rfl hdX6_writes rfl rfl rfl ⟨rfl, rfl⟩ ⟨Nat.le_of_ble_eq_true rfl, Nat.le_of_ble_eq_true rfl⟩ ⟨Nat.zero_le _, Nat.zero_le _⟩ rfl hl.1 rfl (Nat.le_of_ble_eq_true rfl) dX6_write_70 (fun H locs hP hS => ?_)
        refine lv_lload hx hb dX6_write_73 (lv_at hl 0 rfl) ?_
        exact hQ ▸ rtL (v := cel (((40 : Int32) * x1) + x2).toNatClampNeg)  hx hb hr hlk hP hS (by rw [← (Option.some.inj hres)]) (by rw [← (Option.some.inj hres)]) dX6_write_75
      · have hres := (itl hres).1 c43
        refine lv_aload_n hx hb dX6_write_46 rfl (lv_at hl 0 rfl) ?_
        refine lv_iconst (v := 0) hx hb dX6_write_47 (by decide) ?_
        obtain ⟨q48, e48, hres⟩ := obd hres
        refine cvI (q0 := 0) (ci := 6) hx hb hml hown hts hEo hE hK hP hS (kX6_no l D a cI cJ cS hd hEo sv kep bef isk fnd man nex wor sng hea lat tap tpd her flt vlu bit lon cel btw (0 : Int32) q48 e48) gX6_write_X6_no rfl hdX6_no rfl rfl rfl ⟨rfl, rfl⟩ ⟨Nat.le_of_ble_eq_true rfl, Nat.le_of_ble_eq_true rfl⟩ ⟨Nat.zero_le _, Nat.zero_le _⟩ rfl hl.1 rfl (Nat.le_of_ble_eq_true rfl) dX6_write_48 (fun H locs hP hS => ?_)
        refine lv_i2l hx hb dX6_write_51 rfl ?_
        exact hQ ▸ rtL (v := q48.1.toInt64)  hx hb hr hlk hP hS (by rw [← (Option.some.inj hres)]) (by rw [← (Option.some.inj hres)]) dX6_write_52
    · have hres := (itl hres).1 c20
      refine lv_aload_n hx hb dX6_write_23 rfl (lv_at hl 0 rfl) ?_
      refine lv_iconst (v := 5) hx hb dX6_write_24 (by decide) ?_
      obtain ⟨q25, e25, hres⟩ := obd hres
      refine cvI (q0 := 0) (ci := 6) hx hb hml hown hts hEo hE hK hP hS (kX6_no l D a cI cJ cS hd hEo sv kep bef isk fnd man nex wor sng hea lat tap tpd her flt vlu bit lon cel btw (5 : Int32) q25 e25) gX6_write_X6_no rfl hdX6_no rfl rfl rfl ⟨rfl, rfl⟩ ⟨Nat.le_of_ble_eq_true rfl, Nat.le_of_ble_eq_true rfl⟩ ⟨Nat.zero_le _, Nat.zero_le _⟩ rfl hl.1 rfl (Nat.le_of_ble_eq_true rfl) dX6_write_25 (fun H locs hP hS => ?_)
      refine lv_i2l hx hb dX6_write_28 rfl ?_
      exact hQ ▸ rtL (v := q25.1.toInt64)  hx hb hr hlk hP hS (by rw [← (Option.some.inj hres)]) (by rw [← (Option.some.inj hres)]) dX6_write_29
  · have hres := (itl hres).1 c4
    refine lv_aload_n hx hb dX6_write_7 rfl (lv_at hl 0 rfl) ?_
    refine lv_iconst (v := 0) hx hb dX6_write_8 (by decide) ?_
    obtain ⟨q9, e9, hres⟩ := obd hres
    refine cvI (q0 := 0) (ci := 6) hx hb hml hown hts hEo hE hK hP hS (kX6_no l D a cI cJ cS hd hEo sv kep bef isk fnd man nex wor sng hea lat tap tpd her flt vlu bit lon cel btw (0 : Int32) q9 e9) gX6_write_X6_no rfl hdX6_no rfl rfl rfl ⟨rfl, rfl⟩ ⟨Nat.le_of_ble_eq_true rfl, Nat.le_of_ble_eq_true rfl⟩ ⟨Nat.zero_le _, Nat.zero_le _⟩ rfl hl.1 rfl (Nat.le_of_ble_eq_true rfl) dX6_write_9 (fun H locs hP hS => ?_)
    refine lv_i2l hx hb dX6_write_12 rfl ?_
    exact hQ ▸ rtL (v := q9.1.toInt64)  hx hb hr hlk hP hS (by rw [← (Option.some.inj hres)]) (by rw [← (Option.some.inj hres)]) dX6_write_13
def fX6_copy_b14 (fnd : Nat → Int32) (cel : Nat → Int64) (btw : Nat → Int64) : Option (Int32 × (Nat → Int32) × (Nat → Int64) × (Nat → Int64)) :=
 (fX6_no fnd (0 : Int32)).bind fun q16 => some (q16.1, q16.2, cel, btw)
def fX6_copy_b38 (fnd : Nat → Int32) (cel : Nat → Int64) (btw : Nat → Int64) : Option (Int32 × (Nat → Int32) × (Nat → Int64) × (Nat → Int64)) :=
 (fX6_no fnd (5 : Int32)).bind fun q40 => some (q40.1, q40.2, cel, btw)
def fX6_copy_b106 (fnd : Nat → Int32) (cel : Nat → Int64) (btw : Nat → Int64) : Option (Int32 × (Nat → Int32) × (Nat → Int64) × (Nat → Int64)) :=
 (fX6_no fnd (0 : Int32)).bind fun q108 => some (q108.1, q108.2, cel, btw)
def fX6_copy_l152 (fnd : Nat → Int32) (btw : Nat → Int64) (x3 : Int32) (x4 : Int32) (x5 : Int32) (K152 : Int32 → (Nat → Int64) → Option (Int32 × (Nat → Int32) × (Nat → Int64) × (Nat → Int64))) (x6 : Int32) (cel : Nat → Int64) : Option (Int32 × (Nat → Int32) × (Nat → Int64) × (Nat → Int64)) :=
  if x5 ≤ x6 then some (x5, fnd, cel, btw) else gd (ib x6 40) (gd (ib ((((40 : Int32) * x3) + x4) + x6) 160) (K152 (x6 + 1) (vp_updL cel ((((40 : Int32) * x3) + x4) + x6).toNatClampNeg (btw x6.toNatClampNeg))))
def fX6_copy_b149 (fnd : Nat → Int32) (cel : Nat → Int64) (btw : Nat → Int64) (x3 : Int32) (x4 : Int32) (x5 : Int32) : Option (Int32 × (Nat → Int32) × (Nat → Int64) × (Nat → Int64)) :=
  fix2 (fX6_copy_l152 fnd btw x3 x4 x5) 2000 (0 : Int32) cel
def fX6_copy_l115 (fnd : Nat → Int32) (cel : Nat → Int64) (x1 : Int32) (x2 : Int32) (x3 : Int32) (x4 : Int32) (x5 : Int32) (K115 : Int32 → (Nat → Int64) → Option (Int32 × (Nat → Int32) × (Nat → Int64) × (Nat → Int64))) (x6 : Int32) (btw : Nat → Int64) : Option (Int32 × (Nat → Int32) × (Nat → Int64) × (Nat → Int64)) :=
  if x5 ≤ x6 then fX6_copy_b149 fnd cel btw x3 x4 x5 else gd (ib ((((40 : Int32) * x1) + x2) + x6) 160) (gd (ib x6 40) (K115 (x6 + 1) (vp_updL btw x6.toNatClampNeg (cel ((((40 : Int32) * x1) + x2) + x6).toNatClampNeg))))
def fX6_copy (fnd : Nat → Int32) (bit : Nat → Int32) (lon : Nat → Int32) (cel : Nat → Int64) (btw : Nat → Int64) (x1 : Int32) (x2 : Int32) (x3 : Int32) (x4 : Int32) (x5 : Int32) : Option (Int32 × (Nat → Int32) × (Nat → Int64) × (Nat → Int64)) :=
  if (bI (fX6_isSheet x1)) = 0 then fX6_copy_b14 fnd cel btw else if (bI (fX6_isSheet x3)) = 0 then fX6_copy_b14 fnd cel btw else gd (ib x1 4) (if (bit x1.toNatClampNeg) = 0 then fX6_copy_b38 fnd cel btw else gd (ib x3 4) (if (bit x3.toNatClampNeg) = 0 then fX6_copy_b38 fnd cel btw else gd (ib x1 4) (gd (ib x3 4) (if (bit x1.toNatClampNeg) = (bit x3.toNatClampNeg) then if x5 < 0 then fX6_copy_b106 fnd cel btw else if x2 < 0 then fX6_copy_b106 fnd cel btw else if x4 < 0 then fX6_copy_b106 fnd cel btw else gd (ib x1 4) (if ((lon x1.toNatClampNeg) - x5) < x2 then fX6_copy_b106 fnd cel btw else gd (ib x3 4) (if x4 ≤ ((lon x3.toNatClampNeg) - x5) then fix2 (fX6_copy_l115 fnd cel x1 x2 x3 x4 x5) 2000 (0 : Int32) btw else fX6_copy_b106 fnd cel btw)) else (fX6_no fnd (2 : Int32)).bind fun q61 => some (q61.1, q61.2, cel, btw)))))
abbrev rX6_copy : Room := { frames := 2, cells := 0, slots := 0, locals := 42 }
set_option maxHeartbeats 4000000 in
set_option maxRecDepth 100000 in
theorem kX6_copy (l : Launch) (D : va_G) (a : Nat → Nat) (cI cJ cS : ClassId) (hd : aok a 16) {Env : (Nat → Prop) → State → Heap → Prop} (hEo : envOK Env) (sv kep bef : Nat → Int32) (isk : Int32) (fnd : Nat → Int32) (man nex : Nat → Int64) (wor sng hea lat tap : Nat → Int32) (tpd her flt vlu : Int32) (bit lon : Nat → Int32) (cel btw : Nat → Int64) (x1 : Int32) (x2 : Int32) (x3 : Int32) (x4 : Int32) (x5 : Int32) (res : Int32 × (Nat → Int32) × (Nat → Int64) × (Nat → Int64)) (hres : fX6_copy fnd bit lon cel btw x1 x2 x3 x4 x5 = some res) : CtI l D (tyL cI cJ cS) 16 a Env yX6_copy wsX6_copy rX6_copy [.ref (a 0), .int x1, .int x2, .int x3, .int x4, .int x5] (wM a cI cJ cS sv kep bef isk fnd man nex wor sng hea lat tap tpd her flt vlu bit lon cel btw) (wM a cI cJ cS sv kep bef isk res.2.1 man nex wor sng hea lat tap tpd her flt vlu bit lon res.2.2.1 res.2.2.2) res.1 := by
  refine CtI_mk (cc := cX6_copy) (maxL := 7) (ret := (some .int)) (by decide) rfl (Nat.le_of_ble_eq_true rfl) ?_
  intro p e s m args below meth c ls hx hb hr hlk hml hown hts hP hK hE hl
  have hS : va_S (adA a 16 s.heap.size) s.heap s.heap [] := va_S.rf
  have hl : lv_has ls 7 [(0, .ref (a 0)), (1, .int x1), (2, .int x2), (3, .int x3), (4, .int x4), (5, .int x5)] := hl
  have hown : s.vm.findClass RX6 = some m.cls := hown
  have hw6 : ∀ w ∈ wsX60, w.before args s = true := fun w h => hts w (List.mem_cons_of_mem _ (List.mem_append_right _ h))
  have u1 : (Cond.fieldLink RX6 44 "YearWordsModel" "bits" "[I").before args s = true := hts _ (List.mem_of_getElem? (i := 1) (by decide +kernel))
  have u2 : (Cond.fieldLink RX6 47 "YearWordsModel" "longs" "[I").before args s = true := hts _ (List.mem_of_getElem? (i := 2) (by decide +kernel))
  have u3 : (Cond.fieldLink RX6 53 "YearWordsModel" "between" "[J").before args s = true := hts _ (List.mem_of_getElem? (i := 3) (by decide +kernel))
  have u4 : (Cond.fieldLink RX6 50 "YearWordsModel" "cells" "[J").before args s = true := hts _ (List.mem_of_getElem? (i := 4) (by decide +kernel))
  obtain ⟨Q, hQ⟩ : ∃ Q, Q = mqI below D 16 a args s (wM a cI cJ cS sv kep bef isk res.2.1 man nex wor sng hea lat tap tpd her flt vlu bit lon res.2.2.1 res.2.2.2) res.1 := ⟨_, rfl⟩
  rw [← hQ]
  have b14 : ∀ (fnd : Nat → Int32) (cel : Nat → Int64) (btw : Nat → Int64), fX6_copy_b14 fnd cel btw = some res → ∀ (H : Heap) (locs : List Loc) (ls : Array Slot), va_P D vwCl (wM a cI cJ cS sv kep bef isk fnd man nex wor sng hea lat tap tpd her flt vlu bit lon cel btw) H → va_S (adA a 16 s.heap.size) s.heap H locs → lv_has ls 7 [(0, .ref (a 0))] → W p l e rX6_copy s m args below meth c H locs 0 0 Q (F0 m 14 ls []) := by
    intro fnd cel btw hres H locs ls hP hS hl
    unfold fX6_copy_b14 at hres
    refine lv_aload_n hx hb dX6_copy_14 rfl (lv_at hl 0 rfl) ?_
    refine lv_iconst (v := 0) hx hb dX6_copy_15 (by decide) ?_
    obtain ⟨q16, e16, hres⟩ := obd hres
    refine cvI (q0 := 0) (ci := 6) hx hb hml hown hts hEo hE hK hP hS (kX6_no l D a cI cJ cS hd hEo sv kep bef isk fnd man nex wor sng hea lat tap tpd her flt vlu bit lon cel btw (0 : Int32) q16 e16) gX6_copy_X6_no rfl hdX6_no rfl rfl rfl ⟨rfl, rfl⟩ ⟨Nat.le_of_ble_eq_true rfl, Nat.le_of_ble_eq_true rfl⟩ ⟨Nat.zero_le _, Nat.zero_le _⟩ rfl hl.1 rfl (Nat.le_of_ble_eq_true rfl) dX6_copy_16 (fun H locs hP hS => ?_)
    exact hQ ▸ rtI (v := q16.1)  hx hb hr hlk hP hS (by rw [← (Option.some.inj hres)]) (by rw [← (Option.some.inj hres)]) dX6_copy_19
  have b38 : ∀ (fnd : Nat → Int32) (cel : Nat → Int64) (btw : Nat → Int64), fX6_copy_b38 fnd cel btw = some res → ∀ (H : Heap) (locs : List Loc) (ls : Array Slot), va_P D vwCl (wM a cI cJ cS sv kep bef isk fnd man nex wor sng hea lat tap tpd her flt vlu bit lon cel btw) H → va_S (adA a 16 s.heap.size) s.heap H locs → lv_has ls 7 [(0, .ref (a 0))] → W p l e rX6_copy s m args below meth c H locs 0 0 Q (F0 m 38 ls []) := by
    intro fnd cel btw hres H locs ls hP hS hl
    unfold fX6_copy_b38 at hres
    refine lv_aload_n hx hb dX6_copy_38 rfl (lv_at hl 0 rfl) ?_
    refine lv_iconst (v := 5) hx hb dX6_copy_39 (by decide) ?_
    obtain ⟨q40, e40, hres⟩ := obd hres
    refine cvI (q0 := 0) (ci := 6) hx hb hml hown hts hEo hE hK hP hS (kX6_no l D a cI cJ cS hd hEo sv kep bef isk fnd man nex wor sng hea lat tap tpd her flt vlu bit lon cel btw (5 : Int32) q40 e40) gX6_copy_X6_no rfl hdX6_no rfl rfl rfl ⟨rfl, rfl⟩ ⟨Nat.le_of_ble_eq_true rfl, Nat.le_of_ble_eq_true rfl⟩ ⟨Nat.zero_le _, Nat.zero_le _⟩ rfl hl.1 rfl (Nat.le_of_ble_eq_true rfl) dX6_copy_40 (fun H locs hP hS => ?_)
    exact hQ ▸ rtI (v := q40.1)  hx hb hr hlk hP hS (by rw [← (Option.some.inj hres)]) (by rw [← (Option.some.inj hres)]) dX6_copy_43
  have b106 : ∀ (fnd : Nat → Int32) (cel : Nat → Int64) (btw : Nat → Int64), fX6_copy_b106 fnd cel btw = some res → ∀ (H : Heap) (locs : List Loc) (ls : Array Slot), va_P D vwCl (wM a cI cJ cS sv kep bef isk fnd man nex wor sng hea lat tap tpd her flt vlu bit lon cel btw) H → va_S (adA a 16 s.heap.size) s.heap H locs → lv_has ls 7 [(0, .ref (a 0))] → W p l e rX6_copy s m args below meth c H locs 0 0 Q (F0 m 106 ls []) := by
    intro fnd cel btw hres H locs ls hP hS hl
    unfold fX6_copy_b106 at hres
    refine lv_aload_n hx hb dX6_copy_106 rfl (lv_at hl 0 rfl) ?_
    refine lv_iconst (v := 0) hx hb dX6_copy_107 (by decide) ?_
    obtain ⟨q108, e108, hres⟩ := obd hres
    refine cvI (q0 := 0) (ci := 6) hx hb hml hown hts hEo hE hK hP hS (kX6_no l D a cI cJ cS hd hEo sv kep bef isk fnd man nex wor sng hea lat tap tpd her flt vlu bit lon cel btw (0 : Int32) q108 e108) gX6_copy_X6_no rfl hdX6_no rfl rfl rfl ⟨rfl, rfl⟩ ⟨Nat.le_of_ble_eq_true rfl, Nat.le_of_ble_eq_true rfl⟩ ⟨Nat.zero_le _, Nat.zero_le _⟩ rfl hl.1 rfl (Nat.le_of_ble_eq_true rfl) dX6_copy_108 (fun H locs hP hS => ?_)
    exact hQ ▸ rtI (v := q108.1)  hx hb hr hlk hP hS (by rw [← (Option.some.inj hres)]) (by rw [← (Option.some.inj hres)]) dX6_copy_111
  have b152 : ∀ (fnd : Nat → Int32) (btw : Nat → Int64) (n : Nat) (x6 : Int32) (cel : Nat → Int64), fix2 (fX6_copy_l152 fnd btw x3 x4 x5) n x6 cel = some res → ∀ (H : Heap) (locs : List Loc) (ls : Array Slot), va_P D vwCl (wM a cI cJ cS sv kep bef isk fnd man nex wor sng hea lat tap tpd her flt vlu bit lon cel btw) H → va_S (adA a 16 s.heap.size) s.heap H locs → lv_has ls 7 [(0, .ref (a 0)), (3, .int x3), (4, .int x4), (5, .int x5), (6, .int x6)] → W p l e rX6_copy s m args below meth c H locs 0 0 Q (F0 m 152 ls []) := by
    intro fnd btw
    refine fix2_r ?_
    intro K152 hK152 x6 cel hres H locs ls hP hS hl
    unfold fX6_copy_l152 at hres
    refine lv_iload hx hb dX6_copy_152 (lv_at hl 4 rfl) ?_
    refine lv_iload hx hb dX6_copy_154 (lv_at hl 3 rfl) ?_
    refine lv_icmp_ge (tgt := 187) hx hb dX6_copy_156 (by decide) (fun c156 => ?_) (fun c156 => ?_)
    · have hres := (itl hres).1 c156
      refine lv_iload hx hb dX6_copy_187 (lv_at hl 3 rfl) ?_
      exact hQ ▸ rtI (v := x5)  hx hb hr hlk hP hS (by rw [← (Option.some.inj hres)]) (by rw [← (Option.some.inj hres)]) dX6_copy_189
    · have hres := (itl hres).2 c156
      refine lv_aload_n hx hb dX6_copy_159 rfl (lv_at hl 0 rfl) ?_
      refine gM_this6_cells hx hb hown hw6 hK hP u4 dX6_copy_160 ?_
      refine lv_bipush (v := 40) hx hb dX6_copy_163 (by decide) ?_
      refine lv_iload_n hx hb dX6_copy_165 rfl (lv_at hl 1 rfl) ?_
      refine lv_imul hx hb dX6_copy_166 ?_
      refine lv_iload hx hb dX6_copy_167 (lv_at hl 2 rfl) ?_
      refine lv_iadd hx hb dX6_copy_169 ?_
      refine lv_iload hx hb dX6_copy_170 (lv_at hl 4 rfl) ?_
      refine lv_iadd hx hb dX6_copy_172 ?_
      refine lv_aload_n hx hb dX6_copy_173 rfl (lv_at hl 0 rfl) ?_
      refine gM_this6_between hx hb hown hw6 hK hP u3 dX6_copy_174 ?_
      refine lv_iload hx hb dX6_copy_177 (lv_at hl 4 rfl) ?_
      obtain ⟨i179, hres⟩ := gdi hres
      refine lM_btw hx hb hK hP i179 dX6_copy_179 ?_
      obtain ⟨i180, hres⟩ := gdi hres
      refine sM_cel hx hb hK hP hd hS i180 dX6_copy_180 (fun H locs hP hS => ?_)
      refine lv_iinc (v := x6 + 1) (lv' := [(6, .int (x6 + 1)), (0, .ref (a 0)), (3, .int x3), (4, .int x4), (5, .int x5)]) hx hb dX6_copy_181 hl (k := 4) rfl (congrArg (fun z => x6 + z) (by decide)) (by decide) rfl (fun ls hl => ?_)
      refine lv_goto (tgt := 152) hx hb dX6_copy_184 (by decide) ?_
      exact hK152 (x6 + 1) (vp_updL cel ((((40 : Int32) * x3) + x4) + x6).toNatClampNeg (btw x6.toNatClampNeg)) hres _ _ _ hP hS (lv_sub hl [1, 2, 3, 4, 0] rfl)
  have b149 : ∀ (fnd : Nat → Int32) (cel : Nat → Int64) (btw : Nat → Int64), fX6_copy_b149 fnd cel btw x3 x4 x5 = some res → ∀ (H : Heap) (locs : List Loc) (ls : Array Slot), va_P D vwCl (wM a cI cJ cS sv kep bef isk fnd man nex wor sng hea lat tap tpd her flt vlu bit lon cel btw) H → va_S (adA a 16 s.heap.size) s.heap H locs → lv_has ls 7 [(0, .ref (a 0)), (3, .int x3), (4, .int x4), (5, .int x5)] → W p l e rX6_copy s m args below meth c H locs 0 0 Q (F0 m 149 ls []) := by
    intro fnd cel btw hres H locs ls hP hS hl
    unfold fX6_copy_b149 at hres
    refine lv_iconst (v := 0) hx hb dX6_copy_149 (by decide) ?_
    refine lv_istore (lv' := [(6, .int (0 : Int32)), (0, .ref (a 0)), (3, .int x3), (4, .int x4), (5, .int x5)]) hx hb dX6_copy_150 hl (by decide) rfl (fun ls hl => ?_)
    exact b152 fnd btw 2000 (0 : Int32) cel hres _ _ _ hP hS (lv_sub hl [1, 2, 3, 4, 0] rfl)
  have b115 : ∀ (fnd : Nat → Int32) (cel : Nat → Int64) (n : Nat) (x6 : Int32) (btw : Nat → Int64), fix2 (fX6_copy_l115 fnd cel x1 x2 x3 x4 x5) n x6 btw = some res → ∀ (H : Heap) (locs : List Loc) (ls : Array Slot), va_P D vwCl (wM a cI cJ cS sv kep bef isk fnd man nex wor sng hea lat tap tpd her flt vlu bit lon cel btw) H → va_S (adA a 16 s.heap.size) s.heap H locs → lv_has ls 7 [(0, .ref (a 0)), (1, .int x1), (2, .int x2), (3, .int x3), (4, .int x4), (5, .int x5), (6, .int x6)] → W p l e rX6_copy s m args below meth c H locs 0 0 Q (F0 m 115 ls []) := by
    intro fnd cel
    refine fix2_r ?_
    intro K115 hK115 x6 btw hres H locs ls hP hS hl
    unfold fX6_copy_l115 at hres
    refine lv_iload hx hb dX6_copy_115 (lv_at hl 6 rfl) ?_
    refine lv_iload hx hb dX6_copy_117 (lv_at hl 5 rfl) ?_
    refine lv_icmp_ge (tgt := 149) hx hb dX6_copy_119 (by decide) (fun c119 => ?_) (fun c119 => ?_)
    · have hres := (itl hres).1 c119
      exact b149 fnd cel btw hres _ _ _ hP hS (lv_sub hl [0, 3, 4, 5] rfl)
    · have hres := (itl hres).2 c119
      refine lv_aload_n hx hb dX6_copy_122 rfl (lv_at hl 0 rfl) ?_
      refine gM_this6_between hx hb hown hw6 hK hP u3 dX6_copy_123 ?_
      refine lv_iload hx hb dX6_copy_126 (lv_at hl 6 rfl) ?_
      refine lv_aload_n hx hb dX6_copy_128 rfl (lv_at hl 0 rfl) ?_
      refine gM_this6_cells hx hb hown hw6 hK hP u4 dX6_copy_129 ?_
      refine lv_bipush (v := 40) hx hb dX6_copy_132 (by decide) ?_
      refine lv_iload_n hx hb dX6_copy_134 rfl (lv_at hl 1 rfl) ?_
      refine lv_imul hx hb dX6_copy_135 ?_
      refine lv_iload_n hx hb dX6_copy_136 rfl (lv_at hl 2 rfl) ?_
      refine lv_iadd hx hb dX6_copy_137 ?_
      refine lv_iload hx hb dX6_copy_138 (lv_at hl 6 rfl) ?_
      refine lv_iadd hx hb dX6_copy_140 ?_
      obtain ⟨i141, hres⟩ := gdi hres
      refine lM_cel hx hb hK hP i141 dX6_copy_141 ?_
      obtain ⟨i142, hres⟩ := gdi hres
      refine sM_btw hx hb hK hP hd hS i142 dX6_copy_142 (fun H locs hP hS => ?_)
      refine lv_iinc (v := x6 + 1) (lv' := [(6, .int (x6 + 1)), (0, .ref (a 0)), (1, .int x1), (2, .int x2), (3, .int x3), (4, .int x4), (5, .int x5)]) hx hb dX6_copy_143 hl (k := 6) rfl (congrArg (fun z => x6 + z) (by decide)) (by decide) rfl (fun ls hl => ?_)
      refine lv_goto (tgt := 115) hx hb dX6_copy_146 (by decide) ?_
      exact hK115 (x6 + 1) (vp_updL btw x6.toNatClampNeg (cel ((((40 : Int32) * x1) + x2) + x6).toNatClampNeg)) hres _ _ _ hP hS (lv_sub hl [1, 2, 3, 4, 5, 6, 0] rfl)
  unfold fX6_copy at hres
  refine lv_iload_n hx hb dX6_copy_0 rfl (lv_at hl 1 rfl) ?_
  refine csI hx hb hml hown hts hEo hE hK hP hS (kX6_isSheet l D a cI cJ cS hd hEo sv kep bef isk fnd man nex wor sng hea lat tap tpd her flt vlu bit lon cel btw x1) gX6_copy_X6_isSheet rfl hdX6_isSheet ⟨rfl, rfl⟩ ⟨Nat.le_of_ble_eq_true rfl, Nat.le_of_ble_eq_true rfl⟩ ⟨Nat.zero_le _, Nat.zero_le _⟩ rfl hl.1 rfl (Nat.le_of_ble_eq_true rfl) dX6_copy_1 (fun H locs hP hS => ?_)
  refine lv_if_eq (tgt := 14) hx hb dX6_copy_4 (by decide) (fun c4 => ?_) (fun c4 => ?_)
  · have hres := (itl hres).1 c4
    exact b14 fnd cel btw hres _ _ _ hP hS (lv_sub hl [0] rfl)
  · have hres := (itl hres).2 c4
    refine lv_iload_n hx hb dX6_copy_7 rfl (lv_at hl 3 rfl) ?_
    refine csI hx hb hml hown hts hEo hE hK hP hS (kX6_isSheet l D a cI cJ cS hd hEo sv kep bef isk fnd man nex wor sng hea lat tap tpd her flt vlu bit lon cel btw x3) gX6_copy_X6_isSheet rfl hdX6_isSheet ⟨rfl, rfl⟩ ⟨Nat.le_of_ble_eq_true rfl, Nat.le_of_ble_eq_true rfl⟩ ⟨Nat.zero_le _, Nat.zero_le _⟩ rfl hl.1 rfl (Nat.le_of_ble_eq_true rfl) dX6_copy_8 (fun H locs hP hS => ?_)
    refine lv_if_ne (tgt := 20) hx hb dX6_copy_11 (by decide) (fun c11 => ?_) (fun c11 => ?_)
    · have hres := (itl hres).2 c11
      refine lv_aload_n hx hb dX6_copy_20 rfl (lv_at hl 0 rfl) ?_
      refine gM_this6_bits hx hb hown hw6 hK hP u1 dX6_copy_21 ?_
      refine lv_iload_n hx hb dX6_copy_24 rfl (lv_at hl 1 rfl) ?_
      obtain ⟨i25, hres⟩ := gdi hres
      refine lM_bit hx hb hK hP i25 dX6_copy_25 ?_
      refine lv_if_eq (tgt := 38) hx hb dX6_copy_26 (by decide) (fun c26 => ?_) (fun c26 => ?_)
      · have hres := (itl hres).1 c26
        exact b38 fnd cel btw hres _ _ _ hP hS (lv_sub hl [0] rfl)
      · have hres := (itl hres).2 c26
        refine lv_aload_n hx hb dX6_copy_29 rfl (lv_at hl 0 rfl) ?_
        refine gM_this6_bits hx hb hown hw6 hK hP u1 dX6_copy_30 ?_
        refine lv_iload_n hx hb dX6_copy_33 rfl (lv_at hl 3 rfl) ?_
        obtain ⟨i34, hres⟩ := gdi hres
        refine lM_bit hx hb hK hP i34 dX6_copy_34 ?_
        refine lv_if_ne (tgt := 44) hx hb dX6_copy_35 (by decide) (fun c35 => ?_) (fun c35 => ?_)
        · have hres := (itl hres).2 c35
          refine lv_aload_n hx hb dX6_copy_44 rfl (lv_at hl 0 rfl) ?_
          refine gM_this6_bits hx hb hown hw6 hK hP u1 dX6_copy_45 ?_
          refine lv_iload_n hx hb dX6_copy_48 rfl (lv_at hl 1 rfl) ?_
          obtain ⟨i49, hres⟩ := gdi hres
          refine lM_bit hx hb hK hP i49 dX6_copy_49 ?_
          refine lv_aload_n hx hb dX6_copy_50 rfl (lv_at hl 0 rfl) ?_
          refine gM_this6_bits hx hb hown hw6 hK hP u1 dX6_copy_51 ?_
          refine lv_iload_n hx hb dX6_copy_54 rfl (lv_at hl 3 rfl) ?_
          obtain ⟨i55, hres⟩ := gdi hres
          refine lM_bit hx hb hK hP i55 dX6_copy_55 ?_
          refine lv_icmp_eq (tgt := 65) hx hb dX6_copy_56 (by decide) (fun c56 => ?_) (fun c56 => ?_)
          · have hres := (itl hres).1 c56
            refine lv_iload hx hb dX6_copy_65 (lv_at hl 5 rfl) ?_
            refine lv_if_lt (tgt := 106) hx hb dX6_copy_67 (by decide) (fun c67 => ?_) (fun c67 => ?_)
            · have hres := (itl hres).1 c67
              exact b106 fnd cel btw hres _ _ _ hP hS (lv_sub hl [0] rfl)
            · have hres := (itl hres).2 c67
              refine lv_iload_n hx hb dX6_copy_70 rfl (lv_at hl 2 rfl) ?_
              refine lv_if_lt (tgt := 106) hx hb dX6_copy_71 (by decide) (fun c71 => ?_) (fun c71 => ?_)
              · have hres := (itl hres).1 c71
                exact b106 fnd cel btw hres _ _ _ hP hS (lv_sub hl [0] rfl)
              · have hres := (itl hres).2 c71
                refine lv_iload hx hb dX6_copy_74 (lv_at hl 4 rfl) ?_
                refine lv_if_lt (tgt := 106) hx hb dX6_copy_76 (by decide) (fun c76 => ?_) (fun c76 => ?_)
                · have hres := (itl hres).1 c76
                  exact b106 fnd cel btw hres _ _ _ hP hS (lv_sub hl [0] rfl)
                · have hres := (itl hres).2 c76
                  refine lv_iload_n hx hb dX6_copy_79 rfl (lv_at hl 2 rfl) ?_
                  refine lv_aload_n hx hb dX6_copy_80 rfl (lv_at hl 0 rfl) ?_
                  refine gM_this6_longs hx hb hown hw6 hK hP u2 dX6_copy_81 ?_
                  refine lv_iload_n hx hb dX6_copy_84 rfl (lv_at hl 1 rfl) ?_
                  obtain ⟨i85, hres⟩ := gdi hres
                  refine lM_lon hx hb hK hP i85 dX6_copy_85 ?_
                  refine lv_iload hx hb dX6_copy_86 (lv_at hl 5 rfl) ?_
                  refine lv_isub hx hb dX6_copy_88 ?_
                  refine lv_icmp_gt (tgt := 106) hx hb dX6_copy_89 (by decide) (fun c89 => ?_) (fun c89 => ?_)
                  · have hres := (itl hres).1 c89
                    exact b106 fnd cel btw hres _ _ _ hP hS (lv_sub hl [0] rfl)
                  · have hres := (itl hres).2 c89
                    refine lv_iload hx hb dX6_copy_92 (lv_at hl 4 rfl) ?_
                    refine lv_aload_n hx hb dX6_copy_94 rfl (lv_at hl 0 rfl) ?_
                    refine gM_this6_longs hx hb hown hw6 hK hP u2 dX6_copy_95 ?_
                    refine lv_iload_n hx hb dX6_copy_98 rfl (lv_at hl 3 rfl) ?_
                    obtain ⟨i99, hres⟩ := gdi hres
                    refine lM_lon hx hb hK hP i99 dX6_copy_99 ?_
                    refine lv_iload hx hb dX6_copy_100 (lv_at hl 5 rfl) ?_
                    refine lv_isub hx hb dX6_copy_102 ?_
                    refine lv_icmp_le (tgt := 112) hx hb dX6_copy_103 (by decide) (fun c103 => ?_) (fun c103 => ?_)
                    · have hres := (itl hres).1 c103
                      refine lv_iconst (v := 0) hx hb dX6_copy_112 (by decide) ?_
                      refine lv_istore (lv' := [(6, .int (0 : Int32)), (0, .ref (a 0)), (1, .int x1), (2, .int x2), (3, .int x3), (4, .int x4), (5, .int x5)]) hx hb dX6_copy_113 hl (by decide) rfl (fun ls hl => ?_)
                      exact b115 fnd cel 2000 (0 : Int32) btw hres _ _ _ hP hS (lv_sub hl [1, 2, 3, 4, 5, 6, 0] rfl)
                    · have hres := (itl hres).2 c103
                      exact b106 fnd cel btw hres _ _ _ hP hS (lv_sub hl [0] rfl)
          · have hres := (itl hres).2 c56
            refine lv_aload_n hx hb dX6_copy_59 rfl (lv_at hl 0 rfl) ?_
            refine lv_iconst (v := 2) hx hb dX6_copy_60 (by decide) ?_
            obtain ⟨q61, e61, hres⟩ := obd hres
            refine cvI (q0 := 0) (ci := 6) hx hb hml hown hts hEo hE hK hP hS (kX6_no l D a cI cJ cS hd hEo sv kep bef isk fnd man nex wor sng hea lat tap tpd her flt vlu bit lon cel btw (2 : Int32) q61 e61) gX6_copy_X6_no rfl hdX6_no rfl rfl rfl ⟨rfl, rfl⟩ ⟨Nat.le_of_ble_eq_true rfl, Nat.le_of_ble_eq_true rfl⟩ ⟨Nat.zero_le _, Nat.zero_le _⟩ rfl hl.1 rfl (Nat.le_of_ble_eq_true rfl) dX6_copy_61 (fun H locs hP hS => ?_)
            exact hQ ▸ rtI (v := q61.1)  hx hb hr hlk hP hS (by rw [← (Option.some.inj hres)]) (by rw [← (Option.some.inj hres)]) dX6_copy_64
        · have hres := (itl hres).1 c35
          exact b38 fnd cel btw hres _ _ _ hP hS (lv_sub hl [0] rfl)
    · have hres := (itl hres).1 c11
      exact b14 fnd cel btw hres _ _ _ hP hS (lv_sub hl [0] rfl)
def fX6_lays_b95 (K32 : Int32 → Int32 → (Nat → Int32) → Option (Int32 × (Nat → Int32) × (Nat → Int32))) (sv : Nat → Int32) (x2 : Int32) (x3 : Int32) : Option (Int32 × (Nat → Int32) × (Nat → Int32)) :=
  K32 x2 (x3 + 1) sv
def fX6_lays_l32 (fnd : Nat → Int32) (lon : Nat → Int32) (cel : Nat → Int64) (x1 : Int32) (K32 : Int32 → Int32 → (Nat → Int32) → Option (Int32 × (Nat → Int32) × (Nat → Int32))) (x2 : Int32) (x3 : Int32) (sv : Nat → Int32) : Option (Int32 × (Nat → Int32) × (Nat → Int32)) :=
  gd (ib x1 4) (if (lon x1.toNatClampNeg) ≤ x3 then some (x2, sv, fnd) else (fX6_isHearer sv x3).bind fun q44 => if (bI q44) = 0 then some (x2, sv, fnd) else gd (ib (((40 : Int32) * x1) + x3) 160) (if (lg_cmp (cel (((40 : Int32) * x1) + x3).toNatClampNeg) (0 : Int64)) < 0 then fX6_lays_b95 K32 sv x2 x3 else if 0 < (lg_cmp (cel (((40 : Int32) * x1) + x3).toNatClampNeg) ((99) : Int64)) then fX6_lays_b95 K32 sv x2 x3 else gd (ib ((156 : Int32) + x3) 166) (fX6_lays_b95 K32 (upd sv ((156 : Int32) + x3).toNatClampNeg ((cel (((40 : Int32) * x1) + x3).toNatClampNeg).toInt32)) (x2 + 1) x3)))
def fX6_lays (sv : Nat → Int32) (fnd : Nat → Int32) (bit : Nat → Int32) (lon : Nat → Int32) (cel : Nat → Int64) (x1 : Int32) : Option (Int32 × (Nat → Int32) × (Nat → Int32)) :=
  if (bI (fX6_isSheet x1)) = 0 then (fX6_no fnd (0 : Int32)).bind fun q9 => some (q9.1, sv, q9.2) else gd (ib x1 4) (if (bit x1.toNatClampNeg) = 0 then (fX6_no fnd (5 : Int32)).bind fun q24 => some (q24.1, sv, q24.2) else fix3 (fX6_lays_l32 fnd lon cel x1) 2000 (0 : Int32) (0 : Int32) sv)
abbrev rX6_lays : Room := { frames := 2, cells := 0, slots := 0, locals := 43 }
set_option maxHeartbeats 4000000 in
set_option maxRecDepth 100000 in
theorem kX6_lays (l : Launch) (D : va_G) (a : Nat → Nat) (cI cJ cS : ClassId) (hd : aok a 16) {Env : (Nat → Prop) → State → Heap → Prop} (hEo : envOK Env) (sv kep bef : Nat → Int32) (isk : Int32) (fnd : Nat → Int32) (man nex : Nat → Int64) (wor sng hea lat tap : Nat → Int32) (tpd her flt vlu : Int32) (bit lon : Nat → Int32) (cel btw : Nat → Int64) (x1 : Int32) (res : Int32 × (Nat → Int32) × (Nat → Int32)) (hres : fX6_lays sv fnd bit lon cel x1 = some res) : CtI l D (tyL cI cJ cS) 16 a Env yX6_lays wsX6_lays rX6_lays [.ref (a 0), .int x1] (wM a cI cJ cS sv kep bef isk fnd man nex wor sng hea lat tap tpd her flt vlu bit lon cel btw) (wM a cI cJ cS res.2.1 kep bef isk res.2.2 man nex wor sng hea lat tap tpd her flt vlu bit lon cel btw) res.1 := by
  refine CtI_mk (cc := cX6_lays) (maxL := 6) (ret := (some .int)) (by decide) rfl (Nat.le_of_ble_eq_true rfl) ?_
  intro p e s m args below meth c ls hx hb hr hlk hml hown hts hP hK hE hl
  have hS : va_S (adA a 16 s.heap.size) s.heap s.heap [] := va_S.rf
  have hl : lv_has ls 6 [(0, .ref (a 0)), (1, .int x1)] := hl
  have hown : s.vm.findClass RX6 = some m.cls := hown
  have hw6 : ∀ w ∈ wsX60, w.before args s = true := fun w h => hts w (List.mem_cons_of_mem _ (List.mem_append_right _ h))
  have u1 : (Cond.fieldLink RX6 44 "YearWordsModel" "bits" "[I").before args s = true := hts _ (List.mem_of_getElem? (i := 1) (by decide +kernel))
  have u2 : (Cond.fieldLink RX6 47 "YearWordsModel" "longs" "[I").before args s = true := hts _ (List.mem_of_getElem? (i := 2) (by decide +kernel))
  have u3 : (Cond.fieldLink RX6 50 "YearWordsModel" "cells" "[J").before args s = true := hts _ (List.mem_of_getElem? (i := 3) (by decide +kernel))
  have u4 : (Cond.constantLong RX6 288 (99)).before args s = true := hts _ (List.mem_of_getElem? (i := 4) (by decide +kernel))
  have u5 : (Cond.fieldLink RX6 9 "YearWordsModel" "s" "[I").before args s = true := hts _ (List.mem_of_getElem? (i := 5) (by decide +kernel))
  obtain ⟨Q, hQ⟩ : ∃ Q, Q = mqI below D 16 a args s (wM a cI cJ cS res.2.1 kep bef isk res.2.2 man nex wor sng hea lat tap tpd her flt vlu bit lon cel btw) res.1 := ⟨_, rfl⟩
  rw [← hQ]
  have b32 : ∀ (fnd : Nat → Int32) (n : Nat) (x2 : Int32) (x3 : Int32) (sv : Nat → Int32), fix3 (fX6_lays_l32 fnd lon cel x1) n x2 x3 sv = some res → ∀ (H : Heap) (locs : List Loc) (ls : Array Slot), va_P D vwCl (wM a cI cJ cS sv kep bef isk fnd man nex wor sng hea lat tap tpd her flt vlu bit lon cel btw) H → va_S (adA a 16 s.heap.size) s.heap H locs → lv_has ls 6 [(0, .ref (a 0)), (1, .int x1), (2, .int x2), (3, .int x3)] → W p l e rX6_lays s m args below meth c H locs 0 0 Q (F0 m 32 ls []) := by
    intro fnd
    refine fix3_r ?_
    intro K32 hK32 x2 x3 sv hres H locs ls hP hS hl
    have b95 : ∀ (sv : Nat → Int32) (x2 : Int32) (x3 : Int32), fX6_lays_b95 K32 sv x2 x3 = some res → ∀ (H : Heap) (locs : List Loc) (ls : Array Slot), va_P D vwCl (wM a cI cJ cS sv kep bef isk fnd man nex wor sng hea lat tap tpd her flt vlu bit lon cel btw) H → va_S (adA a 16 s.heap.size) s.heap H locs → lv_has ls 6 [(0, .ref (a 0)), (1, .int x1), (2, .int x2), (3, .int x3)] → W p l e rX6_lays s m args below meth c H locs 0 0 Q (F0 m 95 ls []) := by
      intro sv x2 x3 hres H locs ls hP hS hl
      unfold fX6_lays_b95 at hres
      refine lv_iinc (v := x3 + 1) (lv' := [(3, .int (x3 + 1)), (0, .ref (a 0)), (1, .int x1), (2, .int x2)]) hx hb dX6_lays_95 hl (k := 3) rfl (congrArg (fun z => x3 + z) (by decide)) (by decide) rfl (fun ls hl => ?_)
      refine lv_goto (tgt := 32) hx hb dX6_lays_98 (by decide) ?_
      exact hK32 x2 (x3 + 1) sv hres _ _ _ hP hS (lv_sub hl [1, 2, 3, 0] rfl)
    unfold fX6_lays_l32 at hres
    refine lv_iload_n hx hb dX6_lays_32 rfl (lv_at hl 3 rfl) ?_
    refine lv_aload_n hx hb dX6_lays_33 rfl (lv_at hl 0 rfl) ?_
    refine gM_this6_longs hx hb hown hw6 hK hP u2 dX6_lays_34 ?_
    refine lv_iload_n hx hb dX6_lays_37 rfl (lv_at hl 1 rfl) ?_
    obtain ⟨i38, hres⟩ := gdi hres
    refine lM_lon hx hb hK hP i38 dX6_lays_38 ?_
    refine lv_icmp_ge (tgt := 101) hx hb dX6_lays_39 (by decide) (fun c39 => ?_) (fun c39 => ?_)
    · have hres := (itl hres).1 c39
      refine lv_iload_n hx hb dX6_lays_101 rfl (lv_at hl 2 rfl) ?_
      exact hQ ▸ rtI (v := x2)  hx hb hr hlk hP hS (by rw [← (Option.some.inj hres)]) (by rw [← (Option.some.inj hres)]) dX6_lays_102
    · have hres := (itl hres).2 c39
      refine lv_aload_n hx hb dX6_lays_42 rfl (lv_at hl 0 rfl) ?_
      refine lv_iload_n hx hb dX6_lays_43 rfl (lv_at hl 3 rfl) ?_
      obtain ⟨q44, e44, hres⟩ := obd hres
      refine cvI (q0 := 0) (ci := 6) hx hb hml hown hts hEo hE hK hP hS (kX6_isHearer l D a cI cJ cS hd hEo sv kep bef isk fnd man nex wor sng hea lat tap tpd her flt vlu bit lon cel btw x3 q44 e44) gX6_lays_X6_isHearer rfl hdX6_isHearer rfl rfl rfl ⟨rfl, rfl⟩ ⟨Nat.le_of_ble_eq_true rfl, Nat.le_of_ble_eq_true rfl⟩ ⟨Nat.zero_le _, Nat.zero_le _⟩ rfl hl.1 rfl (Nat.le_of_ble_eq_true rfl) dX6_lays_44 (fun H locs hP hS => ?_)
      refine lv_if_eq (tgt := 101) hx hb dX6_lays_47 (by decide) (fun c47 => ?_) (fun c47 => ?_)
      · have hres := (itl hres).1 c47
        refine lv_iload_n hx hb dX6_lays_101 rfl (lv_at hl 2 rfl) ?_
        exact hQ ▸ rtI (v := x2)  hx hb hr hlk hP hS (by rw [← (Option.some.inj hres)]) (by rw [← (Option.some.inj hres)]) dX6_lays_102
      · have hres := (itl hres).2 c47
        refine lv_aload_n hx hb dX6_lays_50 rfl (lv_at hl 0 rfl) ?_
        refine gM_this6_cells hx hb hown hw6 hK hP u3 dX6_lays_51 ?_
        refine lv_bipush (v := 40) hx hb dX6_lays_54 (by decide) ?_
        refine lv_iload_n hx hb dX6_lays_56 rfl (lv_at hl 1 rfl) ?_
        refine lv_imul hx hb dX6_lays_57 ?_
        refine lv_iload_n hx hb dX6_lays_58 rfl (lv_at hl 3 rfl) ?_
        refine lv_iadd hx hb dX6_lays_59 ?_
        obtain ⟨i60, hres⟩ := gdi hres
        refine lM_cel hx hb hK hP i60 dX6_lays_60 ?_
        refine lv_lstore (lv' := [(4, .long (cel (((40 : Int32) * x1) + x3).toNatClampNeg)), (0, .ref (a 0)), (1, .int x1), (2, .int x2), (3, .int x3)]) hx hb dX6_lays_61 hl (by decide) rfl (fun ls hl => ?_)
        refine lv_lload hx hb dX6_lays_63 (lv_at hl 0 rfl) ?_
        refine lv_lconst (v := 0) hx hb dX6_lays_65 (by decide) ?_
        refine W.lcmp hx hb dX6_lays_66 ?_
        refine lv_if_lt (tgt := 95) hx hb dX6_lays_67 (by decide) (fun c67 => ?_) (fun c67 => ?_)
        · have hres := (itl hres).1 c67
          exact b95 sv x2 x3 hres _ _ _ hP hS (lv_sub hl [1, 2, 3, 4] rfl)
        · have hres := (itl hres).2 c67
          refine lv_lload hx hb dX6_lays_70 (lv_at hl 0 rfl) ?_
          refine lv_ldc2 hx hb hown u4 dX6_lays_72 ?_
          refine W.lcmp hx hb dX6_lays_75 ?_
          refine lv_if_gt (tgt := 95) hx hb dX6_lays_76 (by decide) (fun c76 => ?_) (fun c76 => ?_)
          · have hres := (itl hres).1 c76
            exact b95 sv x2 x3 hres _ _ _ hP hS (lv_sub hl [1, 2, 3, 4] rfl)
          · have hres := (itl hres).2 c76
            refine lv_aload_n hx hb dX6_lays_79 rfl (lv_at hl 1 rfl) ?_
            refine gM_this6_s hx hb hown hw6 hK hP u5 dX6_lays_80 ?_
            refine lv_sipush (v := 156) hx hb dX6_lays_83 (by decide) ?_
            refine lv_iload_n hx hb dX6_lays_86 rfl (lv_at hl 4 rfl) ?_
            refine lv_iadd hx hb dX6_lays_87 ?_
            refine lv_lload hx hb dX6_lays_88 (lv_at hl 0 rfl) ?_
            refine lv_l2i hx hb dX6_lays_90 rfl ?_
            obtain ⟨i91, hres⟩ := gdi hres
            refine sM_sv hx hb hK hP hd hS i91 dX6_lays_91 (fun H locs hP hS => ?_)
            refine lv_iinc (v := x2 + 1) (lv' := [(2, .int (x2 + 1)), (4, .long (cel (((40 : Int32) * x1) + x3).toNatClampNeg)), (0, .ref (a 0)), (1, .int x1), (3, .int x3)]) hx hb dX6_lays_92 hl (k := 3) rfl (congrArg (fun z => x2 + z) (by decide)) (by decide) rfl (fun ls hl => ?_)
            exact b95 (upd sv ((156 : Int32) + x3).toNatClampNeg ((cel (((40 : Int32) * x1) + x3).toNatClampNeg).toInt32)) (x2 + 1) x3 hres _ _ _ hP hS (lv_sub hl [2, 3, 0, 4] rfl)
  unfold fX6_lays at hres
  refine lv_iload_n hx hb dX6_lays_0 rfl (lv_at hl 1 rfl) ?_
  refine csI hx hb hml hown hts hEo hE hK hP hS (kX6_isSheet l D a cI cJ cS hd hEo sv kep bef isk fnd man nex wor sng hea lat tap tpd her flt vlu bit lon cel btw x1) gX6_lays_X6_isSheet rfl hdX6_isSheet ⟨rfl, rfl⟩ ⟨Nat.le_of_ble_eq_true rfl, Nat.le_of_ble_eq_true rfl⟩ ⟨Nat.zero_le _, Nat.zero_le _⟩ rfl hl.1 rfl (Nat.le_of_ble_eq_true rfl) dX6_lays_1 (fun H locs hP hS => ?_)
  refine lv_if_ne (tgt := 13) hx hb dX6_lays_4 (by decide) (fun c4 => ?_) (fun c4 => ?_)
  · have hres := (itl hres).2 c4
    refine lv_aload_n hx hb dX6_lays_13 rfl (lv_at hl 0 rfl) ?_
    refine gM_this6_bits hx hb hown hw6 hK hP u1 dX6_lays_14 ?_
    refine lv_iload_n hx hb dX6_lays_17 rfl (lv_at hl 1 rfl) ?_
    obtain ⟨i18, hres⟩ := gdi hres
    refine lM_bit hx hb hK hP i18 dX6_lays_18 ?_
    refine lv_if_ne (tgt := 28) hx hb dX6_lays_19 (by decide) (fun c19 => ?_) (fun c19 => ?_)
    · have hres := (itl hres).2 c19
      refine lv_iconst (v := 0) hx hb dX6_lays_28 (by decide) ?_
      refine lv_istore_n (lv' := [(2, .int (0 : Int32)), (0, .ref (a 0)), (1, .int x1)]) hx hb dX6_lays_29 rfl hl (by decide) rfl (fun ls hl => ?_)
      refine lv_iconst (v := 0) hx hb dX6_lays_30 (by decide) ?_
      refine lv_istore_n (lv' := [(3, .int (0 : Int32)), (2, .int (0 : Int32)), (0, .ref (a 0)), (1, .int x1)]) hx hb dX6_lays_31 rfl hl (by decide) rfl (fun ls hl => ?_)
      exact b32 fnd 2000 (0 : Int32) (0 : Int32) sv hres _ _ _ hP hS (lv_sub hl [2, 3, 1, 0] rfl)
    · have hres := (itl hres).1 c19
      refine lv_aload_n hx hb dX6_lays_22 rfl (lv_at hl 0 rfl) ?_
      refine lv_iconst (v := 5) hx hb dX6_lays_23 (by decide) ?_
      obtain ⟨q24, e24, hres⟩ := obd hres
      refine cvI (q0 := 0) (ci := 6) hx hb hml hown hts hEo hE hK hP hS (kX6_no l D a cI cJ cS hd hEo sv kep bef isk fnd man nex wor sng hea lat tap tpd her flt vlu bit lon cel btw (5 : Int32) q24 e24) gX6_lays_X6_no rfl hdX6_no rfl rfl rfl ⟨rfl, rfl⟩ ⟨Nat.le_of_ble_eq_true rfl, Nat.le_of_ble_eq_true rfl⟩ ⟨Nat.zero_le _, Nat.zero_le _⟩ rfl hl.1 rfl (Nat.le_of_ble_eq_true rfl) dX6_lays_24 (fun H locs hP hS => ?_)
      exact hQ ▸ rtI (v := q24.1)  hx hb hr hlk hP hS (by rw [← (Option.some.inj hres)]) (by rw [← (Option.some.inj hres)]) dX6_lays_27
  · have hres := (itl hres).1 c4
    refine lv_aload_n hx hb dX6_lays_7 rfl (lv_at hl 0 rfl) ?_
    refine lv_iconst (v := 0) hx hb dX6_lays_8 (by decide) ?_
    obtain ⟨q9, e9, hres⟩ := obd hres
    refine cvI (q0 := 0) (ci := 6) hx hb hml hown hts hEo hE hK hP hS (kX6_no l D a cI cJ cS hd hEo sv kep bef isk fnd man nex wor sng hea lat tap tpd her flt vlu bit lon cel btw (0 : Int32) q9 e9) gX6_lays_X6_no rfl hdX6_no rfl rfl rfl ⟨rfl, rfl⟩ ⟨Nat.le_of_ble_eq_true rfl, Nat.le_of_ble_eq_true rfl⟩ ⟨Nat.zero_le _, Nat.zero_le _⟩ rfl hl.1 rfl (Nat.le_of_ble_eq_true rfl) dX6_lays_9 (fun H locs hP hS => ?_)
    exact hQ ▸ rtI (v := q9.1)  hx hb hr hlk hP hS (by rw [← (Option.some.inj hres)]) (by rw [← (Option.some.inj hres)]) dX6_lays_12
def fX6_say_b43 (fnd : Nat → Int32) (wor : Nat → Int32) (sng : Nat → Int32) (cel : Nat → Int64) : Option (Int32 × (Nat → Int32) × (Nat → Int32) × (Nat → Int32) × (Nat → Int64)) :=
 (fX6_no fnd (0 : Int32)).bind fun q45 => some (q45.1, q45.2, wor, sng, cel)
def fX6_say_l97 (fnd : Nat → Int32) (wor : Nat → Int32) (sng : Nat → Int32) (bit : Nat → Int32) (x1 : Int32) (x4 : Int32) (K97 : Int32 → (Nat → Int64) → Option (Int32 × (Nat → Int32) × (Nat → Int32) × (Nat → Int32) × (Nat → Int64))) (x5 : Int32) (cel : Nat → Int64) : Option (Int32 × (Nat → Int32) × (Nat → Int32) × (Nat → Int32) × (Nat → Int64)) :=
  if x4 ≤ x5 then some (x4, fnd, wor, sng, cel) else gd (ib x5 10) ((fX6_writes bit cel x1 x5 ((sng x5.toNatClampNeg).toInt64)).bind fun q116 => K97 (x5 + 1) q116)
def fX6_say_b92 (fnd : Nat → Int32) (wor : Nat → Int32) (sng : Nat → Int32) (bit : Nat → Int32) (cel : Nat → Int64) (x1 : Int32) (z0 : Int32) : Option (Int32 × (Nat → Int32) × (Nat → Int32) × (Nat → Int32) × (Nat → Int64)) :=
  fix2 (fX6_say_l97 fnd wor sng bit x1 z0) 2000 (0 : Int32) cel
def fX6_say (sv : Nat → Int32) (fnd : Nat → Int32) (wor : Nat → Int32) (sng : Nat → Int32) (bit : Nat → Int32) (lon : Nat → Int32) (cel : Nat → Int64) (x1 : Int32) (x2 : Int32) (x3 : Int32) : Option (Int32 × (Nat → Int32) × (Nat → Int32) × (Nat → Int32) × (Nat → Int64)) :=
  if (bI (fX6_isSheet x1)) = 0 then (fX6_no fnd (0 : Int32)).bind fun q9 => some (q9.1, q9.2, wor, sng, cel) else gd (ib x1 4) (if (bit x1.toNatClampNeg) = 0 then (fX6_no fnd (5 : Int32)).bind fun q24 => some (q24.1, q24.2, wor, sng, cel) else (fX6_isTale sv x2).bind fun q30 => if (bI q30) = 0 then fX6_say_b43 fnd wor sng cel else if (bI (fX6_isWords x3)) = 0 then fX6_say_b43 fnd wor sng cel else (fX6_says sv wor sng x2 x3).bind fun q52 => if (bI q52.1) = 0 then (fX6_no fnd (3 : Int32)).bind fun q60 => some (q60.1, q60.2, q52.2.1, q52.2.2, cel) else gd (ib x1 4) ((fX6_long_ sv x2).bind fun q72 => if q72 ≤ (lon x1.toNatClampNeg) then (fX6_long_ sv x2).bind fun q89 => fX6_say_b92 fnd q52.2.1 q52.2.2 bit cel x1 q89 else gd (ib x1 4) (fX6_say_b92 fnd q52.2.1 q52.2.2 bit cel x1 (lon x1.toNatClampNeg))))
abbrev rX6_say : Room := { frames := 4, cells := 0, slots := 0, locals := 101 }
set_option maxHeartbeats 4000000 in
set_option maxRecDepth 100000 in
theorem kX6_say (l : Launch) (D : va_G) (a : Nat → Nat) (cI cJ cS : ClassId) (hd : aok a 16) {Env : (Nat → Prop) → State → Heap → Prop} (hEo : envOK Env) (sv kep bef : Nat → Int32) (isk : Int32) (fnd : Nat → Int32) (man nex : Nat → Int64) (wor sng hea lat tap : Nat → Int32) (tpd her flt vlu : Int32) (bit lon : Nat → Int32) (cel btw : Nat → Int64) (x1 : Int32) (x2 : Int32) (x3 : Int32) (res : Int32 × (Nat → Int32) × (Nat → Int32) × (Nat → Int32) × (Nat → Int64)) (hres : fX6_say sv fnd wor sng bit lon cel x1 x2 x3 = some res) : CtI l D (tyL cI cJ cS) 16 a Env yX6_say wsX6_say rX6_say [.ref (a 0), .int x1, .int x2, .int x3] (wM a cI cJ cS sv kep bef isk fnd man nex wor sng hea lat tap tpd her flt vlu bit lon cel btw) (wM a cI cJ cS sv kep bef isk res.2.1 man nex res.2.2.1 res.2.2.2.1 hea lat tap tpd her flt vlu bit lon res.2.2.2.2 btw) res.1 := by
  refine CtI_mk (cc := cX6_say) (maxL := 6) (ret := (some .int)) (by decide) rfl (Nat.le_of_ble_eq_true rfl) ?_
  intro p e s m args below meth c ls hx hb hr hlk hml hown hts hP hK hE hl
  have hS : va_S (adA a 16 s.heap.size) s.heap s.heap [] := va_S.rf
  have hl : lv_has ls 6 [(0, .ref (a 0)), (1, .int x1), (2, .int x2), (3, .int x3)] := hl
  have hown : s.vm.findClass RX6 = some m.cls := hown
  have hw6 : ∀ w ∈ wsX60, w.before args s = true := fun w h => hts w (List.mem_cons_of_mem _ (List.mem_append_right _ h))
  have u1 : (Cond.fieldLink RX6 44 "YearWordsModel" "bits" "[I").before args s = true := hts _ (List.mem_of_getElem? (i := 1) (by decide +kernel))
  have u2 : (Cond.fieldLink RX6 47 "YearWordsModel" "longs" "[I").before args s = true := hts _ (List.mem_of_getElem? (i := 2) (by decide +kernel))
  have u3 : (Cond.fieldLink RX6 32 "YearWordsModel" "saying" "[I").before args s = true := hts _ (List.mem_of_getElem? (i := 3) (by decide +kernel))
  obtain ⟨Q, hQ⟩ : ∃ Q, Q = mqI below D 16 a args s (wM a cI cJ cS sv kep bef isk res.2.1 man nex res.2.2.1 res.2.2.2.1 hea lat tap tpd her flt vlu bit lon res.2.2.2.2 btw) res.1 := ⟨_, rfl⟩
  rw [← hQ]
  have b43 : ∀ (fnd : Nat → Int32) (wor : Nat → Int32) (sng : Nat → Int32) (cel : Nat → Int64), fX6_say_b43 fnd wor sng cel = some res → ∀ (H : Heap) (locs : List Loc) (ls : Array Slot), va_P D vwCl (wM a cI cJ cS sv kep bef isk fnd man nex wor sng hea lat tap tpd her flt vlu bit lon cel btw) H → va_S (adA a 16 s.heap.size) s.heap H locs → lv_has ls 6 [(0, .ref (a 0))] → W p l e rX6_say s m args below meth c H locs 0 0 Q (F0 m 43 ls []) := by
    intro fnd wor sng cel hres H locs ls hP hS hl
    unfold fX6_say_b43 at hres
    refine lv_aload_n hx hb dX6_say_43 rfl (lv_at hl 0 rfl) ?_
    refine lv_iconst (v := 0) hx hb dX6_say_44 (by decide) ?_
    obtain ⟨q45, e45, hres⟩ := obd hres
    refine cvI (q0 := 0) (ci := 6) hx hb hml hown hts hEo hE hK hP hS (kX6_no l D a cI cJ cS hd hEo sv kep bef isk fnd man nex wor sng hea lat tap tpd her flt vlu bit lon cel btw (0 : Int32) q45 e45) gX6_say_X6_no rfl hdX6_no rfl rfl rfl ⟨rfl, rfl⟩ ⟨Nat.le_of_ble_eq_true rfl, Nat.le_of_ble_eq_true rfl⟩ ⟨Nat.zero_le _, Nat.zero_le _⟩ rfl hl.1 rfl (Nat.le_of_ble_eq_true rfl) dX6_say_45 (fun H locs hP hS => ?_)
    exact hQ ▸ rtI (v := q45.1)  hx hb hr hlk hP hS (by rw [← (Option.some.inj hres)]) (by rw [← (Option.some.inj hres)]) dX6_say_48
  have b97 : ∀ (fnd : Nat → Int32) (wor : Nat → Int32) (sng : Nat → Int32) (x4 : Int32) (n : Nat) (x5 : Int32) (cel : Nat → Int64), fix2 (fX6_say_l97 fnd wor sng bit x1 x4) n x5 cel = some res → ∀ (H : Heap) (locs : List Loc) (ls : Array Slot), va_P D vwCl (wM a cI cJ cS sv kep bef isk fnd man nex wor sng hea lat tap tpd her flt vlu bit lon cel btw) H → va_S (adA a 16 s.heap.size) s.heap H locs → lv_has ls 6 [(0, .ref (a 0)), (1, .int x1), (4, .int x4), (5, .int x5)] → W p l e rX6_say s m args below meth c H locs 0 0 Q (F0 m 97 ls []) := by
    intro fnd wor sng x4
    refine fix2_r ?_
    intro K97 hK97 x5 cel hres H locs ls hP hS hl
    unfold fX6_say_l97 at hres
    refine lv_iload hx hb dX6_say_97 (lv_at hl 3 rfl) ?_
    refine lv_iload hx hb dX6_say_99 (lv_at hl 2 rfl) ?_
    refine lv_icmp_ge (tgt := 125) hx hb dX6_say_101 (by decide) (fun c101 => ?_) (fun c101 => ?_)
    · have hres := (itl hres).1 c101
      refine lv_iload hx hb dX6_say_125 (lv_at hl 2 rfl) ?_
      exact hQ ▸ rtI (v := x4)  hx hb hr hlk hP hS (by rw [← (Option.some.inj hres)]) (by rw [← (Option.some.inj hres)]) dX6_say_127
    · have hres := (itl hres).2 c101
      refine lv_aload_n hx hb dX6_say_104 rfl (lv_at hl 0 rfl) ?_
      refine lv_iload_n hx hb dX6_say_105 rfl (lv_at hl 1 rfl) ?_
      refine lv_iload hx hb dX6_say_106 (lv_at hl 3 rfl) ?_
      refine lv_aload_n hx hb dX6_say_108 rfl (lv_at hl 0 rfl) ?_
      refine gM_this6_saying hx hb hown hw6 hK hP u3 dX6_say_109 ?_
      refine lv_iload hx hb dX6_say_112 (lv_at hl 3 rfl) ?_
      obtain ⟨i114, hres⟩ := gdi hres
      refine lM_sng hx hb hK hP i114 dX6_say_114 ?_
      refine lv_i2l hx hb dX6_say_115 rfl ?_
      obtain ⟨q116, e116, hres⟩ := obd hres
      refine cvV (q0 := 0) (ci := 6) hx hb hml hown hts hEo hE hK hP hS (kX6_writes l D a cI cJ cS hd hEo sv kep bef isk fnd man nex wor sng hea lat tap tpd her flt vlu bit lon cel btw x1 x5 ((sng x5.toNatClampNeg).toInt64) q116 e116) gX6_say_X6_writes rfl hdX6_writes rfl rfl rfl ⟨rfl, rfl⟩ ⟨Nat.le_of_ble_eq_true rfl, Nat.le_of_ble_eq_true rfl⟩ ⟨Nat.zero_le _, Nat.zero_le _⟩ rfl hl.1 rfl (Nat.le_of_ble_eq_true rfl) dX6_say_116 (fun H locs hP hS => ?_)
      refine lv_iinc (v := x5 + 1) (lv' := [(5, .int (x5 + 1)), (0, .ref (a 0)), (1, .int x1), (4, .int x4)]) hx hb dX6_say_119 hl (k := 3) rfl (congrArg (fun z => x5 + z) (by decide)) (by decide) rfl (fun ls hl => ?_)
      refine lv_goto (tgt := 97) hx hb dX6_say_122 (by decide) ?_
      exact hK97 (x5 + 1) q116 hres _ _ _ hP hS (lv_sub hl [1, 2, 3, 0] rfl)
  have b92 : ∀ (fnd : Nat → Int32) (wor : Nat → Int32) (sng : Nat → Int32) (cel : Nat → Int64) (z0 : Int32), fX6_say_b92 fnd wor sng bit cel x1 z0 = some res → ∀ (H : Heap) (locs : List Loc) (ls : Array Slot), va_P D vwCl (wM a cI cJ cS sv kep bef isk fnd man nex wor sng hea lat tap tpd her flt vlu bit lon cel btw) H → va_S (adA a 16 s.heap.size) s.heap H locs → lv_has ls 6 [(0, .ref (a 0)), (1, .int x1)] → W p l e rX6_say s m args below meth c H locs 0 0 Q (F0 m 92 ls [.int z0]) := by
    intro fnd wor sng cel z0 hres H locs ls hP hS hl
    unfold fX6_say_b92 at hres
    refine lv_istore (lv' := [(4, .int z0), (0, .ref (a 0)), (1, .int x1)]) hx hb dX6_say_92 hl (by decide) rfl (fun ls hl => ?_)
    refine lv_iconst (v := 0) hx hb dX6_say_94 (by decide) ?_
    refine lv_istore (lv' := [(5, .int (0 : Int32)), (4, .int z0), (0, .ref (a 0)), (1, .int x1)]) hx hb dX6_say_95 hl (by decide) rfl (fun ls hl => ?_)
    exact b97 fnd wor sng z0 2000 (0 : Int32) cel hres _ _ _ hP hS (lv_sub hl [2, 3, 1, 0] rfl)
  unfold fX6_say at hres
  refine lv_iload_n hx hb dX6_say_0 rfl (lv_at hl 1 rfl) ?_
  refine csI hx hb hml hown hts hEo hE hK hP hS (kX6_isSheet l D a cI cJ cS hd hEo sv kep bef isk fnd man nex wor sng hea lat tap tpd her flt vlu bit lon cel btw x1) gX6_say_X6_isSheet rfl hdX6_isSheet ⟨rfl, rfl⟩ ⟨Nat.le_of_ble_eq_true rfl, Nat.le_of_ble_eq_true rfl⟩ ⟨Nat.zero_le _, Nat.zero_le _⟩ rfl hl.1 rfl (Nat.le_of_ble_eq_true rfl) dX6_say_1 (fun H locs hP hS => ?_)
  refine lv_if_ne (tgt := 13) hx hb dX6_say_4 (by decide) (fun c4 => ?_) (fun c4 => ?_)
  · have hres := (itl hres).2 c4
    refine lv_aload_n hx hb dX6_say_13 rfl (lv_at hl 0 rfl) ?_
    refine gM_this6_bits hx hb hown hw6 hK hP u1 dX6_say_14 ?_
    refine lv_iload_n hx hb dX6_say_17 rfl (lv_at hl 1 rfl) ?_
    obtain ⟨i18, hres⟩ := gdi hres
    refine lM_bit hx hb hK hP i18 dX6_say_18 ?_
    refine lv_if_ne (tgt := 28) hx hb dX6_say_19 (by decide) (fun c19 => ?_) (fun c19 => ?_)
    · have hres := (itl hres).2 c19
      refine lv_aload_n hx hb dX6_say_28 rfl (lv_at hl 0 rfl) ?_
      refine lv_iload_n hx hb dX6_say_29 rfl (lv_at hl 2 rfl) ?_
      obtain ⟨q30, e30, hres⟩ := obd hres
      refine cvI (q0 := 0) (ci := 6) hx hb hml hown hts hEo hE hK hP hS (kX6_isTale l D a cI cJ cS hd hEo sv kep bef isk fnd man nex wor sng hea lat tap tpd her flt vlu bit lon cel btw x2 q30 e30) gX6_say_X6_isTale rfl hdX6_isTale rfl rfl rfl ⟨rfl, rfl⟩ ⟨Nat.le_of_ble_eq_true rfl, Nat.le_of_ble_eq_true rfl⟩ ⟨Nat.zero_le _, Nat.zero_le _⟩ rfl hl.1 rfl (Nat.le_of_ble_eq_true rfl) dX6_say_30 (fun H locs hP hS => ?_)
      refine lv_if_eq (tgt := 43) hx hb dX6_say_33 (by decide) (fun c33 => ?_) (fun c33 => ?_)
      · have hres := (itl hres).1 c33
        exact b43 fnd wor sng cel hres _ _ _ hP hS (lv_sub hl [0] rfl)
      · have hres := (itl hres).2 c33
        refine lv_iload_n hx hb dX6_say_36 rfl (lv_at hl 3 rfl) ?_
        refine csI hx hb hml hown hts hEo hE hK hP hS (kX6_isWords l D a cI cJ cS hd hEo sv kep bef isk fnd man nex wor sng hea lat tap tpd her flt vlu bit lon cel btw x3) gX6_say_X6_isWords rfl hdX6_isWords ⟨rfl, rfl⟩ ⟨Nat.le_of_ble_eq_true rfl, Nat.le_of_ble_eq_true rfl⟩ ⟨Nat.zero_le _, Nat.zero_le _⟩ rfl hl.1 rfl (Nat.le_of_ble_eq_true rfl) dX6_say_37 (fun H locs hP hS => ?_)
        refine lv_if_ne (tgt := 49) hx hb dX6_say_40 (by decide) (fun c40 => ?_) (fun c40 => ?_)
        · have hres := (itl hres).2 c40
          refine lv_aload_n hx hb dX6_say_49 rfl (lv_at hl 0 rfl) ?_
          refine lv_iload_n hx hb dX6_say_50 rfl (lv_at hl 2 rfl) ?_
          refine lv_iload_n hx hb dX6_say_51 rfl (lv_at hl 3 rfl) ?_
          obtain ⟨q52, e52, hres⟩ := obd hres
          refine cvI (q0 := 0) (ci := 6) hx hb hml hown hts hEo hE hK hP hS (kX6_says l D a cI cJ cS hd hEo sv kep bef isk fnd man nex wor sng hea lat tap tpd her flt vlu bit lon cel btw x2 x3 q52 e52) gX6_say_X6_says rfl hdX6_says rfl rfl rfl ⟨rfl, rfl⟩ ⟨Nat.le_of_ble_eq_true rfl, Nat.le_of_ble_eq_true rfl⟩ ⟨Nat.zero_le _, Nat.zero_le _⟩ rfl hl.1 rfl (Nat.le_of_ble_eq_true rfl) dX6_say_52 (fun H locs hP hS => ?_)
          refine lv_if_ne (tgt := 64) hx hb dX6_say_55 (by decide) (fun c55 => ?_) (fun c55 => ?_)
          · have hres := (itl hres).2 c55
            refine lv_aload_n hx hb dX6_say_64 rfl (lv_at hl 0 rfl) ?_
            refine gM_this6_longs hx hb hown hw6 hK hP u2 dX6_say_65 ?_
            refine lv_iload_n hx hb dX6_say_68 rfl (lv_at hl 1 rfl) ?_
            obtain ⟨i69, hres⟩ := gdi hres
            refine lM_lon hx hb hK hP i69 dX6_say_69 ?_
            refine lv_aload_n hx hb dX6_say_70 rfl (lv_at hl 0 rfl) ?_
            refine lv_iload_n hx hb dX6_say_71 rfl (lv_at hl 2 rfl) ?_
            obtain ⟨q72, e72, hres⟩ := obd hres
            refine cvI (q0 := 0) (ci := 6) hx hb hml hown hts hEo hE hK hP hS (kX6_long_ l D a cI cJ cS hd hEo sv kep bef isk fnd man nex q52.2.1 q52.2.2 hea lat tap tpd her flt vlu bit lon cel btw x2 q72 e72) gX6_say_X6_long_ rfl hdX6_long_ rfl rfl rfl ⟨rfl, rfl⟩ ⟨Nat.le_of_ble_eq_true rfl, Nat.le_of_ble_eq_true rfl⟩ ⟨Nat.zero_le _, Nat.zero_le _⟩ rfl hl.1 rfl (Nat.le_of_ble_eq_true rfl) dX6_say_72 (fun H locs hP hS => ?_)
            refine lv_icmp_ge (tgt := 87) hx hb dX6_say_75 (by decide) (fun c75 => ?_) (fun c75 => ?_)
            · have hres := (itl hres).1 c75
              refine lv_aload_n hx hb dX6_say_87 rfl (lv_at hl 0 rfl) ?_
              refine lv_iload_n hx hb dX6_say_88 rfl (lv_at hl 2 rfl) ?_
              obtain ⟨q89, e89, hres⟩ := obd hres
              refine cvI (q0 := 0) (ci := 6) hx hb hml hown hts hEo hE hK hP hS (kX6_long_ l D a cI cJ cS hd hEo sv kep bef isk fnd man nex q52.2.1 q52.2.2 hea lat tap tpd her flt vlu bit lon cel btw x2 q89 e89) gX6_say_X6_long_ rfl hdX6_long_ rfl rfl rfl ⟨rfl, rfl⟩ ⟨Nat.le_of_ble_eq_true rfl, Nat.le_of_ble_eq_true rfl⟩ ⟨Nat.zero_le _, Nat.zero_le _⟩ rfl hl.1 rfl (Nat.le_of_ble_eq_true rfl) dX6_say_89 (fun H locs hP hS => ?_)
              exact b92 fnd q52.2.1 q52.2.2 cel q89 hres _ _ _ hP hS (lv_sub hl [0, 1] rfl)
            · have hres := (itl hres).2 c75
              refine lv_aload_n hx hb dX6_say_78 rfl (lv_at hl 0 rfl) ?_
              refine gM_this6_longs hx hb hown hw6 hK hP u2 dX6_say_79 ?_
              refine lv_iload_n hx hb dX6_say_82 rfl (lv_at hl 1 rfl) ?_
              obtain ⟨i83, hres⟩ := gdi hres
              refine lM_lon hx hb hK hP i83 dX6_say_83 ?_
              refine lv_goto (tgt := 92) hx hb dX6_say_84 (by decide) ?_
              exact b92 fnd q52.2.1 q52.2.2 cel (lon x1.toNatClampNeg) hres _ _ _ hP hS (lv_sub hl [0, 1] rfl)
          · have hres := (itl hres).1 c55
            refine lv_aload_n hx hb dX6_say_58 rfl (lv_at hl 0 rfl) ?_
            refine lv_iconst (v := 3) hx hb dX6_say_59 (by decide) ?_
            obtain ⟨q60, e60, hres⟩ := obd hres
            refine cvI (q0 := 0) (ci := 6) hx hb hml hown hts hEo hE hK hP hS (kX6_no l D a cI cJ cS hd hEo sv kep bef isk fnd man nex q52.2.1 q52.2.2 hea lat tap tpd her flt vlu bit lon cel btw (3 : Int32) q60 e60) gX6_say_X6_no rfl hdX6_no rfl rfl rfl ⟨rfl, rfl⟩ ⟨Nat.le_of_ble_eq_true rfl, Nat.le_of_ble_eq_true rfl⟩ ⟨Nat.zero_le _, Nat.zero_le _⟩ rfl hl.1 rfl (Nat.le_of_ble_eq_true rfl) dX6_say_60 (fun H locs hP hS => ?_)
            exact hQ ▸ rtI (v := q60.1)  hx hb hr hlk hP hS (by rw [← (Option.some.inj hres)]) (by rw [← (Option.some.inj hres)]) dX6_say_63
        · have hres := (itl hres).1 c40
          exact b43 fnd wor sng cel hres _ _ _ hP hS (lv_sub hl [0] rfl)
    · have hres := (itl hres).1 c19
      refine lv_aload_n hx hb dX6_say_22 rfl (lv_at hl 0 rfl) ?_
      refine lv_iconst (v := 5) hx hb dX6_say_23 (by decide) ?_
      obtain ⟨q24, e24, hres⟩ := obd hres
      refine cvI (q0 := 0) (ci := 6) hx hb hml hown hts hEo hE hK hP hS (kX6_no l D a cI cJ cS hd hEo sv kep bef isk fnd man nex wor sng hea lat tap tpd her flt vlu bit lon cel btw (5 : Int32) q24 e24) gX6_say_X6_no rfl hdX6_no rfl rfl rfl ⟨rfl, rfl⟩ ⟨Nat.le_of_ble_eq_true rfl, Nat.le_of_ble_eq_true rfl⟩ ⟨Nat.zero_le _, Nat.zero_le _⟩ rfl hl.1 rfl (Nat.le_of_ble_eq_true rfl) dX6_say_24 (fun H locs hP hS => ?_)
      exact hQ ▸ rtI (v := q24.1)  hx hb hr hlk hP hS (by rw [← (Option.some.inj hres)]) (by rw [← (Option.some.inj hres)]) dX6_say_27
  · have hres := (itl hres).1 c4
    refine lv_aload_n hx hb dX6_say_7 rfl (lv_at hl 0 rfl) ?_
    refine lv_iconst (v := 0) hx hb dX6_say_8 (by decide) ?_
    obtain ⟨q9, e9, hres⟩ := obd hres
    refine cvI (q0 := 0) (ci := 6) hx hb hml hown hts hEo hE hK hP hS (kX6_no l D a cI cJ cS hd hEo sv kep bef isk fnd man nex wor sng hea lat tap tpd her flt vlu bit lon cel btw (0 : Int32) q9 e9) gX6_say_X6_no rfl hdX6_no rfl rfl rfl ⟨rfl, rfl⟩ ⟨Nat.le_of_ble_eq_true rfl, Nat.le_of_ble_eq_true rfl⟩ ⟨Nat.zero_le _, Nat.zero_le _⟩ rfl hl.1 rfl (Nat.le_of_ble_eq_true rfl) dX6_say_9 (fun H locs hP hS => ?_)
    exact hQ ▸ rtI (v := q9.1)  hx hb hr hlk hP hS (by rw [← (Option.some.inj hres)]) (by rw [← (Option.some.inj hres)]) dX6_say_12
def fX6_isSaid (sv : Nat → Int32) (x1 : Int32) (x2 : Int32) (x3 : Int64) : Option (Bool) :=
 (fX6_long_ sv x1).bind fun q3 => if q3 ≤ x2 then some false else if (lg_cmp x3 (0 : Int64)) < 0 then some false else if 0 ≤ (lg_cmp x3 ((25) : Int64)) then some false else (fX6_nth sv x1 x2).bind fun q27 => (fX6_isLength sv q27 x3.toInt32).bind fun q32 => if (bI q32) = 0 then some false else some true
abbrev rX6_isSaid : Room := { frames := 2, cells := 0, slots := 0, locals := 46 }
set_option maxHeartbeats 4000000 in
set_option maxRecDepth 100000 in
theorem kX6_isSaid (l : Launch) (D : va_G) (a : Nat → Nat) (cI cJ cS : ClassId) (hd : aok a 16) {Env : (Nat → Prop) → State → Heap → Prop} (hEo : envOK Env) (sv kep bef : Nat → Int32) (isk : Int32) (fnd : Nat → Int32) (man nex : Nat → Int64) (wor sng hea lat tap : Nat → Int32) (tpd her flt vlu : Int32) (bit lon : Nat → Int32) (cel btw : Nat → Int64) (x1 : Int32) (x2 : Int32) (x3 : Int64) (res : Bool) (hres : fX6_isSaid sv x1 x2 x3 = some res) : CtI l D (tyL cI cJ cS) 16 a Env yX6_isSaid wsX6_isSaid rX6_isSaid [.ref (a 0), .int x1, .int x2, .long x3] (wM a cI cJ cS sv kep bef isk fnd man nex wor sng hea lat tap tpd her flt vlu bit lon cel btw) (wM a cI cJ cS sv kep bef isk fnd man nex wor sng hea lat tap tpd her flt vlu bit lon cel btw) (bI res) := by
  refine CtI_mk (cc := cX6_isSaid) (maxL := 5) (ret := (some .boolean)) (by decide) rfl (Nat.le_of_ble_eq_true rfl) ?_
  intro p e s m args below meth c ls hx hb hr hlk hml hown hts hP hK hE hl
  have hS : va_S (adA a 16 s.heap.size) s.heap s.heap [] := va_S.rf
  have hl : lv_has ls 5 [(0, .ref (a 0)), (1, .int x1), (2, .int x2), (3, .long x3)] := hl
  have hown : s.vm.findClass RX6 = some m.cls := hown
  have u1 : (Cond.constantLong RX6 290 (25)).before args s = true := hts _ (List.mem_of_getElem? (i := 1) (by decide +kernel))
  obtain ⟨Q, hQ⟩ : ∃ Q, Q = mqI below D 16 a args s (wM a cI cJ cS sv kep bef isk fnd man nex wor sng hea lat tap tpd her flt vlu bit lon cel btw) (bI res) := ⟨_, rfl⟩
  rw [← hQ]
  unfold fX6_isSaid at hres
  refine lv_iload_n hx hb dX6_isSaid_0 rfl (lv_at hl 2 rfl) ?_
  refine lv_aload_n hx hb dX6_isSaid_1 rfl (lv_at hl 0 rfl) ?_
  refine lv_iload_n hx hb dX6_isSaid_2 rfl (lv_at hl 1 rfl) ?_
  obtain ⟨q3, e3, hres⟩ := obd hres
  refine cvI (q0 := 0) (ci := 6) hx hb hml hown hts hEo hE hK hP hS (kX6_long_ l D a cI cJ cS hd hEo sv kep bef isk fnd man nex wor sng hea lat tap tpd her flt vlu bit lon cel btw x1 q3 e3) gX6_isSaid_X6_long_ rfl hdX6_long_ rfl rfl rfl ⟨rfl, rfl⟩ ⟨Nat.le_of_ble_eq_true rfl, Nat.le_of_ble_eq_true rfl⟩ ⟨Nat.zero_le _, Nat.zero_le _⟩ rfl hl.1 rfl (Nat.le_of_ble_eq_true rfl) dX6_isSaid_3 (fun H locs hP hS => ?_)
  refine lv_icmp_ge (tgt := 42) hx hb dX6_isSaid_6 (by decide) (fun c6 => ?_) (fun c6 => ?_)
  · have hres := (itl hres).1 c6
    refine lv_iconst (v := 0) hx hb dX6_isSaid_42 (by decide) ?_
    exact hQ ▸ rtZ (v := false)  hx hb hr hlk hP hS (by rw [← (Option.some.inj hres)]) rfl dX6_isSaid_43
  · have hres := (itl hres).2 c6
    refine lv_lload_n hx hb dX6_isSaid_9 rfl (lv_at hl 3 rfl) ?_
    refine lv_lconst (v := 0) hx hb dX6_isSaid_10 (by decide) ?_
    refine W.lcmp hx hb dX6_isSaid_11 ?_
    refine lv_if_lt (tgt := 42) hx hb dX6_isSaid_12 (by decide) (fun c12 => ?_) (fun c12 => ?_)
    · have hres := (itl hres).1 c12
      refine lv_iconst (v := 0) hx hb dX6_isSaid_42 (by decide) ?_
      exact hQ ▸ rtZ (v := false)  hx hb hr hlk hP hS (by rw [← (Option.some.inj hres)]) rfl dX6_isSaid_43
    · have hres := (itl hres).2 c12
      refine lv_lload_n hx hb dX6_isSaid_15 rfl (lv_at hl 3 rfl) ?_
      refine lv_ldc2 hx hb hown u1 dX6_isSaid_16 ?_
      refine W.lcmp hx hb dX6_isSaid_19 ?_
      refine lv_if_ge (tgt := 42) hx hb dX6_isSaid_20 (by decide) (fun c20 => ?_) (fun c20 => ?_)
      · have hres := (itl hres).1 c20
        refine lv_iconst (v := 0) hx hb dX6_isSaid_42 (by decide) ?_
        exact hQ ▸ rtZ (v := false)  hx hb hr hlk hP hS (by rw [← (Option.some.inj hres)]) rfl dX6_isSaid_43
      · have hres := (itl hres).2 c20
        refine lv_aload_n hx hb dX6_isSaid_23 rfl (lv_at hl 0 rfl) ?_
        refine lv_aload_n hx hb dX6_isSaid_24 rfl (lv_at hl 0 rfl) ?_
        refine lv_iload_n hx hb dX6_isSaid_25 rfl (lv_at hl 1 rfl) ?_
        refine lv_iload_n hx hb dX6_isSaid_26 rfl (lv_at hl 2 rfl) ?_
        obtain ⟨q27, e27, hres⟩ := obd hres
        refine cvI (q0 := 0) (ci := 6) hx hb hml hown hts hEo hE hK hP hS (kX6_nth l D a cI cJ cS hd hEo sv kep bef isk fnd man nex wor sng hea lat tap tpd her flt vlu bit lon cel btw x1 x2 q27 e27) gX6_isSaid_X6_nth rfl hdX6_nth rfl rfl rfl ⟨rfl, rfl⟩ ⟨Nat.le_of_ble_eq_true rfl, Nat.le_of_ble_eq_true rfl⟩ ⟨Nat.zero_le _, Nat.zero_le _⟩ rfl hl.1 rfl (Nat.le_of_ble_eq_true rfl) dX6_isSaid_27 (fun H locs hP hS => ?_)
        refine lv_lload_n hx hb dX6_isSaid_30 rfl (lv_at hl 3 rfl) ?_
        refine lv_l2i hx hb dX6_isSaid_31 rfl ?_
        obtain ⟨q32, e32, hres⟩ := obd hres
        refine cvI (q0 := 0) (ci := 6) hx hb hml hown hts hEo hE hK hP hS (kX6_isLength l D a cI cJ cS hd hEo sv kep bef isk fnd man nex wor sng hea lat tap tpd her flt vlu bit lon cel btw q27 x3.toInt32 q32 e32) gX6_isSaid_X6_isLength rfl hdX6_isLength rfl rfl rfl ⟨rfl, rfl⟩ ⟨Nat.le_of_ble_eq_true rfl, Nat.le_of_ble_eq_true rfl⟩ ⟨Nat.zero_le _, Nat.zero_le _⟩ rfl hl.1 rfl (Nat.le_of_ble_eq_true rfl) dX6_isSaid_32 (fun H locs hP hS => ?_)
        refine lv_if_eq (tgt := 42) hx hb dX6_isSaid_35 (by decide) (fun c35 => ?_) (fun c35 => ?_)
        · have hres := (itl hres).1 c35
          refine lv_iconst (v := 0) hx hb dX6_isSaid_42 (by decide) ?_
          exact hQ ▸ rtZ (v := false)  hx hb hr hlk hP hS (by rw [← (Option.some.inj hres)]) rfl dX6_isSaid_43
        · have hres := (itl hres).2 c35
          refine lv_iconst (v := 1) hx hb dX6_isSaid_38 (by decide) ?_
          refine lv_goto (tgt := 43) hx hb dX6_isSaid_39 (by decide) ?_
          exact hQ ▸ rtZ (v := true)  hx hb hr hlk hP hS (by rw [← (Option.some.inj hres)]) rfl dX6_isSaid_43
def fX6_read_b127 (fnd : Nat → Int32) (x5 : Int32) : Option (Int32 × (Nat → Int32)) :=
  some ((1 : Int32) + x5, fnd)
def fX6_read_b106 (sv : Nat → Int32) (fnd : Nat → Int32) (lon : Nat → Int32) (x1 : Int32) (x2 : Int32) (x3 : Int32) (x4 : Int32) (x5 : Int32) : Option (Int32 × (Nat → Int32)) :=
  gd (ib x1 4) (if x5 < (lon x1.toNatClampNeg) then fX6_read_b127 fnd x5 else (fX6_long_ sv x2).bind fun q121 => if q121 ≤ x5 then gd (ib ((156 : Int32) + x3) 166) (if x4 = (sv ((156 : Int32) + x3).toNatClampNeg) then some ((0 : Int32), fnd) else some ((41 : Int32), fnd)) else fX6_read_b127 fnd x5)
def fX6_read_l49 (sv : Nat → Int32) (fnd : Nat → Int32) (lon : Nat → Int32) (cel : Nat → Int64) (x1 : Int32) (x2 : Int32) (x3 : Int32) (K49 : Int32 → Int32 → Option (Int32 × (Nat → Int32))) (x4 : Int32) (x5 : Int32) : Option (Int32 × (Nat → Int32)) :=
  gd (ib x1 4) (if (lon x1.toNatClampNeg) ≤ x5 then fX6_read_b106 sv fnd lon x1 x2 x3 x4 x5 else gd (ib (((40 : Int32) * x1) + x5) 160) ((fX6_isSaid sv x2 x5 (cel (((40 : Int32) * x1) + x5).toNatClampNeg)).bind fun q76 => if (bI q76) = 0 then fX6_read_b106 sv fnd lon x1 x2 x3 x4 x5 else gd (ib (((40 : Int32) * x1) + x5) 160) (K49 (x4 + ((cel (((40 : Int32) * x1) + x5).toNatClampNeg).toInt32)) (x5 + 1))))
def fX6_read (sv : Nat → Int32) (fnd : Nat → Int32) (bit : Nat → Int32) (lon : Nat → Int32) (cel : Nat → Int64) (x1 : Int32) (x2 : Int32) (x3 : Int32) : Option (Int32 × (Nat → Int32)) :=
  if (bI (fX6_isSheet x1)) = 0 then (fX6_no fnd (0 : Int32)).bind fun q9 => some (q9.1, q9.2) else gd (ib x1 4) (if (bit x1.toNatClampNeg) = 0 then (fX6_no fnd (5 : Int32)).bind fun q24 => some (q24.1, q24.2) else (fX6_areTold sv x2 x3).bind fun q31 => if (bI q31) = 0 then (fX6_no fnd (0 : Int32)).bind fun q39 => some (q39.1, q39.2) else fix2 (fX6_read_l49 sv fnd lon cel x1 x2 x3) 2000 (0 : Int32) (0 : Int32))
theorem hdX6_isSaid : yX6_isSaid.cls = RX6 ∧ yX6_isSaid.cls ≠ "java/lang/invoke/MethodHandle" ∧ yX6_isSaid.cls ≠ "java/lang/invoke/VarHandle" ∧ (parseMethodDescriptor yX6_isSaid.desc).map (fun d => d.parameters.length) = some 3 := by decide +kernel
abbrev rX6_read : Room := { frames := 3, cells := 0, slots := 0, locals := 70 }
set_option maxHeartbeats 4000000 in
set_option maxRecDepth 100000 in
theorem kX6_read (l : Launch) (D : va_G) (a : Nat → Nat) (cI cJ cS : ClassId) (hd : aok a 16) {Env : (Nat → Prop) → State → Heap → Prop} (hEo : envOK Env) (sv kep bef : Nat → Int32) (isk : Int32) (fnd : Nat → Int32) (man nex : Nat → Int64) (wor sng hea lat tap : Nat → Int32) (tpd her flt vlu : Int32) (bit lon : Nat → Int32) (cel btw : Nat → Int64) (x1 : Int32) (x2 : Int32) (x3 : Int32) (res : Int32 × (Nat → Int32)) (hres : fX6_read sv fnd bit lon cel x1 x2 x3 = some res) : CtI l D (tyL cI cJ cS) 16 a Env yX6_read wsX6_read rX6_read [.ref (a 0), .int x1, .int x2, .int x3] (wM a cI cJ cS sv kep bef isk fnd man nex wor sng hea lat tap tpd her flt vlu bit lon cel btw) (wM a cI cJ cS sv kep bef isk res.2 man nex wor sng hea lat tap tpd her flt vlu bit lon cel btw) res.1 := by
  refine CtI_mk (cc := cX6_read) (maxL := 6) (ret := (some .int)) (by decide) rfl (Nat.le_of_ble_eq_true rfl) ?_
  intro p e s m args below meth c ls hx hb hr hlk hml hown hts hP hK hE hl
  have hS : va_S (adA a 16 s.heap.size) s.heap s.heap [] := va_S.rf
  have hl : lv_has ls 6 [(0, .ref (a 0)), (1, .int x1), (2, .int x2), (3, .int x3)] := hl
  have hown : s.vm.findClass RX6 = some m.cls := hown
  have hw6 : ∀ w ∈ wsX60, w.before args s = true := fun w h => hts w (List.mem_cons_of_mem _ (List.mem_append_right _ h))
  have u1 : (Cond.fieldLink RX6 44 "YearWordsModel" "bits" "[I").before args s = true := hts _ (List.mem_of_getElem? (i := 1) (by decide +kernel))
  have u2 : (Cond.fieldLink RX6 47 "YearWordsModel" "longs" "[I").before args s = true := hts _ (List.mem_of_getElem? (i := 2) (by decide +kernel))
  have u3 : (Cond.fieldLink RX6 50 "YearWordsModel" "cells" "[J").before args s = true := hts _ (List.mem_of_getElem? (i := 3) (by decide +kernel))
  have u4 : (Cond.fieldLink RX6 9 "YearWordsModel" "s" "[I").before args s = true := hts _ (List.mem_of_getElem? (i := 4) (by decide +kernel))
  obtain ⟨Q, hQ⟩ : ∃ Q, Q = mqI below D 16 a args s (wM a cI cJ cS sv kep bef isk res.2 man nex wor sng hea lat tap tpd her flt vlu bit lon cel btw) res.1 := ⟨_, rfl⟩
  rw [← hQ]
  have b127 : ∀ (fnd : Nat → Int32) (x5 : Int32), fX6_read_b127 fnd x5 = some res → ∀ (H : Heap) (locs : List Loc) (ls : Array Slot), va_P D vwCl (wM a cI cJ cS sv kep bef isk fnd man nex wor sng hea lat tap tpd her flt vlu bit lon cel btw) H → va_S (adA a 16 s.heap.size) s.heap H locs → lv_has ls 6 [(0, .ref (a 0)), (5, .int x5)] → W p l e rX6_read s m args below meth c H locs 0 0 Q (F0 m 127 ls []) := by
    intro fnd x5 hres H locs ls hP hS hl
    unfold fX6_read_b127 at hres
    refine lv_iconst (v := 1) hx hb dX6_read_127 (by decide) ?_
    refine lv_iload hx hb dX6_read_128 (lv_at hl 1 rfl) ?_
    refine lv_iadd hx hb dX6_read_130 ?_
    exact hQ ▸ rtI (v := (1 : Int32) + x5)  hx hb hr hlk hP hS (by rw [← (Option.some.inj hres)]) (by rw [← (Option.some.inj hres)]) dX6_read_131
  have b106 : ∀ (fnd : Nat → Int32) (x4 : Int32) (x5 : Int32), fX6_read_b106 sv fnd lon x1 x2 x3 x4 x5 = some res → ∀ (H : Heap) (locs : List Loc) (ls : Array Slot), va_P D vwCl (wM a cI cJ cS sv kep bef isk fnd man nex wor sng hea lat tap tpd her flt vlu bit lon cel btw) H → va_S (adA a 16 s.heap.size) s.heap H locs → lv_has ls 6 [(0, .ref (a 0)), (1, .int x1), (2, .int x2), (3, .int x3), (4, .int x4), (5, .int x5)] → W p l e rX6_read s m args below meth c H locs 0 0 Q (F0 m 106 ls []) := by
    intro fnd x4 x5 hres H locs ls hP hS hl
    unfold fX6_read_b106 at hres
    refine lv_iload hx hb dX6_read_106 (lv_at hl 5 rfl) ?_
    refine lv_aload_n hx hb dX6_read_108 rfl (lv_at hl 0 rfl) ?_
    refine gM_this6_longs hx hb hown hw6 hK hP u2 dX6_read_109 ?_
    refine lv_iload_n hx hb dX6_read_112 rfl (lv_at hl 1 rfl) ?_
    obtain ⟨i113, hres⟩ := gdi hres
    refine lM_lon hx hb hK hP i113 dX6_read_113 ?_
    refine lv_icmp_lt (tgt := 127) hx hb dX6_read_114 (by decide) (fun c114 => ?_) (fun c114 => ?_)
    · have hres := (itl hres).1 c114
      exact b127 fnd x5 hres _ _ _ hP hS (lv_sub hl [0, 5] rfl)
    · have hres := (itl hres).2 c114
      refine lv_iload hx hb dX6_read_117 (lv_at hl 5 rfl) ?_
      refine lv_aload_n hx hb dX6_read_119 rfl (lv_at hl 0 rfl) ?_
      refine lv_iload_n hx hb dX6_read_120 rfl (lv_at hl 2 rfl) ?_
      obtain ⟨q121, e121, hres⟩ := obd hres
      refine cvI (q0 := 0) (ci := 6) hx hb hml hown hts hEo hE hK hP hS (kX6_long_ l D a cI cJ cS hd hEo sv kep bef isk fnd man nex wor sng hea lat tap tpd her flt vlu bit lon cel btw x2 q121 e121) gX6_read_X6_long_ rfl hdX6_long_ rfl rfl rfl ⟨rfl, rfl⟩ ⟨Nat.le_of_ble_eq_true rfl, Nat.le_of_ble_eq_true rfl⟩ ⟨Nat.zero_le _, Nat.zero_le _⟩ rfl hl.1 rfl (Nat.le_of_ble_eq_true rfl) dX6_read_121 (fun H locs hP hS => ?_)
      refine lv_icmp_ge (tgt := 132) hx hb dX6_read_124 (by decide) (fun c124 => ?_) (fun c124 => ?_)
      · have hres := (itl hres).1 c124
        refine lv_iload hx hb dX6_read_132 (lv_at hl 4 rfl) ?_
        refine lv_aload_n hx hb dX6_read_134 rfl (lv_at hl 0 rfl) ?_
        refine gM_this6_s hx hb hown hw6 hK hP u4 dX6_read_135 ?_
        refine lv_sipush (v := 156) hx hb dX6_read_138 (by decide) ?_
        refine lv_iload_n hx hb dX6_read_141 rfl (lv_at hl 3 rfl) ?_
        refine lv_iadd hx hb dX6_read_142 ?_
        obtain ⟨i143, hres⟩ := gdi hres
        refine lM_sv hx hb hK hP i143 dX6_read_143 ?_
        refine lv_icmp_ne (tgt := 151) hx hb dX6_read_144 (by decide) (fun c144 => ?_) (fun c144 => ?_)
        · have hres := (itl hres).2 c144
          refine lv_bipush (v := 41) hx hb dX6_read_151 (by decide) ?_
          exact hQ ▸ rtI (v := (41 : Int32))  hx hb hr hlk hP hS (by rw [← (Option.some.inj hres)]) (by rw [← (Option.some.inj hres)]) dX6_read_153
        · have hres := (itl hres).1 c144
          refine lv_iconst (v := 0) hx hb dX6_read_147 (by decide) ?_
          refine lv_goto (tgt := 153) hx hb dX6_read_148 (by decide) ?_
          exact hQ ▸ rtI (v := (0 : Int32))  hx hb hr hlk hP hS (by rw [← (Option.some.inj hres)]) (by rw [← (Option.some.inj hres)]) dX6_read_153
      · have hres := (itl hres).2 c124
        exact b127 fnd x5 hres _ _ _ hP hS (lv_sub hl [0, 5] rfl)
  have b49 : ∀ (fnd : Nat → Int32) (n : Nat) (x4 : Int32) (x5 : Int32), fix2 (fX6_read_l49 sv fnd lon cel x1 x2 x3) n x4 x5 = some res → ∀ (H : Heap) (locs : List Loc) (ls : Array Slot), va_P D vwCl (wM a cI cJ cS sv kep bef isk fnd man nex wor sng hea lat tap tpd her flt vlu bit lon cel btw) H → va_S (adA a 16 s.heap.size) s.heap H locs → lv_has ls 6 [(0, .ref (a 0)), (1, .int x1), (2, .int x2), (3, .int x3), (4, .int x4), (5, .int x5)] → W p l e rX6_read s m args below meth c H locs 0 0 Q (F0 m 49 ls []) := by
    intro fnd
    refine fix2_r ?_
    intro K49 hK49 x4 x5 hres H locs ls hP hS hl
    unfold fX6_read_l49 at hres
    refine lv_iload hx hb dX6_read_49 (lv_at hl 5 rfl) ?_
    refine lv_aload_n hx hb dX6_read_51 rfl (lv_at hl 0 rfl) ?_
    refine gM_this6_longs hx hb hown hw6 hK hP u2 dX6_read_52 ?_
    refine lv_iload_n hx hb dX6_read_55 rfl (lv_at hl 1 rfl) ?_
    obtain ⟨i56, hres⟩ := gdi hres
    refine lM_lon hx hb hK hP i56 dX6_read_56 ?_
    refine lv_icmp_ge (tgt := 106) hx hb dX6_read_57 (by decide) (fun c57 => ?_) (fun c57 => ?_)
    · have hres := (itl hres).1 c57
      exact b106 fnd x4 x5 hres _ _ _ hP hS (lv_sub hl [0, 1, 2, 3, 4, 5] rfl)
    · have hres := (itl hres).2 c57
      refine lv_aload_n hx hb dX6_read_60 rfl (lv_at hl 0 rfl) ?_
      refine lv_iload_n hx hb dX6_read_61 rfl (lv_at hl 2 rfl) ?_
      refine lv_iload hx hb dX6_read_62 (lv_at hl 5 rfl) ?_
      refine lv_aload_n hx hb dX6_read_64 rfl (lv_at hl 0 rfl) ?_
      refine gM_this6_cells hx hb hown hw6 hK hP u3 dX6_read_65 ?_
      refine lv_bipush (v := 40) hx hb dX6_read_68 (by decide) ?_
      refine lv_iload_n hx hb dX6_read_70 rfl (lv_at hl 1 rfl) ?_
      refine lv_imul hx hb dX6_read_71 ?_
      refine lv_iload hx hb dX6_read_72 (lv_at hl 5 rfl) ?_
      refine lv_iadd hx hb dX6_read_74 ?_
      obtain ⟨i75, hres⟩ := gdi hres
      refine lM_cel hx hb hK hP i75 dX6_read_75 ?_
      obtain ⟨q76, e76, hres⟩ := obd hres
      refine cvI (q0 := 0) (ci := 6) hx hb hml hown hts hEo hE hK hP hS (kX6_isSaid l D a cI cJ cS hd hEo sv kep bef isk fnd man nex wor sng hea lat tap tpd her flt vlu bit lon cel btw x2 x5 (cel (((40 : Int32) * x1) + x5).toNatClampNeg) q76 e76) gX6_read_X6_isSaid rfl hdX6_isSaid rfl rfl rfl ⟨rfl, rfl⟩ ⟨Nat.le_of_ble_eq_true rfl, Nat.le_of_ble_eq_true rfl⟩ ⟨Nat.zero_le _, Nat.zero_le _⟩ rfl hl.1 rfl (Nat.le_of_ble_eq_true rfl) dX6_read_76 (fun H locs hP hS => ?_)
      refine lv_if_eq (tgt := 106) hx hb dX6_read_79 (by decide) (fun c79 => ?_) (fun c79 => ?_)
      · have hres := (itl hres).1 c79
        exact b106 fnd x4 x5 hres _ _ _ hP hS (lv_sub hl [0, 1, 2, 3, 4, 5] rfl)
      · have hres := (itl hres).2 c79
        refine lv_iload hx hb dX6_read_82 (lv_at hl 4 rfl) ?_
        refine lv_aload_n hx hb dX6_read_84 rfl (lv_at hl 0 rfl) ?_
        refine gM_this6_cells hx hb hown hw6 hK hP u3 dX6_read_85 ?_
        refine lv_bipush (v := 40) hx hb dX6_read_88 (by decide) ?_
        refine lv_iload_n hx hb dX6_read_90 rfl (lv_at hl 1 rfl) ?_
        refine lv_imul hx hb dX6_read_91 ?_
        refine lv_iload hx hb dX6_read_92 (lv_at hl 5 rfl) ?_
        refine lv_iadd hx hb dX6_read_94 ?_
        obtain ⟨i95, hres⟩ := gdi hres
        refine lM_cel hx hb hK hP i95 dX6_read_95 ?_
        refine lv_l2i hx hb dX6_read_96 rfl ?_
        refine lv_iadd hx hb dX6_read_97 ?_
        refine lv_istore (lv' := [(4, .int (x4 + ((cel (((40 : Int32) * x1) + x5).toNatClampNeg).toInt32))), (0, .ref (a 0)), (1, .int x1), (2, .int x2), (3, .int x3), (5, .int x5)]) hx hb dX6_read_98 hl (by decide) rfl (fun ls hl => ?_)
        refine lv_iinc (v := x5 + 1) (lv' := [(5, .int (x5 + 1)), (4, .int (x4 + ((cel (((40 : Int32) * x1) + x5).toNatClampNeg).toInt32))), (0, .ref (a 0)), (1, .int x1), (2, .int x2), (3, .int x3)]) hx hb dX6_read_100 hl (k := 5) rfl (congrArg (fun z => x5 + z) (by decide)) (by decide) rfl (fun ls hl => ?_)
        refine lv_goto (tgt := 49) hx hb dX6_read_103 (by decide) ?_
        exact hK49 (x4 + ((cel (((40 : Int32) * x1) + x5).toNatClampNeg).toInt32)) (x5 + 1) hres _ _ _ hP hS (lv_sub hl [2, 3, 4, 5, 1, 0] rfl)
  unfold fX6_read at hres
  refine lv_iload_n hx hb dX6_read_0 rfl (lv_at hl 1 rfl) ?_
  refine csI hx hb hml hown hts hEo hE hK hP hS (kX6_isSheet l D a cI cJ cS hd hEo sv kep bef isk fnd man nex wor sng hea lat tap tpd her flt vlu bit lon cel btw x1) gX6_read_X6_isSheet rfl hdX6_isSheet ⟨rfl, rfl⟩ ⟨Nat.le_of_ble_eq_true rfl, Nat.le_of_ble_eq_true rfl⟩ ⟨Nat.zero_le _, Nat.zero_le _⟩ rfl hl.1 rfl (Nat.le_of_ble_eq_true rfl) dX6_read_1 (fun H locs hP hS => ?_)
  refine lv_if_ne (tgt := 13) hx hb dX6_read_4 (by decide) (fun c4 => ?_) (fun c4 => ?_)
  · have hres := (itl hres).2 c4
    refine lv_aload_n hx hb dX6_read_13 rfl (lv_at hl 0 rfl) ?_
    refine gM_this6_bits hx hb hown hw6 hK hP u1 dX6_read_14 ?_
    refine lv_iload_n hx hb dX6_read_17 rfl (lv_at hl 1 rfl) ?_
    obtain ⟨i18, hres⟩ := gdi hres
    refine lM_bit hx hb hK hP i18 dX6_read_18 ?_
    refine lv_if_ne (tgt := 28) hx hb dX6_read_19 (by decide) (fun c19 => ?_) (fun c19 => ?_)
    · have hres := (itl hres).2 c19
      refine lv_aload_n hx hb dX6_read_28 rfl (lv_at hl 0 rfl) ?_
      refine lv_iload_n hx hb dX6_read_29 rfl (lv_at hl 2 rfl) ?_
      refine lv_iload_n hx hb dX6_read_30 rfl (lv_at hl 3 rfl) ?_
      obtain ⟨q31, e31, hres⟩ := obd hres
      refine cvI (q0 := 0) (ci := 6) hx hb hml hown hts hEo hE hK hP hS (kX6_areTold l D a cI cJ cS hd hEo sv kep bef isk fnd man nex wor sng hea lat tap tpd her flt vlu bit lon cel btw x2 x3 q31 e31) gX6_read_X6_areTold rfl hdX6_areTold rfl rfl rfl ⟨rfl, rfl⟩ ⟨Nat.le_of_ble_eq_true rfl, Nat.le_of_ble_eq_true rfl⟩ ⟨Nat.zero_le _, Nat.zero_le _⟩ rfl hl.1 rfl (Nat.le_of_ble_eq_true rfl) dX6_read_31 (fun H locs hP hS => ?_)
      refine lv_if_ne (tgt := 43) hx hb dX6_read_34 (by decide) (fun c34 => ?_) (fun c34 => ?_)
      · have hres := (itl hres).2 c34
        refine lv_iconst (v := 0) hx hb dX6_read_43 (by decide) ?_
        refine lv_istore (lv' := [(4, .int (0 : Int32)), (0, .ref (a 0)), (1, .int x1), (2, .int x2), (3, .int x3)]) hx hb dX6_read_44 hl (by decide) rfl (fun ls hl => ?_)
        refine lv_iconst (v := 0) hx hb dX6_read_46 (by decide) ?_
        refine lv_istore (lv' := [(5, .int (0 : Int32)), (4, .int (0 : Int32)), (0, .ref (a 0)), (1, .int x1), (2, .int x2), (3, .int x3)]) hx hb dX6_read_47 hl (by decide) rfl (fun ls hl => ?_)
        exact b49 fnd 2000 (0 : Int32) (0 : Int32) hres _ _ _ hP hS (lv_sub hl [2, 3, 4, 5, 1, 0] rfl)
      · have hres := (itl hres).1 c34
        refine lv_aload_n hx hb dX6_read_37 rfl (lv_at hl 0 rfl) ?_
        refine lv_iconst (v := 0) hx hb dX6_read_38 (by decide) ?_
        obtain ⟨q39, e39, hres⟩ := obd hres
        refine cvI (q0 := 0) (ci := 6) hx hb hml hown hts hEo hE hK hP hS (kX6_no l D a cI cJ cS hd hEo sv kep bef isk fnd man nex wor sng hea lat tap tpd her flt vlu bit lon cel btw (0 : Int32) q39 e39) gX6_read_X6_no rfl hdX6_no rfl rfl rfl ⟨rfl, rfl⟩ ⟨Nat.le_of_ble_eq_true rfl, Nat.le_of_ble_eq_true rfl⟩ ⟨Nat.zero_le _, Nat.zero_le _⟩ rfl hl.1 rfl (Nat.le_of_ble_eq_true rfl) dX6_read_39 (fun H locs hP hS => ?_)
        exact hQ ▸ rtI (v := q39.1)  hx hb hr hlk hP hS (by rw [← (Option.some.inj hres)]) (by rw [← (Option.some.inj hres)]) dX6_read_42
    · have hres := (itl hres).1 c19
      refine lv_aload_n hx hb dX6_read_22 rfl (lv_at hl 0 rfl) ?_
      refine lv_iconst (v := 5) hx hb dX6_read_23 (by decide) ?_
      obtain ⟨q24, e24, hres⟩ := obd hres
      refine cvI (q0 := 0) (ci := 6) hx hb hml hown hts hEo hE hK hP hS (kX6_no l D a cI cJ cS hd hEo sv kep bef isk fnd man nex wor sng hea lat tap tpd her flt vlu bit lon cel btw (5 : Int32) q24 e24) gX6_read_X6_no rfl hdX6_no rfl rfl rfl ⟨rfl, rfl⟩ ⟨Nat.le_of_ble_eq_true rfl, Nat.le_of_ble_eq_true rfl⟩ ⟨Nat.zero_le _, Nat.zero_le _⟩ rfl hl.1 rfl (Nat.le_of_ble_eq_true rfl) dX6_read_24 (fun H locs hP hS => ?_)
      exact hQ ▸ rtI (v := q24.1)  hx hb hr hlk hP hS (by rw [← (Option.some.inj hres)]) (by rw [← (Option.some.inj hres)]) dX6_read_27
  · have hres := (itl hres).1 c4
    refine lv_aload_n hx hb dX6_read_7 rfl (lv_at hl 0 rfl) ?_
    refine lv_iconst (v := 0) hx hb dX6_read_8 (by decide) ?_
    obtain ⟨q9, e9, hres⟩ := obd hres
    refine cvI (q0 := 0) (ci := 6) hx hb hml hown hts hEo hE hK hP hS (kX6_no l D a cI cJ cS hd hEo sv kep bef isk fnd man nex wor sng hea lat tap tpd her flt vlu bit lon cel btw (0 : Int32) q9 e9) gX6_read_X6_no rfl hdX6_no rfl rfl rfl ⟨rfl, rfl⟩ ⟨Nat.le_of_ble_eq_true rfl, Nat.le_of_ble_eq_true rfl⟩ ⟨Nat.zero_le _, Nat.zero_le _⟩ rfl hl.1 rfl (Nat.le_of_ble_eq_true rfl) dX6_read_9 (fun H locs hP hS => ?_)
    exact hQ ▸ rtI (v := q9.1)  hx hb hr hlk hP hS (by rw [← (Option.some.inj hres)]) (by rw [← (Option.some.inj hres)]) dX6_read_12
def fX6_image (sv : Nat → Int32) (kep : Nat → Int32) (isk : Int32) : Option (Int32 × (Nat → Int32) × Int32) :=
 (fX6_lay_sv_kep sv kep).bind fun q8 => some ((1 : Int32), q8, (1 : Int32))
abbrev rX6_image : Room := { frames := 1, cells := 0, slots := 0, locals := 22 }
set_option maxHeartbeats 4000000 in
set_option maxRecDepth 100000 in
theorem kX6_image (l : Launch) (D : va_G) (a : Nat → Nat) (cI cJ cS : ClassId) (hd : aok a 16) {Env : (Nat → Prop) → State → Heap → Prop} (hEo : envOK Env) (sv kep bef : Nat → Int32) (isk : Int32) (fnd : Nat → Int32) (man nex : Nat → Int64) (wor sng hea lat tap : Nat → Int32) (tpd her flt vlu : Int32) (bit lon : Nat → Int32) (cel btw : Nat → Int64)  (res : Int32 × (Nat → Int32) × Int32) (hres : fX6_image sv kep isk = some res) : CtI l D (tyL cI cJ cS) 16 a Env yX6_image wsX6_image rX6_image [.ref (a 0)] (wM a cI cJ cS sv kep bef isk fnd man nex wor sng hea lat tap tpd her flt vlu bit lon cel btw) (wM a cI cJ cS sv res.2.1 bef res.2.2 fnd man nex wor sng hea lat tap tpd her flt vlu bit lon cel btw) res.1 := by
  refine CtI_mk (cc := cX6_image) (maxL := 1) (ret := (some .int)) (by decide) rfl (Nat.le_of_ble_eq_true rfl) ?_
  intro p e s m args below meth c ls hx hb hr hlk hml hown hts hP hK hE hl
  have hS : va_S (adA a 16 s.heap.size) s.heap s.heap [] := va_S.rf
  have hl : lv_has ls 1 [(0, .ref (a 0))] := hl
  have hown : s.vm.findClass RX6 = some m.cls := hown
  have hw6 : ∀ w ∈ wsX60, w.before args s = true := fun w h => hts w (List.mem_cons_of_mem _ (List.mem_append_right _ h))
  have u1 : (Cond.fieldLink RX6 9 "YearWordsModel" "s" "[I").before args s = true := hts _ (List.mem_of_getElem? (i := 1) (by decide +kernel))
  have u2 : (Cond.fieldLink RX6 13 "YearWordsModel" "kept" "[I").before args s = true := hts _ (List.mem_of_getElem? (i := 2) (by decide +kernel))
  have u3 : (Cond.fieldLink RX6 296 "YearWordsModel" "isKept" "Z").before args s = true := hts _ (List.mem_of_getElem? (i := 3) (by decide +kernel))
  obtain ⟨Q, hQ⟩ : ∃ Q, Q = mqI below D 16 a args s (wM a cI cJ cS sv res.2.1 bef res.2.2 fnd man nex wor sng hea lat tap tpd her flt vlu bit lon cel btw) res.1 := ⟨_, rfl⟩
  rw [← hQ]
  unfold fX6_image at hres
  refine lv_aload_n hx hb dX6_image_0 rfl (lv_at hl 0 rfl) ?_
  refine gM_this6_s hx hb hown hw6 hK hP u1 dX6_image_1 ?_
  refine lv_aload_n hx hb dX6_image_4 rfl (lv_at hl 0 rfl) ?_
  refine gM_this6_kept hx hb hown hw6 hK hP u2 dX6_image_5 ?_
  obtain ⟨q8, e8, hres⟩ := obd hres
  refine csV hx hb hml hown hts hEo hE hK hP hS (kX6_lay_sv_kep l D a cI cJ cS hd hEo sv kep bef isk fnd man nex wor sng hea lat tap tpd her flt vlu bit lon cel btw  q8 e8) gX6_image_X6_lay rfl hdX6_lay ⟨rfl, rfl⟩ ⟨Nat.le_of_ble_eq_true rfl, Nat.le_of_ble_eq_true rfl⟩ ⟨Nat.zero_le _, Nat.zero_le _⟩ rfl hl.1 rfl (Nat.le_of_ble_eq_true rfl) dX6_image_8 (fun H locs hP hS => ?_)
  refine lv_aload_n hx hb dX6_image_11 rfl (lv_at hl 0 rfl) ?_
  refine lv_iconst (v := 1) hx hb dX6_image_12 (by decide) ?_
  refine pM_this6_isKept hx hb hown hw6 hK hP hd hS u3 rfl rfl dX6_image_13 (fun H locs hP hS => ?_)
  refine lv_iconst (v := 1) hx hb dX6_image_16 (by decide) ?_
  exact hQ ▸ rtI (v := (1 : Int32))  hx hb hr hlk hP hS (by rw [← (Option.some.inj hres)]) (by rw [← (Option.some.inj hres)]) dX6_image_17
def fX6_undo (sv : Nat → Int32) (kep : Nat → Int32) (isk : Int32) (fnd : Nat → Int32) : Option (Int32 × (Nat → Int32) × (Nat → Int32)) :=
  if isk = 0 then (fX6_no fnd (3 : Int32)).bind fun q9 => some (q9.1, sv, q9.2) else (fX6_lay_kep_sv sv kep).bind fun q21 => some (q21 (1 : Int32).toNatClampNeg, q21, fnd)
abbrev rX6_undo : Room := { frames := 1, cells := 0, slots := 0, locals := 22 }
set_option maxHeartbeats 4000000 in
set_option maxRecDepth 100000 in
theorem kX6_undo (l : Launch) (D : va_G) (a : Nat → Nat) (cI cJ cS : ClassId) (hd : aok a 16) {Env : (Nat → Prop) → State → Heap → Prop} (hEo : envOK Env) (sv kep bef : Nat → Int32) (isk : Int32) (fnd : Nat → Int32) (man nex : Nat → Int64) (wor sng hea lat tap : Nat → Int32) (tpd her flt vlu : Int32) (bit lon : Nat → Int32) (cel btw : Nat → Int64)  (res : Int32 × (Nat → Int32) × (Nat → Int32)) (hres : fX6_undo sv kep isk fnd = some res) : CtI l D (tyL cI cJ cS) 16 a Env yX6_undo wsX6_undo rX6_undo [.ref (a 0)] (wM a cI cJ cS sv kep bef isk fnd man nex wor sng hea lat tap tpd her flt vlu bit lon cel btw) (wM a cI cJ cS res.2.1 kep bef isk res.2.2 man nex wor sng hea lat tap tpd her flt vlu bit lon cel btw) res.1 := by
  refine CtI_mk (cc := cX6_undo) (maxL := 1) (ret := (some .int)) (by decide) rfl (Nat.le_of_ble_eq_true rfl) ?_
  intro p e s m args below meth c ls hx hb hr hlk hml hown hts hP hK hE hl
  have hS : va_S (adA a 16 s.heap.size) s.heap s.heap [] := va_S.rf
  have hl : lv_has ls 1 [(0, .ref (a 0))] := hl
  have hown : s.vm.findClass RX6 = some m.cls := hown
  have hw6 : ∀ w ∈ wsX60, w.before args s = true := fun w h => hts w (List.mem_cons_of_mem _ (List.mem_append_right _ h))
  have u1 : (Cond.fieldLink RX6 296 "YearWordsModel" "isKept" "Z").before args s = true := hts _ (List.mem_of_getElem? (i := 1) (by decide +kernel))
  have u2 : (Cond.fieldLink RX6 13 "YearWordsModel" "kept" "[I").before args s = true := hts _ (List.mem_of_getElem? (i := 2) (by decide +kernel))
  have u3 : (Cond.fieldLink RX6 9 "YearWordsModel" "s" "[I").before args s = true := hts _ (List.mem_of_getElem? (i := 3) (by decide +kernel))
  obtain ⟨Q, hQ⟩ : ∃ Q, Q = mqI below D 16 a args s (wM a cI cJ cS res.2.1 kep bef isk res.2.2 man nex wor sng hea lat tap tpd her flt vlu bit lon cel btw) res.1 := ⟨_, rfl⟩
  rw [← hQ]
  unfold fX6_undo at hres
  refine lv_aload_n hx hb dX6_undo_0 rfl (lv_at hl 0 rfl) ?_
  refine gM_this6_isKept hx hb hown hw6 hK hP u1 dX6_undo_1 ?_
  refine lv_if_ne (tgt := 13) hx hb dX6_undo_4 (by decide) (fun c4 => ?_) (fun c4 => ?_)
  · have hres := (itl hres).2 c4
    refine lv_aload_n hx hb dX6_undo_13 rfl (lv_at hl 0 rfl) ?_
    refine gM_this6_kept hx hb hown hw6 hK hP u2 dX6_undo_14 ?_
    refine lv_aload_n hx hb dX6_undo_17 rfl (lv_at hl 0 rfl) ?_
    refine gM_this6_s hx hb hown hw6 hK hP u3 dX6_undo_18 ?_
    obtain ⟨q21, e21, hres⟩ := obd hres
    refine csV hx hb hml hown hts hEo hE hK hP hS (kX6_lay_kep_sv l D a cI cJ cS hd hEo sv kep bef isk fnd man nex wor sng hea lat tap tpd her flt vlu bit lon cel btw  q21 e21) gX6_undo_X6_lay rfl hdX6_lay ⟨rfl, rfl⟩ ⟨Nat.le_of_ble_eq_true rfl, Nat.le_of_ble_eq_true rfl⟩ ⟨Nat.zero_le _, Nat.zero_le _⟩ rfl hl.1 rfl (Nat.le_of_ble_eq_true rfl) dX6_undo_21 (fun H locs hP hS => ?_)
    refine lv_aload_n hx hb dX6_undo_24 rfl (lv_at hl 0 rfl) ?_
    refine gM_this6_s hx hb hown hw6 hK hP u3 dX6_undo_25 ?_
    refine lv_iconst (v := 1) hx hb dX6_undo_28 (by decide) ?_
    have i29 : vp_in (1 : Int32) 166 := ib_in (by decide)
    refine lM_sv hx hb hK hP i29 dX6_undo_29 ?_
    exact hQ ▸ rtI (v := q21 (1 : Int32).toNatClampNeg)  hx hb hr hlk hP hS (by rw [← (Option.some.inj hres)]) (by rw [← (Option.some.inj hres)]) dX6_undo_30
  · have hres := (itl hres).1 c4
    refine lv_aload_n hx hb dX6_undo_7 rfl (lv_at hl 0 rfl) ?_
    refine lv_iconst (v := 3) hx hb dX6_undo_8 (by decide) ?_
    obtain ⟨q9, e9, hres⟩ := obd hres
    refine cvI (q0 := 0) (ci := 6) hx hb hml hown hts hEo hE hK hP hS (kX6_no l D a cI cJ cS hd hEo sv kep bef isk fnd man nex wor sng hea lat tap tpd her flt vlu bit lon cel btw (3 : Int32) q9 e9) gX6_undo_X6_no rfl hdX6_no rfl rfl rfl ⟨rfl, rfl⟩ ⟨Nat.le_of_ble_eq_true rfl, Nat.le_of_ble_eq_true rfl⟩ ⟨Nat.zero_le _, Nat.zero_le _⟩ rfl hl.1 rfl (Nat.le_of_ble_eq_true rfl) dX6_undo_9 (fun H locs hP hS => ?_)
    exact hQ ▸ rtI (v := q9.1)  hx hb hr hlk hP hS (by rw [← (Option.some.inj hres)]) (by rw [← (Option.some.inj hres)]) dX6_undo_12
def fX6_tear_b12 (isk : Int32) (z0 : Bool) : Int32 × Int32 :=
 (bI z0, (0 : Int32))
def fX6_tear (isk : Int32) : Int32 × Int32 :=
  if isk = 0 then fX6_tear_b12 isk false else fX6_tear_b12 isk true
abbrev rX6_tear : Room := { frames := 0, cells := 0, slots := 0, locals := 0 }
set_option maxHeartbeats 4000000 in
set_option maxRecDepth 100000 in
theorem kX6_tear (l : Launch) (D : va_G) (a : Nat → Nat) (cI cJ cS : ClassId) (hd : aok a 16) {Env : (Nat → Prop) → State → Heap → Prop} (hEo : envOK Env) (sv kep bef : Nat → Int32) (isk : Int32) (fnd : Nat → Int32) (man nex : Nat → Int64) (wor sng hea lat tap : Nat → Int32) (tpd her flt vlu : Int32) (bit lon : Nat → Int32) (cel btw : Nat → Int64)  : CtI l D (tyL cI cJ cS) 16 a Env yX6_tear wsX6_tear rX6_tear [.ref (a 0)] (wM a cI cJ cS sv kep bef isk fnd man nex wor sng hea lat tap tpd her flt vlu bit lon cel btw) (wM a cI cJ cS sv kep bef (fX6_tear isk).2 fnd man nex wor sng hea lat tap tpd her flt vlu bit lon cel btw) (fX6_tear isk).1 := by
  generalize hres : fX6_tear isk = res
  refine CtI_mk (cc := cX6_tear) (maxL := 2) (ret := (some .int)) (by decide) rfl (Nat.le_of_ble_eq_true rfl) ?_
  intro p e s m args below meth c ls hx hb hr hlk hml hown hts hP hK hE hl
  have hS : va_S (adA a 16 s.heap.size) s.heap s.heap [] := va_S.rf
  have hl : lv_has ls 2 [(0, .ref (a 0))] := hl
  have hown : s.vm.findClass RX6 = some m.cls := hown
  have hw6 : ∀ w ∈ wsX60, w.before args s = true := fun w h => hts w (List.mem_cons_of_mem _ (List.mem_append_right _ h))
  have u1 : (Cond.fieldLink RX6 296 "YearWordsModel" "isKept" "Z").before args s = true := hts _ (List.mem_of_getElem? (i := 1) (by decide +kernel))
  obtain ⟨Q, hQ⟩ : ∃ Q, Q = mqI below D 16 a args s (wM a cI cJ cS sv kep bef res.2 fnd man nex wor sng hea lat tap tpd her flt vlu bit lon cel btw) res.1 := ⟨_, rfl⟩
  rw [← hQ]
  have b12 : ∀ (isk : Int32) (z0 : Bool), fX6_tear_b12 isk z0 = res → ∀ (H : Heap) (locs : List Loc) (ls : Array Slot), va_P D vwCl (wM a cI cJ cS sv kep bef isk fnd man nex wor sng hea lat tap tpd her flt vlu bit lon cel btw) H → va_S (adA a 16 s.heap.size) s.heap H locs → lv_has ls 2 [(0, .ref (a 0))] → W p l e rX6_tear s m args below meth c H locs 0 0 Q (F0 m 12 ls [.int (bI z0)]) := by
    intro isk z0 hres H locs ls hP hS hl
    unfold fX6_tear_b12 at hres
    refine lv_istore_n (lv' := [(1, .int (bI z0)), (0, .ref (a 0))]) hx hb dX6_tear_12 rfl hl (by decide) rfl (fun ls hl => ?_)
    refine lv_aload_n hx hb dX6_tear_13 rfl (lv_at hl 1 rfl) ?_
    refine lv_iconst (v := 0) hx hb dX6_tear_14 (by decide) ?_
    refine pM_this6_isKept hx hb hown hw6 hK hP hd hS u1 rfl rfl dX6_tear_15 (fun H locs hP hS => ?_)
    refine lv_iload_n hx hb dX6_tear_18 rfl (lv_at hl 0 rfl) ?_
    exact hQ ▸ rtI (v := bI z0)  hx hb hr hlk hP hS (by rw [← hres]) (by rw [← hres]) dX6_tear_19
  unfold fX6_tear at hres
  refine lv_aload_n hx hb dX6_tear_0 rfl (lv_at hl 0 rfl) ?_
  refine gM_this6_isKept hx hb hown hw6 hK hP u1 dX6_tear_1 ?_
  refine lv_if_eq (tgt := 11) hx hb dX6_tear_4 (by decide) (fun c4 => ?_) (fun c4 => ?_)
  · have hres := (itl hres).1 c4
    refine lv_iconst (v := 0) hx hb dX6_tear_11 (by decide) ?_
    exact b12 isk false hres _ _ _ hP hS (lv_sub hl [0] rfl)
  · have hres := (itl hres).2 c4
    refine lv_iconst (v := 1) hx hb dX6_tear_7 (by decide) ?_
    refine lv_goto (tgt := 12) hx hb dX6_tear_8 (by decide) ?_
    exact b12 isk true hres _ _ _ hP hS (lv_sub hl [0] rfl)
def fX6_count (sv : Nat → Int32) (fnd : Nat → Int32) (tpd : Int32) (x1 : Int32) : Option (Int32 × (Nat → Int32)) :=
  if x1 = 0 then some (sv (1 : Int32).toNatClampNeg, fnd) else if x1 = 1 then some (sv (2 : Int32).toNatClampNeg, fnd) else if x1 = 2 then some (sv (3 : Int32).toNatClampNeg, fnd) else if x1 = 3 then some (tpd, fnd) else if x1 = 4 then some (sv (0 : Int32).toNatClampNeg, fnd) else (fX6_no fnd (0 : Int32)).bind fun q71 => some (q71.1, q71.2)
abbrev rX6_count : Room := { frames := 1, cells := 0, slots := 0, locals := 21 }
set_option maxHeartbeats 4000000 in
set_option maxRecDepth 100000 in
theorem kX6_count (l : Launch) (D : va_G) (a : Nat → Nat) (cI cJ cS : ClassId) (hd : aok a 16) {Env : (Nat → Prop) → State → Heap → Prop} (hEo : envOK Env) (sv kep bef : Nat → Int32) (isk : Int32) (fnd : Nat → Int32) (man nex : Nat → Int64) (wor sng hea lat tap : Nat → Int32) (tpd her flt vlu : Int32) (bit lon : Nat → Int32) (cel btw : Nat → Int64) (x1 : Int32) (res : Int32 × (Nat → Int32)) (hres : fX6_count sv fnd tpd x1 = some res) : CtI l D (tyL cI cJ cS) 16 a Env yX6_count wsX6_count rX6_count [.ref (a 0), .int x1] (wM a cI cJ cS sv kep bef isk fnd man nex wor sng hea lat tap tpd her flt vlu bit lon cel btw) (wM a cI cJ cS sv kep bef isk res.2 man nex wor sng hea lat tap tpd her flt vlu bit lon cel btw) res.1 := by
  refine CtI_mk (cc := cX6_count) (maxL := 2) (ret := (some .int)) (by decide) rfl (Nat.le_of_ble_eq_true rfl) ?_
  intro p e s m args below meth c ls hx hb hr hlk hml hown hts hP hK hE hl
  have hS : va_S (adA a 16 s.heap.size) s.heap s.heap [] := va_S.rf
  have hl : lv_has ls 2 [(0, .ref (a 0)), (1, .int x1)] := hl
  have hown : s.vm.findClass RX6 = some m.cls := hown
  have hw6 : ∀ w ∈ wsX60, w.before args s = true := fun w h => hts w (List.mem_cons_of_mem _ (List.mem_append_right _ h))
  have u1 : (Cond.fieldLink RX6 9 "YearWordsModel" "s" "[I").before args s = true := hts _ (List.mem_of_getElem? (i := 1) (by decide +kernel))
  have u2 : (Cond.fieldLink RX6 170 "YearWordsModel" "taped" "I").before args s = true := hts _ (List.mem_of_getElem? (i := 2) (by decide +kernel))
  obtain ⟨Q, hQ⟩ : ∃ Q, Q = mqI below D 16 a args s (wM a cI cJ cS sv kep bef isk res.2 man nex wor sng hea lat tap tpd her flt vlu bit lon cel btw) res.1 := ⟨_, rfl⟩
  rw [← hQ]
  unfold fX6_count at hres
  refine lv_iload_n hx hb dX6_count_0 rfl (lv_at hl 1 rfl) ?_
  by_cases v1_0 : x1 = 0
  · have hres := (itl hres).1 v1_0
    refine lv_tableIn (off := 35) (tgt := 36) hx hb dX6_count_1 (by rw [v1_0]; decide) (by rw [v1_0]; decide) (by rw [v1_0]; rfl) (by decide) ?_
    refine lv_aload_n hx hb dX6_count_36 rfl (lv_at hl 0 rfl) ?_
    refine gM_this6_s hx hb hown hw6 hK hP u1 dX6_count_37 ?_
    refine lv_iconst (v := 1) hx hb dX6_count_40 (by decide) ?_
    have i41 : vp_in (1 : Int32) 166 := ib_in (by decide)
    refine lM_sv hx hb hK hP i41 dX6_count_41 ?_
    exact hQ ▸ rtI (v := sv (1 : Int32).toNatClampNeg)  hx hb hr hlk hP hS (by rw [← (Option.some.inj hres)]) (by rw [← (Option.some.inj hres)]) dX6_count_42
  · have hres := (itl hres).2 v1_0
    by_cases v1_1 : x1 = 1
    · have hres := (itl hres).1 v1_1
      refine lv_tableIn (off := 42) (tgt := 43) hx hb dX6_count_1 (by rw [v1_1]; decide) (by rw [v1_1]; decide) (by rw [v1_1]; rfl) (by decide) ?_
      refine lv_aload_n hx hb dX6_count_43 rfl (lv_at hl 0 rfl) ?_
      refine gM_this6_s hx hb hown hw6 hK hP u1 dX6_count_44 ?_
      refine lv_iconst (v := 2) hx hb dX6_count_47 (by decide) ?_
      have i48 : vp_in (2 : Int32) 166 := ib_in (by decide)
      refine lM_sv hx hb hK hP i48 dX6_count_48 ?_
      exact hQ ▸ rtI (v := sv (2 : Int32).toNatClampNeg)  hx hb hr hlk hP hS (by rw [← (Option.some.inj hres)]) (by rw [← (Option.some.inj hres)]) dX6_count_49
    · have hres := (itl hres).2 v1_1
      by_cases v1_2 : x1 = 2
      · have hres := (itl hres).1 v1_2
        refine lv_tableIn (off := 49) (tgt := 50) hx hb dX6_count_1 (by rw [v1_2]; decide) (by rw [v1_2]; decide) (by rw [v1_2]; rfl) (by decide) ?_
        refine lv_aload_n hx hb dX6_count_50 rfl (lv_at hl 0 rfl) ?_
        refine gM_this6_s hx hb hown hw6 hK hP u1 dX6_count_51 ?_
        refine lv_iconst (v := 3) hx hb dX6_count_54 (by decide) ?_
        have i55 : vp_in (3 : Int32) 166 := ib_in (by decide)
        refine lM_sv hx hb hK hP i55 dX6_count_55 ?_
        exact hQ ▸ rtI (v := sv (3 : Int32).toNatClampNeg)  hx hb hr hlk hP hS (by rw [← (Option.some.inj hres)]) (by rw [← (Option.some.inj hres)]) dX6_count_56
      · have hres := (itl hres).2 v1_2
        by_cases v1_3 : x1 = 3
        · have hres := (itl hres).1 v1_3
          refine lv_tableIn (off := 56) (tgt := 57) hx hb dX6_count_1 (by rw [v1_3]; decide) (by rw [v1_3]; decide) (by rw [v1_3]; rfl) (by decide) ?_
          refine lv_aload_n hx hb dX6_count_57 rfl (lv_at hl 0 rfl) ?_
          refine gM_this6_taped hx hb hown hw6 hK hP u2 dX6_count_58 ?_
          exact hQ ▸ rtI (v := tpd)  hx hb hr hlk hP hS (by rw [← (Option.some.inj hres)]) (by rw [← (Option.some.inj hres)]) dX6_count_61
        · have hres := (itl hres).2 v1_3
          by_cases v1_4 : x1 = 4
          · have hres := (itl hres).1 v1_4
            refine lv_tableIn (off := 61) (tgt := 62) hx hb dX6_count_1 (by rw [v1_4]; decide) (by rw [v1_4]; decide) (by rw [v1_4]; rfl) (by decide) ?_
            refine lv_aload_n hx hb dX6_count_62 rfl (lv_at hl 0 rfl) ?_
            refine gM_this6_s hx hb hown hw6 hK hP u1 dX6_count_63 ?_
            refine lv_iconst (v := 0) hx hb dX6_count_66 (by decide) ?_
            have i67 : vp_in (0 : Int32) 166 := ib_in (by decide)
            refine lM_sv hx hb hK hP i67 dX6_count_67 ?_
            exact hQ ▸ rtI (v := sv (0 : Int32).toNatClampNeg)  hx hb hr hlk hP hS (by rw [← (Option.some.inj hres)]) (by rw [← (Option.some.inj hres)]) dX6_count_68
          · have hres := (itl hres).2 v1_4
            refine lv_tableOut (tgt := 69) hx hb dX6_count_1 (sw04 v1_0 v1_1 v1_2 v1_3 v1_4) (by decide) ?_
            refine lv_aload_n hx hb dX6_count_69 rfl (lv_at hl 0 rfl) ?_
            refine lv_iconst (v := 0) hx hb dX6_count_70 (by decide) ?_
            obtain ⟨q71, e71, hres⟩ := obd hres
            refine cvI (q0 := 0) (ci := 6) hx hb hml hown hts hEo hE hK hP hS (kX6_no l D a cI cJ cS hd hEo sv kep bef isk fnd man nex wor sng hea lat tap tpd her flt vlu bit lon cel btw (0 : Int32) q71 e71) gX6_count_X6_no rfl hdX6_no rfl rfl rfl ⟨rfl, rfl⟩ ⟨Nat.le_of_ble_eq_true rfl, Nat.le_of_ble_eq_true rfl⟩ ⟨Nat.zero_le _, Nat.zero_le _⟩ rfl hl.1 rfl (Nat.le_of_ble_eq_true rfl) dX6_count_71 (fun H locs hP hS => ?_)
            exact hQ ▸ rtI (v := q71.1)  hx hb hr hlk hP hS (by rw [← (Option.some.inj hres)]) (by rw [← (Option.some.inj hres)]) dX6_count_74
def fX6_status_b47 (K20 : Int32 → Int32 → Option (Int32 × (Nat → Int32))) (x3 : Int32) (z0 : Int32) (z1 : Int32) : Option (Int32 × (Nat → Int32)) :=
  K20 (z0 + z1) (x3 + 1)
def fX6_status_b37 (K20 : Int32 → Int32 → Option (Int32 × (Nat → Int32))) (fnd : Nat → Int32) (x3 : Int32) (z0 : Int32) : Option (Int32 × (Nat → Int32)) :=
  gd (ib x3 7) (fX6_status_b47 K20 x3 z0 (fnd x3.toNatClampNeg))
def fX6_status_l20 (fnd : Nat → Int32) (x1 : Int32) (K20 : Int32 → Int32 → Option (Int32 × (Nat → Int32))) (x2 : Int32) (x3 : Int32) : Option (Int32 × (Nat → Int32)) :=
  if (7 : Int32) ≤ x3 then some (x2, fnd) else if x1 = (-1 : Int32) then fX6_status_b37 K20 fnd x3 x2 else if x1 = x3 then fX6_status_b37 K20 fnd x3 x2 else fX6_status_b47 K20 x3 x2 (0 : Int32)
def fX6_status (fnd : Nat → Int32) (x1 : Int32) : Option (Int32 × (Nat → Int32)) :=
  if (bI (fX6_in x1 (-1 : Int32) (6 : Int32))) = 0 then (fX6_no fnd (0 : Int32)).bind fun q12 => some (q12.1, q12.2) else fix2 (fX6_status_l20 fnd x1) 2000 (0 : Int32) (0 : Int32)
abbrev rX6_status : Room := { frames := 1, cells := 0, slots := 0, locals := 22 }
set_option maxHeartbeats 4000000 in
set_option maxRecDepth 100000 in
theorem kX6_status (l : Launch) (D : va_G) (a : Nat → Nat) (cI cJ cS : ClassId) (hd : aok a 16) {Env : (Nat → Prop) → State → Heap → Prop} (hEo : envOK Env) (sv kep bef : Nat → Int32) (isk : Int32) (fnd : Nat → Int32) (man nex : Nat → Int64) (wor sng hea lat tap : Nat → Int32) (tpd her flt vlu : Int32) (bit lon : Nat → Int32) (cel btw : Nat → Int64) (x1 : Int32) (res : Int32 × (Nat → Int32)) (hres : fX6_status fnd x1 = some res) : CtI l D (tyL cI cJ cS) 16 a Env yX6_status wsX6_status rX6_status [.ref (a 0), .int x1] (wM a cI cJ cS sv kep bef isk fnd man nex wor sng hea lat tap tpd her flt vlu bit lon cel btw) (wM a cI cJ cS sv kep bef isk res.2 man nex wor sng hea lat tap tpd her flt vlu bit lon cel btw) res.1 := by
  refine CtI_mk (cc := cX6_status) (maxL := 4) (ret := (some .int)) (by decide) rfl (Nat.le_of_ble_eq_true rfl) ?_
  intro p e s m args below meth c ls hx hb hr hlk hml hown hts hP hK hE hl
  have hS : va_S (adA a 16 s.heap.size) s.heap s.heap [] := va_S.rf
  have hl : lv_has ls 4 [(0, .ref (a 0)), (1, .int x1)] := hl
  have hown : s.vm.findClass RX6 = some m.cls := hown
  have hw6 : ∀ w ∈ wsX60, w.before args s = true := fun w h => hts w (List.mem_cons_of_mem _ (List.mem_append_right _ h))
  have u1 : (Cond.fieldLink RX6 19 "YearWordsModel" "findings" "[I").before args s = true := hts _ (List.mem_of_getElem? (i := 1) (by decide +kernel))
  obtain ⟨Q, hQ⟩ : ∃ Q, Q = mqI below D 16 a args s (wM a cI cJ cS sv kep bef isk res.2 man nex wor sng hea lat tap tpd her flt vlu bit lon cel btw) res.1 := ⟨_, rfl⟩
  rw [← hQ]
  have b20 : ∀ (fnd : Nat → Int32) (n : Nat) (x2 : Int32) (x3 : Int32), fix2 (fX6_status_l20 fnd x1) n x2 x3 = some res → ∀ (H : Heap) (locs : List Loc) (ls : Array Slot), va_P D vwCl (wM a cI cJ cS sv kep bef isk fnd man nex wor sng hea lat tap tpd her flt vlu bit lon cel btw) H → va_S (adA a 16 s.heap.size) s.heap H locs → lv_has ls 4 [(0, .ref (a 0)), (1, .int x1), (2, .int x2), (3, .int x3)] → W p l e rX6_status s m args below meth c H locs 0 0 Q (F0 m 20 ls []) := by
    intro fnd
    refine fix2_r ?_
    intro K20 hK20 x2 x3 hres H locs ls hP hS hl
    have b47 : ∀ (x3 : Int32) (z0 : Int32) (z1 : Int32), fX6_status_b47 K20 x3 z0 z1 = some res → ∀ (H : Heap) (locs : List Loc) (ls : Array Slot), va_P D vwCl (wM a cI cJ cS sv kep bef isk fnd man nex wor sng hea lat tap tpd her flt vlu bit lon cel btw) H → va_S (adA a 16 s.heap.size) s.heap H locs → lv_has ls 4 [(0, .ref (a 0)), (1, .int x1), (3, .int x3)] → W p l e rX6_status s m args below meth c H locs 0 0 Q (F0 m 47 ls [.int z1, .int z0]) := by
      intro x3 z0 z1 hres H locs ls hP hS hl
      unfold fX6_status_b47 at hres
      refine lv_iadd hx hb dX6_status_47 ?_
      refine lv_istore_n (lv' := [(2, .int (z0 + z1)), (0, .ref (a 0)), (1, .int x1), (3, .int x3)]) hx hb dX6_status_48 rfl hl (by decide) rfl (fun ls hl => ?_)
      refine lv_iinc (v := x3 + 1) (lv' := [(3, .int (x3 + 1)), (2, .int (z0 + z1)), (0, .ref (a 0)), (1, .int x1)]) hx hb dX6_status_49 hl (k := 3) rfl (congrArg (fun z => x3 + z) (by decide)) (by decide) rfl (fun ls hl => ?_)
      refine lv_goto (tgt := 20) hx hb dX6_status_52 (by decide) ?_
      exact hK20 (z0 + z1) (x3 + 1) hres _ _ _ hP hS (lv_sub hl [2, 3, 1, 0] rfl)
    have b37 : ∀ (x3 : Int32) (z0 : Int32), fX6_status_b37 K20 fnd x3 z0 = some res → ∀ (H : Heap) (locs : List Loc) (ls : Array Slot), va_P D vwCl (wM a cI cJ cS sv kep bef isk fnd man nex wor sng hea lat tap tpd her flt vlu bit lon cel btw) H → va_S (adA a 16 s.heap.size) s.heap H locs → lv_has ls 4 [(0, .ref (a 0)), (1, .int x1), (3, .int x3)] → W p l e rX6_status s m args below meth c H locs 0 0 Q (F0 m 37 ls [.int z0]) := by
      intro x3 z0 hres H locs ls hP hS hl
      unfold fX6_status_b37 at hres
      refine lv_aload_n hx hb dX6_status_37 rfl (lv_at hl 0 rfl) ?_
      refine gM_this6_findings hx hb hown hw6 hK hP u1 dX6_status_38 ?_
      refine lv_iload_n hx hb dX6_status_41 rfl (lv_at hl 2 rfl) ?_
      obtain ⟨i42, hres⟩ := gdi hres
      refine lM_fnd hx hb hK hP i42 dX6_status_42 ?_
      refine lv_goto (tgt := 47) hx hb dX6_status_43 (by decide) ?_
      exact b47 x3 z0 (fnd x3.toNatClampNeg) hres _ _ _ hP hS (lv_sub hl [0, 1, 2] rfl)
    unfold fX6_status_l20 at hres
    refine lv_iload_n hx hb dX6_status_20 rfl (lv_at hl 3 rfl) ?_
    refine lv_bipush (v := 7) hx hb dX6_status_21 (by decide) ?_
    refine lv_icmp_ge (tgt := 55) hx hb dX6_status_23 (by decide) (fun c23 => ?_) (fun c23 => ?_)
    · have hres := (itl hres).1 c23
      refine lv_iload_n hx hb dX6_status_55 rfl (lv_at hl 2 rfl) ?_
      exact hQ ▸ rtI (v := x2)  hx hb hr hlk hP hS (by rw [← (Option.some.inj hres)]) (by rw [← (Option.some.inj hres)]) dX6_status_56
    · have hres := (itl hres).2 c23
      refine lv_iload_n hx hb dX6_status_26 rfl (lv_at hl 2 rfl) ?_
      refine lv_iload_n hx hb dX6_status_27 rfl (lv_at hl 1 rfl) ?_
      refine lv_iconst (v := (-1)) hx hb dX6_status_28 (by decide) ?_
      refine lv_icmp_eq (tgt := 37) hx hb dX6_status_29 (by decide) (fun c29 => ?_) (fun c29 => ?_)
      · have hres := (itl hres).1 c29
        exact b37 x3 x2 hres _ _ _ hP hS (lv_sub hl [0, 1, 3] rfl)
      · have hres := (itl hres).2 c29
        refine lv_iload_n hx hb dX6_status_32 rfl (lv_at hl 1 rfl) ?_
        refine lv_iload_n hx hb dX6_status_33 rfl (lv_at hl 3 rfl) ?_
        refine lv_icmp_ne (tgt := 46) hx hb dX6_status_34 (by decide) (fun c34 => ?_) (fun c34 => ?_)
        · have hres := (itl hres).2 c34
          refine lv_iconst (v := 0) hx hb dX6_status_46 (by decide) ?_
          exact b47 x3 x2 (0 : Int32) hres _ _ _ hP hS (lv_sub hl [0, 1, 3] rfl)
        · have hres := (itl hres).1 c34
          exact b37 x3 x2 hres _ _ _ hP hS (lv_sub hl [0, 1, 3] rfl)
  unfold fX6_status at hres
  refine lv_iload_n hx hb dX6_status_0 rfl (lv_at hl 1 rfl) ?_
  refine lv_iconst (v := (-1)) hx hb dX6_status_1 (by decide) ?_
  refine lv_bipush (v := 6) hx hb dX6_status_2 (by decide) ?_
  refine csI hx hb hml hown hts hEo hE hK hP hS (kX6_in l D a cI cJ cS hd hEo sv kep bef isk fnd man nex wor sng hea lat tap tpd her flt vlu bit lon cel btw x1 (-1 : Int32) (6 : Int32)) gX6_status_X6_in rfl hdX6_in ⟨rfl, rfl⟩ ⟨Nat.le_of_ble_eq_true rfl, Nat.le_of_ble_eq_true rfl⟩ ⟨Nat.zero_le _, Nat.zero_le _⟩ rfl hl.1 rfl (Nat.le_of_ble_eq_true rfl) dX6_status_4 (fun H locs hP hS => ?_)
  refine lv_if_ne (tgt := 16) hx hb dX6_status_7 (by decide) (fun c7 => ?_) (fun c7 => ?_)
  · have hres := (itl hres).2 c7
    refine lv_iconst (v := 0) hx hb dX6_status_16 (by decide) ?_
    refine lv_istore_n (lv' := [(2, .int (0 : Int32)), (0, .ref (a 0)), (1, .int x1)]) hx hb dX6_status_17 rfl hl (by decide) rfl (fun ls hl => ?_)
    refine lv_iconst (v := 0) hx hb dX6_status_18 (by decide) ?_
    refine lv_istore_n (lv' := [(3, .int (0 : Int32)), (2, .int (0 : Int32)), (0, .ref (a 0)), (1, .int x1)]) hx hb dX6_status_19 rfl hl (by decide) rfl (fun ls hl => ?_)
    exact b20 fnd 2000 (0 : Int32) (0 : Int32) hres _ _ _ hP hS (lv_sub hl [2, 3, 1, 0] rfl)
  · have hres := (itl hres).1 c7
    refine lv_aload_n hx hb dX6_status_10 rfl (lv_at hl 0 rfl) ?_
    refine lv_iconst (v := 0) hx hb dX6_status_11 (by decide) ?_
    obtain ⟨q12, e12, hres⟩ := obd hres
    refine cvI (q0 := 0) (ci := 6) hx hb hml hown hts hEo hE hK hP hS (kX6_no l D a cI cJ cS hd hEo sv kep bef isk fnd man nex wor sng hea lat tap tpd her flt vlu bit lon cel btw (0 : Int32) q12 e12) gX6_status_X6_no rfl hdX6_no rfl rfl rfl ⟨rfl, rfl⟩ ⟨Nat.le_of_ble_eq_true rfl, Nat.le_of_ble_eq_true rfl⟩ ⟨Nat.zero_le _, Nat.zero_le _⟩ rfl hl.1 rfl (Nat.le_of_ble_eq_true rfl) dX6_status_12 (fun H locs hP hS => ?_)
    exact hQ ▸ rtI (v := q12.1)  hx hb hr hlk hP hS (by rw [← (Option.some.inj hres)]) (by rw [← (Option.some.inj hres)]) dX6_status_15
