def fX6_read_b127 (fnd : Nat → Int32) (x5 : Int32) : Option (Int32 × (Nat → Int32)) :=
  some ((1 : Int32) + x5, fnd)
def fX6_read_b106 (sv : Nat → Int32) (fnd : Nat → Int32) (lon : Nat → Int32) (x1 : Int32) (x2 : Int32) (x3 : Int32) (x4 : Int32) (x5 : Int32) : Option (Int32 × (Nat → Int32)) :=
  gd (ib x1 4) (if x5 < (lon x1.toNatClampNeg) then fX6_read_b127 fnd x5 else (fX6_long_ sv x2).bind fun q121 => if q121 ≤ x5 then gd (ib ((156 : Int32) + x3) 166) (if x4 = (sv ((156 : Int32) + x3).toNatClampNeg) then some ((0 : Int32), fnd) else some ((41 : Int32), fnd)) else fX6_read_b127 fnd x5)
def fX6_read_l49 (sv : Nat → Int32) (fnd : Nat → Int32) (lon : Nat → Int32) (cel : Nat → Int64) (x1 : Int32) (x2 : Int32) (x3 : Int32) (K49 : Int32 → Int32 → Option (Int32 × (Nat → Int32))) (x4 : Int32) (x5 : Int32) : Option (Int32 × (Nat → Int32)) :=
  gd (ib x1 4) (if (lon x1.toNatClampNeg) ≤ x5 then fX6_read_b106 sv fnd lon x1 x2 x3 x4 x5 else gd (ib (((40 : Int32) * x1) + x5) 160) ((fX6_isSaid sv x2 x5 (cel (((40 : Int32) * x1) + x5).toNatClampNeg)).bind fun q76 => if (bI q76) = 0 then fX6_read_b106 sv fnd lon x1 x2 x3 x4 x5 else gd (ib (((40 : Int32) * x1) + x5) 160) (K49 (x4 + ((cel (((40 : Int32) * x1) + x5).toNatClampNeg).toInt32)) (x5 + 1))))
def fX6_read (sv : Nat → Int32) (fnd : Nat → Int32) (bit : Nat → Int32) (lon : Nat → Int32) (cel : Nat → Int64) (x1 : Int32) (x2 : Int32) (x3 : Int32) : Option (Int32 × (Nat → Int32)) :=
  if (bI (fX6_isSheet x1)) = 0 then (fX6_no fnd (0 : Int32)).bind fun q9 => some (q9.1, q9.2) else gd (ib x1 4) (if (bit x1.toNatClampNeg) = 0 then (fX6_no fnd (5 : Int32)).bind fun q24 => some (q24.1, q24.2) else (fX6_areTold sv x2 x3).bind fun q31 => if (bI q31) = 0 then (fX6_no fnd (0 : Int32)).bind fun q39 => some (q39.1, q39.2) else fix2 (fX6_read_l49 sv fnd lon cel x1 x2 x3) 2000 (0 : Int32) (0 : Int32))
theorem hdX6_isSaid : yX6_isSaid.cls = RX6 ∧ yX6_isSaid.cls ≠ "java/lang/invoke/MethodHandle" ∧ yX6_isSaid.cls ≠ "java/lang/invoke/VarHandle" ∧ (parseMethodDescriptor yX6_isSaid.desc).map (fun d => d.parameters.length) = some 3 := by decide +kernel
abbrev rX6_read : Room := { frames := 3, cells := 0, slots := 0, locals := 70 }
set_option maxHeartbeats 4000000 in
set_option maxRecDepth 100000 in
theorem kX6_read (l : Launch) (D : va_G) (a : Nat → Nat) (cI cJ cS : ClassId) (hd : aok a 16) {Env : (Nat → Prop) → State → Heap → Prop} (hEo : envOK Env) (sv kep bef : Nat → Int32) (isk : Int32) (fnd : Nat → Int32) (man nex : Nat → Int64) (wor sng hea lat tap : Nat → Int32) (tpd her flt vlu : Int32) (bit lon : Nat → Int32) (cel btw : Nat → Int64) (x1 : Int32) (x2 : Int32) (x3 : Int32) (res : Int32 × (Nat → Int32)) (hres : fX6_read sv fnd bit lon cel x1 x2 x3 = some res) : CtI l D (tyL cI cJ cS) 16 a Env yX6_read wsX6_read rX6_read [.ref (a 0), .int x1, .int x2, .int x3] (wM a cI cJ cS sv kep bef isk fnd man nex wor sng hea lat tap tpd her flt vlu bit lon cel btw) (wM a cI cJ cS sv kep bef isk res.2 man nex wor sng hea lat tap tpd her flt vlu bit lon cel btw) res.1 := by
  refine CtI_mk (cc := cX6_read) (maxL := 6) (ret := (some .int)) (by decide) rfl (Nat.le_of_ble_eq_true rfl) ?_
  intro p e s m args below meth c ls hx hb hr hlk hml hown hts hP hK hE hl
  have hS : va_S (adA a 16 s.heap.size) s.heap s.heap [] := va_S.rf
  have hl : lv_has ls 6 [(0, .ref (a 0)), (1, .int x1), (2, .int x2), (3, .int x3)] := hl
  have hown : s.vm.findClass RX6 = some m.cls := hown
  have hw6 : ∀ w ∈ wsX60, w.before args s = true := fun w h => hts w (List.mem_cons_of_mem _ (List.mem_append_right _ h))
  have u1 : (Cond.fieldLink RX6 44 "YearWordsModel" "bits" "[I").before args s = true := hts _ (List.mem_of_getElem? (i := 1) (by decide +kernel))
  have u2 : (Cond.fieldLink RX6 47 "YearWordsModel" "longs" "[I").before args s = true := hts _ (List.mem_of_getElem? (i := 2) (by decide +kernel))
  have u3 : (Cond.fieldLink RX6 50 "YearWordsModel" "cells" "[J").before args s = true := hts _ (List.mem_of_getElem? (i := 3) (by decide +kernel))
  have u4 : (Cond.fieldLink RX6 9 "YearWordsModel" "s" "[I").before args s = true := hts _ (List.mem_of_getElem? (i := 4) (by decide +kernel))
  obtain ⟨Q, hQ⟩ : ∃ Q, Q = mqI below D 16 a args s (wM a cI cJ cS sv kep bef isk res.2 man nex wor sng hea lat tap tpd her flt vlu bit lon cel btw) res.1 := ⟨_, rfl⟩
  rw [← hQ]
  have b127 : ∀ (fnd : Nat → Int32) (x5 : Int32), fX6_read_b127 fnd x5 = some res → ∀ (H : Heap) (locs : List Loc) (ls : Array Slot), va_P D vwCl (wM a cI cJ cS sv kep bef isk fnd man nex wor sng hea lat tap tpd her flt vlu bit lon cel btw) H → va_S (adA a 16 s.heap.size) s.heap H locs → lv_has ls 6 [(0, .ref (a 0)), (5, .int x5)] → W p l e rX6_read s m args below meth c H locs 0 0 Q (F0 m 127 ls []) := by
    intro fnd x5 hres H locs ls hP hS hl
    unfold fX6_read_b127 at hres
    refine lv_iconst (v := 1) hx hb dX6_read_127 (by decide) ?_
    refine lv_iload hx hb dX6_read_128 (lv_at hl 1 rfl) ?_
    refine lv_iadd hx hb dX6_read_130 ?_
    exact hQ ▸ rtI (v := (1 : Int32) + x5)  hx hb hr hlk hP hS (by rw [← (Option.some.inj hres)]) (by rw [← (Option.some.inj hres)]) dX6_read_131
  have b106 : ∀ (fnd : Nat → Int32) (x4 : Int32) (x5 : Int32), fX6_read_b106 sv fnd lon x1 x2 x3 x4 x5 = some res → ∀ (H : Heap) (locs : List Loc) (ls : Array Slot), va_P D vwCl (wM a cI cJ cS sv kep bef isk fnd man nex wor sng hea lat tap tpd her flt vlu bit lon cel btw) H → va_S (adA a 16 s.heap.size) s.heap H locs → lv_has ls 6 [(0, .ref (a 0)), (1, .int x1), (2, .int x2), (3, .int x3), (4, .int x4), (5, .int x5)] → W p l e rX6_read s m args below meth c H locs 0 0 Q (F0 m 106 ls []) := by
    intro fnd x4 x5 hres H locs ls hP hS hl
    unfold fX6_read_b106 at hres
    refine lv_iload hx hb dX6_read_106 (lv_at hl 5 rfl) ?_
    refine lv_aload_n hx hb dX6_read_108 rfl (lv_at hl 0 rfl) ?_
    refine gM_this6_longs hx hb hown hw6 hK hP u2 dX6_read_109 ?_
    refine lv_iload_n hx hb dX6_read_112 rfl (lv_at hl 1 rfl) ?_
    obtain ⟨i113, hres⟩ := gdi hres
    refine lM_lon hx hb hK hP i113 dX6_read_113 ?_
    refine lv_icmp_lt (tgt := 127) hx hb dX6_read_114 (by decide) (fun c114 => ?_) (fun c114 => ?_)
    · have hres := (itl hres).1 c114
      exact b127 fnd x5 hres _ _ _ hP hS (lv_sub hl [0, 5] rfl)
    · have hres := (itl hres).2 c114
      refine lv_iload hx hb dX6_read_117 (lv_at hl 5 rfl) ?_
      refine lv_aload_n hx hb dX6_read_119 rfl (lv_at hl 0 rfl) ?_
      refine lv_iload_n hx hb dX6_read_120 rfl (lv_at hl 2 rfl) ?_
      obtain ⟨q121, e121, hres⟩ := obd hres
      refine cvI (q0 := 0) (ci := 6) hx hb hml hown hts hEo hE hK hP hS (kX6_long_ l D a cI cJ cS hd hEo sv kep bef isk fnd man nex wor sng hea lat tap tpd her flt vlu bit lon cel btw x2 q121 e121) gX6_read_X6_long_ rfl hdX6_long_ rfl rfl rfl ⟨rfl, rfl⟩ ⟨Nat.le_of_ble_eq_true rfl, Nat.le_of_ble_eq_true rfl⟩ ⟨Nat.zero_le _, Nat.zero_le _⟩ rfl hl.1 rfl (Nat.le_of_ble_eq_true rfl) dX6_read_121 (fun H locs hP hS => ?_)
      refine lv_icmp_ge (tgt := 132) hx hb dX6_read_124 (by decide) (fun c124 => ?_) (fun c124 => ?_)
      · have hres := (itl hres).1 c124
        refine lv_iload hx hb dX6_read_132 (lv_at hl 4 rfl) ?_
        refine lv_aload_n hx hb dX6_read_134 rfl (lv_at hl 0 rfl) ?_
        refine gM_this6_s hx hb hown hw6 hK hP u4 dX6_read_135 ?_
        refine lv_sipush (v := 156) hx hb dX6_read_138 (by decide) ?_
        refine lv_iload_n hx hb dX6_read_141 rfl (lv_at hl 3 rfl) ?_
        refine lv_iadd hx hb dX6_read_142 ?_
        obtain ⟨i143, hres⟩ := gdi hres
        refine lM_sv hx hb hK hP i143 dX6_read_143 ?_
        refine lv_icmp_ne (tgt := 151) hx hb dX6_read_144 (by decide) (fun c144 => ?_) (fun c144 => ?_)
        · have hres := (itl hres).2 c144
          refine lv_bipush (v := 41) hx hb dX6_read_151 (by decide) ?_
          exact hQ ▸ rtI (v := (41 : Int32))  hx hb hr hlk hP hS (by rw [← (Option.some.inj hres)]) (by rw [← (Option.some.inj hres)]) dX6_read_153
        · have hres := (itl hres).1 c144
          refine lv_iconst (v := 0) hx hb dX6_read_147 (by decide) ?_
          refine lv_goto (tgt := 153) hx hb dX6_read_148 (by decide) ?_
          exact hQ ▸ rtI (v := (0 : Int32))  hx hb hr hlk hP hS (by rw [← (Option.some.inj hres)]) (by rw [← (Option.some.inj hres)]) dX6_read_153
      · have hres := (itl hres).2 c124
        exact b127 fnd x5 hres _ _ _ hP hS (lv_sub hl [0, 5] rfl)
  have b49 : ∀ (fnd : Nat → Int32) (n : Nat) (x4 : Int32) (x5 : Int32), fix2 (fX6_read_l49 sv fnd lon cel x1 x2 x3) n x4 x5 = some res → ∀ (H : Heap) (locs : List Loc) (ls : Array Slot), va_P D vwCl (wM a cI cJ cS sv kep bef isk fnd man nex wor sng hea lat tap tpd her flt vlu bit lon cel btw) H → va_S (adA a 16 s.heap.size) s.heap H locs → lv_has ls 6 [(0, .ref (a 0)), (1, .int x1), (2, .int x2), (3, .int x3), (4, .int x4), (5, .int x5)] → W p l e rX6_read s m args below meth c H locs 0 0 Q (F0 m 49 ls []) := by
    intro fnd
    refine fix2_r ?_
    intro K49 hK49 x4 x5 hres H locs ls hP hS hl
    unfold fX6_read_l49 at hres
    refine lv_iload hx hb dX6_read_49 (lv_at hl 5 rfl) ?_
    refine lv_aload_n hx hb dX6_read_51 rfl (lv_at hl 0 rfl) ?_
    refine gM_this6_longs hx hb hown hw6 hK hP u2 dX6_read_52 ?_
    refine lv_iload_n hx hb dX6_read_55 rfl (lv_at hl 1 rfl) ?_
    obtain ⟨i56, hres⟩ := gdi hres
    refine lM_lon hx hb hK hP i56 dX6_read_56 ?_
    refine lv_icmp_ge (tgt := 106) hx hb dX6_read_57 (by decide) (fun c57 => ?_) (fun c57 => ?_)
    · have hres := (itl hres).1 c57
      exact b106 fnd x4 x5 hres _ _ _ hP hS (lv_sub hl [0, 1, 2, 3, 4, 5] rfl)
    · have hres := (itl hres).2 c57
      refine lv_aload_n hx hb dX6_read_60 rfl (lv_at hl 0 rfl) ?_
      refine lv_iload_n hx hb dX6_read_61 rfl (lv_at hl 2 rfl) ?_
      refine lv_iload hx hb dX6_read_62 (lv_at hl 5 rfl) ?_
      refine lv_aload_n hx hb dX6_read_64 rfl (lv_at hl 0 rfl) ?_
      refine gM_this6_cells hx hb hown hw6 hK hP u3 dX6_read_65 ?_
      refine lv_bipush (v := 40) hx hb dX6_read_68 (by decide) ?_
      refine lv_iload_n hx hb dX6_read_70 rfl (lv_at hl 1 rfl) ?_
      refine lv_imul hx hb dX6_read_71 ?_
      refine lv_iload hx hb dX6_read_72 (lv_at hl 5 rfl) ?_
      refine lv_iadd hx hb dX6_read_74 ?_
      obtain ⟨i75, hres⟩ := gdi hres
      refine lM_cel hx hb hK hP i75 dX6_read_75 ?_
      obtain ⟨q76, e76, hres⟩ := obd hres
      refine cvI (q0 := 0) (ci := 6) hx hb hml hown hts hEo hE hK hP hS (kX6_isSaid l D a cI cJ cS hd hEo sv kep bef isk fnd man nex wor sng hea lat tap tpd her flt vlu bit lon cel btw x2 x5 (cel (((40 : Int32) * x1) + x5).toNatClampNeg) q76 e76) gX6_read_X6_isSaid rfl hdX6_isSaid rfl rfl rfl ⟨rfl, rfl⟩ ⟨Nat.le_of_ble_eq_true rfl, Nat.le_of_ble_eq_true rfl⟩ ⟨Nat.zero_le _, Nat.zero_le _⟩ rfl hl.1 rfl (Nat.le_of_ble_eq_true rfl) dX6_read_76 (fun H locs hP hS => ?_)
      refine lv_if_eq (tgt := 106) hx hb dX6_read_79 (by decide) (fun c79 => ?_) (fun c79 => ?_)
      · have hres := (itl hres).1 c79
        exact b106 fnd x4 x5 hres _ _ _ hP hS (lv_sub hl [0, 1, 2, 3, 4, 5] rfl)
      · have hres := (itl hres).2 c79
        refine lv_iload hx hb dX6_read_82 (lv_at hl 4 rfl) ?_
        refine lv_aload_n hx hb dX6_read_84 rfl (lv_at hl 0 rfl) ?_
        refine gM_this6_cells hx hb hown hw6 hK hP u3 dX6_read_85 ?_
        refine lv_bipush (v := 40) hx hb dX6_read_88 (by decide) ?_
        refine lv_iload_n hx hb dX6_read_90 rfl (lv_at hl 1 rfl) ?_
        refine lv_imul hx hb dX6_read_91 ?_
        refine lv_iload hx hb dX6_read_92 (lv_at hl 5 rfl) ?_
        refine lv_iadd hx hb dX6_read_94 ?_
        obtain ⟨i95, hres⟩ := gdi hres
        refine lM_cel hx hb hK hP i95 dX6_read_95 ?_
        refine lv_l2i hx hb dX6_read_96 rfl ?_
        refine lv_iadd hx hb dX6_read_97 ?_
        refine lv_istore (lv' := [(4, .int (x4 + ((cel (((40 : Int32) * x1) + x5).toNatClampNeg).toInt32))), (0, .ref (a 0)), (1, .int x1), (2, .int x2), (3, .int x3), (5, .int x5)]) hx hb dX6_read_98 hl (by decide) rfl (fun ls hl => ?_)
        refine lv_iinc (v := x5 + 1) (lv' := [(5, .int (x5 + 1)), (4, .int (x4 + ((cel (((40 : Int32) * x1) + x5).toNatClampNeg).toInt32))), (0, .ref (a 0)), (1, .int x1), (2, .int x2), (3, .int x3)]) hx hb dX6_read_100 hl (k := 5) rfl (congrArg (fun z => x5 + z) (by decide)) (by decide) rfl (fun ls hl => ?_)
        refine lv_goto (tgt := 49) hx hb dX6_read_103 (by decide) ?_
        exact hK49 (x4 + ((cel (((40 : Int32) * x1) + x5).toNatClampNeg).toInt32)) (x5 + 1) hres _ _ _ hP hS (lv_sub hl [2, 3, 4, 5, 1, 0] rfl)
  unfold fX6_read at hres
  refine lv_iload_n hx hb dX6_read_0 rfl (lv_at hl 1 rfl) ?_
  refine csI hx hb hml hown hts hEo hE hK hP hS (kX6_isSheet l D a cI cJ cS hd hEo sv kep bef isk fnd man nex wor sng hea lat tap tpd her flt vlu bit lon cel btw x1) gX6_read_X6_isSheet rfl hdX6_isSheet ⟨rfl, rfl⟩ ⟨Nat.le_of_ble_eq_true rfl, Nat.le_of_ble_eq_true rfl⟩ ⟨Nat.zero_le _, Nat.zero_le _⟩ rfl hl.1 rfl (Nat.le_of_ble_eq_true rfl) dX6_read_1 (fun H locs hP hS => ?_)
  refine lv_if_ne (tgt := 13) hx hb dX6_read_4 (by decide) (fun c4 => ?_) (fun c4 => ?_)
  · have hres := (itl hres).2 c4
    refine lv_aload_n hx hb dX6_read_13 rfl (lv_at hl 0 rfl) ?_
    refine gM_this6_bits hx hb hown hw6 hK hP u1 dX6_read_14 ?_
    refine lv_iload_n hx hb dX6_read_17 rfl (lv_at hl 1 rfl) ?_
    obtain ⟨i18, hres⟩ := gdi hres
    refine lM_bit hx hb hK hP i18 dX6_read_18 ?_
    refine lv_if_ne (tgt := 28) hx hb dX6_read_19 (by decide) (fun c19 => ?_) (fun c19 => ?_)
    · have hres := (itl hres).2 c19
      refine lv_aload_n hx hb dX6_read_28 rfl (lv_at hl 0 rfl) ?_
      refine lv_iload_n hx hb dX6_read_29 rfl (lv_at hl 2 rfl) ?_
      refine lv_iload_n hx hb dX6_read_30 rfl (lv_at hl 3 rfl) ?_
      obtain ⟨q31, e31, hres⟩ := obd hres
      refine cvI (q0 := 0) (ci := 6) hx hb hml hown hts hEo hE hK hP hS (kX6_areTold l D a cI cJ cS hd hEo sv kep bef isk fnd man nex wor sng hea lat tap tpd her flt vlu bit lon cel btw x2 x3 q31 e31) gX6_read_X6_areTold rfl hdX6_areTold rfl rfl rfl ⟨rfl, rfl⟩ ⟨Nat.le_of_ble_eq_true rfl, Nat.le_of_ble_eq_true rfl⟩ ⟨Nat.zero_le _, Nat.zero_le _⟩ rfl hl.1 rfl (Nat.le_of_ble_eq_true rfl) dX6_read_31 (fun H locs hP hS => ?_)
      refine lv_if_ne (tgt := 43) hx hb dX6_read_34 (by decide) (fun c34 => ?_) (fun c34 => ?_)
      · have hres := (itl hres).2 c34
        refine lv_iconst (v := 0) hx hb dX6_read_43 (by decide) ?_
        refine lv_istore (lv' := [(4, .int (0 : Int32)), (0, .ref (a 0)), (1, .int x1), (2, .int x2), (3, .int x3)]) hx hb dX6_read_44 hl (by decide) rfl (fun ls hl => ?_)
        refine lv_iconst (v := 0) hx hb dX6_read_46 (by decide) ?_
        refine lv_istore (lv' := [(5, .int (0 : Int32)), (4, .int (0 : Int32)), (0, .ref (a 0)), (1, .int x1), (2, .int x2), (3, .int x3)]) hx hb dX6_read_47 hl (by decide) rfl (fun ls hl => ?_)
        exact b49 fnd 2000 (0 : Int32) (0 : Int32) hres _ _ _ hP hS (lv_sub hl [2, 3, 4, 5, 1, 0] rfl)
      · have hres := (itl hres).1 c34
        refine lv_aload_n hx hb dX6_read_37 rfl (lv_at hl 0 rfl) ?_
        refine lv_iconst (v := 0) hx hb dX6_read_38 (by decide) ?_
        obtain ⟨q39, e39, hres⟩ := obd hres
        refine cvI (q0 := 0) (ci := 6) hx hb hml hown hts hEo hE hK hP hS (kX6_no l D a cI cJ cS hd hEo sv kep bef isk fnd man nex wor sng hea lat tap tpd her flt vlu bit lon cel btw (0 : Int32) q39 e39) gX6_read_X6_no rfl hdX6_no rfl rfl rfl ⟨rfl, rfl⟩ ⟨Nat.le_of_ble_eq_true rfl, Nat.le_of_ble_eq_true rfl⟩ ⟨Nat.zero_le _, Nat.zero_le _⟩ rfl hl.1 rfl (Nat.le_of_ble_eq_true rfl) dX6_read_39 (fun H locs hP hS => ?_)
        exact hQ ▸ rtI (v := q39.1)  hx hb hr hlk hP hS (by rw [← (Option.some.inj hres)]) (by rw [← (Option.some.inj hres)]) dX6_read_42
    · have hres := (itl hres).1 c19
      refine lv_aload_n hx hb dX6_read_22 rfl (lv_at hl 0 rfl) ?_
      refine lv_iconst (v := 5) hx hb dX6_read_23 (by decide) ?_
      obtain ⟨q24, e24, hres⟩ := obd hres
      refine cvI (q0 := 0) (ci := 6) hx hb hml hown hts hEo hE hK hP hS (kX6_no l D a cI cJ cS hd hEo sv kep bef isk fnd man nex wor sng hea lat tap tpd her flt vlu bit lon cel btw (5 : Int32) q24 e24) gX6_read_X6_no rfl hdX6_no rfl rfl rfl ⟨rfl, rfl⟩ ⟨Nat.le_of_ble_eq_true rfl, Nat.le_of_ble_eq_true rfl⟩ ⟨Nat.zero_le _, Nat.zero_le _⟩ rfl hl.1 rfl (Nat.le_of_ble_eq_true rfl) dX6_read_24 (fun H locs hP hS => ?_)
      exact hQ ▸ rtI (v := q24.1)  hx hb hr hlk hP hS (by rw [← (Option.some.inj hres)]) (by rw [← (Option.some.inj hres)]) dX6_read_27
  · have hres := (itl hres).1 c4
    refine lv_aload_n hx hb dX6_read_7 rfl (lv_at hl 0 rfl) ?_
    refine lv_iconst (v := 0) hx hb dX6_read_8 (by decide) ?_
    obtain ⟨q9, e9, hres⟩ := obd hres
    refine cvI (q0 := 0) (ci := 6) hx hb hml hown hts hEo hE hK hP hS (kX6_no l D a cI cJ cS hd hEo sv kep bef isk fnd man nex wor sng hea lat tap tpd her flt vlu bit lon cel btw (0 : Int32) q9 e9) gX6_read_X6_no rfl hdX6_no rfl rfl rfl ⟨rfl, rfl⟩ ⟨Nat.le_of_ble_eq_true rfl, Nat.le_of_ble_eq_true rfl⟩ ⟨Nat.zero_le _, Nat.zero_le _⟩ rfl hl.1 rfl (Nat.le_of_ble_eq_true rfl) dX6_read_9 (fun H locs hP hS => ?_)
    exact hQ ▸ rtI (v := q9.1)  hx hb hr hlk hP hS (by rw [← (Option.some.inj hres)]) (by rw [← (Option.some.inj hres)]) dX6_read_12
def fX6_image (sv : Nat → Int32) (kep : Nat → Int32) (isk : Int32) : Option (Int32 × (Nat → Int32) × Int32) :=
 (fX6_lay_sv_kep sv kep).bind fun q8 => some ((1 : Int32), q8, (1 : Int32))
theorem hdX6_lay : yX6_lay.cls ≠ "java/lang/invoke/MethodHandle" ∧ yX6_lay.cls ≠ "java/lang/invoke/VarHandle" ∧ (parseMethodDescriptor yX6_lay.desc).map (fun d => d.parameters.length) = some 2 := by decide +kernel
abbrev rX6_image : Room := { frames := 1, cells := 0, slots := 0, locals := 22 }
set_option maxHeartbeats 4000000 in
set_option maxRecDepth 100000 in
theorem kX6_image (l : Launch) (D : va_G) (a : Nat → Nat) (cI cJ cS : ClassId) (hd : aok a 16) {Env : (Nat → Prop) → State → Heap → Prop} (hEo : envOK Env) (sv kep bef : Nat → Int32) (isk : Int32) (fnd : Nat → Int32) (man nex : Nat → Int64) (wor sng hea lat tap : Nat → Int32) (tpd her flt vlu : Int32) (bit lon : Nat → Int32) (cel btw : Nat → Int64)  (res : Int32 × (Nat → Int32) × Int32) (hres : fX6_image sv kep isk = some res) : CtI l D (tyL cI cJ cS) 16 a Env yX6_image wsX6_image rX6_image [.ref (a 0)] (wM a cI cJ cS sv kep bef isk fnd man nex wor sng hea lat tap tpd her flt vlu bit lon cel btw) (wM a cI cJ cS sv res.2.1 bef res.2.2 fnd man nex wor sng hea lat tap tpd her flt vlu bit lon cel btw) res.1 := by
  refine CtI_mk (cc := cX6_image) (maxL := 1) (ret := (some .int)) (by decide) rfl (Nat.le_of_ble_eq_true rfl) ?_
  intro p e s m args below meth c ls hx hb hr hlk hml hown hts hP hK hE hl
  have hS : va_S (adA a 16 s.heap.size) s.heap s.heap [] := va_S.rf
  have hl : lv_has ls 1 [(0, .ref (a 0))] := hl
  have hown : s.vm.findClass RX6 = some m.cls := hown
  have hw6 : ∀ w ∈ wsX60, w.before args s = true := fun w h => hts w (List.mem_cons_of_mem _ (List.mem_append_right _ h))
  have u1 : (Cond.fieldLink RX6 9 "YearWordsModel" "s" "[I").before args s = true := hts _ (List.mem_of_getElem? (i := 1) (by decide +kernel))
  have u2 : (Cond.fieldLink RX6 13 "YearWordsModel" "kept" "[I").before args s = true := hts _ (List.mem_of_getElem? (i := 2) (by decide +kernel))
  have u3 : (Cond.fieldLink RX6 296 "YearWordsModel" "isKept" "Z").before args s = true := hts _ (List.mem_of_getElem? (i := 3) (by decide +kernel))
  obtain ⟨Q, hQ⟩ : ∃ Q, Q = mqI below D 16 a args s (wM a cI cJ cS sv res.2.1 bef res.2.2 fnd man nex wor sng hea lat tap tpd her flt vlu bit lon cel btw) res.1 := ⟨_, rfl⟩
  rw [← hQ]
  unfold fX6_image at hres
  refine lv_aload_n hx hb dX6_image_0 rfl (lv_at hl 0 rfl) ?_
  refine gM_this6_s hx hb hown hw6 hK hP u1 dX6_image_1 ?_
  refine lv_aload_n hx hb dX6_image_4 rfl (lv_at hl 0 rfl) ?_
  refine gM_this6_kept hx hb hown hw6 hK hP u2 dX6_image_5 ?_
  obtain ⟨q8, e8, hres⟩ := obd hres
  refine csV hx hb hml hown hts hEo hE hK hP hS (kX6_lay_sv_kep l D a cI cJ cS hd hEo sv kep bef isk fnd man nex wor sng hea lat tap tpd her flt vlu bit lon cel btw  q8 e8) gX6_image_X6_lay rfl hdX6_lay ⟨rfl, rfl⟩ ⟨Nat.le_of_ble_eq_true rfl, Nat.le_of_ble_eq_true rfl⟩ ⟨Nat.zero_le _, Nat.zero_le _⟩ rfl hl.1 rfl (Nat.le_of_ble_eq_true rfl) dX6_image_8 (fun H locs hP hS => ?_)
  refine lv_aload_n hx hb dX6_image_11 rfl (lv_at hl 0 rfl) ?_
  refine lv_iconst (v := 1) hx hb dX6_image_12 (by decide) ?_
  refine pM_this6_isKept hx hb hown hw6 hK hP hd hS u3 rfl rfl dX6_image_13 (fun H locs hP hS => ?_)
  refine lv_iconst (v := 1) hx hb dX6_image_16 (by decide) ?_
  exact hQ ▸ rtI (v := (1 : Int32))  hx hb hr hlk hP hS (by rw [← (Option.some.inj hres)]) (by rw [← (Option.some.inj hres)]) dX6_image_17
def fX6_undo (sv : Nat → Int32) (kep : Nat → Int32) (isk : Int32) (fnd : Nat → Int32) : Option (Int32 × (Nat → Int32) × (Nat → Int32)) :=
  if isk = 0 then (fX6_no fnd (3 : Int32)).bind fun q9 => some (q9.1, sv, q9.2) else (fX6_lay_kep_sv sv kep).bind fun q21 => some (q21 (1 : Int32).toNatClampNeg, q21, fnd)
abbrev rX6_undo : Room := { frames := 1, cells := 0, slots := 0, locals := 22 }
set_option maxHeartbeats 4000000 in
set_option maxRecDepth 100000 in
theorem kX6_undo (l : Launch) (D : va_G) (a : Nat → Nat) (cI cJ cS : ClassId) (hd : aok a 16) {Env : (Nat → Prop) → State → Heap → Prop} (hEo : envOK Env) (sv kep bef : Nat → Int32) (isk : Int32) (fnd : Nat → Int32) (man nex : Nat → Int64) (wor sng hea lat tap : Nat → Int32) (tpd her flt vlu : Int32) (bit lon : Nat → Int32) (cel btw : Nat → Int64)  (res : Int32 × (Nat → Int32) × (Nat → Int32)) (hres : fX6_undo sv kep isk fnd = some res) : CtI l D (tyL cI cJ cS) 16 a Env yX6_undo wsX6_undo rX6_undo [.ref (a 0)] (wM a cI cJ cS sv kep bef isk fnd man nex wor sng hea lat tap tpd her flt vlu bit lon cel btw) (wM a cI cJ cS res.2.1 kep bef isk res.2.2 man nex wor sng hea lat tap tpd her flt vlu bit lon cel btw) res.1 := by
  refine CtI_mk (cc := cX6_undo) (maxL := 1) (ret := (some .int)) (by decide) rfl (Nat.le_of_ble_eq_true rfl) ?_
  intro p e s m args below meth c ls hx hb hr hlk hml hown hts hP hK hE hl
  have hS : va_S (adA a 16 s.heap.size) s.heap s.heap [] := va_S.rf
  have hl : lv_has ls 1 [(0, .ref (a 0))] := hl
  have hown : s.vm.findClass RX6 = some m.cls := hown
  have hw6 : ∀ w ∈ wsX60, w.before args s = true := fun w h => hts w (List.mem_cons_of_mem _ (List.mem_append_right _ h))
  have u1 : (Cond.fieldLink RX6 296 "YearWordsModel" "isKept" "Z").before args s = true := hts _ (List.mem_of_getElem? (i := 1) (by decide +kernel))
  have u2 : (Cond.fieldLink RX6 13 "YearWordsModel" "kept" "[I").before args s = true := hts _ (List.mem_of_getElem? (i := 2) (by decide +kernel))
  have u3 : (Cond.fieldLink RX6 9 "YearWordsModel" "s" "[I").before args s = true := hts _ (List.mem_of_getElem? (i := 3) (by decide +kernel))
  obtain ⟨Q, hQ⟩ : ∃ Q, Q = mqI below D 16 a args s (wM a cI cJ cS res.2.1 kep bef isk res.2.2 man nex wor sng hea lat tap tpd her flt vlu bit lon cel btw) res.1 := ⟨_, rfl⟩
  rw [← hQ]
  unfold fX6_undo at hres
  refine lv_aload_n hx hb dX6_undo_0 rfl (lv_at hl 0 rfl) ?_
  refine gM_this6_isKept hx hb hown hw6 hK hP u1 dX6_undo_1 ?_
  refine lv_if_ne (tgt := 13) hx hb dX6_undo_4 (by decide) (fun c4 => ?_) (fun c4 => ?_)
  · have hres := (itl hres).2 c4
    refine lv_aload_n hx hb dX6_undo_13 rfl (lv_at hl 0 rfl) ?_
    refine gM_this6_kept hx hb hown hw6 hK hP u2 dX6_undo_14 ?_
    refine lv_aload_n hx hb dX6_undo_17 rfl (lv_at hl 0 rfl) ?_
    refine gM_this6_s hx hb hown hw6 hK hP u3 dX6_undo_18 ?_
    obtain ⟨q21, e21, hres⟩ := obd hres
    refine csV hx hb hml hown hts hEo hE hK hP hS (kX6_lay_kep_sv l D a cI cJ cS hd hEo sv kep bef isk fnd man nex wor sng hea lat tap tpd her flt vlu bit lon cel btw  q21 e21) gX6_undo_X6_lay rfl hdX6_lay ⟨rfl, rfl⟩ ⟨Nat.le_of_ble_eq_true rfl, Nat.le_of_ble_eq_true rfl⟩ ⟨Nat.zero_le _, Nat.zero_le _⟩ rfl hl.1 rfl (Nat.le_of_ble_eq_true rfl) dX6_undo_21 (fun H locs hP hS => ?_)
    refine lv_aload_n hx hb dX6_undo_24 rfl (lv_at hl 0 rfl) ?_
    refine gM_this6_s hx hb hown hw6 hK hP u3 dX6_undo_25 ?_
    refine lv_iconst (v := 1) hx hb dX6_undo_28 (by decide) ?_
    have i29 : vp_in (1 : Int32) 166 := ib_in (by decide)
    refine lM_sv hx hb hK hP i29 dX6_undo_29 ?_
    exact hQ ▸ rtI (v := q21 (1 : Int32).toNatClampNeg)  hx hb hr hlk hP hS (by rw [← (Option.some.inj hres)]) (by rw [← (Option.some.inj hres)]) dX6_undo_30
  · have hres := (itl hres).1 c4
    refine lv_aload_n hx hb dX6_undo_7 rfl (lv_at hl 0 rfl) ?_
    refine lv_iconst (v := 3) hx hb dX6_undo_8 (by decide) ?_
    obtain ⟨q9, e9, hres⟩ := obd hres
    refine cvI (q0 := 0) (ci := 6) hx hb hml hown hts hEo hE hK hP hS (kX6_no l D a cI cJ cS hd hEo sv kep bef isk fnd man nex wor sng hea lat tap tpd her flt vlu bit lon cel btw (3 : Int32) q9 e9) gX6_undo_X6_no rfl hdX6_no rfl rfl rfl ⟨rfl, rfl⟩ ⟨Nat.le_of_ble_eq_true rfl, Nat.le_of_ble_eq_true rfl⟩ ⟨Nat.zero_le _, Nat.zero_le _⟩ rfl hl.1 rfl (Nat.le_of_ble_eq_true rfl) dX6_undo_9 (fun H locs hP hS => ?_)
    exact hQ ▸ rtI (v := q9.1)  hx hb hr hlk hP hS (by rw [← (Option.some.inj hres)]) (by rw [← (Option.some.inj hres)]) dX6_undo_12
def fX6_tear_b12 (isk : Int32) (z0 : Bool) : Int32 × Int32 :=
 (bI z0, (0 : Int32))
def fX6_tear (isk : Int32) : Int32 × Int32 :=
  if isk = 0 then fX6_tear_b12 isk false else fX6_tear_b12 isk true
abbrev rX6_tear : Room := { frames := 0, cells := 0, slots := 0, locals := 0 }
set_option maxHeartbeats 4000000 in
set_option maxRecDepth 100000 in
theorem kX6_tear (l : Launch) (D : va_G) (a : Nat → Nat) (cI cJ cS : ClassId) (hd : aok a 16) {Env : (Nat → Prop) → State → Heap → Prop} (hEo : envOK Env) (sv kep bef : Nat → Int32) (isk : Int32) (fnd : Nat → Int32) (man nex : Nat → Int64) (wor sng hea lat tap : Nat → Int32) (tpd her flt vlu : Int32) (bit lon : Nat → Int32) (cel btw : Nat → Int64)  : CtI l D (tyL cI cJ cS) 16 a Env yX6_tear wsX6_tear rX6_tear [.ref (a 0)] (wM a cI cJ cS sv kep bef isk fnd man nex wor sng hea lat tap tpd her flt vlu bit lon cel btw) (wM a cI cJ cS sv kep bef (fX6_tear isk).2 fnd man nex wor sng hea lat tap tpd her flt vlu bit lon cel btw) (fX6_tear isk).1 := by
  generalize hres : fX6_tear isk = res
  refine CtI_mk (cc := cX6_tear) (maxL := 2) (ret := (some .int)) (by decide) rfl (Nat.le_of_ble_eq_true rfl) ?_
  intro p e s m args below meth c ls hx hb hr hlk hml hown hts hP hK hE hl
  have hS : va_S (adA a 16 s.heap.size) s.heap s.heap [] := va_S.rf
  have hl : lv_has ls 2 [(0, .ref (a 0))] := hl
  have hown : s.vm.findClass RX6 = some m.cls := hown
  have hw6 : ∀ w ∈ wsX60, w.before args s = true := fun w h => hts w (List.mem_cons_of_mem _ (List.mem_append_right _ h))
  have u1 : (Cond.fieldLink RX6 296 "YearWordsModel" "isKept" "Z").before args s = true := hts _ (List.mem_of_getElem? (i := 1) (by decide +kernel))
  obtain ⟨Q, hQ⟩ : ∃ Q, Q = mqI below D 16 a args s (wM a cI cJ cS sv kep bef res.2 fnd man nex wor sng hea lat tap tpd her flt vlu bit lon cel btw) res.1 := ⟨_, rfl⟩
  rw [← hQ]
  have b12 : ∀ (isk : Int32) (z0 : Bool), fX6_tear_b12 isk z0 = res → ∀ (H : Heap) (locs : List Loc) (ls : Array Slot), va_P D vwCl (wM a cI cJ cS sv kep bef isk fnd man nex wor sng hea lat tap tpd her flt vlu bit lon cel btw) H → va_S (adA a 16 s.heap.size) s.heap H locs → lv_has ls 2 [(0, .ref (a 0))] → W p l e rX6_tear s m args below meth c H locs 0 0 Q (F0 m 12 ls [.int (bI z0)]) := by
    intro isk z0 hres H locs ls hP hS hl
    unfold fX6_tear_b12 at hres
    refine lv_istore_n (lv' := [(1, .int (bI z0)), (0, .ref (a 0))]) hx hb dX6_tear_12 rfl hl (by decide) rfl (fun ls hl => ?_)
    refine lv_aload_n hx hb dX6_tear_13 rfl (lv_at hl 1 rfl) ?_
    refine lv_iconst (v := 0) hx hb dX6_tear_14 (by decide) ?_
    refine pM_this6_isKept hx hb hown hw6 hK hP hd hS u1 rfl rfl dX6_tear_15 (fun H locs hP hS => ?_)
    refine lv_iload_n hx hb dX6_tear_18 rfl (lv_at hl 0 rfl) ?_
    exact hQ ▸ rtI (v := bI z0)  hx hb hr hlk hP hS (by rw [← hres]) (by rw [← hres]) dX6_tear_19
  unfold fX6_tear at hres
  refine lv_aload_n hx hb dX6_tear_0 rfl (lv_at hl 0 rfl) ?_
  refine gM_this6_isKept hx hb hown hw6 hK hP u1 dX6_tear_1 ?_
  refine lv_if_eq (tgt := 11) hx hb dX6_tear_4 (by decide) (fun c4 => ?_) (fun c4 => ?_)
  · have hres := (itl hres).1 c4
    refine lv_iconst (v := 0) hx hb dX6_tear_11 (by decide) ?_
    exact b12 isk false hres _ _ _ hP hS (lv_sub hl [0] rfl)
  · have hres := (itl hres).2 c4
    refine lv_iconst (v := 1) hx hb dX6_tear_7 (by decide) ?_
    refine lv_goto (tgt := 12) hx hb dX6_tear_8 (by decide) ?_
    exact b12 isk true hres _ _ _ hP hS (lv_sub hl [0] rfl)
def fX6_count (sv : Nat → Int32) (fnd : Nat → Int32) (tpd : Int32) (x1 : Int32) : Option (Int32 × (Nat → Int32)) :=
  if x1 = 0 then some (sv (1 : Int32).toNatClampNeg, fnd) else if x1 = 1 then some (sv (2 : Int32).toNatClampNeg, fnd) else if x1 = 2 then some (sv (3 : Int32).toNatClampNeg, fnd) else if x1 = 3 then some (tpd, fnd) else if x1 = 4 then some (sv (0 : Int32).toNatClampNeg, fnd) else (fX6_no fnd (0 : Int32)).bind fun q71 => some (q71.1, q71.2)
abbrev rX6_count : Room := { frames := 1, cells := 0, slots := 0, locals := 21 }
set_option maxHeartbeats 4000000 in
set_option maxRecDepth 100000 in
theorem kX6_count (l : Launch) (D : va_G) (a : Nat → Nat) (cI cJ cS : ClassId) (hd : aok a 16) {Env : (Nat → Prop) → State → Heap → Prop} (hEo : envOK Env) (sv kep bef : Nat → Int32) (isk : Int32) (fnd : Nat → Int32) (man nex : Nat → Int64) (wor sng hea lat tap : Nat → Int32) (tpd her flt vlu : Int32) (bit lon : Nat → Int32) (cel btw : Nat → Int64) (x1 : Int32) (res : Int32 × (Nat → Int32)) (hres : fX6_count sv fnd tpd x1 = some res) : CtI l D (tyL cI cJ cS) 16 a Env yX6_count wsX6_count rX6_count [.ref (a 0), .int x1] (wM a cI cJ cS sv kep bef isk fnd man nex wor sng hea lat tap tpd her flt vlu bit lon cel btw) (wM a cI cJ cS sv kep bef isk res.2 man nex wor sng hea lat tap tpd her flt vlu bit lon cel btw) res.1 := by
  refine CtI_mk (cc := cX6_count) (maxL := 2) (ret := (some .int)) (by decide) rfl (Nat.le_of_ble_eq_true rfl) ?_
  intro p e s m args below meth c ls hx hb hr hlk hml hown hts hP hK hE hl
  have hS : va_S (adA a 16 s.heap.size) s.heap s.heap [] := va_S.rf
  have hl : lv_has ls 2 [(0, .ref (a 0)), (1, .int x1)] := hl
  have hown : s.vm.findClass RX6 = some m.cls := hown
  have hw6 : ∀ w ∈ wsX60, w.before args s = true := fun w h => hts w (List.mem_cons_of_mem _ (List.mem_append_right _ h))
  have u1 : (Cond.fieldLink RX6 9 "YearWordsModel" "s" "[I").before args s = true := hts _ (List.mem_of_getElem? (i := 1) (by decide +kernel))
  have u2 : (Cond.fieldLink RX6 170 "YearWordsModel" "taped" "I").before args s = true := hts _ (List.mem_of_getElem? (i := 2) (by decide +kernel))
  obtain ⟨Q, hQ⟩ : ∃ Q, Q = mqI below D 16 a args s (wM a cI cJ cS sv kep bef isk res.2 man nex wor sng hea lat tap tpd her flt vlu bit lon cel btw) res.1 := ⟨_, rfl⟩
  rw [← hQ]
  unfold fX6_count at hres
  refine lv_iload_n hx hb dX6_count_0 rfl (lv_at hl 1 rfl) ?_
  by_cases v1_0 : x1 = 0
  · have hres := (itl hres).1 v1_0
    refine lv_tableIn (off := 35) (tgt := 36) hx hb dX6_count_1 (by rw [v1_0]; decide) (by rw [v1_0]; decide) (by rw [v1_0]; rfl) (by decide) ?_
    refine lv_aload_n hx hb dX6_count_36 rfl (lv_at hl 0 rfl) ?_
    refine gM_this6_s hx hb hown hw6 hK hP u1 dX6_count_37 ?_
    refine lv_iconst (v := 1) hx hb dX6_count_40 (by decide) ?_
    have i41 : vp_in (1 : Int32) 166 := ib_in (by decide)
    refine lM_sv hx hb hK hP i41 dX6_count_41 ?_
    exact hQ ▸ rtI (v := sv (1 : Int32).toNatClampNeg)  hx hb hr hlk hP hS (by rw [← (Option.some.inj hres)]) (by rw [← (Option.some.inj hres)]) dX6_count_42
  · have hres := (itl hres).2 v1_0
    by_cases v1_1 : x1 = 1
    · have hres := (itl hres).1 v1_1
      refine lv_tableIn (off := 42) (tgt := 43) hx hb dX6_count_1 (by rw [v1_1]; decide) (by rw [v1_1]; decide) (by rw [v1_1]; rfl) (by decide) ?_
      refine lv_aload_n hx hb dX6_count_43 rfl (lv_at hl 0 rfl) ?_
      refine gM_this6_s hx hb hown hw6 hK hP u1 dX6_count_44 ?_
      refine lv_iconst (v := 2) hx hb dX6_count_47 (by decide) ?_
      have i48 : vp_in (2 : Int32) 166 := ib_in (by decide)
      refine lM_sv hx hb hK hP i48 dX6_count_48 ?_
      exact hQ ▸ rtI (v := sv (2 : Int32).toNatClampNeg)  hx hb hr hlk hP hS (by rw [← (Option.some.inj hres)]) (by rw [← (Option.some.inj hres)]) dX6_count_49
    · have hres := (itl hres).2 v1_1
      by_cases v1_2 : x1 = 2
      · have hres := (itl hres).1 v1_2
        refine lv_tableIn (off := 49) (tgt := 50) hx hb dX6_count_1 (by rw [v1_2]; decide) (by rw [v1_2]; decide) (by rw [v1_2]; rfl) (by decide) ?_
        refine lv_aload_n hx hb dX6_count_50 rfl (lv_at hl 0 rfl) ?_
        refine gM_this6_s hx hb hown hw6 hK hP u1 dX6_count_51 ?_
        refine lv_iconst (v := 3) hx hb dX6_count_54 (by decide) ?_
        have i55 : vp_in (3 : Int32) 166 := ib_in (by decide)
        refine lM_sv hx hb hK hP i55 dX6_count_55 ?_
        exact hQ ▸ rtI (v := sv (3 : Int32).toNatClampNeg)  hx hb hr hlk hP hS (by rw [← (Option.some.inj hres)]) (by rw [← (Option.some.inj hres)]) dX6_count_56
      · have hres := (itl hres).2 v1_2
        by_cases v1_3 : x1 = 3
        · have hres := (itl hres).1 v1_3
          refine lv_tableIn (off := 56) (tgt := 57) hx hb dX6_count_1 (by rw [v1_3]; decide) (by rw [v1_3]; decide) (by rw [v1_3]; rfl) (by decide) ?_
          refine lv_aload_n hx hb dX6_count_57 rfl (lv_at hl 0 rfl) ?_
          refine gM_this6_taped hx hb hown hw6 hK hP u2 dX6_count_58 ?_
          exact hQ ▸ rtI (v := tpd)  hx hb hr hlk hP hS (by rw [← (Option.some.inj hres)]) (by rw [← (Option.some.inj hres)]) dX6_count_61
        · have hres := (itl hres).2 v1_3
          by_cases v1_4 : x1 = 4
          · have hres := (itl hres).1 v1_4
            refine lv_tableIn (off := 61) (tgt := 62) hx hb dX6_count_1 (by rw [v1_4]; decide) (by rw [v1_4]; decide) (by rw [v1_4]; rfl) (by decide) ?_
            refine lv_aload_n hx hb dX6_count_62 rfl (lv_at hl 0 rfl) ?_
            refine gM_this6_s hx hb hown hw6 hK hP u1 dX6_count_63 ?_
            refine lv_iconst (v := 0) hx hb dX6_count_66 (by decide) ?_
            have i67 : vp_in (0 : Int32) 166 := ib_in (by decide)
            refine lM_sv hx hb hK hP i67 dX6_count_67 ?_
            exact hQ ▸ rtI (v := sv (0 : Int32).toNatClampNeg)  hx hb hr hlk hP hS (by rw [← (Option.some.inj hres)]) (by rw [← (Option.some.inj hres)]) dX6_count_68
          · have hres := (itl hres).2 v1_4
            refine lv_tableOut (tgt := 69) hx hb dX6_count_1 (sw04 v1_0 v1_1 v1_2 v1_3 v1_4) (by decide) ?_
            refine lv_aload_n hx hb dX6_count_69 rfl (lv_at hl 0 rfl) ?_
            refine lv_iconst (v := 0) hx hb dX6_count_70 (by decide) ?_
            obtain ⟨q71, e71, hres⟩ := obd hres
            refine cvI (q0 := 0) (ci := 6) hx hb hml hown hts hEo hE hK hP hS (kX6_no l D a cI cJ cS hd hEo sv kep bef isk fnd man nex wor sng hea lat tap tpd her flt vlu bit lon cel btw (0 : Int32) q71 e71) gX6_count_X6_no rfl hdX6_no rfl rfl rfl ⟨rfl, rfl⟩ ⟨Nat.le_of_ble_eq_true rfl, Nat.le_of_ble_eq_true rfl⟩ ⟨Nat.zero_le _, Nat.zero_le _⟩ rfl hl.1 rfl (Nat.le_of_ble_eq_true rfl) dX6_count_71 (fun H locs hP hS => ?_)
            exact hQ ▸ rtI (v := q71.1)  hx hb hr hlk hP hS (by rw [← (Option.some.inj hres)]) (by rw [← (Option.some.inj hres)]) dX6_count_74
def fX6_status_b47 (K20 : Int32 → Int32 → Option (Int32 × (Nat → Int32))) (x3 : Int32) (z0 : Int32) (z1 : Int32) : Option (Int32 × (Nat → Int32)) :=
  K20 (z0 + z1) (x3 + 1)
def fX6_status_b37 (K20 : Int32 → Int32 → Option (Int32 × (Nat → Int32))) (fnd : Nat → Int32) (x3 : Int32) (z0 : Int32) : Option (Int32 × (Nat → Int32)) :=
  gd (ib x3 7) (fX6_status_b47 K20 x3 z0 (fnd x3.toNatClampNeg))
def fX6_status_l20 (fnd : Nat → Int32) (x1 : Int32) (K20 : Int32 → Int32 → Option (Int32 × (Nat → Int32))) (x2 : Int32) (x3 : Int32) : Option (Int32 × (Nat → Int32)) :=
  if (7 : Int32) ≤ x3 then some (x2, fnd) else if x1 = (-1 : Int32) then fX6_status_b37 K20 fnd x3 x2 else if x1 = x3 then fX6_status_b37 K20 fnd x3 x2 else fX6_status_b47 K20 x3 x2 (0 : Int32)
def fX6_status (fnd : Nat → Int32) (x1 : Int32) : Option (Int32 × (Nat → Int32)) :=
  if (bI (fX6_in x1 (-1 : Int32) (6 : Int32))) = 0 then (fX6_no fnd (0 : Int32)).bind fun q12 => some (q12.1, q12.2) else fix2 (fX6_status_l20 fnd x1) 2000 (0 : Int32) (0 : Int32)
abbrev rX6_status : Room := { frames := 1, cells := 0, slots := 0, locals := 22 }
set_option maxHeartbeats 4000000 in
set_option maxRecDepth 100000 in
theorem kX6_status (l : Launch) (D : va_G) (a : Nat → Nat) (cI cJ cS : ClassId) (hd : aok a 16) {Env : (Nat → Prop) → State → Heap → Prop} (hEo : envOK Env) (sv kep bef : Nat → Int32) (isk : Int32) (fnd : Nat → Int32) (man nex : Nat → Int64) (wor sng hea lat tap : Nat → Int32) (tpd her flt vlu : Int32) (bit lon : Nat → Int32) (cel btw : Nat → Int64) (x1 : Int32) (res : Int32 × (Nat → Int32)) (hres : fX6_status fnd x1 = some res) : CtI l D (tyL cI cJ cS) 16 a Env yX6_status wsX6_status rX6_status [.ref (a 0), .int x1] (wM a cI cJ cS sv kep bef isk fnd man nex wor sng hea lat tap tpd her flt vlu bit lon cel btw) (wM a cI cJ cS sv kep bef isk res.2 man nex wor sng hea lat tap tpd her flt vlu bit lon cel btw) res.1 := by
  refine CtI_mk (cc := cX6_status) (maxL := 4) (ret := (some .int)) (by decide) rfl (Nat.le_of_ble_eq_true rfl) ?_
  intro p e s m args below meth c ls hx hb hr hlk hml hown hts hP hK hE hl
  have hS : va_S (adA a 16 s.heap.size) s.heap s.heap [] := va_S.rf
  have hl : lv_has ls 4 [(0, .ref (a 0)), (1, .int x1)] := hl
  have hown : s.vm.findClass RX6 = some m.cls := hown
  have hw6 : ∀ w ∈ wsX60, w.before args s = true := fun w h => hts w (List.mem_cons_of_mem _ (List.mem_append_right _ h))
  have u1 : (Cond.fieldLink RX6 19 "YearWordsModel" "findings" "[I").before args s = true := hts _ (List.mem_of_getElem? (i := 1) (by decide +kernel))
  obtain ⟨Q, hQ⟩ : ∃ Q, Q = mqI below D 16 a args s (wM a cI cJ cS sv kep bef isk res.2 man nex wor sng hea lat tap tpd her flt vlu bit lon cel btw) res.1 := ⟨_, rfl⟩
  rw [← hQ]
  have b20 : ∀ (fnd : Nat → Int32) (n : Nat) (x2 : Int32) (x3 : Int32), fix2 (fX6_status_l20 fnd x1) n x2 x3 = some res → ∀ (H : Heap) (locs : List Loc) (ls : Array Slot), va_P D vwCl (wM a cI cJ cS sv kep bef isk fnd man nex wor sng hea lat tap tpd her flt vlu bit lon cel btw) H → va_S (adA a 16 s.heap.size) s.heap H locs → lv_has ls 4 [(0, .ref (a 0)), (1, .int x1), (2, .int x2), (3, .int x3)] → W p l e rX6_status s m args below meth c H locs 0 0 Q (F0 m 20 ls []) := by
    intro fnd
    refine fix2_r ?_
    intro K20 hK20 x2 x3 hres H locs ls hP hS hl
    have b47 : ∀ (x3 : Int32) (z0 : Int32) (z1 : Int32), fX6_status_b47 K20 x3 z0 z1 = some res → ∀ (H : Heap) (locs : List Loc) (ls : Array Slot), va_P D vwCl (wM a cI cJ cS sv kep bef isk fnd man nex wor sng hea lat tap tpd her flt vlu bit lon cel btw) H → va_S (adA a 16 s.heap.size) s.heap H locs → lv_has ls 4 [(0, .ref (a 0)), (1, .int x1), (3, .int x3)] → W p l e rX6_status s m args below meth c H locs 0 0 Q (F0 m 47 ls [.int z1, .int z0]) := by
      intro x3 z0 z1 hres H locs ls hP hS hl
      unfold fX6_status_b47 at hres
      refine lv_iadd hx hb dX6_status_47 ?_
      refine lv_istore_n (lv' := [(2, .int (z0 + z1)), (0, .ref (a 0)), (1, .int x1), (3, .int x3)]) hx hb dX6_status_48 rfl hl (by decide) rfl (fun ls hl => ?_)
      refine lv_iinc (v := x3 + 1) (lv' := [(3, .int (x3 + 1)), (2, .int (z0 + z1)), (0, .ref (a 0)), (1, .int x1)]) hx hb dX6_status_49 hl (k := 3) rfl (congrArg (fun z => x3 + z) (by decide)) (by decide) rfl (fun ls hl => ?_)
      refine lv_goto (tgt := 20) hx hb dX6_status_52 (by decide) ?_
      exact hK20 (z0 + z1) (x3 + 1) hres _ _ _ hP hS (lv_sub hl [2, 3, 1, 0] rfl)
    have b37 : ∀ (x3 : Int32) (z0 : Int32), fX6_status_b37 K20 fnd x3 z0 = some res → ∀ (H : Heap) (locs : List Loc) (ls : Array Slot), va_P D vwCl (wM a cI cJ cS sv kep bef isk fnd man nex wor sng hea lat tap tpd her flt vlu bit lon cel btw) H → va_S (adA a 16 s.heap.size) s.heap H locs → lv_has ls 4 [(0, .ref (a 0)), (1, .int x1), (3, .int x3)] → W p l e rX6_status s m args below meth c H locs 0 0 Q (F0 m 37 ls [.int z0]) := by
      intro x3 z0 hres H locs ls hP hS hl
      unfold fX6_status_b37 at hres
      refine lv_aload_n hx hb dX6_status_37 rfl (lv_at hl 0 rfl) ?_
      refine gM_this6_findings hx hb hown hw6 hK hP u1 dX6_status_38 ?_
      refine lv_iload_n hx hb dX6_status_41 rfl (lv_at hl 2 rfl) ?_
      obtain ⟨i42, hres⟩ := gdi hres
      refine lM_fnd hx hb hK hP i42 dX6_status_42 ?_
      refine lv_goto (tgt := 47) hx hb dX6_status_43 (by decide) ?_
      exact b47 x3 z0 (fnd x3.toNatClampNeg) hres _ _ _ hP hS (lv_sub hl [0, 1, 2] rfl)
    unfold fX6_status_l20 at hres
    refine lv_iload_n hx hb dX6_status_20 rfl (lv_at hl 3 rfl) ?_
    refine lv_bipush (v := 7) hx hb dX6_status_21 (by decide) ?_
    refine lv_icmp_ge (tgt := 55) hx hb dX6_status_23 (by decide) (fun c23 => ?_) (fun c23 => ?_)
    · have hres := (itl hres).1 c23
      refine lv_iload_n hx hb dX6_status_55 rfl (lv_at hl 2 rfl) ?_
      exact hQ ▸ rtI (v := x2)  hx hb hr hlk hP hS (by rw [← (Option.some.inj hres)]) (by rw [← (Option.some.inj hres)]) dX6_status_56
    · have hres := (itl hres).2 c23
      refine lv_iload_n hx hb dX6_status_26 rfl (lv_at hl 2 rfl) ?_
      refine lv_iload_n hx hb dX6_status_27 rfl (lv_at hl 1 rfl) ?_
      refine lv_iconst (v := (-1)) hx hb dX6_status_28 (by decide) ?_
      refine lv_icmp_eq (tgt := 37) hx hb dX6_status_29 (by decide) (fun c29 => ?_) (fun c29 => ?_)
      · have hres := (itl hres).1 c29
        exact b37 x3 x2 hres _ _ _ hP hS (lv_sub hl [0, 1, 3] rfl)
      · have hres := (itl hres).2 c29
        refine lv_iload_n hx hb dX6_status_32 rfl (lv_at hl 1 rfl) ?_
        refine lv_iload_n hx hb dX6_status_33 rfl (lv_at hl 3 rfl) ?_
        refine lv_icmp_ne (tgt := 46) hx hb dX6_status_34 (by decide) (fun c34 => ?_) (fun c34 => ?_)
        · have hres := (itl hres).2 c34
          refine lv_iconst (v := 0) hx hb dX6_status_46 (by decide) ?_
          exact b47 x3 x2 (0 : Int32) hres _ _ _ hP hS (lv_sub hl [0, 1, 3] rfl)
        · have hres := (itl hres).1 c34
          exact b37 x3 x2 hres _ _ _ hP hS (lv_sub hl [0, 1, 3] rfl)
  unfold fX6_status at hres
  refine lv_iload_n hx hb dX6_status_0 rfl (lv_at hl 1 rfl) ?_
  refine lv_iconst (v := (-1)) hx hb dX6_status_1 (by decide) ?_
  refine lv_bipush (v := 6) hx hb dX6_status_2 (by decide) ?_
  refine csI hx hb hml hown hts hEo hE hK hP hS (kX6_in l D a cI cJ cS hd hEo sv kep bef isk fnd man nex wor sng hea lat tap tpd her flt vlu bit lon cel btw x1 (-1 : Int32) (6 : Int32)) gX6_status_X6_in rfl hdX6_in ⟨rfl, rfl⟩ ⟨Nat.le_of_ble_eq_true rfl, Nat.le_of_ble_eq_true rfl⟩ ⟨Nat.zero_le _, Nat.zero_le _⟩ rfl hl.1 rfl (Nat.le_of_ble_eq_true rfl) dX6_status_4 (fun H locs hP hS => ?_)
  refine lv_if_ne (tgt := 16) hx hb dX6_status_7 (by decide) (fun c7 => ?_) (fun c7 => ?_)
  · have hres := (itl hres).2 c7
    refine lv_iconst (v := 0) hx hb dX6_status_16 (by decide) ?_
    refine lv_istore_n (lv' := [(2, .int (0 : Int32)), (0, .ref (a 0)), (1, .int x1)]) hx hb dX6_status_17 rfl hl (by decide) rfl (fun ls hl => ?_)
    refine lv_iconst (v := 0) hx hb dX6_status_18 (by decide) ?_
    refine lv_istore_n (lv' := [(3, .int (0 : Int32)), (2, .int (0 : Int32)), (0, .ref (a 0)), (1, .int x1)]) hx hb dX6_status_19 rfl hl (by decide) rfl (fun ls hl => ?_)
    exact b20 fnd 2000 (0 : Int32) (0 : Int32) hres _ _ _ hP hS (lv_sub hl [2, 3, 1, 0] rfl)
  · have hres := (itl hres).1 c7
    refine lv_aload_n hx hb dX6_status_10 rfl (lv_at hl 0 rfl) ?_
    refine lv_iconst (v := 0) hx hb dX6_status_11 (by decide) ?_
    obtain ⟨q12, e12, hres⟩ := obd hres
    refine cvI (q0 := 0) (ci := 6) hx hb hml hown hts hEo hE hK hP hS (kX6_no l D a cI cJ cS hd hEo sv kep bef isk fnd man nex wor sng hea lat tap tpd her flt vlu bit lon cel btw (0 : Int32) q12 e12) gX6_status_X6_no rfl hdX6_no rfl rfl rfl ⟨rfl, rfl⟩ ⟨Nat.le_of_ble_eq_true rfl, Nat.le_of_ble_eq_true rfl⟩ ⟨Nat.zero_le _, Nat.zero_le _⟩ rfl hl.1 rfl (Nat.le_of_ble_eq_true rfl) dX6_status_12 (fun H locs hP hS => ?_)
    exact hQ ▸ rtI (v := q12.1)  hx hb hr hlk hP hS (by rw [← (Option.some.inj hres)]) (by rw [← (Option.some.inj hres)]) dX6_status_15
