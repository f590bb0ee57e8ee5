def fX6_in (x0 : Int32) (x1 : Int32) (x2 : Int32) : Bool :=
  if x0 < x1 then false else if x2 < x0 then false else true
abbrev rX6_in : Room := { frames := 0, cells := 0, slots := 0, locals := 0 }
set_option maxHeartbeats 4000000 in
set_option maxRecDepth 100000 in
theorem kX6_in (l : Launch) (D : va_G) (a : Nat → Nat) (cI cJ cS : ClassId) (hd : aok a 16) {Env : (Nat → Prop) → State → Heap → Prop} (hEo : envOK Env) (sv kep bef : Nat → Int32) (isk : Int32) (fnd : Nat → Int32) (man nex : Nat → Int64) (wor sng hea lat tap : Nat → Int32) (tpd her flt vlu : Int32) (bit lon : Nat → Int32) (cel btw : Nat → Int64) (x0 : Int32) (x1 : Int32) (x2 : Int32) : CtI l D (tyL cI cJ cS) 16 a Env yX6_in wsX6_in rX6_in [.int x0, .int x1, .int x2] (wM a cI cJ cS sv kep bef isk fnd man nex wor sng hea lat tap tpd her flt vlu bit lon cel btw) (wM a cI cJ cS sv kep bef isk fnd man nex wor sng hea lat tap tpd her flt vlu bit lon cel btw) (bI (fX6_in x0 x1 x2)) := by
  generalize hres : fX6_in x0 x1 x2 = res
  refine CtI_mk (cc := cX6_in) (maxL := 3) (ret := (some .boolean)) (by decide) rfl (Nat.le_of_ble_eq_true rfl) ?_
  intro p e s m args below meth c ls hx hb hr hlk hml hown hts hP hK hE hl
  have hS : va_S (adA a 16 s.heap.size) s.heap s.heap [] := va_S.rf
  have hl : lv_has ls 3 [(0, .int x0), (1, .int x1), (2, .int x2)] := hl
  have hown : s.vm.findClass RX6 = some m.cls := hown
  obtain ⟨Q, hQ⟩ : ∃ Q, Q = mqI below D 16 a args s (wM a cI cJ cS sv kep bef isk fnd man nex wor sng hea lat tap tpd her flt vlu bit lon cel btw) (bI res) := ⟨_, rfl⟩
  rw [← hQ]
  unfold fX6_in at hres
  refine lv_iload_n hx hb dX6_in_0 rfl (lv_at hl 0 rfl) ?_
  refine lv_iload_n hx hb dX6_in_1 rfl (lv_at hl 1 rfl) ?_
  refine lv_icmp_lt (tgt := 14) hx hb dX6_in_2 (by decide) (fun c2 => ?_) (fun c2 => ?_)
  · have hres := (itl hres).1 c2
    refine lv_iconst (v := 0) hx hb dX6_in_14 (by decide) ?_
    exact hQ ▸ rtZ (v := false)  hx hb hr hlk hP hS (by rw [← hres]) rfl dX6_in_15
  · have hres := (itl hres).2 c2
    refine lv_iload_n hx hb dX6_in_5 rfl (lv_at hl 0 rfl) ?_
    refine lv_iload_n hx hb dX6_in_6 rfl (lv_at hl 2 rfl) ?_
    refine lv_icmp_gt (tgt := 14) hx hb dX6_in_7 (by decide) (fun c7 => ?_) (fun c7 => ?_)
    · have hres := (itl hres).1 c7
      refine lv_iconst (v := 0) hx hb dX6_in_14 (by decide) ?_
      exact hQ ▸ rtZ (v := false)  hx hb hr hlk hP hS (by rw [← hres]) rfl dX6_in_15
    · have hres := (itl hres).2 c7
      refine lv_iconst (v := 1) hx hb dX6_in_10 (by decide) ?_
      refine lv_goto (tgt := 15) hx hb dX6_in_11 (by decide) ?_
      exact hQ ▸ rtZ (v := true)  hx hb hr hlk hP hS (by rw [← hres]) rfl dX6_in_15
def fX6_no (fnd : Nat → Int32) (x1 : Int32) : Option (Int32 × (Nat → Int32)) :=
  gd (ib x1 7) (gd (ib x1 7) (some ((-1000000001 : Int32) - x1, upd fnd x1.toNatClampNeg ((fnd x1.toNatClampNeg) + (1 : Int32)))))
abbrev rX6_no : Room := { frames := 0, cells := 0, slots := 0, locals := 0 }
set_option maxHeartbeats 4000000 in
set_option maxRecDepth 100000 in
theorem kX6_no (l : Launch) (D : va_G) (a : Nat → Nat) (cI cJ cS : ClassId) (hd : aok a 16) {Env : (Nat → Prop) → State → Heap → Prop} (hEo : envOK Env) (sv kep bef : Nat → Int32) (isk : Int32) (fnd : Nat → Int32) (man nex : Nat → Int64) (wor sng hea lat tap : Nat → Int32) (tpd her flt vlu : Int32) (bit lon : Nat → Int32) (cel btw : Nat → Int64) (x1 : Int32) (res : Int32 × (Nat → Int32)) (hres : fX6_no fnd x1 = some res) : CtI l D (tyL cI cJ cS) 16 a Env yX6_no wsX6_no rX6_no [.ref (a 0), .int x1] (wM a cI cJ cS sv kep bef isk fnd man nex wor sng hea lat tap tpd her flt vlu bit lon cel btw) (wM a cI cJ cS sv kep bef isk res.2 man nex wor sng hea lat tap tpd her flt vlu bit lon cel btw) res.1 := by
  refine CtI_mk (cc := cX6_no) (maxL := 2) (ret := (some .int)) (by decide) rfl (Nat.le_of_ble_eq_true rfl) ?_
  intro p e s m args below meth c ls hx hb hr hlk hml hown hts hP hK hE hl
  have hS : va_S (adA a 16 s.heap.size) s.heap s.heap [] := va_S.rf
  have hl : lv_has ls 2 [(0, .ref (a 0)), (1, .int x1)] := hl
  have hown : s.vm.findClass RX6 = some m.cls := hown
  have hw6 : ∀ w ∈ wsX60, w.before args s = true := fun w h => hts w (List.mem_cons_of_mem _ (List.mem_append_right _ h))
  have u1 : (Cond.fieldLink RX6 19 "YearWordsModel" "findings" "[I").before args s = true := hts _ (List.mem_of_getElem? (i := 1) (by decide +kernel))
  have u2 : (Cond.constant RX6 56 (-1000000001)).before args s = true := hts _ (List.mem_of_getElem? (i := 2) (by decide +kernel))
  obtain ⟨Q, hQ⟩ : ∃ Q, Q = mqI below D 16 a args s (wM a cI cJ cS sv kep bef isk res.2 man nex wor sng hea lat tap tpd her flt vlu bit lon cel btw) res.1 := ⟨_, rfl⟩
  rw [← hQ]
  unfold fX6_no at hres
  refine lv_aload_n hx hb dX6_no_0 rfl (lv_at hl 0 rfl) ?_
  refine gM_this6_findings hx hb hown hw6 hK hP u1 dX6_no_1 ?_
  refine lv_iload_n hx hb dX6_no_4 rfl (lv_at hl 1 rfl) ?_
  refine lv_dup2_11 hx hb dX6_no_5 rfl rfl ?_
  obtain ⟨i6, hres⟩ := gdi hres
  refine lM_fnd hx hb hK hP i6 dX6_no_6 ?_
  refine lv_iconst (v := 1) hx hb dX6_no_7 (by decide) ?_
  refine lv_iadd hx hb dX6_no_8 ?_
  obtain ⟨i9, hres⟩ := gdi hres
  refine sM_fnd hx hb hK hP hd hS i9 dX6_no_9 (fun H locs hP hS => ?_)
  refine lv_ldc hx hb hown u2 dX6_no_10 ?_
  refine lv_iload_n hx hb dX6_no_12 rfl (lv_at hl 1 rfl) ?_
  refine lv_isub hx hb dX6_no_13 ?_
  exact hQ ▸ rtI (v := (-1000000001 : Int32) - x1)  hx hb hr hlk hP hS (by rw [← (Option.some.inj hres)]) (by rw [← (Option.some.inj hres)]) dX6_no_14
def fX6_lay_sv_kep_l2 (sv : Nat → Int32) (K2 : Int32 → (Nat → Int32) → Option ((Nat → Int32))) (x2 : Int32) (kep : Nat → Int32) : Option ((Nat → Int32)) :=
  if (166 : Int32) ≤ x2 then some kep else gd (ib x2 166) (gd (ib x2 166) (K2 (x2 + 1) (upd kep x2.toNatClampNeg (sv x2.toNatClampNeg))))
def fX6_lay_sv_kep (sv : Nat → Int32) (kep : Nat → Int32) : Option ((Nat → Int32)) :=
  fix2 (fX6_lay_sv_kep_l2 sv) 2000 (0 : Int32) kep
abbrev rX6_lay_sv_kep : Room := { frames := 0, cells := 0, slots := 0, locals := 0 }
set_option maxHeartbeats 4000000 in
set_option maxRecDepth 100000 in
theorem kX6_lay_sv_kep (l : Launch) (D : va_G) (a : Nat → Nat) (cI cJ cS : ClassId) (hd : aok a 16) {Env : (Nat → Prop) → State → Heap → Prop} (hEo : envOK Env) (sv kep bef : Nat → Int32) (isk : Int32) (fnd : Nat → Int32) (man nex : Nat → Int64) (wor sng hea lat tap : Nat → Int32) (tpd her flt vlu : Int32) (bit lon : Nat → Int32) (cel btw : Nat → Int64)  (res : (Nat → Int32)) (hres : fX6_lay_sv_kep sv kep = some res) : CtV l D (tyL cI cJ cS) 16 a Env yX6_lay wsX6_lay rX6_lay_sv_kep [.ref (a 1), .ref (a 2)] (wM a cI cJ cS sv kep bef isk fnd man nex wor sng hea lat tap tpd her flt vlu bit lon cel btw) (wM a cI cJ cS sv res bef isk fnd man nex wor sng hea lat tap tpd her flt vlu bit lon cel btw) := by
  refine CtV_mk (cc := cX6_lay) (maxL := 3) (ret := none) (by decide) rfl (Nat.le_of_ble_eq_true rfl) ?_
  intro p e s m args below meth c ls hx hb hr hlk hml hown hts hP hK hE hl
  have hS : va_S (adA a 16 s.heap.size) s.heap s.heap [] := va_S.rf
  have hl : lv_has ls 3 [(0, .ref (a 1)), (1, .ref (a 2))] := hl
  have hown : s.vm.findClass RX6 = some m.cls := hown
  obtain ⟨Q, hQ⟩ : ∃ Q, Q = mqV below D 16 a args s (wM a cI cJ cS sv res bef isk fnd man nex wor sng hea lat tap tpd her flt vlu bit lon cel btw) := ⟨_, rfl⟩
  rw [← hQ]
  have b2 : ∀  (n : Nat) (x2 : Int32) (kep : Nat → Int32), fix2 (fX6_lay_sv_kep_l2 sv) n x2 kep = some res → ∀ (H : Heap) (locs : List Loc) (ls : Array Slot), va_P D vwCl (wM a cI cJ cS sv kep bef isk fnd man nex wor sng hea lat tap tpd her flt vlu bit lon cel btw) H → va_S (adA a 16 s.heap.size) s.heap H locs → lv_has ls 3 [(0, .ref (a 1)), (1, .ref (a 2)), (2, .int x2)] → W p l e rX6_lay_sv_kep s m args below meth c H locs 0 0 Q (F0 m 2 ls []) := by
    refine fix2_r ?_
    intro K2 hK2 x2 kep hres H locs ls hP hS hl
    unfold fX6_lay_sv_kep_l2 at hres
    refine lv_iload_n hx hb dX6_lay_2 rfl (lv_at hl 2 rfl) ?_
    refine lv_sipush (v := 166) hx hb dX6_lay_3 (by decide) ?_
    refine lv_icmp_ge (tgt := 21) hx hb dX6_lay_6 (by decide) (fun c6 => ?_) (fun c6 => ?_)
    · have hres := (itl hres).1 c6
      exact hQ ▸ rtV hx hb hr hlk hP hS (by rw [← (Option.some.inj hres)]) dX6_lay_21
    · have hres := (itl hres).2 c6
      refine lv_aload_n hx hb dX6_lay_9 rfl (lv_at hl 1 rfl) ?_
      refine lv_iload_n hx hb dX6_lay_10 rfl (lv_at hl 2 rfl) ?_
      refine lv_aload_n hx hb dX6_lay_11 rfl (lv_at hl 0 rfl) ?_
      refine lv_iload_n hx hb dX6_lay_12 rfl (lv_at hl 2 rfl) ?_
      obtain ⟨i13, hres⟩ := gdi hres
      refine lM_sv hx hb hK hP i13 dX6_lay_13 ?_
      obtain ⟨i14, hres⟩ := gdi hres
      refine sM_kep hx hb hK hP hd hS i14 dX6_lay_14 (fun H locs hP hS => ?_)
      refine lv_iinc (v := x2 + 1) (lv' := [(2, .int (x2 + 1)), (0, .ref (a 1)), (1, .ref (a 2))]) hx hb dX6_lay_15 hl (k := 2) rfl (congrArg (fun z => x2 + z) (by decide)) (by decide) rfl (fun ls hl => ?_)
      refine lv_goto (tgt := 2) hx hb dX6_lay_18 (by decide) ?_
      exact hK2 (x2 + 1) (upd kep x2.toNatClampNeg (sv x2.toNatClampNeg)) hres _ _ _ hP hS (lv_sub hl [1, 2, 0] rfl)
  unfold fX6_lay_sv_kep at hres
  refine lv_iconst (v := 0) hx hb dX6_lay_0 (by decide) ?_
  refine lv_istore_n (lv' := [(2, .int (0 : Int32)), (0, .ref (a 1)), (1, .ref (a 2))]) hx hb dX6_lay_1 rfl hl (by decide) rfl (fun ls hl => ?_)
  exact b2  2000 (0 : Int32) kep hres _ _ _ hP hS (lv_sub hl [1, 2, 0] rfl)
def fX6_lay_kep_sv_l2 (kep : Nat → Int32) (K2 : Int32 → (Nat → Int32) → Option ((Nat → Int32))) (x2 : Int32) (sv : Nat → Int32) : Option ((Nat → Int32)) :=
  if (166 : Int32) ≤ x2 then some sv else gd (ib x2 166) (gd (ib x2 166) (K2 (x2 + 1) (upd sv x2.toNatClampNeg (kep x2.toNatClampNeg))))
def fX6_lay_kep_sv (sv : Nat → Int32) (kep : Nat → Int32) : Option ((Nat → Int32)) :=
  fix2 (fX6_lay_kep_sv_l2 kep) 2000 (0 : Int32) sv
abbrev rX6_lay_kep_sv : Room := { frames := 0, cells := 0, slots := 0, locals := 0 }
set_option maxHeartbeats 4000000 in
set_option maxRecDepth 100000 in
theorem kX6_lay_kep_sv (l : Launch) (D : va_G) (a : Nat → Nat) (cI cJ cS : ClassId) (hd : aok a 16) {Env : (Nat → Prop) → State → Heap → Prop} (hEo : envOK Env) (sv kep bef : Nat → Int32) (isk : Int32) (fnd : Nat → Int32) (man nex : Nat → Int64) (wor sng hea lat tap : Nat → Int32) (tpd her flt vlu : Int32) (bit lon : Nat → Int32) (cel btw : Nat → Int64)  (res : (Nat → Int32)) (hres : fX6_lay_kep_sv sv kep = some res) : CtV l D (tyL cI cJ cS) 16 a Env yX6_lay wsX6_lay rX6_lay_kep_sv [.ref (a 2), .ref (a 1)] (wM a cI cJ cS sv kep bef isk fnd man nex wor sng hea lat tap tpd her flt vlu bit lon cel btw) (wM a cI cJ cS res kep bef isk fnd man nex wor sng hea lat tap tpd her flt vlu bit lon cel btw) := by
  refine CtV_mk (cc := cX6_lay) (maxL := 3) (ret := none) (by decide) rfl (Nat.le_of_ble_eq_true rfl) ?_
  intro p e s m args below meth c ls hx hb hr hlk hml hown hts hP hK hE hl
  have hS : va_S (adA a 16 s.heap.size) s.heap s.heap [] := va_S.rf
  have hl : lv_has ls 3 [(0, .ref (a 2)), (1, .ref (a 1))] := hl
  have hown : s.vm.findClass RX6 = some m.cls := hown
  obtain ⟨Q, hQ⟩ : ∃ Q, Q = mqV below D 16 a args s (wM a cI cJ cS res kep bef isk fnd man nex wor sng hea lat tap tpd her flt vlu bit lon cel btw) := ⟨_, rfl⟩
  rw [← hQ]
  have b2 : ∀  (n : Nat) (x2 : Int32) (sv : Nat → Int32), fix2 (fX6_lay_kep_sv_l2 kep) n x2 sv = some res → ∀ (H : Heap) (locs : List Loc) (ls : Array Slot), va_P D vwCl (wM a cI cJ cS sv kep bef isk fnd man nex wor sng hea lat tap tpd her flt vlu bit lon cel btw) H → va_S (adA a 16 s.heap.size) s.heap H locs → lv_has ls 3 [(0, .ref (a 2)), (1, .ref (a 1)), (2, .int x2)] → W p l e rX6_lay_kep_sv s m args below meth c H locs 0 0 Q (F0 m 2 ls []) := by
    refine fix2_r ?_
    intro K2 hK2 x2 sv hres H locs ls hP hS hl
    unfold fX6_lay_kep_sv_l2 at hres
    refine lv_iload_n hx hb dX6_lay_2 rfl (lv_at hl 2 rfl) ?_
    refine lv_sipush (v := 166) hx hb dX6_lay_3 (by decide) ?_
    refine lv_icmp_ge (tgt := 21) hx hb dX6_lay_6 (by decide) (fun c6 => ?_) (fun c6 => ?_)
    · have hres := (itl hres).1 c6
      exact hQ ▸ rtV hx hb hr hlk hP hS (by rw [← (Option.some.inj hres)]) dX6_lay_21
    · have hres := (itl hres).2 c6
      refine lv_aload_n hx hb dX6_lay_9 rfl (lv_at hl 1 rfl) ?_
      refine lv_iload_n hx hb dX6_lay_10 rfl (lv_at hl 2 rfl) ?_
      refine lv_aload_n hx hb dX6_lay_11 rfl (lv_at hl 0 rfl) ?_
      refine lv_iload_n hx hb dX6_lay_12 rfl (lv_at hl 2 rfl) ?_
      obtain ⟨i13, hres⟩ := gdi hres
      refine lM_kep hx hb hK hP i13 dX6_lay_13 ?_
      obtain ⟨i14, hres⟩ := gdi hres
      refine sM_sv hx hb hK hP hd hS i14 dX6_lay_14 (fun H locs hP hS => ?_)
      refine lv_iinc (v := x2 + 1) (lv' := [(2, .int (x2 + 1)), (0, .ref (a 2)), (1, .ref (a 1))]) hx hb dX6_lay_15 hl (k := 2) rfl (congrArg (fun z => x2 + z) (by decide)) (by decide) rfl (fun ls hl => ?_)
      refine lv_goto (tgt := 2) hx hb dX6_lay_18 (by decide) ?_
      exact hK2 (x2 + 1) (upd sv x2.toNatClampNeg (kep x2.toNatClampNeg)) hres _ _ _ hP hS (lv_sub hl [1, 2, 0] rfl)
  unfold fX6_lay_kep_sv at hres
  refine lv_iconst (v := 0) hx hb dX6_lay_0 (by decide) ?_
  refine lv_istore_n (lv' := [(2, .int (0 : Int32)), (0, .ref (a 2)), (1, .ref (a 1))]) hx hb dX6_lay_1 rfl hl (by decide) rfl (fun ls hl => ?_)
  exact b2  2000 (0 : Int32) sv hres _ _ _ hP hS (lv_sub hl [1, 2, 0] rfl)
def fX6_lay_sv_bef_l2 (sv : Nat → Int32) (K2 : Int32 → (Nat → Int32) → Option ((Nat → Int32))) (x2 : Int32) (bef : Nat → Int32) : Option ((Nat → Int32)) :=
  if (166 : Int32) ≤ x2 then some bef else gd (ib x2 166) (gd (ib x2 166) (K2 (x2 + 1) (upd bef x2.toNatClampNeg (sv x2.toNatClampNeg))))
def fX6_lay_sv_bef (sv : Nat → Int32) (bef : Nat → Int32) : Option ((Nat → Int32)) :=
  fix2 (fX6_lay_sv_bef_l2 sv) 2000 (0 : Int32) bef
abbrev rX6_lay_sv_bef : Room := { frames := 0, cells := 0, slots := 0, locals := 0 }
set_option maxHeartbeats 4000000 in
set_option maxRecDepth 100000 in
theorem kX6_lay_sv_bef (l : Launch) (D : va_G) (a : Nat → Nat) (cI cJ cS : ClassId) (hd : aok a 16) {Env : (Nat → Prop) → State → Heap → Prop} (hEo : envOK Env) (sv kep bef : Nat → Int32) (isk : Int32) (fnd : Nat → Int32) (man nex : Nat → Int64) (wor sng hea lat tap : Nat → Int32) (tpd her flt vlu : Int32) (bit lon : Nat → Int32) (cel btw : Nat → Int64)  (res : (Nat → Int32)) (hres : fX6_lay_sv_bef sv bef = some res) : CtV l D (tyL cI cJ cS) 16 a Env yX6_lay wsX6_lay rX6_lay_sv_bef [.ref (a 1), .ref (a 3)] (wM a cI cJ cS sv kep bef isk fnd man nex wor sng hea lat tap tpd her flt vlu bit lon cel btw) (wM a cI cJ cS sv kep res isk fnd man nex wor sng hea lat tap tpd her flt vlu bit lon cel btw) := by
  refine CtV_mk (cc := cX6_lay) (maxL := 3) (ret := none) (by decide) rfl (Nat.le_of_ble_eq_true rfl) ?_
  intro p e s m args below meth c ls hx hb hr hlk hml hown hts hP hK hE hl
  have hS : va_S (adA a 16 s.heap.size) s.heap s.heap [] := va_S.rf
  have hl : lv_has ls 3 [(0, .ref (a 1)), (1, .ref (a 3))] := hl
  have hown : s.vm.findClass RX6 = some m.cls := hown
  obtain ⟨Q, hQ⟩ : ∃ Q, Q = mqV below D 16 a args s (wM a cI cJ cS sv kep res isk fnd man nex wor sng hea lat tap tpd her flt vlu bit lon cel btw) := ⟨_, rfl⟩
  rw [← hQ]
  have b2 : ∀  (n : Nat) (x2 : Int32) (bef : Nat → Int32), fix2 (fX6_lay_sv_bef_l2 sv) n x2 bef = some res → ∀ (H : Heap) (locs : List Loc) (ls : Array Slot), va_P D vwCl (wM a cI cJ cS sv kep bef isk fnd man nex wor sng hea lat tap tpd her flt vlu bit lon cel btw) H → va_S (adA a 16 s.heap.size) s.heap H locs → lv_has ls 3 [(0, .ref (a 1)), (1, .ref (a 3)), (2, .int x2)] → W p l e rX6_lay_sv_bef s m args below meth c H locs 0 0 Q (F0 m 2 ls []) := by
    refine fix2_r ?_
    intro K2 hK2 x2 bef hres H locs ls hP hS hl
    unfold fX6_lay_sv_bef_l2 at hres
    refine lv_iload_n hx hb dX6_lay_2 rfl (lv_at hl 2 rfl) ?_
    refine lv_sipush (v := 166) hx hb dX6_lay_3 (by decide) ?_
    refine lv_icmp_ge (tgt := 21) hx hb dX6_lay_6 (by decide) (fun c6 => ?_) (fun c6 => ?_)
    · have hres := (itl hres).1 c6
      exact hQ ▸ rtV hx hb hr hlk hP hS (by rw [← (Option.some.inj hres)]) dX6_lay_21
    · have hres := (itl hres).2 c6
      refine lv_aload_n hx hb dX6_lay_9 rfl (lv_at hl 1 rfl) ?_
      refine lv_iload_n hx hb dX6_lay_10 rfl (lv_at hl 2 rfl) ?_
      refine lv_aload_n hx hb dX6_lay_11 rfl (lv_at hl 0 rfl) ?_
      refine lv_iload_n hx hb dX6_lay_12 rfl (lv_at hl 2 rfl) ?_
      obtain ⟨i13, hres⟩ := gdi hres
      refine lM_sv hx hb hK hP i13 dX6_lay_13 ?_
      obtain ⟨i14, hres⟩ := gdi hres
      refine sM_bef hx hb hK hP hd hS i14 dX6_lay_14 (fun H locs hP hS => ?_)
      refine lv_iinc (v := x2 + 1) (lv' := [(2, .int (x2 + 1)), (0, .ref (a 1)), (1, .ref (a 3))]) hx hb dX6_lay_15 hl (k := 2) rfl (congrArg (fun z => x2 + z) (by decide)) (by decide) rfl (fun ls hl => ?_)
      refine lv_goto (tgt := 2) hx hb dX6_lay_18 (by decide) ?_
      exact hK2 (x2 + 1) (upd bef x2.toNatClampNeg (sv x2.toNatClampNeg)) hres _ _ _ hP hS (lv_sub hl [1, 2, 0] rfl)
  unfold fX6_lay_sv_bef at hres
  refine lv_iconst (v := 0) hx hb dX6_lay_0 (by decide) ?_
  refine lv_istore_n (lv' := [(2, .int (0 : Int32)), (0, .ref (a 1)), (1, .ref (a 3))]) hx hb dX6_lay_1 rfl hl (by decide) rfl (fun ls hl => ?_)
  exact b2  2000 (0 : Int32) bef hres _ _ _ hP hS (lv_sub hl [1, 2, 0] rfl)
def fX6_lay_bef_sv_l2 (bef : Nat → Int32) (K2 : Int32 → (Nat → Int32) → Option ((Nat → Int32))) (x2 : Int32) (sv : Nat → Int32) : Option ((Nat → Int32)) :=
  if (166 : Int32) ≤ x2 then some sv else gd (ib x2 166) (gd (ib x2 166) (K2 (x2 + 1) (upd sv x2.toNatClampNeg (bef x2.toNatClampNeg))))
def fX6_lay_bef_sv (sv : Nat → Int32) (bef : Nat → Int32) : Option ((Nat → Int32)) :=
  fix2 (fX6_lay_bef_sv_l2 bef) 2000 (0 : Int32) sv
abbrev rX6_lay_bef_sv : Room := { frames := 0, cells := 0, slots := 0, locals := 0 }
set_option maxHeartbeats 4000000 in
set_option maxRecDepth 100000 in
theorem kX6_lay_bef_sv (l : Launch) (D : va_G) (a : Nat → Nat) (cI cJ cS : ClassId) (hd : aok a 16) {Env : (Nat → Prop) → State → Heap → Prop} (hEo : envOK Env) (sv kep bef : Nat → Int32) (isk : Int32) (fnd : Nat → Int32) (man nex : Nat → Int64) (wor sng hea lat tap : Nat → Int32) (tpd her flt vlu : Int32) (bit lon : Nat → Int32) (cel btw : Nat → Int64)  (res : (Nat → Int32)) (hres : fX6_lay_bef_sv sv bef = some res) : CtV l D (tyL cI cJ cS) 16 a Env yX6_lay wsX6_lay rX6_lay_bef_sv [.ref (a 3), .ref (a 1)] (wM a cI cJ cS sv kep bef isk fnd man nex wor sng hea lat tap tpd her flt vlu bit lon cel btw) (wM a cI cJ cS res kep bef isk fnd man nex wor sng hea lat tap tpd her flt vlu bit lon cel btw) := by
  refine CtV_mk (cc := cX6_lay) (maxL := 3) (ret := none) (by decide) rfl (Nat.le_of_ble_eq_true rfl) ?_
  intro p e s m args below meth c ls hx hb hr hlk hml hown hts hP hK hE hl
  have hS : va_S (adA a 16 s.heap.size) s.heap s.heap [] := va_S.rf
  have hl : lv_has ls 3 [(0, .ref (a 3)), (1, .ref (a 1))] := hl
  have hown : s.vm.findClass RX6 = some m.cls := hown
  obtain ⟨Q, hQ⟩ : ∃ Q, Q = mqV below D 16 a args s (wM a cI cJ cS res kep bef isk fnd man nex wor sng hea lat tap tpd her flt vlu bit lon cel btw) := ⟨_, rfl⟩
  rw [← hQ]
  have b2 : ∀  (n : Nat) (x2 : Int32) (sv : Nat → Int32), fix2 (fX6_lay_bef_sv_l2 bef) n x2 sv = some res → ∀ (H : Heap) (locs : List Loc) (ls : Array Slot), va_P D vwCl (wM a cI cJ cS sv kep bef isk fnd man nex wor sng hea lat tap tpd her flt vlu bit lon cel btw) H → va_S (adA a 16 s.heap.size) s.heap H locs → lv_has ls 3 [(0, .ref (a 3)), (1, .ref (a 1)), (2, .int x2)] → W p l e rX6_lay_bef_sv s m args below meth c H locs 0 0 Q (F0 m 2 ls []) := by
    refine fix2_r ?_
    intro K2 hK2 x2 sv hres H locs ls hP hS hl
    unfold fX6_lay_bef_sv_l2 at hres
    refine lv_iload_n hx hb dX6_lay_2 rfl (lv_at hl 2 rfl) ?_
    refine lv_sipush (v := 166) hx hb dX6_lay_3 (by decide) ?_
    refine lv_icmp_ge (tgt := 21) hx hb dX6_lay_6 (by decide) (fun c6 => ?_) (fun c6 => ?_)
    · have hres := (itl hres).1 c6
      exact hQ ▸ rtV hx hb hr hlk hP hS (by rw [← (Option.some.inj hres)]) dX6_lay_21
    · have hres := (itl hres).2 c6
      refine lv_aload_n hx hb dX6_lay_9 rfl (lv_at hl 1 rfl) ?_
      refine lv_iload_n hx hb dX6_lay_10 rfl (lv_at hl 2 rfl) ?_
      refine lv_aload_n hx hb dX6_lay_11 rfl (lv_at hl 0 rfl) ?_
      refine lv_iload_n hx hb dX6_lay_12 rfl (lv_at hl 2 rfl) ?_
      obtain ⟨i13, hres⟩ := gdi hres
      refine lM_bef hx hb hK hP i13 dX6_lay_13 ?_
      obtain ⟨i14, hres⟩ := gdi hres
      refine sM_sv hx hb hK hP hd hS i14 dX6_lay_14 (fun H locs hP hS => ?_)
      refine lv_iinc (v := x2 + 1) (lv' := [(2, .int (x2 + 1)), (0, .ref (a 3)), (1, .ref (a 1))]) hx hb dX6_lay_15 hl (k := 2) rfl (congrArg (fun z => x2 + z) (by decide)) (by decide) rfl (fun ls hl => ?_)
      refine lv_goto (tgt := 2) hx hb dX6_lay_18 (by decide) ?_
      exact hK2 (x2 + 1) (upd sv x2.toNatClampNeg (bef x2.toNatClampNeg)) hres _ _ _ hP hS (lv_sub hl [1, 2, 0] rfl)
  unfold fX6_lay_bef_sv at hres
  refine lv_iconst (v := 0) hx hb dX6_lay_0 (by decide) ?_
  refine lv_istore_n (lv' := [(2, .int (0 : Int32)), (0, .ref (a 3)), (1, .ref (a 1))]) hx hb dX6_lay_1 rfl hl (by decide) rfl (fun ls hl => ?_)
  exact b2  2000 (0 : Int32) sv hres _ _ _ hP hS (lv_sub hl [1, 2, 0] rfl)
def fX6_puts (sv : Nat → Int32) (x1 : Int32) (x2 : Int32) : Option (Int32 × (Nat → Int32)) :=
  gd (ib x1 166) (gd (ib x1 166) (some (sv x1.toNatClampNeg, upd sv x1.toNatClampNeg x2)))
abbrev rX6_puts : Room := { frames := 0, cells := 0, slots := 0, locals := 0 }
set_option maxHeartbeats 4000000 in
set_option maxRecDepth 100000 in
theorem kX6_puts (l : Launch) (D : va_G) (a : Nat → Nat) (cI cJ cS : ClassId) (hd : aok a 16) {Env : (Nat → Prop) → State → Heap → Prop} (hEo : envOK Env) (sv kep bef : Nat → Int32) (isk : Int32) (fnd : Nat → Int32) (man nex : Nat → Int64) (wor sng hea lat tap : Nat → Int32) (tpd her flt vlu : Int32) (bit lon : Nat → Int32) (cel btw : Nat → Int64) (x1 : Int32) (x2 : Int32) (res : Int32 × (Nat → Int32)) (hres : fX6_puts sv x1 x2 = some res) : CtI l D (tyL cI cJ cS) 16 a Env yX6_puts wsX6_puts rX6_puts [.ref (a 0), .int x1, .int x2] (wM a cI cJ cS sv kep bef isk fnd man nex wor sng hea lat tap tpd her flt vlu bit lon cel btw) (wM a cI cJ cS res.2 kep bef isk fnd man nex wor sng hea lat tap tpd her flt vlu bit lon cel btw) res.1 := by
  refine CtI_mk (cc := cX6_puts) (maxL := 4) (ret := (some .int)) (by decide) rfl (Nat.le_of_ble_eq_true rfl) ?_
  intro p e s m args below meth c ls hx hb hr hlk hml hown hts hP hK hE hl
  have hS : va_S (adA a 16 s.heap.size) s.heap s.heap [] := va_S.rf
  have hl : lv_has ls 4 [(0, .ref (a 0)), (1, .int x1), (2, .int x2)] := hl
  have hown : s.vm.findClass RX6 = some m.cls := hown
  have hw6 : ∀ w ∈ wsX60, w.before args s = true := fun w h => hts w (List.mem_cons_of_mem _ (List.mem_append_right _ h))
  have u1 : (Cond.fieldLink RX6 9 "YearWordsModel" "s" "[I").before args s = true := hts _ (List.mem_of_getElem? (i := 1) (by decide +kernel))
  obtain ⟨Q, hQ⟩ : ∃ Q, Q = mqI below D 16 a args s (wM a cI cJ cS res.2 kep bef isk fnd man nex wor sng hea lat tap tpd her flt vlu bit lon cel btw) res.1 := ⟨_, rfl⟩
  rw [← hQ]
  unfold fX6_puts at hres
  refine lv_aload_n hx hb dX6_puts_0 rfl (lv_at hl 0 rfl) ?_
  refine gM_this6_s hx hb hown hw6 hK hP u1 dX6_puts_1 ?_
  refine lv_iload_n hx hb dX6_puts_4 rfl (lv_at hl 1 rfl) ?_
  obtain ⟨i5, hres⟩ := gdi hres
  refine lM_sv hx hb hK hP i5 dX6_puts_5 ?_
  refine lv_istore_n (lv' := [(3, .int (sv x1.toNatClampNeg)), (0, .ref (a 0)), (1, .int x1), (2, .int x2)]) hx hb dX6_puts_6 rfl hl (by decide) rfl (fun ls hl => ?_)
  refine lv_aload_n hx hb dX6_puts_7 rfl (lv_at hl 1 rfl) ?_
  refine gM_this6_s hx hb hown hw6 hK hP u1 dX6_puts_8 ?_
  refine lv_iload_n hx hb dX6_puts_11 rfl (lv_at hl 2 rfl) ?_
  refine lv_iload_n hx hb dX6_puts_12 rfl (lv_at hl 3 rfl) ?_
  obtain ⟨i13, hres⟩ := gdi hres
  refine sM_sv hx hb hK hP hd hS i13 dX6_puts_13 (fun H locs hP hS => ?_)
  refine lv_iload_n hx hb dX6_puts_14 rfl (lv_at hl 0 rfl) ?_
  exact hQ ▸ rtI (v := sv x1.toNatClampNeg)  hx hb hr hlk hP hS (by rw [← (Option.some.inj hres)]) (by rw [← (Option.some.inj hres)]) dX6_puts_15
def fX6_isPart (sv : Nat → Int32) (x1 : Int32) : Bool :=
 (fX6_in x1 (0 : Int32) ((sv (1 : Int32).toNatClampNeg) - (1 : Int32)))
theorem hdX6_in : yX6_in.cls ≠ "java/lang/invoke/MethodHandle" ∧ yX6_in.cls ≠ "java/lang/invoke/VarHandle" ∧ (parseMethodDescriptor yX6_in.desc).map (fun d => d.parameters.length) = some 3 := by decide +kernel
abbrev rX6_isPart : Room := { frames := 1, cells := 0, slots := 0, locals := 22 }
set_option maxHeartbeats 4000000 in
set_option maxRecDepth 100000 in
theorem kX6_isPart (l : Launch) (D : va_G) (a : Nat → Nat) (cI cJ cS : ClassId) (hd : aok a 16) {Env : (Nat → Prop) → State → Heap → Prop} (hEo : envOK Env) (sv kep bef : Nat → Int32) (isk : Int32) (fnd : Nat → Int32) (man nex : Nat → Int64) (wor sng hea lat tap : Nat → Int32) (tpd her flt vlu : Int32) (bit lon : Nat → Int32) (cel btw : Nat → Int64) (x1 : Int32) : CtI l D (tyL cI cJ cS) 16 a Env yX6_isPart wsX6_isPart rX6_isPart [.ref (a 0), .int x1] (wM a cI cJ cS sv kep bef isk fnd man nex wor sng hea lat tap tpd her flt vlu bit lon cel btw) (wM a cI cJ cS sv kep bef isk fnd man nex wor sng hea lat tap tpd her flt vlu bit lon cel btw) (bI (fX6_isPart sv x1)) := by
  generalize hres : fX6_isPart sv x1 = res
  refine CtI_mk (cc := cX6_isPart) (maxL := 2) (ret := (some .boolean)) (by decide) rfl (Nat.le_of_ble_eq_true rfl) ?_
  intro p e s m args below meth c ls hx hb hr hlk hml hown hts hP hK hE hl
  have hS : va_S (adA a 16 s.heap.size) s.heap s.heap [] := va_S.rf
  have hl : lv_has ls 2 [(0, .ref (a 0)), (1, .int x1)] := hl
  have hown : s.vm.findClass RX6 = some m.cls := hown
  have hw6 : ∀ w ∈ wsX60, w.before args s = true := fun w h => hts w (List.mem_cons_of_mem _ (List.mem_append_right _ h))
  have u1 : (Cond.fieldLink RX6 9 "YearWordsModel" "s" "[I").before args s = true := hts _ (List.mem_of_getElem? (i := 1) (by decide +kernel))
  obtain ⟨Q, hQ⟩ : ∃ Q, Q = mqI below D 16 a args s (wM a cI cJ cS sv kep bef isk fnd man nex wor sng hea lat tap tpd her flt vlu bit lon cel btw) (bI res) := ⟨_, rfl⟩
  rw [← hQ]
  unfold fX6_isPart at hres
  refine lv_iload_n hx hb dX6_isPart_0 rfl (lv_at hl 1 rfl) ?_
  refine lv_iconst (v := 0) hx hb dX6_isPart_1 (by decide) ?_
  refine lv_aload_n hx hb dX6_isPart_2 rfl (lv_at hl 0 rfl) ?_
  refine gM_this6_s hx hb hown hw6 hK hP u1 dX6_isPart_3 ?_
  refine lv_iconst (v := 1) hx hb dX6_isPart_6 (by decide) ?_
  have i7 : vp_in (1 : Int32) 166 := ib_in (by decide)
  refine lM_sv hx hb hK hP i7 dX6_isPart_7 ?_
  refine lv_iconst (v := 1) hx hb dX6_isPart_8 (by decide) ?_
  refine lv_isub hx hb dX6_isPart_9 ?_
  refine csI hx hb hml hown hts hEo hE hK hP hS (kX6_in l D a cI cJ cS hd hEo sv kep bef isk fnd man nex wor sng hea lat tap tpd her flt vlu bit lon cel btw x1 (0 : Int32) ((sv (1 : Int32).toNatClampNeg) - (1 : Int32))) gX6_isPart_X6_in rfl hdX6_in ⟨rfl, rfl⟩ ⟨Nat.le_of_ble_eq_true rfl, Nat.le_of_ble_eq_true rfl⟩ ⟨Nat.zero_le _, Nat.zero_le _⟩ rfl hl.1 rfl (Nat.le_of_ble_eq_true rfl) dX6_isPart_10 (fun H locs hP hS => ?_)
  exact hQ ▸ rtZ (v := (fX6_in x1 (0 : Int32) ((sv (1 : Int32).toNatClampNeg) - (1 : Int32))))  hx hb hr hlk hP hS (by rw [← hres]) rfl dX6_isPart_13
def fX6_isTale (sv : Nat → Int32) (x1 : Int32) : Option (Bool) :=
  some (fX6_in x1 (0 : Int32) ((sv (2 : Int32).toNatClampNeg) - (1 : Int32)))
abbrev rX6_isTale : Room := { frames := 1, cells := 0, slots := 0, locals := 22 }
set_option maxHeartbeats 4000000 in
set_option maxRecDepth 100000 in
theorem kX6_isTale (l : Launch) (D : va_G) (a : Nat → Nat) (cI cJ cS : ClassId) (hd : aok a 16) {Env : (Nat → Prop) → State → Heap → Prop} (hEo : envOK Env) (sv kep bef : Nat → Int32) (isk : Int32) (fnd : Nat → Int32) (man nex : Nat → Int64) (wor sng hea lat tap : Nat → Int32) (tpd her flt vlu : Int32) (bit lon : Nat → Int32) (cel btw : Nat → Int64) (x1 : Int32) (res : Bool) (hres : fX6_isTale sv x1 = some res) : CtI l D (tyL cI cJ cS) 16 a Env yX6_isTale wsX6_isTale rX6_isTale [.ref (a 0), .int x1] (wM a cI cJ cS sv kep bef isk fnd man nex wor sng hea lat tap tpd her flt vlu bit lon cel btw) (wM a cI cJ cS sv kep bef isk fnd man nex wor sng hea lat tap tpd her flt vlu bit lon cel btw) (bI res) := by
  refine CtI_mk (cc := cX6_isTale) (maxL := 2) (ret := (some .boolean)) (by decide) rfl (Nat.le_of_ble_eq_true rfl) ?_
  intro p e s m args below meth c ls hx hb hr hlk hml hown hts hP hK hE hl
  have hS : va_S (adA a 16 s.heap.size) s.heap s.heap [] := va_S.rf
  have hl : lv_has ls 2 [(0, .ref (a 0)), (1, .int x1)] := hl
  have hown : s.vm.findClass RX6 = some m.cls := hown
  have hw6 : ∀ w ∈ wsX60, w.before args s = true := fun w h => hts w (List.mem_cons_of_mem _ (List.mem_append_right _ h))
  have u1 : (Cond.fieldLink RX6 9 "YearWordsModel" "s" "[I").before args s = true := hts _ (List.mem_of_getElem? (i := 1) (by decide +kernel))
  obtain ⟨Q, hQ⟩ : ∃ Q, Q = mqI below D 16 a args s (wM a cI cJ cS sv kep bef isk fnd man nex wor sng hea lat tap tpd her flt vlu bit lon cel btw) (bI res) := ⟨_, rfl⟩
  rw [← hQ]
  unfold fX6_isTale at hres
  refine lv_iload_n hx hb dX6_isTale_0 rfl (lv_at hl 1 rfl) ?_
  refine lv_iconst (v := 0) hx hb dX6_isTale_1 (by decide) ?_
  refine lv_aload_n hx hb dX6_isTale_2 rfl (lv_at hl 0 rfl) ?_
  refine gM_this6_s hx hb hown hw6 hK hP u1 dX6_isTale_3 ?_
  refine lv_iconst (v := 2) hx hb dX6_isTale_6 (by decide) ?_
  have i7 : vp_in (2 : Int32) 166 := ib_in (by decide)
  refine lM_sv hx hb hK hP i7 dX6_isTale_7 ?_
  refine lv_iconst (v := 1) hx hb dX6_isTale_8 (by decide) ?_
  refine lv_isub hx hb dX6_isTale_9 ?_
  refine csI hx hb hml hown hts hEo hE hK hP hS (kX6_in l D a cI cJ cS hd hEo sv kep bef isk fnd man nex wor sng hea lat tap tpd her flt vlu bit lon cel btw x1 (0 : Int32) ((sv (2 : Int32).toNatClampNeg) - (1 : Int32))) gX6_isTale_X6_in rfl hdX6_in ⟨rfl, rfl⟩ ⟨Nat.le_of_ble_eq_true rfl, Nat.le_of_ble_eq_true rfl⟩ ⟨Nat.zero_le _, Nat.zero_le _⟩ rfl hl.1 rfl (Nat.le_of_ble_eq_true rfl) dX6_isTale_10 (fun H locs hP hS => ?_)
  exact hQ ▸ rtZ (v := (fX6_in x1 (0 : Int32) ((sv (2 : Int32).toNatClampNeg) - (1 : Int32))))  hx hb hr hlk hP hS (by rw [← (Option.some.inj hres)]) rfl dX6_isTale_13
def fX6_isHearer (sv : Nat → Int32) (x1 : Int32) : Option (Bool) :=
  some (fX6_in x1 (0 : Int32) ((sv (3 : Int32).toNatClampNeg) - (1 : Int32)))
abbrev rX6_isHearer : Room := { frames := 1, cells := 0, slots := 0, locals := 22 }
set_option maxHeartbeats 4000000 in
set_option maxRecDepth 100000 in
theorem kX6_isHearer (l : Launch) (D : va_G) (a : Nat → Nat) (cI cJ cS : ClassId) (hd : aok a 16) {Env : (Nat → Prop) → State → Heap → Prop} (hEo : envOK Env) (sv kep bef : Nat → Int32) (isk : Int32) (fnd : Nat → Int32) (man nex : Nat → Int64) (wor sng hea lat tap : Nat → Int32) (tpd her flt vlu : Int32) (bit lon : Nat → Int32) (cel btw : Nat → Int64) (x1 : Int32) (res : Bool) (hres : fX6_isHearer sv x1 = some res) : CtI l D (tyL cI cJ cS) 16 a Env yX6_isHearer wsX6_isHearer rX6_isHearer [.ref (a 0), .int x1] (wM a cI cJ cS sv kep bef isk fnd man nex wor sng hea lat tap tpd her flt vlu bit lon cel btw) (wM a cI cJ cS sv kep bef isk fnd man nex wor sng hea lat tap tpd her flt vlu bit lon cel btw) (bI res) := by
  refine CtI_mk (cc := cX6_isHearer) (maxL := 2) (ret := (some .boolean)) (by decide) rfl (Nat.le_of_ble_eq_true rfl) ?_
  intro p e s m args below meth c ls hx hb hr hlk hml hown hts hP hK hE hl
  have hS : va_S (adA a 16 s.heap.size) s.heap s.heap [] := va_S.rf
  have hl : lv_has ls 2 [(0, .ref (a 0)), (1, .int x1)] := hl
  have hown : s.vm.findClass RX6 = some m.cls := hown
  have hw6 : ∀ w ∈ wsX60, w.before args s = true := fun w h => hts w (List.mem_cons_of_mem _ (List.mem_append_right _ h))
  have u1 : (Cond.fieldLink RX6 9 "YearWordsModel" "s" "[I").before args s = true := hts _ (List.mem_of_getElem? (i := 1) (by decide +kernel))
  obtain ⟨Q, hQ⟩ : ∃ Q, Q = mqI below D 16 a args s (wM a cI cJ cS sv kep bef isk fnd man nex wor sng hea lat tap tpd her flt vlu bit lon cel btw) (bI res) := ⟨_, rfl⟩
  rw [← hQ]
  unfold fX6_isHearer at hres
  refine lv_iload_n hx hb dX6_isHearer_0 rfl (lv_at hl 1 rfl) ?_
  refine lv_iconst (v := 0) hx hb dX6_isHearer_1 (by decide) ?_
  refine lv_aload_n hx hb dX6_isHearer_2 rfl (lv_at hl 0 rfl) ?_
  refine gM_this6_s hx hb hown hw6 hK hP u1 dX6_isHearer_3 ?_
  refine lv_iconst (v := 3) hx hb dX6_isHearer_6 (by decide) ?_
  have i7 : vp_in (3 : Int32) 166 := ib_in (by decide)
  refine lM_sv hx hb hK hP i7 dX6_isHearer_7 ?_
  refine lv_iconst (v := 1) hx hb dX6_isHearer_8 (by decide) ?_
  refine lv_isub hx hb dX6_isHearer_9 ?_
  refine csI hx hb hml hown hts hEo hE hK hP hS (kX6_in l D a cI cJ cS hd hEo sv kep bef isk fnd man nex wor sng hea lat tap tpd her flt vlu bit lon cel btw x1 (0 : Int32) ((sv (3 : Int32).toNatClampNeg) - (1 : Int32))) gX6_isHearer_X6_in rfl hdX6_in ⟨rfl, rfl⟩ ⟨Nat.le_of_ble_eq_true rfl, Nat.le_of_ble_eq_true rfl⟩ ⟨Nat.zero_le _, Nat.zero_le _⟩ rfl hl.1 rfl (Nat.le_of_ble_eq_true rfl) dX6_isHearer_10 (fun H locs hP hS => ?_)
  exact hQ ▸ rtZ (v := (fX6_in x1 (0 : Int32) ((sv (3 : Int32).toNatClampNeg) - (1 : Int32))))  hx hb hr hlk hP hS (by rw [← (Option.some.inj hres)]) rfl dX6_isHearer_13
def fX6_isKind (x0 : Int32) : Bool :=
 (fX6_in x0 (0 : Int32) (5 : Int32))
abbrev rX6_isKind : Room := { frames := 1, cells := 0, slots := 0, locals := 22 }
set_option maxHeartbeats 4000000 in
set_option maxRecDepth 100000 in
theorem kX6_isKind (l : Launch) (D : va_G) (a : Nat → Nat) (cI cJ cS : ClassId) (hd : aok a 16) {Env : (Nat → Prop) → State → Heap → Prop} (hEo : envOK Env) (sv kep bef : Nat → Int32) (isk : Int32) (fnd : Nat → Int32) (man nex : Nat → Int64) (wor sng hea lat tap : Nat → Int32) (tpd her flt vlu : Int32) (bit lon : Nat → Int32) (cel btw : Nat → Int64) (x0 : Int32) : CtI l D (tyL cI cJ cS) 16 a Env yX6_isKind wsX6_isKind rX6_isKind [.int x0] (wM a cI cJ cS sv kep bef isk fnd man nex wor sng hea lat tap tpd her flt vlu bit lon cel btw) (wM a cI cJ cS sv kep bef isk fnd man nex wor sng hea lat tap tpd her flt vlu bit lon cel btw) (bI (fX6_isKind x0)) := by
  generalize hres : fX6_isKind x0 = res
  refine CtI_mk (cc := cX6_isKind) (maxL := 1) (ret := (some .boolean)) (by decide) rfl (Nat.le_of_ble_eq_true rfl) ?_
  intro p e s m args below meth c ls hx hb hr hlk hml hown hts hP hK hE hl
  have hS : va_S (adA a 16 s.heap.size) s.heap s.heap [] := va_S.rf
  have hl : lv_has ls 1 [(0, .int x0)] := hl
  have hown : s.vm.findClass RX6 = some m.cls := hown
  obtain ⟨Q, hQ⟩ : ∃ Q, Q = mqI below D 16 a args s (wM a cI cJ cS sv kep bef isk fnd man nex wor sng hea lat tap tpd her flt vlu bit lon cel btw) (bI res) := ⟨_, rfl⟩
  rw [← hQ]
  unfold fX6_isKind at hres
  refine lv_iload_n hx hb dX6_isKind_0 rfl (lv_at hl 0 rfl) ?_
  refine lv_iconst (v := 0) hx hb dX6_isKind_1 (by decide) ?_
  refine lv_iconst (v := 5) hx hb dX6_isKind_2 (by decide) ?_
  refine csI hx hb hml hown hts hEo hE hK hP hS (kX6_in l D a cI cJ cS hd hEo sv kep bef isk fnd man nex wor sng hea lat tap tpd her flt vlu bit lon cel btw x0 (0 : Int32) (5 : Int32)) gX6_isKind_X6_in rfl hdX6_in ⟨rfl, rfl⟩ ⟨Nat.le_of_ble_eq_true rfl, Nat.le_of_ble_eq_true rfl⟩ ⟨Nat.zero_le _, Nat.zero_le _⟩ rfl hl.1 rfl (Nat.le_of_ble_eq_true rfl) dX6_isKind_3 (fun H locs hP hS => ?_)
  exact hQ ▸ rtZ (v := (fX6_in x0 (0 : Int32) (5 : Int32)))  hx hb hr hlk hP hS (by rw [← hres]) rfl dX6_isKind_6
def fX6_isWords (x0 : Int32) : Bool :=
 (fX6_in x0 (0 : Int32) (120 : Int32))
abbrev rX6_isWords : Room := { frames := 1, cells := 0, slots := 0, locals := 22 }
set_option maxHeartbeats 4000000 in
set_option maxRecDepth 100000 in
theorem kX6_isWords (l : Launch) (D : va_G) (a : Nat → Nat) (cI cJ cS : ClassId) (hd : aok a 16) {Env : (Nat → Prop) → State → Heap → Prop} (hEo : envOK Env) (sv kep bef : Nat → Int32) (isk : Int32) (fnd : Nat → Int32) (man nex : Nat → Int64) (wor sng hea lat tap : Nat → Int32) (tpd her flt vlu : Int32) (bit lon : Nat → Int32) (cel btw : Nat → Int64) (x0 : Int32) : CtI l D (tyL cI cJ cS) 16 a Env yX6_isWords wsX6_isWords rX6_isWords [.int x0] (wM a cI cJ cS sv kep bef isk fnd man nex wor sng hea lat tap tpd her flt vlu bit lon cel btw) (wM a cI cJ cS sv kep bef isk fnd man nex wor sng hea lat tap tpd her flt vlu bit lon cel btw) (bI (fX6_isWords x0)) := by
  generalize hres : fX6_isWords x0 = res
  refine CtI_mk (cc := cX6_isWords) (maxL := 1) (ret := (some .boolean)) (by decide) rfl (Nat.le_of_ble_eq_true rfl) ?_
  intro p e s m args below meth c ls hx hb hr hlk hml hown hts hP hK hE hl
  have hS : va_S (adA a 16 s.heap.size) s.heap s.heap [] := va_S.rf
  have hl : lv_has ls 1 [(0, .int x0)] := hl
  have hown : s.vm.findClass RX6 = some m.cls := hown
  obtain ⟨Q, hQ⟩ : ∃ Q, Q = mqI below D 16 a args s (wM a cI cJ cS sv kep bef isk fnd man nex wor sng hea lat tap tpd her flt vlu bit lon cel btw) (bI res) := ⟨_, rfl⟩
  rw [← hQ]
  unfold fX6_isWords at hres
  refine lv_iload_n hx hb dX6_isWords_0 rfl (lv_at hl 0 rfl) ?_
  refine lv_iconst (v := 0) hx hb dX6_isWords_1 (by decide) ?_
  refine lv_bipush (v := 120) hx hb dX6_isWords_2 (by decide) ?_
  refine csI hx hb hml hown hts hEo hE hK hP hS (kX6_in l D a cI cJ cS hd hEo sv kep bef isk fnd man nex wor sng hea lat tap tpd her flt vlu bit lon cel btw x0 (0 : Int32) (120 : Int32)) gX6_isWords_X6_in rfl hdX6_in ⟨rfl, rfl⟩ ⟨Nat.le_of_ble_eq_true rfl, Nat.le_of_ble_eq_true rfl⟩ ⟨Nat.zero_le _, Nat.zero_le _⟩ rfl hl.1 rfl (Nat.le_of_ble_eq_true rfl) dX6_isWords_4 (fun H locs hP hS => ?_)
  exact hQ ▸ rtZ (v := (fX6_in x0 (0 : Int32) (120 : Int32)))  hx hb hr hlk hP hS (by rw [← hres]) rfl dX6_isWords_7
def fX6_isAge (x0 : Int32) : Bool :=
 (fX6_in x0 (0 : Int32) (99 : Int32))
abbrev rX6_isAge : Room := { frames := 1, cells := 0, slots := 0, locals := 22 }
set_option maxHeartbeats 4000000 in
set_option maxRecDepth 100000 in
theorem kX6_isAge (l : Launch) (D : va_G) (a : Nat → Nat) (cI cJ cS : ClassId) (hd : aok a 16) {Env : (Nat → Prop) → State → Heap → Prop} (hEo : envOK Env) (sv kep bef : Nat → Int32) (isk : Int32) (fnd : Nat → Int32) (man nex : Nat → Int64) (wor sng hea lat tap : Nat → Int32) (tpd her flt vlu : Int32) (bit lon : Nat → Int32) (cel btw : Nat → Int64) (x0 : Int32) : CtI l D (tyL cI cJ cS) 16 a Env yX6_isAge wsX6_isAge rX6_isAge [.int x0] (wM a cI cJ cS sv kep bef isk fnd man nex wor sng hea lat tap tpd her flt vlu bit lon cel btw) (wM a cI cJ cS sv kep bef isk fnd man nex wor sng hea lat tap tpd her flt vlu bit lon cel btw) (bI (fX6_isAge x0)) := by
  generalize hres : fX6_isAge x0 = res
  refine CtI_mk (cc := cX6_isAge) (maxL := 1) (ret := (some .boolean)) (by decide) rfl (Nat.le_of_ble_eq_true rfl) ?_
  intro p e s m args below meth c ls hx hb hr hlk hml hown hts hP hK hE hl
  have hS : va_S (adA a 16 s.heap.size) s.heap s.heap [] := va_S.rf
  have hl : lv_has ls 1 [(0, .int x0)] := hl
  have hown : s.vm.findClass RX6 = some m.cls := hown
  obtain ⟨Q, hQ⟩ : ∃ Q, Q = mqI below D 16 a args s (wM a cI cJ cS sv kep bef isk fnd man nex wor sng hea lat tap tpd her flt vlu bit lon cel btw) (bI res) := ⟨_, rfl⟩
  rw [← hQ]
  unfold fX6_isAge at hres
  refine lv_iload_n hx hb dX6_isAge_0 rfl (lv_at hl 0 rfl) ?_
  refine lv_iconst (v := 0) hx hb dX6_isAge_1 (by decide) ?_
  refine lv_bipush (v := 99) hx hb dX6_isAge_2 (by decide) ?_
  refine csI hx hb hml hown hts hEo hE hK hP hS (kX6_in l D a cI cJ cS hd hEo sv kep bef isk fnd man nex wor sng hea lat tap tpd her flt vlu bit lon cel btw x0 (0 : Int32) (99 : Int32)) gX6_isAge_X6_in rfl hdX6_in ⟨rfl, rfl⟩ ⟨Nat.le_of_ble_eq_true rfl, Nat.le_of_ble_eq_true rfl⟩ ⟨Nat.zero_le _, Nat.zero_le _⟩ rfl hl.1 rfl (Nat.le_of_ble_eq_true rfl) dX6_isAge_4 (fun H locs hP hS => ?_)
  exact hQ ▸ rtZ (v := (fX6_in x0 (0 : Int32) (99 : Int32)))  hx hb hr hlk hP hS (by rw [← hres]) rfl dX6_isAge_7
def fX6_has (sv : Nat → Int32) (x1 : Int32) (x2 : Int32) : Option (Int32) :=
  gd (ib (((4 : Int32) + ((4 : Int32) * x1)) + x2) 166) (some (sv (((4 : Int32) + ((4 : Int32) * x1)) + x2).toNatClampNeg))
abbrev rX6_has : Room := { frames := 0, cells := 0, slots := 0, locals := 0 }
set_option maxHeartbeats 4000000 in
set_option maxRecDepth 100000 in
theorem kX6_has (l : Launch) (D : va_G) (a : Nat → Nat) (cI cJ cS : ClassId) (hd : aok a 16) {Env : (Nat → Prop) → State → Heap → Prop} (hEo : envOK Env) (sv kep bef : Nat → Int32) (isk : Int32) (fnd : Nat → Int32) (man nex : Nat → Int64) (wor sng hea lat tap : Nat → Int32) (tpd her flt vlu : Int32) (bit lon : Nat → Int32) (cel btw : Nat → Int64) (x1 : Int32) (x2 : Int32) (res : Int32) (hres : fX6_has sv x1 x2 = some res) : CtI l D (tyL cI cJ cS) 16 a Env yX6_has wsX6_has rX6_has [.ref (a 0), .int x1, .int x2] (wM a cI cJ cS sv kep bef isk fnd man nex wor sng hea lat tap tpd her flt vlu bit lon cel btw) (wM a cI cJ cS sv kep bef isk fnd man nex wor sng hea lat tap tpd her flt vlu bit lon cel btw) res := by
  refine CtI_mk (cc := cX6_has) (maxL := 3) (ret := (some .int)) (by decide) rfl (Nat.le_of_ble_eq_true rfl) ?_
  intro p e s m args below meth c ls hx hb hr hlk hml hown hts hP hK hE hl
  have hS : va_S (adA a 16 s.heap.size) s.heap s.heap [] := va_S.rf
  have hl : lv_has ls 3 [(0, .ref (a 0)), (1, .int x1), (2, .int x2)] := hl
  have hown : s.vm.findClass RX6 = some m.cls := hown
  have hw6 : ∀ w ∈ wsX60, w.before args s = true := fun w h => hts w (List.mem_cons_of_mem _ (List.mem_append_right _ h))
  have u1 : (Cond.fieldLink RX6 9 "YearWordsModel" "s" "[I").before args s = true := hts _ (List.mem_of_getElem? (i := 1) (by decide +kernel))
  obtain ⟨Q, hQ⟩ : ∃ Q, Q = mqI below D 16 a args s (wM a cI cJ cS sv kep bef isk fnd man nex wor sng hea lat tap tpd her flt vlu bit lon cel btw) res := ⟨_, rfl⟩
  rw [← hQ]
  unfold fX6_has at hres
  refine lv_aload_n hx hb dX6_has_0 rfl (lv_at hl 0 rfl) ?_
  refine gM_this6_s hx hb hown hw6 hK hP u1 dX6_has_1 ?_
  refine lv_iconst (v := 4) hx hb dX6_has_4 (by decide) ?_
  refine lv_iconst (v := 4) hx hb dX6_has_5 (by decide) ?_
  refine lv_iload_n hx hb dX6_has_6 rfl (lv_at hl 1 rfl) ?_
  refine lv_imul hx hb dX6_has_7 ?_
  refine lv_iadd hx hb dX6_has_8 ?_
  refine lv_iload_n hx hb dX6_has_9 rfl (lv_at hl 2 rfl) ?_
  refine lv_iadd hx hb dX6_has_10 ?_
  obtain ⟨i11, hres⟩ := gdi hres
  refine lM_sv hx hb hK hP i11 dX6_has_11 ?_
  exact hQ ▸ rtI (v := sv (((4 : Int32) + ((4 : Int32) * x1)) + x2).toNatClampNeg)  hx hb hr hlk hP hS (by rw [← (Option.some.inj hres)]) rfl dX6_has_12
def fX6_isPartly (x0 : Int32) (x1 : Int32) (x2 : Int32) : Bool :=
  if (bI (fX6_in x0 (1 : Int32) (12 : Int32))) = 0 then false else if (bI (fX6_in x1 x0 (12 : Int32))) = 0 then false else if (bI (fX6_in x2 (0 : Int32) (9 : Int32))) = 0 then false else true
abbrev rX6_isPartly : Room := { frames := 1, cells := 0, slots := 0, locals := 22 }
set_option maxHeartbeats 4000000 in
set_option maxRecDepth 100000 in
theorem kX6_isPartly (l : Launch) (D : va_G) (a : Nat → Nat) (cI cJ cS : ClassId) (hd : aok a 16) {Env : (Nat → Prop) → State → Heap → Prop} (hEo : envOK Env) (sv kep bef : Nat → Int32) (isk : Int32) (fnd : Nat → Int32) (man nex : Nat → Int64) (wor sng hea lat tap : Nat → Int32) (tpd her flt vlu : Int32) (bit lon : Nat → Int32) (cel btw : Nat → Int64) (x0 : Int32) (x1 : Int32) (x2 : Int32) : CtI l D (tyL cI cJ cS) 16 a Env yX6_isPartly wsX6_isPartly rX6_isPartly [.int x0, .int x1, .int x2] (wM a cI cJ cS sv kep bef isk fnd man nex wor sng hea lat tap tpd her flt vlu bit lon cel btw) (wM a cI cJ cS sv kep bef isk fnd man nex wor sng hea lat tap tpd her flt vlu bit lon cel btw) (bI (fX6_isPartly x0 x1 x2)) := by
  generalize hres : fX6_isPartly x0 x1 x2 = res
  refine CtI_mk (cc := cX6_isPartly) (maxL := 3) (ret := (some .boolean)) (by decide) rfl (Nat.le_of_ble_eq_true rfl) ?_
  intro p e s m args below meth c ls hx hb hr hlk hml hown hts hP hK hE hl
  have hS : va_S (adA a 16 s.heap.size) s.heap s.heap [] := va_S.rf
  have hl : lv_has ls 3 [(0, .int x0), (1, .int x1), (2, .int x2)] := hl
  have hown : s.vm.findClass RX6 = some m.cls := hown
  obtain ⟨Q, hQ⟩ : ∃ Q, Q = mqI below D 16 a args s (wM a cI cJ cS sv kep bef isk fnd man nex wor sng hea lat tap tpd her flt vlu bit lon cel btw) (bI res) := ⟨_, rfl⟩
  rw [← hQ]
  unfold fX6_isPartly at hres
  refine lv_iload_n hx hb dX6_isPartly_0 rfl (lv_at hl 0 rfl) ?_
  refine lv_iconst (v := 1) hx hb dX6_isPartly_1 (by decide) ?_
  refine lv_bipush (v := 12) hx hb dX6_isPartly_2 (by decide) ?_
  refine csI hx hb hml hown hts hEo hE hK hP hS (kX6_in l D a cI cJ cS hd hEo sv kep bef isk fnd man nex wor sng hea lat tap tpd her flt vlu bit lon cel btw x0 (1 : Int32) (12 : Int32)) gX6_isPartly_X6_in rfl hdX6_in ⟨rfl, rfl⟩ ⟨Nat.le_of_ble_eq_true rfl, Nat.le_of_ble_eq_true rfl⟩ ⟨Nat.zero_le _, Nat.zero_le _⟩ rfl hl.1 rfl (Nat.le_of_ble_eq_true rfl) dX6_isPartly_4 (fun H locs hP hS => ?_)
  refine lv_if_eq (tgt := 34) hx hb dX6_isPartly_7 (by decide) (fun c7 => ?_) (fun c7 => ?_)
  · have hres := (itl hres).1 c7
    refine lv_iconst (v := 0) hx hb dX6_isPartly_34 (by decide) ?_
    exact hQ ▸ rtZ (v := false)  hx hb hr hlk hP hS (by rw [← hres]) rfl dX6_isPartly_35
  · have hres := (itl hres).2 c7
    refine lv_iload_n hx hb dX6_isPartly_10 rfl (lv_at hl 1 rfl) ?_
    refine lv_iload_n hx hb dX6_isPartly_11 rfl (lv_at hl 0 rfl) ?_
    refine lv_bipush (v := 12) hx hb dX6_isPartly_12 (by decide) ?_
    refine csI hx hb hml hown hts hEo hE hK hP hS (kX6_in l D a cI cJ cS hd hEo sv kep bef isk fnd man nex wor sng hea lat tap tpd her flt vlu bit lon cel btw x1 x0 (12 : Int32)) gX6_isPartly_X6_in rfl hdX6_in ⟨rfl, rfl⟩ ⟨Nat.le_of_ble_eq_true rfl, Nat.le_of_ble_eq_true rfl⟩ ⟨Nat.zero_le _, Nat.zero_le _⟩ rfl hl.1 rfl (Nat.le_of_ble_eq_true rfl) dX6_isPartly_14 (fun H locs hP hS => ?_)
    refine lv_if_eq (tgt := 34) hx hb dX6_isPartly_17 (by decide) (fun c17 => ?_) (fun c17 => ?_)
    · have hres := (itl hres).1 c17
      refine lv_iconst (v := 0) hx hb dX6_isPartly_34 (by decide) ?_
      exact hQ ▸ rtZ (v := false)  hx hb hr hlk hP hS (by rw [← hres]) rfl dX6_isPartly_35
    · have hres := (itl hres).2 c17
      refine lv_iload_n hx hb dX6_isPartly_20 rfl (lv_at hl 2 rfl) ?_
      refine lv_iconst (v := 0) hx hb dX6_isPartly_21 (by decide) ?_
      refine lv_bipush (v := 9) hx hb dX6_isPartly_22 (by decide) ?_
      refine csI hx hb hml hown hts hEo hE hK hP hS (kX6_in l D a cI cJ cS hd hEo sv kep bef isk fnd man nex wor sng hea lat tap tpd her flt vlu bit lon cel btw x2 (0 : Int32) (9 : Int32)) gX6_isPartly_X6_in rfl hdX6_in ⟨rfl, rfl⟩ ⟨Nat.le_of_ble_eq_true rfl, Nat.le_of_ble_eq_true rfl⟩ ⟨Nat.zero_le _, Nat.zero_le _⟩ rfl hl.1 rfl (Nat.le_of_ble_eq_true rfl) dX6_isPartly_24 (fun H locs hP hS => ?_)
      refine lv_if_eq (tgt := 34) hx hb dX6_isPartly_27 (by decide) (fun c27 => ?_) (fun c27 => ?_)
      · have hres := (itl hres).1 c27
        refine lv_iconst (v := 0) hx hb dX6_isPartly_34 (by decide) ?_
        exact hQ ▸ rtZ (v := false)  hx hb hr hlk hP hS (by rw [← hres]) rfl dX6_isPartly_35
      · have hres := (itl hres).2 c27
        refine lv_iconst (v := 1) hx hb dX6_isPartly_30 (by decide) ?_
        refine lv_goto (tgt := 35) hx hb dX6_isPartly_31 (by decide) ?_
        exact hQ ▸ rtZ (v := true)  hx hb hr hlk hP hS (by rw [← hres]) rfl dX6_isPartly_35
def fX6_adds (sv : Nat → Int32) (x1 : Int32) (x2 : Int32) (x3 : Int32) (x4 : Int32) : Option ((Nat → Int32)) :=
  gd (ib (((4 : Int32) + ((4 : Int32) * (sv (1 : Int32).toNatClampNeg))) + (0 : Int32)) 166) (gd (ib (((4 : Int32) + ((4 : Int32) * (sv (1 : Int32).toNatClampNeg))) + (1 : Int32)) 166) (gd (ib (((4 : Int32) + ((4 : Int32) * (sv (1 : Int32).toNatClampNeg))) + (2 : Int32)) 166) (gd (ib (((4 : Int32) + ((4 : Int32) * (sv (1 : Int32).toNatClampNeg))) + (3 : Int32)) 166) (some (upd (upd (upd (upd (upd sv (((4 : Int32) + ((4 : Int32) * (sv (1 : Int32).toNatClampNeg))) + (0 : Int32)).toNatClampNeg x1) (((4 : Int32) + ((4 : Int32) * (sv (1 : Int32).toNatClampNeg))) + (1 : Int32)).toNatClampNeg x2) (((4 : Int32) + ((4 : Int32) * (sv (1 : Int32).toNatClampNeg))) + (2 : Int32)).toNatClampNeg x3) (((4 : Int32) + ((4 : Int32) * (sv (1 : Int32).toNatClampNeg))) + (3 : Int32)).toNatClampNeg x4) (1 : Int32).toNatClampNeg (((upd (upd (upd (upd sv (((4 : Int32) + ((4 : Int32) * (sv (1 : Int32).toNatClampNeg))) + (0 : Int32)).toNatClampNeg x1) (((4 : Int32) + ((4 : Int32) * (sv (1 : Int32).toNatClampNeg))) + (1 : Int32)).toNatClampNeg x2) (((4 : Int32) + ((4 : Int32) * (sv (1 : Int32).toNatClampNeg))) + (2 : Int32)).toNatClampNeg x3) (((4 : Int32) + ((4 : Int32) * (sv (1 : Int32).toNatClampNeg))) + (3 : Int32)).toNatClampNeg x4) (1 : Int32).toNatClampNeg) + (1 : Int32)))))))
abbrev rX6_adds : Room := { frames := 0, cells := 0, slots := 0, locals := 0 }
set_option maxHeartbeats 4000000 in
set_option maxRecDepth 100000 in
theorem kX6_adds (l : Launch) (D : va_G) (a : Nat → Nat) (cI cJ cS : ClassId) (hd : aok a 16) {Env : (Nat → Prop) → State → Heap → Prop} (hEo : envOK Env) (sv kep bef : Nat → Int32) (isk : Int32) (fnd : Nat → Int32) (man nex : Nat → Int64) (wor sng hea lat tap : Nat → Int32) (tpd her flt vlu : Int32) (bit lon : Nat → Int32) (cel btw : Nat → Int64) (x1 : Int32) (x2 : Int32) (x3 : Int32) (x4 : Int32) (res : (Nat → Int32)) (hres : fX6_adds sv x1 x2 x3 x4 = some res) : CtV l D (tyL cI cJ cS) 16 a Env yX6_adds wsX6_adds rX6_adds [.ref (a 0), .int x1, .int x2, .int x3, .int x4] (wM a cI cJ cS sv kep bef isk fnd man nex wor sng hea lat tap tpd her flt vlu bit lon cel btw) (wM a cI cJ cS res kep bef isk fnd man nex wor sng hea lat tap tpd her flt vlu bit lon cel btw) := by
  refine CtV_mk (cc := cX6_adds) (maxL := 6) (ret := none) (by decide) rfl (Nat.le_of_ble_eq_true rfl) ?_
  intro p e s m args below meth c ls hx hb hr hlk hml hown hts hP hK hE hl
  have hS : va_S (adA a 16 s.heap.size) s.heap s.heap [] := va_S.rf
  have hl : lv_has ls 6 [(0, .ref (a 0)), (1, .int x1), (2, .int x2), (3, .int x3), (4, .int x4)] := hl
  have hown : s.vm.findClass RX6 = some m.cls := hown
  have hw6 : ∀ w ∈ wsX60, w.before args s = true := fun w h => hts w (List.mem_cons_of_mem _ (List.mem_append_right _ h))
  have u1 : (Cond.fieldLink RX6 9 "YearWordsModel" "s" "[I").before args s = true := hts _ (List.mem_of_getElem? (i := 1) (by decide +kernel))
  obtain ⟨Q, hQ⟩ : ∃ Q, Q = mqV below D 16 a args s (wM a cI cJ cS res kep bef isk fnd man nex wor sng hea lat tap tpd her flt vlu bit lon cel btw) := ⟨_, rfl⟩
  rw [← hQ]
  unfold fX6_adds at hres
  refine lv_iconst (v := 4) hx hb dX6_adds_0 (by decide) ?_
  refine lv_iconst (v := 4) hx hb dX6_adds_1 (by decide) ?_
  refine lv_aload_n hx hb dX6_adds_2 rfl (lv_at hl 0 rfl) ?_
  refine gM_this6_s hx hb hown hw6 hK hP u1 dX6_adds_3 ?_
  refine lv_iconst (v := 1) hx hb dX6_adds_6 (by decide) ?_
  have i7 : vp_in (1 : Int32) 166 := ib_in (by decide)
  refine lM_sv hx hb hK hP i7 dX6_adds_7 ?_
  refine lv_imul hx hb dX6_adds_8 ?_
  refine lv_iadd hx hb dX6_adds_9 ?_
  refine lv_istore (lv' := [(5, .int ((4 : Int32) + ((4 : Int32) * (sv (1 : Int32).toNatClampNeg)))), (0, .ref (a 0)), (1, .int x1), (2, .int x2), (3, .int x3), (4, .int x4)]) hx hb dX6_adds_10 hl (by decide) rfl (fun ls hl => ?_)
  refine lv_aload_n hx hb dX6_adds_12 rfl (lv_at hl 1 rfl) ?_
  refine gM_this6_s hx hb hown hw6 hK hP u1 dX6_adds_13 ?_
  refine lv_iload hx hb dX6_adds_16 (lv_at hl 0 rfl) ?_
  refine lv_iconst (v := 0) hx hb dX6_adds_18 (by decide) ?_
  refine lv_iadd hx hb dX6_adds_19 ?_
  refine lv_iload_n hx hb dX6_adds_20 rfl (lv_at hl 2 rfl) ?_
  obtain ⟨i21, hres⟩ := gdi hres
  refine sM_sv hx hb hK hP hd hS i21 dX6_adds_21 (fun H locs hP hS => ?_)
  refine lv_aload_n hx hb dX6_adds_22 rfl (lv_at hl 1 rfl) ?_
  refine gM_this6_s hx hb hown hw6 hK hP u1 dX6_adds_23 ?_
  refine lv_iload hx hb dX6_adds_26 (lv_at hl 0 rfl) ?_
  refine lv_iconst (v := 1) hx hb dX6_adds_28 (by decide) ?_
  refine lv_iadd hx hb dX6_adds_29 ?_
  refine lv_iload_n hx hb dX6_adds_30 rfl (lv_at hl 3 rfl) ?_
  obtain ⟨i31, hres⟩ := gdi hres
  refine sM_sv hx hb hK hP hd hS i31 dX6_adds_31 (fun H locs hP hS => ?_)
  refine lv_aload_n hx hb dX6_adds_32 rfl (lv_at hl 1 rfl) ?_
  refine gM_this6_s hx hb hown hw6 hK hP u1 dX6_adds_33 ?_
  refine lv_iload hx hb dX6_adds_36 (lv_at hl 0 rfl) ?_
  refine lv_iconst (v := 2) hx hb dX6_adds_38 (by decide) ?_
  refine lv_iadd hx hb dX6_adds_39 ?_
  refine lv_iload_n hx hb dX6_adds_40 rfl (lv_at hl 4 rfl) ?_
  obtain ⟨i41, hres⟩ := gdi hres
  refine sM_sv hx hb hK hP hd hS i41 dX6_adds_41 (fun H locs hP hS => ?_)
  refine lv_aload_n hx hb dX6_adds_42 rfl (lv_at hl 1 rfl) ?_
  refine gM_this6_s hx hb hown hw6 hK hP u1 dX6_adds_43 ?_
  refine lv_iload hx hb dX6_adds_46 (lv_at hl 0 rfl) ?_
  refine lv_iconst (v := 3) hx hb dX6_adds_48 (by decide) ?_
  refine lv_iadd hx hb dX6_adds_49 ?_
  refine lv_iload hx hb dX6_adds_50 (lv_at hl 5 rfl) ?_
  obtain ⟨i52, hres⟩ := gdi hres
  refine sM_sv hx hb hK hP hd hS i52 dX6_adds_52 (fun H locs hP hS => ?_)
  refine lv_aload_n hx hb dX6_adds_53 rfl (lv_at hl 1 rfl) ?_
  refine gM_this6_s hx hb hown hw6 hK hP u1 dX6_adds_54 ?_
  refine lv_iconst (v := 1) hx hb dX6_adds_57 (by decide) ?_
  refine lv_dup2_11 hx hb dX6_adds_58 rfl rfl ?_
  have i59 : vp_in (1 : Int32) 166 := ib_in (by decide)
  refine lM_sv hx hb hK hP i59 dX6_adds_59 ?_
  refine lv_iconst (v := 1) hx hb dX6_adds_60 (by decide) ?_
  refine lv_iadd hx hb dX6_adds_61 ?_
  have i62 : vp_in (1 : Int32) 166 := ib_in (by decide)
  refine sM_sv hx hb hK hP hd hS i62 dX6_adds_62 (fun H locs hP hS => ?_)
  exact hQ ▸ rtV hx hb hr hlk hP hS (by rw [← (Option.some.inj hres)]) dX6_adds_63
def fX6_part_b17 (sv : Nat → Int32) (fnd : Nat → Int32) : Option (Int32 × (Nat → Int32) × (Nat → Int32)) :=
 (fX6_no fnd (0 : Int32)).bind fun q19 => some (q19.1, sv, q19.2)
def fX6_part (sv : Nat → Int32) (fnd : Nat → Int32) (x1 : Int32) (x2 : Int32) (x3 : Int32) (x4 : Int32) : Option (Int32 × (Nat → Int32) × (Nat → Int32)) :=
  if (bI (fX6_isKind x1)) = 0 then fX6_part_b17 sv fnd else if (bI (fX6_isPartly x2 x3 x4)) = 0 then fX6_part_b17 sv fnd else if (sv (1 : Int32).toNatClampNeg) = (16 : Int32) then (fX6_no fnd (1 : Int32)).bind fun q36 => some (q36.1, sv, q36.2) else (fX6_adds sv x1 x2 x3 x4).bind fun q46 => some ((q46 (1 : Int32).toNatClampNeg) - (1 : Int32), q46, fnd)
theorem hdX6_adds : yX6_adds.cls = RX6 ∧ yX6_adds.cls ≠ "java/lang/invoke/MethodHandle" ∧ yX6_adds.cls ≠ "java/lang/invoke/VarHandle" ∧ (parseMethodDescriptor yX6_adds.desc).map (fun d => d.parameters.length) = some 4 := by decide +kernel
theorem hdX6_isKind : yX6_isKind.cls ≠ "java/lang/invoke/MethodHandle" ∧ yX6_isKind.cls ≠ "java/lang/invoke/VarHandle" ∧ (parseMethodDescriptor yX6_isKind.desc).map (fun d => d.parameters.length) = some 1 := by decide +kernel
theorem hdX6_isPartly : yX6_isPartly.cls ≠ "java/lang/invoke/MethodHandle" ∧ yX6_isPartly.cls ≠ "java/lang/invoke/VarHandle" ∧ (parseMethodDescriptor yX6_isPartly.desc).map (fun d => d.parameters.length) = some 3 := by decide +kernel
theorem hdX6_no : yX6_no.cls = RX6 ∧ yX6_no.cls ≠ "java/lang/invoke/MethodHandle" ∧ yX6_no.cls ≠ "java/lang/invoke/VarHandle" ∧ (parseMethodDescriptor yX6_no.desc).map (fun d => d.parameters.length) = some 1 := by decide +kernel
abbrev rX6_part : Room := { frames := 2, cells := 0, slots := 0, locals := 44 }
set_option maxHeartbeats 4000000 in
set_option maxRecDepth 100000 in
theorem kX6_part (l : Launch) (D : va_G) (a : Nat → Nat) (cI cJ cS : ClassId) (hd : aok a 16) {Env : (Nat → Prop) → State → Heap → Prop} (hEo : envOK Env) (sv kep bef : Nat → Int32) (isk : Int32) (fnd : Nat → Int32) (man nex : Nat → Int64) (wor sng hea lat tap : Nat → Int32) (tpd her flt vlu : Int32) (bit lon : Nat → Int32) (cel btw : Nat → Int64) (x1 : Int32) (x2 : Int32) (x3 : Int32) (x4 : Int32) (res : Int32 × (Nat → Int32) × (Nat → Int32)) (hres : fX6_part sv fnd x1 x2 x3 x4 = some res) : CtI l D (tyL cI cJ cS) 16 a Env yX6_part wsX6_part rX6_part [.ref (a 0), .int x1, .int x2, .int x3, .int x4] (wM a cI cJ cS sv kep bef isk fnd man nex wor sng hea lat tap tpd her flt vlu bit lon cel btw) (wM a cI cJ cS res.2.1 kep bef isk res.2.2 man nex wor sng hea lat tap tpd her flt vlu bit lon cel btw) res.1 := by
  refine CtI_mk (cc := cX6_part) (maxL := 5) (ret := (some .int)) (by decide) rfl (Nat.le_of_ble_eq_true rfl) ?_
  intro p e s m args below meth c ls hx hb hr hlk hml hown hts hP hK hE hl
  have hS : va_S (adA a 16 s.heap.size) s.heap s.heap [] := va_S.rf
  have hl : lv_has ls 5 [(0, .ref (a 0)), (1, .int x1), (2, .int x2), (3, .int x3), (4, .int x4)] := hl
  have hown : s.vm.findClass RX6 = some m.cls := hown
  have hw6 : ∀ w ∈ wsX60, w.before args s = true := fun w h => hts w (List.mem_cons_of_mem _ (List.mem_append_right _ h))
  have u1 : (Cond.fieldLink RX6 9 "YearWordsModel" "s" "[I").before args s = true := hts _ (List.mem_of_getElem? (i := 1) (by decide +kernel))
  obtain ⟨Q, hQ⟩ : ∃ Q, Q = mqI below D 16 a args s (wM a cI cJ cS res.2.1 kep bef isk res.2.2 man nex wor sng hea lat tap tpd her flt vlu bit lon cel btw) res.1 := ⟨_, rfl⟩
  rw [← hQ]
  have b17 : ∀ (sv : Nat → Int32) (fnd : Nat → Int32), fX6_part_b17 sv fnd = some res → ∀ (H : Heap) (locs : List Loc) (ls : Array Slot), va_P D vwCl (wM a cI cJ cS sv kep bef isk fnd man nex wor sng hea lat tap tpd her flt vlu bit lon cel btw) H → va_S (adA a 16 s.heap.size) s.heap H locs → lv_has ls 5 [(0, .ref (a 0))] → W p l e rX6_part s m args below meth c H locs 0 0 Q (F0 m 17 ls []) := by
    intro sv fnd hres H locs ls hP hS hl
    unfold fX6_part_b17 at hres
    refine lv_aload_n hx hb dX6_part_17 rfl (lv_at hl 0 rfl) ?_
    refine lv_iconst (v := 0) hx hb dX6_part_18 (by decide) ?_
    obtain ⟨q19, e19, hres⟩ := obd hres
    refine cvI (q0 := 0) (ci := 6) hx hb hml hown hts hEo hE hK hP hS (kX6_no l D a cI cJ cS hd hEo sv kep bef isk fnd man nex wor sng hea lat tap tpd her flt vlu bit lon cel btw (0 : Int32) q19 e19) gX6_part_X6_no rfl hdX6_no rfl rfl rfl ⟨rfl, rfl⟩ ⟨Nat.le_of_ble_eq_true rfl, Nat.le_of_ble_eq_true rfl⟩ ⟨Nat.zero_le _, Nat.zero_le _⟩ rfl hl.1 rfl (Nat.le_of_ble_eq_true rfl) dX6_part_19 (fun H locs hP hS => ?_)
    exact hQ ▸ rtI (v := q19.1)  hx hb hr hlk hP hS (by rw [← (Option.some.inj hres)]) (by rw [← (Option.some.inj hres)]) dX6_part_22
  unfold fX6_part at hres
  refine lv_iload_n hx hb dX6_part_0 rfl (lv_at hl 1 rfl) ?_
  refine csI hx hb hml hown hts hEo hE hK hP hS (kX6_isKind l D a cI cJ cS hd hEo sv kep bef isk fnd man nex wor sng hea lat tap tpd her flt vlu bit lon cel btw x1) gX6_part_X6_isKind rfl hdX6_isKind ⟨rfl, rfl⟩ ⟨Nat.le_of_ble_eq_true rfl, Nat.le_of_ble_eq_true rfl⟩ ⟨Nat.zero_le _, Nat.zero_le _⟩ rfl hl.1 rfl (Nat.le_of_ble_eq_true rfl) dX6_part_1 (fun H locs hP hS => ?_)
  refine lv_if_eq (tgt := 17) hx hb dX6_part_4 (by decide) (fun c4 => ?_) (fun c4 => ?_)
  · have hres := (itl hres).1 c4
    exact b17 sv fnd hres _ _ _ hP hS (lv_sub hl [0] rfl)
  · have hres := (itl hres).2 c4
    refine lv_iload_n hx hb dX6_part_7 rfl (lv_at hl 2 rfl) ?_
    refine lv_iload_n hx hb dX6_part_8 rfl (lv_at hl 3 rfl) ?_
    refine lv_iload hx hb dX6_part_9 (lv_at hl 4 rfl) ?_
    refine csI hx hb hml hown hts hEo hE hK hP hS (kX6_isPartly l D a cI cJ cS hd hEo sv kep bef isk fnd man nex wor sng hea lat tap tpd her flt vlu bit lon cel btw x2 x3 x4) gX6_part_X6_isPartly rfl hdX6_isPartly ⟨rfl, rfl⟩ ⟨Nat.le_of_ble_eq_true rfl, Nat.le_of_ble_eq_true rfl⟩ ⟨Nat.zero_le _, Nat.zero_le _⟩ rfl hl.1 rfl (Nat.le_of_ble_eq_true rfl) dX6_part_11 (fun H locs hP hS => ?_)
    refine lv_if_ne (tgt := 23) hx hb dX6_part_14 (by decide) (fun c14 => ?_) (fun c14 => ?_)
    · have hres := (itl hres).2 c14
      refine lv_aload_n hx hb dX6_part_23 rfl (lv_at hl 0 rfl) ?_
      refine gM_this6_s hx hb hown hw6 hK hP u1 dX6_part_24 ?_
      refine lv_iconst (v := 1) hx hb dX6_part_27 (by decide) ?_
      have i28 : vp_in (1 : Int32) 166 := ib_in (by decide)
      refine lM_sv hx hb hK hP i28 dX6_part_28 ?_
      refine lv_bipush (v := 16) hx hb dX6_part_29 (by decide) ?_
      refine lv_icmp_ne (tgt := 40) hx hb dX6_part_31 (by decide) (fun c31 => ?_) (fun c31 => ?_)
      · have hres := (itl hres).2 c31
        refine lv_aload_n hx hb dX6_part_40 rfl (lv_at hl 0 rfl) ?_
        refine lv_iload_n hx hb dX6_part_41 rfl (lv_at hl 1 rfl) ?_
        refine lv_iload_n hx hb dX6_part_42 rfl (lv_at hl 2 rfl) ?_
        refine lv_iload_n hx hb dX6_part_43 rfl (lv_at hl 3 rfl) ?_
        refine lv_iload hx hb dX6_part_44 (lv_at hl 4 rfl) ?_
        obtain ⟨q46, e46, hres⟩ := obd hres
        refine cvV (q0 := 0) (ci := 6) hx hb hml hown hts hEo hE hK hP hS (kX6_adds l D a cI cJ cS hd hEo sv kep bef isk fnd man nex wor sng hea lat tap tpd her flt vlu bit lon cel btw x1 x2 x3 x4 q46 e46) gX6_part_X6_adds rfl hdX6_adds rfl rfl rfl ⟨rfl, rfl⟩ ⟨Nat.le_of_ble_eq_true rfl, Nat.le_of_ble_eq_true rfl⟩ ⟨Nat.zero_le _, Nat.zero_le _⟩ rfl hl.1 rfl (Nat.le_of_ble_eq_true rfl) dX6_part_46 (fun H locs hP hS => ?_)
        refine lv_aload_n hx hb dX6_part_49 rfl (lv_at hl 0 rfl) ?_
        refine gM_this6_s hx hb hown hw6 hK hP u1 dX6_part_50 ?_
        refine lv_iconst (v := 1) hx hb dX6_part_53 (by decide) ?_
        have i54 : vp_in (1 : Int32) 166 := ib_in (by decide)
        refine lM_sv hx hb hK hP i54 dX6_part_54 ?_
        refine lv_iconst (v := 1) hx hb dX6_part_55 (by decide) ?_
        refine lv_isub hx hb dX6_part_56 ?_
        exact hQ ▸ rtI (v := (q46 (1 : Int32).toNatClampNeg) - (1 : Int32))  hx hb hr hlk hP hS (by rw [← (Option.some.inj hres)]) (by rw [← (Option.some.inj hres)]) dX6_part_57
      · have hres := (itl hres).1 c31
        refine lv_aload_n hx hb dX6_part_34 rfl (lv_at hl 0 rfl) ?_
        refine lv_iconst (v := 1) hx hb dX6_part_35 (by decide) ?_
        obtain ⟨q36, e36, hres⟩ := obd hres
        refine cvI (q0 := 0) (ci := 6) hx hb hml hown hts hEo hE hK hP hS (kX6_no l D a cI cJ cS hd hEo sv kep bef isk fnd man nex wor sng hea lat tap tpd her flt vlu bit lon cel btw (1 : Int32) q36 e36) gX6_part_X6_no rfl hdX6_no rfl rfl rfl ⟨rfl, rfl⟩ ⟨Nat.le_of_ble_eq_true rfl, Nat.le_of_ble_eq_true rfl⟩ ⟨Nat.zero_le _, Nat.zero_le _⟩ rfl hl.1 rfl (Nat.le_of_ble_eq_true rfl) dX6_part_36 (fun H locs hP hS => ?_)
        exact hQ ▸ rtI (v := q36.1)  hx hb hr hlk hP hS (by rw [← (Option.some.inj hres)]) (by rw [← (Option.some.inj hres)]) dX6_part_39
    · have hres := (itl hres).1 c14
      exact b17 sv fnd hres _ _ _ hP hS (lv_sub hl [0] rfl)
def fX6_isBetween (x0 : Int32) (x1 : Int32) (x2 : Int32) : Bool :=
  if x0 < x1 then false else if x2 < x0 then false else true
abbrev rX6_isBetween : Room := { frames := 0, cells := 0, slots := 0, locals := 0 }
set_option maxHeartbeats 4000000 in
set_option maxRecDepth 100000 in
theorem kX6_isBetween (l : Launch) (D : va_G) (a : Nat → Nat) (cI cJ cS : ClassId) (hd : aok a 16) {Env : (Nat → Prop) → State → Heap → Prop} (hEo : envOK Env) (sv kep bef : Nat → Int32) (isk : Int32) (fnd : Nat → Int32) (man nex : Nat → Int64) (wor sng hea lat tap : Nat → Int32) (tpd her flt vlu : Int32) (bit lon : Nat → Int32) (cel btw : Nat → Int64) (x0 : Int32) (x1 : Int32) (x2 : Int32) : CtI l D (tyL cI cJ cS) 16 a Env yX6_isBetween wsX6_isBetween rX6_isBetween [.int x0, .int x1, .int x2] (wM a cI cJ cS sv kep bef isk fnd man nex wor sng hea lat tap tpd her flt vlu bit lon cel btw) (wM a cI cJ cS sv kep bef isk fnd man nex wor sng hea lat tap tpd her flt vlu bit lon cel btw) (bI (fX6_isBetween x0 x1 x2)) := by
  generalize hres : fX6_isBetween x0 x1 x2 = res
  refine CtI_mk (cc := cX6_isBetween) (maxL := 3) (ret := (some .boolean)) (by decide) rfl (Nat.le_of_ble_eq_true rfl) ?_
  intro p e s m args below meth c ls hx hb hr hlk hml hown hts hP hK hE hl
  have hS : va_S (adA a 16 s.heap.size) s.heap s.heap [] := va_S.rf
  have hl : lv_has ls 3 [(0, .int x0), (1, .int x1), (2, .int x2)] := hl
  have hown : s.vm.findClass RX6 = some m.cls := hown
  obtain ⟨Q, hQ⟩ : ∃ Q, Q = mqI below D 16 a args s (wM a cI cJ cS sv kep bef isk fnd man nex wor sng hea lat tap tpd her flt vlu bit lon cel btw) (bI res) := ⟨_, rfl⟩
  rw [← hQ]
  unfold fX6_isBetween at hres
  refine lv_iload_n hx hb dX6_isBetween_0 rfl (lv_at hl 0 rfl) ?_
  refine lv_iload_n hx hb dX6_isBetween_1 rfl (lv_at hl 1 rfl) ?_
  refine lv_icmp_lt (tgt := 14) hx hb dX6_isBetween_2 (by decide) (fun c2 => ?_) (fun c2 => ?_)
  · have hres := (itl hres).1 c2
    refine lv_iconst (v := 0) hx hb dX6_isBetween_14 (by decide) ?_
    exact hQ ▸ rtZ (v := false)  hx hb hr hlk hP hS (by rw [← hres]) rfl dX6_isBetween_15
  · have hres := (itl hres).2 c2
    refine lv_iload_n hx hb dX6_isBetween_5 rfl (lv_at hl 0 rfl) ?_
    refine lv_iload_n hx hb dX6_isBetween_6 rfl (lv_at hl 2 rfl) ?_
    refine lv_icmp_gt (tgt := 14) hx hb dX6_isBetween_7 (by decide) (fun c7 => ?_) (fun c7 => ?_)
    · have hres := (itl hres).1 c7
      refine lv_iconst (v := 0) hx hb dX6_isBetween_14 (by decide) ?_
      exact hQ ▸ rtZ (v := false)  hx hb hr hlk hP hS (by rw [← hres]) rfl dX6_isBetween_15
    · have hres := (itl hres).2 c7
      refine lv_iconst (v := 1) hx hb dX6_isBetween_10 (by decide) ?_
      refine lv_goto (tgt := 15) hx hb dX6_isBetween_11 (by decide) ?_
      exact hQ ▸ rtZ (v := true)  hx hb hr hlk hP hS (by rw [← hres]) rfl dX6_isBetween_15
def fX6_isLength (sv : Nat → Int32) (x1 : Int32) (x2 : Int32) : Option (Bool) :=
 (fX6_has sv x1 (1 : Int32)).bind fun q3 => (fX6_has sv x1 (2 : Int32)).bind fun q10 => (fX6_has sv x1 (0 : Int32)).bind fun q18 => if q18 = 0 then if x2 = q3 then some true else some false else if q18 = 1 then some (fX6_isBetween x2 q3 q10) else if q18 = 2 then if x2 = 0 then some true else if x2 = q3 then some true else some false else if q18 = 3 then if (bI (fX6_isBetween x2 q3 q10)) = 0 then some false else if ((x2 - q3) - (x2 - q3) / (2 : Int32) * (2 : Int32)) = 0 then some true else some false else if q18 = 4 then if (bI (fX6_isBetween x2 q3 q10)) = 0 then if (x2 - x2 / (2 : Int32) * (2 : Int32)) = 0 then if (bI (fX6_isBetween (x2 / (2 : Int32)) q3 q10)) = 0 then some false else some true else some false else some true else some (fX6_isBetween x2 (0 : Int32) q10)
theorem hdX6_has : yX6_has.cls = RX6 ∧ yX6_has.cls ≠ "java/lang/invoke/MethodHandle" ∧ yX6_has.cls ≠ "java/lang/invoke/VarHandle" ∧ (parseMethodDescriptor yX6_has.desc).map (fun d => d.parameters.length) = some 2 := by decide +kernel
theorem hdX6_isBetween : yX6_isBetween.cls ≠ "java/lang/invoke/MethodHandle" ∧ yX6_isBetween.cls ≠ "java/lang/invoke/VarHandle" ∧ (parseMethodDescriptor yX6_isBetween.desc).map (fun d => d.parameters.length) = some 3 := by decide +kernel
abbrev rX6_isLength : Room := { frames := 1, cells := 0, slots := 0, locals := 22 }
set_option maxHeartbeats 4000000 in
set_option maxRecDepth 100000 in
theorem kX6_isLength (l : Launch) (D : va_G) (a : Nat → Nat) (cI cJ cS : ClassId) (hd : aok a 16) {Env : (Nat → Prop) → State → Heap → Prop} (hEo : envOK Env) (sv kep bef : Nat → Int32) (isk : Int32) (fnd : Nat → Int32) (man nex : Nat → Int64) (wor sng hea lat tap : Nat → Int32) (tpd her flt vlu : Int32) (bit lon : Nat → Int32) (cel btw : Nat → Int64) (x1 : Int32) (x2 : Int32) (res : Bool) (hres : fX6_isLength sv x1 x2 = some res) : CtI l D (tyL cI cJ cS) 16 a Env yX6_isLength wsX6_isLength rX6_isLength [.ref (a 0), .int x1, .int x2] (wM a cI cJ cS sv kep bef isk fnd man nex wor sng hea lat tap tpd her flt vlu bit lon cel btw) (wM a cI cJ cS sv kep bef isk fnd man nex wor sng hea lat tap tpd her flt vlu bit lon cel btw) (bI res) := by
  refine CtI_mk (cc := cX6_isLength) (maxL := 5) (ret := (some .boolean)) (by decide) rfl (Nat.le_of_ble_eq_true rfl) ?_
  intro p e s m args below meth c ls hx hb hr hlk hml hown hts hP hK hE hl
  have hS : va_S (adA a 16 s.heap.size) s.heap s.heap [] := va_S.rf
  have hl : lv_has ls 5 [(0, .ref (a 0)), (1, .int x1), (2, .int x2)] := hl
  have hown : s.vm.findClass RX6 = some m.cls := hown
  obtain ⟨Q, hQ⟩ : ∃ Q, Q = mqI below D 16 a args s (wM a cI cJ cS sv kep bef isk fnd man nex wor sng hea lat tap tpd her flt vlu bit lon cel btw) (bI res) := ⟨_, rfl⟩
  rw [← hQ]
  unfold fX6_isLength at hres
  refine lv_aload_n hx hb dX6_isLength_0 rfl (lv_at hl 0 rfl) ?_
  refine lv_iload_n hx hb dX6_isLength_1 rfl (lv_at hl 1 rfl) ?_
  refine lv_iconst (v := 1) hx hb dX6_isLength_2 (by decide) ?_
  obtain ⟨q3, e3, hres⟩ := obd hres
  refine cvI (q0 := 0) (ci := 6) hx hb hml hown hts hEo hE hK hP hS (kX6_has l D a cI cJ cS hd hEo sv kep bef isk fnd man nex wor sng hea lat tap tpd her flt vlu bit lon cel btw x1 (1 : Int32) q3 e3) gX6_isLength_X6_has rfl hdX6_has rfl rfl rfl ⟨rfl, rfl⟩ ⟨Nat.le_of_ble_eq_true rfl, Nat.le_of_ble_eq_true rfl⟩ ⟨Nat.zero_le _, Nat.zero_le _⟩ rfl hl.1 rfl (Nat.le_of_ble_eq_true rfl) dX6_isLength_3 (fun H locs hP hS => ?_)
  refine lv_istore_n (lv' := [(3, .int q3), (0, .ref (a 0)), (1, .int x1), (2, .int x2)]) hx hb dX6_isLength_6 rfl hl (by decide) rfl (fun ls hl => ?_)
  refine lv_aload_n hx hb dX6_isLength_7 rfl (lv_at hl 1 rfl) ?_
  refine lv_iload_n hx hb dX6_isLength_8 rfl (lv_at hl 2 rfl) ?_
  refine lv_iconst (v := 2) hx hb dX6_isLength_9 (by decide) ?_
  obtain ⟨q10, e10, hres⟩ := obd hres
  refine cvI (q0 := 0) (ci := 6) hx hb hml hown hts hEo hE hK hP hS (kX6_has l D a cI cJ cS hd hEo sv kep bef isk fnd man nex wor sng hea lat tap tpd her flt vlu bit lon cel btw x1 (2 : Int32) q10 e10) gX6_isLength_X6_has rfl hdX6_has rfl rfl rfl ⟨rfl, rfl⟩ ⟨Nat.le_of_ble_eq_true rfl, Nat.le_of_ble_eq_true rfl⟩ ⟨Nat.zero_le _, Nat.zero_le _⟩ rfl hl.1 rfl (Nat.le_of_ble_eq_true rfl) dX6_isLength_10 (fun H locs hP hS => ?_)
  refine lv_istore (lv' := [(4, .int q10), (3, .int q3), (0, .ref (a 0)), (1, .int x1), (2, .int x2)]) hx hb dX6_isLength_13 hl (by decide) rfl (fun ls hl => ?_)
  refine lv_aload_n hx hb dX6_isLength_15 rfl (lv_at hl 2 rfl) ?_
  refine lv_iload_n hx hb dX6_isLength_16 rfl (lv_at hl 3 rfl) ?_
  refine lv_iconst (v := 0) hx hb dX6_isLength_17 (by decide) ?_
  obtain ⟨q18, e18, hres⟩ := obd hres
  refine cvI (q0 := 0) (ci := 6) hx hb hml hown hts hEo hE hK hP hS (kX6_has l D a cI cJ cS hd hEo sv kep bef isk fnd man nex wor sng hea lat tap tpd her flt vlu bit lon cel btw x1 (0 : Int32) q18 e18) gX6_isLength_X6_has rfl hdX6_has rfl rfl rfl ⟨rfl, rfl⟩ ⟨Nat.le_of_ble_eq_true rfl, Nat.le_of_ble_eq_true rfl⟩ ⟨Nat.zero_le _, Nat.zero_le _⟩ rfl hl.1 rfl (Nat.le_of_ble_eq_true rfl) dX6_isLength_18 (fun H locs hP hS => ?_)
  by_cases v21_0 : q18 = 0
  · have hres := (itl hres).1 v21_0
    refine lv_tableIn (off := 35) (tgt := 56) hx hb dX6_isLength_21 (by rw [v21_0]; decide) (by rw [v21_0]; decide) (by rw [v21_0]; rfl) (by decide) ?_
    refine lv_iload_n hx hb dX6_isLength_56 rfl (lv_at hl 4 rfl) ?_
    refine lv_iload_n hx hb dX6_isLength_57 rfl (lv_at hl 1 rfl) ?_
    refine lv_icmp_ne (tgt := 65) hx hb dX6_isLength_58 (by decide) (fun c58 => ?_) (fun c58 => ?_)
    · have hres := (itl hres).2 c58
      refine lv_iconst (v := 0) hx hb dX6_isLength_65 (by decide) ?_
      exact hQ ▸ rtZ (v := false)  hx hb hr hlk hP hS (by rw [← (Option.some.inj hres)]) rfl dX6_isLength_66
    · have hres := (itl hres).1 c58
      refine lv_iconst (v := 1) hx hb dX6_isLength_61 (by decide) ?_
      refine lv_goto (tgt := 66) hx hb dX6_isLength_62 (by decide) ?_
      exact hQ ▸ rtZ (v := true)  hx hb hr hlk hP hS (by rw [← (Option.some.inj hres)]) rfl dX6_isLength_66
  · have hres := (itl hres).2 v21_0
    by_cases v21_1 : q18 = 1
    · have hres := (itl hres).1 v21_1
      refine lv_tableIn (off := 46) (tgt := 67) hx hb dX6_isLength_21 (by rw [v21_1]; decide) (by rw [v21_1]; decide) (by rw [v21_1]; rfl) (by decide) ?_
      refine lv_iload_n hx hb dX6_isLength_67 rfl (lv_at hl 4 rfl) ?_
      refine lv_iload_n hx hb dX6_isLength_68 rfl (lv_at hl 1 rfl) ?_
      refine lv_iload hx hb dX6_isLength_69 (lv_at hl 0 rfl) ?_
      refine csI hx hb hml hown hts hEo hE hK hP hS (kX6_isBetween l D a cI cJ cS hd hEo sv kep bef isk fnd man nex wor sng hea lat tap tpd her flt vlu bit lon cel btw x2 q3 q10) gX6_isLength_X6_isBetween rfl hdX6_isBetween ⟨rfl, rfl⟩ ⟨Nat.le_of_ble_eq_true rfl, Nat.le_of_ble_eq_true rfl⟩ ⟨Nat.zero_le _, Nat.zero_le _⟩ rfl hl.1 rfl (Nat.le_of_ble_eq_true rfl) dX6_isLength_71 (fun H locs hP hS => ?_)
      exact hQ ▸ rtZ (v := (fX6_isBetween x2 q3 q10))  hx hb hr hlk hP hS (by rw [← (Option.some.inj hres)]) rfl dX6_isLength_74
    · have hres := (itl hres).2 v21_1
      by_cases v21_2 : q18 = 2
      · have hres := (itl hres).1 v21_2
        refine lv_tableIn (off := 54) (tgt := 75) hx hb dX6_isLength_21 (by rw [v21_2]; decide) (by rw [v21_2]; decide) (by rw [v21_2]; rfl) (by decide) ?_
        refine lv_iload_n hx hb dX6_isLength_75 rfl (lv_at hl 4 rfl) ?_
        refine lv_if_eq (tgt := 84) hx hb dX6_isLength_76 (by decide) (fun c76 => ?_) (fun c76 => ?_)
        · have hres := (itl hres).1 c76
          refine lv_iconst (v := 1) hx hb dX6_isLength_84 (by decide) ?_
          refine lv_goto (tgt := 89) hx hb dX6_isLength_85 (by decide) ?_
          exact hQ ▸ rtZ (v := true)  hx hb hr hlk hP hS (by rw [← (Option.some.inj hres)]) rfl dX6_isLength_89
        · have hres := (itl hres).2 c76
          refine lv_iload_n hx hb dX6_isLength_79 rfl (lv_at hl 4 rfl) ?_
          refine lv_iload_n hx hb dX6_isLength_80 rfl (lv_at hl 1 rfl) ?_
          refine lv_icmp_ne (tgt := 88) hx hb dX6_isLength_81 (by decide) (fun c81 => ?_) (fun c81 => ?_)
          · have hres := (itl hres).2 c81
            refine lv_iconst (v := 0) hx hb dX6_isLength_88 (by decide) ?_
            exact hQ ▸ rtZ (v := false)  hx hb hr hlk hP hS (by rw [← (Option.some.inj hres)]) rfl dX6_isLength_89
          · have hres := (itl hres).1 c81
            refine lv_iconst (v := 1) hx hb dX6_isLength_84 (by decide) ?_
            refine lv_goto (tgt := 89) hx hb dX6_isLength_85 (by decide) ?_
            exact hQ ▸ rtZ (v := true)  hx hb hr hlk hP hS (by rw [← (Option.some.inj hres)]) rfl dX6_isLength_89
      · have hres := (itl hres).2 v21_2
        by_cases v21_3 : q18 = 3
        · have hres := (itl hres).1 v21_3
          refine lv_tableIn (off := 69) (tgt := 90) hx hb dX6_isLength_21 (by rw [v21_3]; decide) (by rw [v21_3]; decide) (by rw [v21_3]; rfl) (by decide) ?_
          refine lv_iload_n hx hb dX6_isLength_90 rfl (lv_at hl 4 rfl) ?_
          refine lv_iload_n hx hb dX6_isLength_91 rfl (lv_at hl 1 rfl) ?_
          refine lv_iload hx hb dX6_isLength_92 (lv_at hl 0 rfl) ?_
          refine csI hx hb hml hown hts hEo hE hK hP hS (kX6_isBetween l D a cI cJ cS hd hEo sv kep bef isk fnd man nex wor sng hea lat tap tpd her flt vlu bit lon cel btw x2 q3 q10) gX6_isLength_X6_isBetween rfl hdX6_isBetween ⟨rfl, rfl⟩ ⟨Nat.le_of_ble_eq_true rfl, Nat.le_of_ble_eq_true rfl⟩ ⟨Nat.zero_le _, Nat.zero_le _⟩ rfl hl.1 rfl (Nat.le_of_ble_eq_true rfl) dX6_isLength_94 (fun H locs hP hS => ?_)
          refine lv_if_eq (tgt := 112) hx hb dX6_isLength_97 (by decide) (fun c97 => ?_) (fun c97 => ?_)
          · have hres := (itl hres).1 c97
            refine lv_iconst (v := 0) hx hb dX6_isLength_112 (by decide) ?_
            exact hQ ▸ rtZ (v := false)  hx hb hr hlk hP hS (by rw [← (Option.some.inj hres)]) rfl dX6_isLength_113
          · have hres := (itl hres).2 c97
            refine lv_iload_n hx hb dX6_isLength_100 rfl (lv_at hl 4 rfl) ?_
            refine lv_iload_n hx hb dX6_isLength_101 rfl (lv_at hl 1 rfl) ?_
            refine lv_isub hx hb dX6_isLength_102 ?_
            refine lv_iconst (v := 2) hx hb dX6_isLength_103 (by decide) ?_
            refine lv_irem hx hb dX6_isLength_104 (by decide) ?_
            refine lv_if_ne (tgt := 112) hx hb dX6_isLength_105 (by decide) (fun c105 => ?_) (fun c105 => ?_)
            · have hres := (itl hres).2 c105
              refine lv_iconst (v := 0) hx hb dX6_isLength_112 (by decide) ?_
              exact hQ ▸ rtZ (v := false)  hx hb hr hlk hP hS (by rw [← (Option.some.inj hres)]) rfl dX6_isLength_113
            · have hres := (itl hres).1 c105
              refine lv_iconst (v := 1) hx hb dX6_isLength_108 (by decide) ?_
              refine lv_goto (tgt := 113) hx hb dX6_isLength_109 (by decide) ?_
              exact hQ ▸ rtZ (v := true)  hx hb hr hlk hP hS (by rw [← (Option.some.inj hres)]) rfl dX6_isLength_113
        · have hres := (itl hres).2 v21_3
          by_cases v21_4 : q18 = 4
          · have hres := (itl hres).1 v21_4
            refine lv_tableIn (off := 93) (tgt := 114) hx hb dX6_isLength_21 (by rw [v21_4]; decide) (by rw [v21_4]; decide) (by rw [v21_4]; rfl) (by decide) ?_
            refine lv_iload_n hx hb dX6_isLength_114 rfl (lv_at hl 4 rfl) ?_
            refine lv_iload_n hx hb dX6_isLength_115 rfl (lv_at hl 1 rfl) ?_
            refine lv_iload hx hb dX6_isLength_116 (lv_at hl 0 rfl) ?_
            refine csI hx hb hml hown hts hEo hE hK hP hS (kX6_isBetween l D a cI cJ cS hd hEo sv kep bef isk fnd man nex wor sng hea lat tap tpd her flt vlu bit lon cel btw x2 q3 q10) gX6_isLength_X6_isBetween rfl hdX6_isBetween ⟨rfl, rfl⟩ ⟨Nat.le_of_ble_eq_true rfl, Nat.le_of_ble_eq_true rfl⟩ ⟨Nat.zero_le _, Nat.zero_le _⟩ rfl hl.1 rfl (Nat.le_of_ble_eq_true rfl) dX6_isLength_118 (fun H locs hP hS => ?_)
            refine lv_if_ne (tgt := 142) hx hb dX6_isLength_121 (by decide) (fun c121 => ?_) (fun c121 => ?_)
            · have hres := (itl hres).2 c121
              refine lv_iconst (v := 1) hx hb dX6_isLength_142 (by decide) ?_
              refine lv_goto (tgt := 147) hx hb dX6_isLength_143 (by decide) ?_
              exact hQ ▸ rtZ (v := true)  hx hb hr hlk hP hS (by rw [← (Option.some.inj hres)]) rfl dX6_isLength_147
            · have hres := (itl hres).1 c121
              refine lv_iload_n hx hb dX6_isLength_124 rfl (lv_at hl 4 rfl) ?_
              refine lv_iconst (v := 2) hx hb dX6_isLength_125 (by decide) ?_
              refine lv_irem hx hb dX6_isLength_126 (by decide) ?_
              refine lv_if_ne (tgt := 146) hx hb dX6_isLength_127 (by decide) (fun c127 => ?_) (fun c127 => ?_)
              · have hres := (itl hres).2 c127
                refine lv_iconst (v := 0) hx hb dX6_isLength_146 (by decide) ?_
                exact hQ ▸ rtZ (v := false)  hx hb hr hlk hP hS (by rw [← (Option.some.inj hres)]) rfl dX6_isLength_147
              · have hres := (itl hres).1 c127
                refine lv_iload_n hx hb dX6_isLength_130 rfl (lv_at hl 4 rfl) ?_
                refine lv_iconst (v := 2) hx hb dX6_isLength_131 (by decide) ?_
                refine lv_idiv hx hb dX6_isLength_132 (by decide) ?_
                refine lv_iload_n hx hb dX6_isLength_133 rfl (lv_at hl 1 rfl) ?_
                refine lv_iload hx hb dX6_isLength_134 (lv_at hl 0 rfl) ?_
                refine csI hx hb hml hown hts hEo hE hK hP hS (kX6_isBetween l D a cI cJ cS hd hEo sv kep bef isk fnd man nex wor sng hea lat tap tpd her flt vlu bit lon cel btw (x2 / (2 : Int32)) q3 q10) gX6_isLength_X6_isBetween rfl hdX6_isBetween ⟨rfl, rfl⟩ ⟨Nat.le_of_ble_eq_true rfl, Nat.le_of_ble_eq_true rfl⟩ ⟨Nat.zero_le _, Nat.zero_le _⟩ rfl hl.1 rfl (Nat.le_of_ble_eq_true rfl) dX6_isLength_136 (fun H locs hP hS => ?_)
                refine lv_if_eq (tgt := 146) hx hb dX6_isLength_139 (by decide) (fun c139 => ?_) (fun c139 => ?_)
                · have hres := (itl hres).1 c139
                  refine lv_iconst (v := 0) hx hb dX6_isLength_146 (by decide) ?_
                  exact hQ ▸ rtZ (v := false)  hx hb hr hlk hP hS (by rw [← (Option.some.inj hres)]) rfl dX6_isLength_147
                · have hres := (itl hres).2 c139
                  refine lv_iconst (v := 1) hx hb dX6_isLength_142 (by decide) ?_
                  refine lv_goto (tgt := 147) hx hb dX6_isLength_143 (by decide) ?_
                  exact hQ ▸ rtZ (v := true)  hx hb hr hlk hP hS (by rw [← (Option.some.inj hres)]) rfl dX6_isLength_147
          · have hres := (itl hres).2 v21_4
            refine lv_tableOut (tgt := 148) hx hb dX6_isLength_21 (sw04 v21_0 v21_1 v21_2 v21_3 v21_4) (by decide) ?_
            refine lv_iload_n hx hb dX6_isLength_148 rfl (lv_at hl 4 rfl) ?_
            refine lv_iconst (v := 0) hx hb dX6_isLength_149 (by decide) ?_
            refine lv_iload hx hb dX6_isLength_150 (lv_at hl 0 rfl) ?_
            refine csI hx hb hml hown hts hEo hE hK hP hS (kX6_isBetween l D a cI cJ cS hd hEo sv kep bef isk fnd man nex wor sng hea lat tap tpd her flt vlu bit lon cel btw x2 (0 : Int32) q10) gX6_isLength_X6_isBetween rfl hdX6_isBetween ⟨rfl, rfl⟩ ⟨Nat.le_of_ble_eq_true rfl, Nat.le_of_ble_eq_true rfl⟩ ⟨Nat.zero_le _, Nat.zero_le _⟩ rfl hl.1 rfl (Nat.le_of_ble_eq_true rfl) dX6_isLength_152 (fun H locs hP hS => ?_)
            exact hQ ▸ rtZ (v := (fX6_isBetween x2 (0 : Int32) q10))  hx hb hr hlk hP hS (by rw [← (Option.some.inj hres)]) rfl dX6_isLength_155
def fX6_lengths_b27 (K4 : Int32 → Int32 → Option (Int32)) (x3 : Int32) (z0 : Int32) (z1 : Int32) : Option (Int32) :=
  K4 (z0 ||| z1) (x3 + 1)
def fX6_lengths_l4 (sv : Nat → Int32) (x1 : Int32) (K4 : Int32 → Int32 → Option (Int32)) (x2 : Int32) (x3 : Int32) : Option (Int32) :=
  if (25 : Int32) ≤ x3 then some x2 else (fX6_isLength sv x1 x3).bind fun q14 => if (bI q14) = 0 then fX6_lengths_b27 K4 x3 x2 (0 : Int32) else fX6_lengths_b27 K4 x3 x2 ((1 : Int32) <<< (x3 &&& 31))
def fX6_lengths (sv : Nat → Int32) (x1 : Int32) : Option (Int32) :=
  fix2 (fX6_lengths_l4 sv x1) 2000 (0 : Int32) (0 : Int32)
theorem hdX6_isLength : yX6_isLength.cls = RX6 ∧ yX6_isLength.cls ≠ "java/lang/invoke/MethodHandle" ∧ yX6_isLength.cls ≠ "java/lang/invoke/VarHandle" ∧ (parseMethodDescriptor yX6_isLength.desc).map (fun d => d.parameters.length) = some 2 := by decide +kernel
abbrev rX6_lengths : Room := { frames := 2, cells := 0, slots := 0, locals := 46 }
set_option maxHeartbeats 4000000 in
set_option maxRecDepth 100000 in
theorem kX6_lengths (l : Launch) (D : va_G) (a : Nat → Nat) (cI cJ cS : ClassId) (hd : aok a 16) {Env : (Nat → Prop) → State → Heap → Prop} (hEo : envOK Env) (sv kep bef : Nat → Int32) (isk : Int32) (fnd : Nat → Int32) (man nex : Nat → Int64) (wor sng hea lat tap : Nat → Int32) (tpd her flt vlu : Int32) (bit lon : Nat → Int32) (cel btw : Nat → Int64) (x1 : Int32) (res : Int32) (hres : fX6_lengths sv x1 = some res) : CtI l D (tyL cI cJ cS) 16 a Env yX6_lengths wsX6_lengths rX6_lengths [.ref (a 0), .int x1] (wM a cI cJ cS sv kep bef isk fnd man nex wor sng hea lat tap tpd her flt vlu bit lon cel btw) (wM a cI cJ cS sv kep bef isk fnd man nex wor sng hea lat tap tpd her flt vlu bit lon cel btw) res := by
  refine CtI_mk (cc := cX6_lengths) (maxL := 4) (ret := (some .int)) (by decide) rfl (Nat.le_of_ble_eq_true rfl) ?_
  intro p e s m args below meth c ls hx hb hr hlk hml hown hts hP hK hE hl
  have hS : va_S (adA a 16 s.heap.size) s.heap s.heap [] := va_S.rf
  have hl : lv_has ls 4 [(0, .ref (a 0)), (1, .int x1)] := hl
  have hown : s.vm.findClass RX6 = some m.cls := hown
  obtain ⟨Q, hQ⟩ : ∃ Q, Q = mqI below D 16 a args s (wM a cI cJ cS sv kep bef isk fnd man nex wor sng hea lat tap tpd her flt vlu bit lon cel btw) res := ⟨_, rfl⟩
  rw [← hQ]
  have b4 : ∀  (n : Nat) (x2 : Int32) (x3 : Int32), fix2 (fX6_lengths_l4 sv x1) n x2 x3 = some res → ∀ (H : Heap) (locs : List Loc) (ls : Array Slot), va_P D vwCl (wM a cI cJ cS sv kep bef isk fnd man nex wor sng hea lat tap tpd her flt vlu bit lon cel btw) H → va_S (adA a 16 s.heap.size) s.heap H locs → lv_has ls 4 [(0, .ref (a 0)), (1, .int x1), (2, .int x2), (3, .int x3)] → W p l e rX6_lengths s m args below meth c H locs 0 0 Q (F0 m 4 ls []) := by
    refine fix2_r ?_
    intro K4 hK4 x2 x3 hres H locs ls hP hS hl
    have b27 : ∀ (x3 : Int32) (z0 : Int32) (z1 : Int32), fX6_lengths_b27 K4 x3 z0 z1 = some res → ∀ (H : Heap) (locs : List Loc) (ls : Array Slot), va_P D vwCl (wM a cI cJ cS sv kep bef isk fnd man nex wor sng hea lat tap tpd her flt vlu bit lon cel btw) H → va_S (adA a 16 s.heap.size) s.heap H locs → lv_has ls 4 [(0, .ref (a 0)), (1, .int x1), (3, .int x3)] → W p l e rX6_lengths s m args below meth c H locs 0 0 Q (F0 m 27 ls [.int z1, .int z0]) := by
      intro x3 z0 z1 hres H locs ls hP hS hl
      unfold fX6_lengths_b27 at hres
      refine lv_ior hx hb dX6_lengths_27 ?_
      refine lv_istore_n (lv' := [(2, .int (z0 ||| z1)), (0, .ref (a 0)), (1, .int x1), (3, .int x3)]) hx hb dX6_lengths_28 rfl hl (by decide) rfl (fun ls hl => ?_)
      refine lv_iinc (v := x3 + 1) (lv' := [(3, .int (x3 + 1)), (2, .int (z0 ||| z1)), (0, .ref (a 0)), (1, .int x1)]) hx hb dX6_lengths_29 hl (k := 3) rfl (congrArg (fun z => x3 + z) (by decide)) (by decide) rfl (fun ls hl => ?_)
      refine lv_goto (tgt := 4) hx hb dX6_lengths_32 (by decide) ?_
      exact hK4 (z0 ||| z1) (x3 + 1) hres _ _ _ hP hS (lv_sub hl [2, 3, 1, 0] rfl)
    unfold fX6_lengths_l4 at hres
    refine lv_iload_n hx hb dX6_lengths_4 rfl (lv_at hl 3 rfl) ?_
    refine lv_bipush (v := 25) hx hb dX6_lengths_5 (by decide) ?_
    refine lv_icmp_ge (tgt := 35) hx hb dX6_lengths_7 (by decide) (fun c7 => ?_) (fun c7 => ?_)
    · have hres := (itl hres).1 c7
      refine lv_iload_n hx hb dX6_lengths_35 rfl (lv_at hl 2 rfl) ?_
      exact hQ ▸ rtI (v := x2)  hx hb hr hlk hP hS (by rw [← (Option.some.inj hres)]) rfl dX6_lengths_36
    · have hres := (itl hres).2 c7
      refine lv_iload_n hx hb dX6_lengths_10 rfl (lv_at hl 2 rfl) ?_
      refine lv_aload_n hx hb dX6_lengths_11 rfl (lv_at hl 0 rfl) ?_
      refine lv_iload_n hx hb dX6_lengths_12 rfl (lv_at hl 1 rfl) ?_
      refine lv_iload_n hx hb dX6_lengths_13 rfl (lv_at hl 3 rfl) ?_
      obtain ⟨q14, e14, hres⟩ := obd hres
      refine cvI (q0 := 0) (ci := 6) hx hb hml hown hts hEo hE hK hP hS (kX6_isLength l D a cI cJ cS hd hEo sv kep bef isk fnd man nex wor sng hea lat tap tpd her flt vlu bit lon cel btw x1 x3 q14 e14) gX6_lengths_X6_isLength rfl hdX6_isLength rfl rfl rfl ⟨rfl, rfl⟩ ⟨Nat.le_of_ble_eq_true rfl, Nat.le_of_ble_eq_true rfl⟩ ⟨Nat.zero_le _, Nat.zero_le _⟩ rfl hl.1 rfl (Nat.le_of_ble_eq_true rfl) dX6_lengths_14 (fun H locs hP hS => ?_)
      refine lv_if_eq (tgt := 26) hx hb dX6_lengths_17 (by decide) (fun c17 => ?_) (fun c17 => ?_)
      · have hres := (itl hres).1 c17
        refine lv_iconst (v := 0) hx hb dX6_lengths_26 (by decide) ?_
        exact b27 x3 x2 (0 : Int32) hres _ _ _ hP hS (lv_sub hl [0, 1, 3] rfl)
      · have hres := (itl hres).2 c17
        refine lv_iconst (v := 1) hx hb dX6_lengths_20 (by decide) ?_
        refine lv_iload_n hx hb dX6_lengths_21 rfl (lv_at hl 3 rfl) ?_
        refine lv_ishl hx hb dX6_lengths_22 ?_
        refine lv_goto (tgt := 27) hx hb dX6_lengths_23 (by decide) ?_
        exact b27 x3 x2 ((1 : Int32) <<< (x3 &&& 31)) hres _ _ _ hP hS (lv_sub hl [0, 1, 3] rfl)
  unfold fX6_lengths at hres
  refine lv_iconst (v := 0) hx hb dX6_lengths_0 (by decide) ?_
  refine lv_istore_n (lv' := [(2, .int (0 : Int32)), (0, .ref (a 0)), (1, .int x1)]) hx hb dX6_lengths_1 rfl hl (by decide) rfl (fun ls hl => ?_)
  refine lv_iconst (v := 0) hx hb dX6_lengths_2 (by decide) ?_
  refine lv_istore_n (lv' := [(3, .int (0 : Int32)), (2, .int (0 : Int32)), (0, .ref (a 0)), (1, .int x1)]) hx hb dX6_lengths_3 rfl hl (by decide) rfl (fun ls hl => ?_)
  exact b4  2000 (0 : Int32) (0 : Int32) hres _ _ _ hP hS (lv_sub hl [2, 3, 1, 0] rfl)
def fX6_partOf_b17 (fnd : Nat → Int32) : Option (Int32 × (Nat → Int32)) :=
 (fX6_no fnd (0 : Int32)).bind fun q19 => some (q19.1, q19.2)
def fX6_partOf (sv : Nat → Int32) (fnd : Nat → Int32) (x1 : Int32) (x2 : Int32) : Option (Int32 × (Nat → Int32)) :=
  if (bI (fX6_isPart sv x1)) = 0 then fX6_partOf_b17 fnd else if (bI (fX6_in x2 (0 : Int32) (4 : Int32))) = 0 then fX6_partOf_b17 fnd else if x2 = (4 : Int32) then (fX6_lengths sv x1).bind fun q30 => some (q30, fnd) else (fX6_has sv x1 x2).bind fun q39 => some (q39, fnd)
theorem hdX6_isPart : yX6_isPart.cls = RX6 ∧ yX6_isPart.cls ≠ "java/lang/invoke/MethodHandle" ∧ yX6_isPart.cls ≠ "java/lang/invoke/VarHandle" ∧ (parseMethodDescriptor yX6_isPart.desc).map (fun d => d.parameters.length) = some 1 := by decide +kernel
theorem hdX6_lengths : yX6_lengths.cls = RX6 ∧ yX6_lengths.cls ≠ "java/lang/invoke/MethodHandle" ∧ yX6_lengths.cls ≠ "java/lang/invoke/VarHandle" ∧ (parseMethodDescriptor yX6_lengths.desc).map (fun d => d.parameters.length) = some 1 := by decide +kernel
abbrev rX6_partOf : Room := { frames := 3, cells := 0, slots := 0, locals := 69 }
set_option maxHeartbeats 4000000 in
set_option maxRecDepth 100000 in
theorem kX6_partOf (l : Launch) (D : va_G) (a : Nat → Nat) (cI cJ cS : ClassId) (hd : aok a 16) {Env : (Nat → Prop) → State → Heap → Prop} (hEo : envOK Env) (sv kep bef : Nat → Int32) (isk : Int32) (fnd : Nat → Int32) (man nex : Nat → Int64) (wor sng hea lat tap : Nat → Int32) (tpd her flt vlu : Int32) (bit lon : Nat → Int32) (cel btw : Nat → Int64) (x1 : Int32) (x2 : Int32) (res : Int32 × (Nat → Int32)) (hres : fX6_partOf sv fnd x1 x2 = some res) : CtI l D (tyL cI cJ cS) 16 a Env yX6_partOf wsX6_partOf rX6_partOf [.ref (a 0), .int x1, .int x2] (wM a cI cJ cS sv kep bef isk fnd man nex wor sng hea lat tap tpd her flt vlu bit lon cel btw) (wM a cI cJ cS sv kep bef isk res.2 man nex wor sng hea lat tap tpd her flt vlu bit lon cel btw) res.1 := by
  refine CtI_mk (cc := cX6_partOf) (maxL := 3) (ret := (some .int)) (by decide) rfl (Nat.le_of_ble_eq_true rfl) ?_
  intro p e s m args below meth c ls hx hb hr hlk hml hown hts hP hK hE hl
  have hS : va_S (adA a 16 s.heap.size) s.heap s.heap [] := va_S.rf
  have hl : lv_has ls 3 [(0, .ref (a 0)), (1, .int x1), (2, .int x2)] := hl
  have hown : s.vm.findClass RX6 = some m.cls := hown
  obtain ⟨Q, hQ⟩ : ∃ Q, Q = mqI below D 16 a args s (wM a cI cJ cS sv kep bef isk res.2 man nex wor sng hea lat tap tpd her flt vlu bit lon cel btw) res.1 := ⟨_, rfl⟩
  rw [← hQ]
  have b17 : ∀ (fnd : Nat → Int32), fX6_partOf_b17 fnd = some res → ∀ (H : Heap) (locs : List Loc) (ls : Array Slot), va_P D vwCl (wM a cI cJ cS sv kep bef isk fnd man nex wor sng hea lat tap tpd her flt vlu bit lon cel btw) H → va_S (adA a 16 s.heap.size) s.heap H locs → lv_has ls 3 [(0, .ref (a 0))] → W p l e rX6_partOf s m args below meth c H locs 0 0 Q (F0 m 17 ls []) := by
    intro fnd hres H locs ls hP hS hl
    unfold fX6_partOf_b17 at hres
    refine lv_aload_n hx hb dX6_partOf_17 rfl (lv_at hl 0 rfl) ?_
    refine lv_iconst (v := 0) hx hb dX6_partOf_18 (by decide) ?_
    obtain ⟨q19, e19, hres⟩ := obd hres
    refine cvI (q0 := 0) (ci := 6) hx hb hml hown hts hEo hE hK hP hS (kX6_no l D a cI cJ cS hd hEo sv kep bef isk fnd man nex wor sng hea lat tap tpd her flt vlu bit lon cel btw (0 : Int32) q19 e19) gX6_partOf_X6_no rfl hdX6_no rfl rfl rfl ⟨rfl, rfl⟩ ⟨Nat.le_of_ble_eq_true rfl, Nat.le_of_ble_eq_true rfl⟩ ⟨Nat.zero_le _, Nat.zero_le _⟩ rfl hl.1 rfl (Nat.le_of_ble_eq_true rfl) dX6_partOf_19 (fun H locs hP hS => ?_)
    exact hQ ▸ rtI (v := q19.1)  hx hb hr hlk hP hS (by rw [← (Option.some.inj hres)]) (by rw [← (Option.some.inj hres)]) dX6_partOf_22
  unfold fX6_partOf at hres
  refine lv_aload_n hx hb dX6_partOf_0 rfl (lv_at hl 0 rfl) ?_
  refine lv_iload_n hx hb dX6_partOf_1 rfl (lv_at hl 1 rfl) ?_
  refine cvI (q0 := 0) (ci := 6) hx hb hml hown hts hEo hE hK hP hS (kX6_isPart l D a cI cJ cS hd hEo sv kep bef isk fnd man nex wor sng hea lat tap tpd her flt vlu bit lon cel btw x1) gX6_partOf_X6_isPart rfl hdX6_isPart rfl rfl rfl ⟨rfl, rfl⟩ ⟨Nat.le_of_ble_eq_true rfl, Nat.le_of_ble_eq_true rfl⟩ ⟨Nat.zero_le _, Nat.zero_le _⟩ rfl hl.1 rfl (Nat.le_of_ble_eq_true rfl) dX6_partOf_2 (fun H locs hP hS => ?_)
  refine lv_if_eq (tgt := 17) hx hb dX6_partOf_5 (by decide) (fun c5 => ?_) (fun c5 => ?_)
  · have hres := (itl hres).1 c5
    exact b17 fnd hres _ _ _ hP hS (lv_sub hl [0] rfl)
  · have hres := (itl hres).2 c5
    refine lv_iload_n hx hb dX6_partOf_8 rfl (lv_at hl 2 rfl) ?_
    refine lv_iconst (v := 0) hx hb dX6_partOf_9 (by decide) ?_
    refine lv_iconst (v := 4) hx hb dX6_partOf_10 (by decide) ?_
    refine csI hx hb hml hown hts hEo hE hK hP hS (kX6_in l D a cI cJ cS hd hEo sv kep bef isk fnd man nex wor sng hea lat tap tpd her flt vlu bit lon cel btw x2 (0 : Int32) (4 : Int32)) gX6_partOf_X6_in rfl hdX6_in ⟨rfl, rfl⟩ ⟨Nat.le_of_ble_eq_true rfl, Nat.le_of_ble_eq_true rfl⟩ ⟨Nat.zero_le _, Nat.zero_le _⟩ rfl hl.1 rfl (Nat.le_of_ble_eq_true rfl) dX6_partOf_11 (fun H locs hP hS => ?_)
    refine lv_if_ne (tgt := 23) hx hb dX6_partOf_14 (by decide) (fun c14 => ?_) (fun c14 => ?_)
    · have hres := (itl hres).2 c14
      refine lv_iload_n hx hb dX6_partOf_23 rfl (lv_at hl 2 rfl) ?_
      refine lv_iconst (v := 4) hx hb dX6_partOf_24 (by decide) ?_
      refine lv_icmp_ne (tgt := 36) hx hb dX6_partOf_25 (by decide) (fun c25 => ?_) (fun c25 => ?_)
      · have hres := (itl hres).2 c25
        refine lv_aload_n hx hb dX6_partOf_36 rfl (lv_at hl 0 rfl) ?_
        refine lv_iload_n hx hb dX6_partOf_37 rfl (lv_at hl 1 rfl) ?_
        refine lv_iload_n hx hb dX6_partOf_38 rfl (lv_at hl 2 rfl) ?_
        obtain ⟨q39, e39, hres⟩ := obd hres
        refine cvI (q0 := 0) (ci := 6) hx hb hml hown hts hEo hE hK hP hS (kX6_has l D a cI cJ cS hd hEo sv kep bef isk fnd man nex wor sng hea lat tap tpd her flt vlu bit lon cel btw x1 x2 q39 e39) gX6_partOf_X6_has rfl hdX6_has rfl rfl rfl ⟨rfl, rfl⟩ ⟨Nat.le_of_ble_eq_true rfl, Nat.le_of_ble_eq_true rfl⟩ ⟨Nat.zero_le _, Nat.zero_le _⟩ rfl hl.1 rfl (Nat.le_of_ble_eq_true rfl) dX6_partOf_39 (fun H locs hP hS => ?_)
        exact hQ ▸ rtI (v := q39)  hx hb hr hlk hP hS (by rw [← (Option.some.inj hres)]) (by rw [← (Option.some.inj hres)]) dX6_partOf_42
      · have hres := (itl hres).1 c25
        refine lv_aload_n hx hb dX6_partOf_28 rfl (lv_at hl 0 rfl) ?_
        refine lv_iload_n hx hb dX6_partOf_29 rfl (lv_at hl 1 rfl) ?_
        obtain ⟨q30, e30, hres⟩ := obd hres
        refine cvI (q0 := 0) (ci := 6) hx hb hml hown hts hEo hE hK hP hS (kX6_lengths l D a cI cJ cS hd hEo sv kep bef isk fnd man nex wor sng hea lat tap tpd her flt vlu bit lon cel btw x1 q30 e30) gX6_partOf_X6_lengths rfl hdX6_lengths rfl rfl rfl ⟨rfl, rfl⟩ ⟨Nat.le_of_ble_eq_true rfl, Nat.le_of_ble_eq_true rfl⟩ ⟨Nat.zero_le _, Nat.zero_le _⟩ rfl hl.1 rfl (Nat.le_of_ble_eq_true rfl) dX6_partOf_30 (fun H locs hP hS => ?_)
        refine lv_goto (tgt := 42) hx hb dX6_partOf_33 (by decide) ?_
        exact hQ ▸ rtI (v := q30)  hx hb hr hlk hP hS (by rw [← (Option.some.inj hres)]) (by rw [← (Option.some.inj hres)]) dX6_partOf_42
    · have hres := (itl hres).1 c14
      exact b17 fnd hres _ _ _ hP hS (lv_sub hl [0] rfl)
def fX6_set_b17 (sv : Nat → Int32) (fnd : Nat → Int32) : Option (Int32 × (Nat → Int32) × (Nat → Int32)) :=
 (fX6_no fnd (0 : Int32)).bind fun q19 => some (q19.1, sv, q19.2)
def fX6_set_b72 (sv : Nat → Int32) (fnd : Nat → Int32) (x1 : Int32) (x2 : Int32) (x3 : Int32) (x4 : Int32) (x5 : Int32) (z0 : Int32) : Option (Int32 × (Nat → Int32) × (Nat → Int32)) :=
  if (bI (fX6_isPartly x4 x5 z0)) = 0 then (fX6_no fnd (0 : Int32)).bind fun q103 => some (q103.1, sv, q103.2) else (fX6_puts sv (((4 : Int32) + ((4 : Int32) * x1)) + x2) x3).bind fun q95 => some (q95.1, q95.2, fnd)
def fX6_set_b55 (sv : Nat → Int32) (fnd : Nat → Int32) (x1 : Int32) (x2 : Int32) (x3 : Int32) (x4 : Int32) (z0 : Int32) : Option (Int32 × (Nat → Int32) × (Nat → Int32)) :=
  if x2 = (3 : Int32) then fX6_set_b72 sv fnd x1 x2 x3 x4 z0 x3 else (fX6_has sv x1 (3 : Int32)).bind fun q69 => fX6_set_b72 sv fnd x1 x2 x3 x4 z0 q69
def fX6_set_b38 (sv : Nat → Int32) (fnd : Nat → Int32) (x1 : Int32) (x2 : Int32) (x3 : Int32) (z0 : Int32) : Option (Int32 × (Nat → Int32) × (Nat → Int32)) :=
  if x2 = (2 : Int32) then fX6_set_b55 sv fnd x1 x2 x3 z0 x3 else (fX6_has sv x1 (2 : Int32)).bind fun q52 => fX6_set_b55 sv fnd x1 x2 x3 z0 q52
def fX6_set (sv : Nat → Int32) (fnd : Nat → Int32) (x1 : Int32) (x2 : Int32) (x3 : Int32) : Option (Int32 × (Nat → Int32) × (Nat → Int32)) :=
  if (bI (fX6_isPart sv x1)) = 0 then fX6_set_b17 sv fnd else if (bI (fX6_in x2 (1 : Int32) (3 : Int32))) = 0 then fX6_set_b17 sv fnd else if x2 = (1 : Int32) then fX6_set_b38 sv fnd x1 x2 x3 x3 else (fX6_has sv x1 (1 : Int32)).bind fun q35 => fX6_set_b38 sv fnd x1 x2 x3 q35
theorem hdX6_puts : yX6_puts.cls = RX6 ∧ yX6_puts.cls ≠ "java/lang/invoke/MethodHandle" ∧ yX6_puts.cls ≠ "java/lang/invoke/VarHandle" ∧ (parseMethodDescriptor yX6_puts.desc).map (fun d => d.parameters.length) = some 2 := by decide +kernel
abbrev rX6_set : Room := { frames := 2, cells := 0, slots := 0, locals := 44 }
set_option maxHeartbeats 4000000 in
set_option maxRecDepth 100000 in
theorem kX6_set (l : Launch) (D : va_G) (a : Nat → Nat) (cI cJ cS : ClassId) (hd : aok a 16) {Env : (Nat → Prop) → State → Heap → Prop} (hEo : envOK Env) (sv kep bef : Nat → Int32) (isk : Int32) (fnd : Nat → Int32) (man nex : Nat → Int64) (wor sng hea lat tap : Nat → Int32) (tpd her flt vlu : Int32) (bit lon : Nat → Int32) (cel btw : Nat → Int64) (x1 : Int32) (x2 : Int32) (x3 : Int32) (res : Int32 × (Nat → Int32) × (Nat → Int32)) (hres : fX6_set sv fnd x1 x2 x3 = some res) : CtI l D (tyL cI cJ cS) 16 a Env yX6_set wsX6_set rX6_set [.ref (a 0), .int x1, .int x2, .int x3] (wM a cI cJ cS sv kep bef isk fnd man nex wor sng hea lat tap tpd her flt vlu bit lon cel btw) (wM a cI cJ cS res.2.1 kep bef isk res.2.2 man nex wor sng hea lat tap tpd her flt vlu bit lon cel btw) res.1 := by
  refine CtI_mk (cc := cX6_set) (maxL := 7) (ret := (some .int)) (by decide) rfl (Nat.le_of_ble_eq_true rfl) ?_
  intro p e s m args below meth c ls hx hb hr hlk hml hown hts hP hK hE hl
  have hS : va_S (adA a 16 s.heap.size) s.heap s.heap [] := va_S.rf
  have hl : lv_has ls 7 [(0, .ref (a 0)), (1, .int x1), (2, .int x2), (3, .int x3)] := hl
  have hown : s.vm.findClass RX6 = some m.cls := hown
  obtain ⟨Q, hQ⟩ : ∃ Q, Q = mqI below D 16 a args s (wM a cI cJ cS res.2.1 kep bef isk res.2.2 man nex wor sng hea lat tap tpd her flt vlu bit lon cel btw) res.1 := ⟨_, rfl⟩
  rw [← hQ]
  have b17 : ∀ (sv : Nat → Int32) (fnd : Nat → Int32), fX6_set_b17 sv fnd = some res → ∀ (H : Heap) (locs : List Loc) (ls : Array Slot), va_P D vwCl (wM a cI cJ cS sv kep bef isk fnd man nex wor sng hea lat tap tpd her flt vlu bit lon cel btw) H → va_S (adA a 16 s.heap.size) s.heap H locs → lv_has ls 7 [(0, .ref (a 0))] → W p l e rX6_set s m args below meth c H locs 0 0 Q (F0 m 17 ls []) := by
    intro sv fnd hres H locs ls hP hS hl
    unfold fX6_set_b17 at hres
    refine lv_aload_n hx hb dX6_set_17 rfl (lv_at hl 0 rfl) ?_
    refine lv_iconst (v := 0) hx hb dX6_set_18 (by decide) ?_
    obtain ⟨q19, e19, hres⟩ := obd hres
    refine cvI (q0 := 0) (ci := 6) hx hb hml hown hts hEo hE hK hP hS (kX6_no l D a cI cJ cS hd hEo sv kep bef isk fnd man nex wor sng hea lat tap tpd her flt vlu bit lon cel btw (0 : Int32) q19 e19) gX6_set_X6_no rfl hdX6_no rfl rfl rfl ⟨rfl, rfl⟩ ⟨Nat.le_of_ble_eq_true rfl, Nat.le_of_ble_eq_true rfl⟩ ⟨Nat.zero_le _, Nat.zero_le _⟩ rfl hl.1 rfl (Nat.le_of_ble_eq_true rfl) dX6_set_19 (fun H locs hP hS => ?_)
    exact hQ ▸ rtI (v := q19.1)  hx hb hr hlk hP hS (by rw [← (Option.some.inj hres)]) (by rw [← (Option.some.inj hres)]) dX6_set_22
  have b72 : ∀ (sv : Nat → Int32) (fnd : Nat → Int32) (x4 : Int32) (x5 : Int32) (z0 : Int32), fX6_set_b72 sv fnd x1 x2 x3 x4 x5 z0 = some res → ∀ (H : Heap) (locs : List Loc) (ls : Array Slot), va_P D vwCl (wM a cI cJ cS sv kep bef isk fnd man nex wor sng hea lat tap tpd her flt vlu bit lon cel btw) H → va_S (adA a 16 s.heap.size) s.heap H locs → lv_has ls 7 [(0, .ref (a 0)), (1, .int x1), (2, .int x2), (3, .int x3), (4, .int x4), (5, .int x5)] → W p l e rX6_set s m args below meth c H locs 0 0 Q (F0 m 72 ls [.int z0]) := by
    intro sv fnd x4 x5 z0 hres H locs ls hP hS hl
    unfold fX6_set_b72 at hres
    refine lv_istore (lv' := [(6, .int z0), (0, .ref (a 0)), (1, .int x1), (2, .int x2), (3, .int x3), (4, .int x4), (5, .int x5)]) hx hb dX6_set_72 hl (by decide) rfl (fun ls hl => ?_)
    refine lv_iload hx hb dX6_set_74 (lv_at hl 5 rfl) ?_
    refine lv_iload hx hb dX6_set_76 (lv_at hl 6 rfl) ?_
    refine lv_iload hx hb dX6_set_78 (lv_at hl 0 rfl) ?_
    refine csI hx hb hml hown hts hEo hE hK hP hS (kX6_isPartly l D a cI cJ cS hd hEo sv kep bef isk fnd man nex wor sng hea lat tap tpd her flt vlu bit lon cel btw x4 x5 z0) gX6_set_X6_isPartly rfl hdX6_isPartly ⟨rfl, rfl⟩ ⟨Nat.le_of_ble_eq_true rfl, Nat.le_of_ble_eq_true rfl⟩ ⟨Nat.zero_le _, Nat.zero_le _⟩ rfl hl.1 rfl (Nat.le_of_ble_eq_true rfl) dX6_set_80 (fun H locs hP hS => ?_)
    refine lv_if_eq (tgt := 101) hx hb dX6_set_83 (by decide) (fun c83 => ?_) (fun c83 => ?_)
    · have hres := (itl hres).1 c83
      refine lv_aload_n hx hb dX6_set_101 rfl (lv_at hl 1 rfl) ?_
      refine lv_iconst (v := 0) hx hb dX6_set_102 (by decide) ?_
      obtain ⟨q103, e103, hres⟩ := obd hres
      refine cvI (q0 := 0) (ci := 6) hx hb hml hown hts hEo hE hK hP hS (kX6_no l D a cI cJ cS hd hEo sv kep bef isk fnd man nex wor sng hea lat tap tpd her flt vlu bit lon cel btw (0 : Int32) q103 e103) gX6_set_X6_no rfl hdX6_no rfl rfl rfl ⟨rfl, rfl⟩ ⟨Nat.le_of_ble_eq_true rfl, Nat.le_of_ble_eq_true rfl⟩ ⟨Nat.zero_le _, Nat.zero_le _⟩ rfl hl.1 rfl (Nat.le_of_ble_eq_true rfl) dX6_set_103 (fun H locs hP hS => ?_)
      exact hQ ▸ rtI (v := q103.1)  hx hb hr hlk hP hS (by rw [← (Option.some.inj hres)]) (by rw [← (Option.some.inj hres)]) dX6_set_106
    · have hres := (itl hres).2 c83
      refine lv_aload_n hx hb dX6_set_86 rfl (lv_at hl 1 rfl) ?_
      refine lv_iconst (v := 4) hx hb dX6_set_87 (by decide) ?_
      refine lv_iconst (v := 4) hx hb dX6_set_88 (by decide) ?_
      refine lv_iload_n hx hb dX6_set_89 rfl (lv_at hl 2 rfl) ?_
      refine lv_imul hx hb dX6_set_90 ?_
      refine lv_iadd hx hb dX6_set_91 ?_
      refine lv_iload_n hx hb dX6_set_92 rfl (lv_at hl 3 rfl) ?_
      refine lv_iadd hx hb dX6_set_93 ?_
      refine lv_iload_n hx hb dX6_set_94 rfl (lv_at hl 4 rfl) ?_
      obtain ⟨q95, e95, hres⟩ := obd hres
      refine cvI (q0 := 0) (ci := 6) hx hb hml hown hts hEo hE hK hP hS (kX6_puts l D a cI cJ cS hd hEo sv kep bef isk fnd man nex wor sng hea lat tap tpd her flt vlu bit lon cel btw (((4 : Int32) + ((4 : Int32) * x1)) + x2) x3 q95 e95) gX6_set_X6_puts rfl hdX6_puts rfl rfl rfl ⟨rfl, rfl⟩ ⟨Nat.le_of_ble_eq_true rfl, Nat.le_of_ble_eq_true rfl⟩ ⟨Nat.zero_le _, Nat.zero_le _⟩ rfl hl.1 rfl (Nat.le_of_ble_eq_true rfl) dX6_set_95 (fun H locs hP hS => ?_)
      refine lv_goto (tgt := 106) hx hb dX6_set_98 (by decide) ?_
      exact hQ ▸ rtI (v := q95.1)  hx hb hr hlk hP hS (by rw [← (Option.some.inj hres)]) (by rw [← (Option.some.inj hres)]) dX6_set_106
  have b55 : ∀ (sv : Nat → Int32) (fnd : Nat → Int32) (x4 : Int32) (z0 : Int32), fX6_set_b55 sv fnd x1 x2 x3 x4 z0 = some res → ∀ (H : Heap) (locs : List Loc) (ls : Array Slot), va_P D vwCl (wM a cI cJ cS sv kep bef isk fnd man nex wor sng hea lat tap tpd her flt vlu bit lon cel btw) H → va_S (adA a 16 s.heap.size) s.heap H locs → lv_has ls 7 [(0, .ref (a 0)), (1, .int x1), (2, .int x2), (3, .int x3), (4, .int x4)] → W p l e rX6_set s m args below meth c H locs 0 0 Q (F0 m 55 ls [.int z0]) := by
    intro sv fnd x4 z0 hres H locs ls hP hS hl
    unfold fX6_set_b55 at hres
    refine lv_istore (lv' := [(5, .int z0), (0, .ref (a 0)), (1, .int x1), (2, .int x2), (3, .int x3), (4, .int x4)]) hx hb dX6_set_55 hl (by decide) rfl (fun ls hl => ?_)
    refine lv_iload_n hx hb dX6_set_57 rfl (lv_at hl 3 rfl) ?_
    refine lv_iconst (v := 3) hx hb dX6_set_58 (by decide) ?_
    refine lv_icmp_ne (tgt := 66) hx hb dX6_set_59 (by decide) (fun c59 => ?_) (fun c59 => ?_)
    · have hres := (itl hres).2 c59
      refine lv_aload_n hx hb dX6_set_66 rfl (lv_at hl 1 rfl) ?_
      refine lv_iload_n hx hb dX6_set_67 rfl (lv_at hl 2 rfl) ?_
      refine lv_iconst (v := 3) hx hb dX6_set_68 (by decide) ?_
      obtain ⟨q69, e69, hres⟩ := obd hres
      refine cvI (q0 := 0) (ci := 6) hx hb hml hown hts hEo hE hK hP hS (kX6_has l D a cI cJ cS hd hEo sv kep bef isk fnd man nex wor sng hea lat tap tpd her flt vlu bit lon cel btw x1 (3 : Int32) q69 e69) gX6_set_X6_has rfl hdX6_has rfl rfl rfl ⟨rfl, rfl⟩ ⟨Nat.le_of_ble_eq_true rfl, Nat.le_of_ble_eq_true rfl⟩ ⟨Nat.zero_le _, Nat.zero_le _⟩ rfl hl.1 rfl (Nat.le_of_ble_eq_true rfl) dX6_set_69 (fun H locs hP hS => ?_)
      exact b72 sv fnd x4 z0 q69 hres _ _ _ hP hS (lv_sub hl [1, 2, 3, 4, 5, 0] rfl)
    · have hres := (itl hres).1 c59
      refine lv_iload_n hx hb dX6_set_62 rfl (lv_at hl 4 rfl) ?_
      refine lv_goto (tgt := 72) hx hb dX6_set_63 (by decide) ?_
      exact b72 sv fnd x4 z0 x3 hres _ _ _ hP hS (lv_sub hl [1, 2, 3, 4, 5, 0] rfl)
  have b38 : ∀ (sv : Nat → Int32) (fnd : Nat → Int32) (z0 : Int32), fX6_set_b38 sv fnd x1 x2 x3 z0 = some res → ∀ (H : Heap) (locs : List Loc) (ls : Array Slot), va_P D vwCl (wM a cI cJ cS sv kep bef isk fnd man nex wor sng hea lat tap tpd her flt vlu bit lon cel btw) H → va_S (adA a 16 s.heap.size) s.heap H locs → lv_has ls 7 [(0, .ref (a 0)), (1, .int x1), (2, .int x2), (3, .int x3)] → W p l e rX6_set s m args below meth c H locs 0 0 Q (F0 m 38 ls [.int z0]) := by
    intro sv fnd z0 hres H locs ls hP hS hl
    unfold fX6_set_b38 at hres
    refine lv_istore (lv' := [(4, .int z0), (0, .ref (a 0)), (1, .int x1), (2, .int x2), (3, .int x3)]) hx hb dX6_set_38 hl (by decide) rfl (fun ls hl => ?_)
    refine lv_iload_n hx hb dX6_set_40 rfl (lv_at hl 3 rfl) ?_
    refine lv_iconst (v := 2) hx hb dX6_set_41 (by decide) ?_
    refine lv_icmp_ne (tgt := 49) hx hb dX6_set_42 (by decide) (fun c42 => ?_) (fun c42 => ?_)
    · have hres := (itl hres).2 c42
      refine lv_aload_n hx hb dX6_set_49 rfl (lv_at hl 1 rfl) ?_
      refine lv_iload_n hx hb dX6_set_50 rfl (lv_at hl 2 rfl) ?_
      refine lv_iconst (v := 2) hx hb dX6_set_51 (by decide) ?_
      obtain ⟨q52, e52, hres⟩ := obd hres
      refine cvI (q0 := 0) (ci := 6) hx hb hml hown hts hEo hE hK hP hS (kX6_has l D a cI cJ cS hd hEo sv kep bef isk fnd man nex wor sng hea lat tap tpd her flt vlu bit lon cel btw x1 (2 : Int32) q52 e52) gX6_set_X6_has rfl hdX6_has rfl rfl rfl ⟨rfl, rfl⟩ ⟨Nat.le_of_ble_eq_true rfl, Nat.le_of_ble_eq_true rfl⟩ ⟨Nat.zero_le _, Nat.zero_le _⟩ rfl hl.1 rfl (Nat.le_of_ble_eq_true rfl) dX6_set_52 (fun H locs hP hS => ?_)
      exact b55 sv fnd z0 q52 hres _ _ _ hP hS (lv_sub hl [1, 2, 3, 4, 0] rfl)
    · have hres := (itl hres).1 c42
      refine lv_iload_n hx hb dX6_set_45 rfl (lv_at hl 4 rfl) ?_
      refine lv_goto (tgt := 55) hx hb dX6_set_46 (by decide) ?_
      exact b55 sv fnd z0 x3 hres _ _ _ hP hS (lv_sub hl [1, 2, 3, 4, 0] rfl)
  unfold fX6_set at hres
  refine lv_aload_n hx hb dX6_set_0 rfl (lv_at hl 0 rfl) ?_
  refine lv_iload_n hx hb dX6_set_1 rfl (lv_at hl 1 rfl) ?_
  refine cvI (q0 := 0) (ci := 6) hx hb hml hown hts hEo hE hK hP hS (kX6_isPart l D a cI cJ cS hd hEo sv kep bef isk fnd man nex wor sng hea lat tap tpd her flt vlu bit lon cel btw x1) gX6_set_X6_isPart rfl hdX6_isPart rfl rfl rfl ⟨rfl, rfl⟩ ⟨Nat.le_of_ble_eq_true rfl, Nat.le_of_ble_eq_true rfl⟩ ⟨Nat.zero_le _, Nat.zero_le _⟩ rfl hl.1 rfl (Nat.le_of_ble_eq_true rfl) dX6_set_2 (fun H locs hP hS => ?_)
  refine lv_if_eq (tgt := 17) hx hb dX6_set_5 (by decide) (fun c5 => ?_) (fun c5 => ?_)
  · have hres := (itl hres).1 c5
    exact b17 sv fnd hres _ _ _ hP hS (lv_sub hl [0] rfl)
  · have hres := (itl hres).2 c5
    refine lv_iload_n hx hb dX6_set_8 rfl (lv_at hl 2 rfl) ?_
    refine lv_iconst (v := 1) hx hb dX6_set_9 (by decide) ?_
    refine lv_iconst (v := 3) hx hb dX6_set_10 (by decide) ?_
    refine csI hx hb hml hown hts hEo hE hK hP hS (kX6_in l D a cI cJ cS hd hEo sv kep bef isk fnd man nex wor sng hea lat tap tpd her flt vlu bit lon cel btw x2 (1 : Int32) (3 : Int32)) gX6_set_X6_in rfl hdX6_in ⟨rfl, rfl⟩ ⟨Nat.le_of_ble_eq_true rfl, Nat.le_of_ble_eq_true rfl⟩ ⟨Nat.zero_le _, Nat.zero_le _⟩ rfl hl.1 rfl (Nat.le_of_ble_eq_true rfl) dX6_set_11 (fun H locs hP hS => ?_)
    refine lv_if_ne (tgt := 23) hx hb dX6_set_14 (by decide) (fun c14 => ?_) (fun c14 => ?_)
    · have hres := (itl hres).2 c14
      refine lv_iload_n hx hb dX6_set_23 rfl (lv_at hl 2 rfl) ?_
      refine lv_iconst (v := 1) hx hb dX6_set_24 (by decide) ?_
      refine lv_icmp_ne (tgt := 32) hx hb dX6_set_25 (by decide) (fun c25 => ?_) (fun c25 => ?_)
      · have hres := (itl hres).2 c25
        refine lv_aload_n hx hb dX6_set_32 rfl (lv_at hl 0 rfl) ?_
        refine lv_iload_n hx hb dX6_set_33 rfl (lv_at hl 1 rfl) ?_
        refine lv_iconst (v := 1) hx hb dX6_set_34 (by decide) ?_
        obtain ⟨q35, e35, hres⟩ := obd hres
        refine cvI (q0 := 0) (ci := 6) hx hb hml hown hts hEo hE hK hP hS (kX6_has l D a cI cJ cS hd hEo sv kep bef isk fnd man nex wor sng hea lat tap tpd her flt vlu bit lon cel btw x1 (1 : Int32) q35 e35) gX6_set_X6_has rfl hdX6_has rfl rfl rfl ⟨rfl, rfl⟩ ⟨Nat.le_of_ble_eq_true rfl, Nat.le_of_ble_eq_true rfl⟩ ⟨Nat.zero_le _, Nat.zero_le _⟩ rfl hl.1 rfl (Nat.le_of_ble_eq_true rfl) dX6_set_35 (fun H locs hP hS => ?_)
        exact b38 sv fnd q35 hres _ _ _ hP hS (lv_sub hl [0, 1, 2, 3] rfl)
      · have hres := (itl hres).1 c25
        refine lv_iload_n hx hb dX6_set_28 rfl (lv_at hl 3 rfl) ?_
        refine lv_goto (tgt := 38) hx hb dX6_set_29 (by decide) ?_
        exact b38 sv fnd x3 hres _ _ _ hP hS (lv_sub hl [0, 1, 2, 3] rfl)
    · have hres := (itl hres).1 c14
      exact b17 sv fnd hres _ _ _ hP hS (lv_sub hl [0] rfl)
def fX6_turn_b30 (sv : Nat → Int32) (fnd : Nat → Int32) : Option (Int32 × (Nat → Int32) × (Nat → Int32)) :=
 (fX6_no fnd (0 : Int32)).bind fun q32 => some (q32.1, sv, q32.2)
def fX6_turn (sv : Nat → Int32) (fnd : Nat → Int32) (x1 : Int32) (x2 : Int32) : Option (Int32 × (Nat → Int32) × (Nat → Int32)) :=
  if (bI (fX6_isPart sv x1)) = 0 then fX6_turn_b30 sv fnd else if (bI (fX6_isKind x2)) = 0 then fX6_turn_b30 sv fnd else (fX6_puts sv (((4 : Int32) + ((4 : Int32) * x1)) + (0 : Int32)) x2).bind fun q24 => some (q24.1, q24.2, fnd)
abbrev rX6_turn : Room := { frames := 2, cells := 0, slots := 0, locals := 43 }
set_option maxHeartbeats 4000000 in
set_option maxRecDepth 100000 in
theorem kX6_turn (l : Launch) (D : va_G) (a : Nat → Nat) (cI cJ cS : ClassId) (hd : aok a 16) {Env : (Nat → Prop) → State → Heap → Prop} (hEo : envOK Env) (sv kep bef : Nat → Int32) (isk : Int32) (fnd : Nat → Int32) (man nex : Nat → Int64) (wor sng hea lat tap : Nat → Int32) (tpd her flt vlu : Int32) (bit lon : Nat → Int32) (cel btw : Nat → Int64) (x1 : Int32) (x2 : Int32) (res : Int32 × (Nat → Int32) × (Nat → Int32)) (hres : fX6_turn sv fnd x1 x2 = some res) : CtI l D (tyL cI cJ cS) 16 a Env yX6_turn wsX6_turn rX6_turn [.ref (a 0), .int x1, .int x2] (wM a cI cJ cS sv kep bef isk fnd man nex wor sng hea lat tap tpd her flt vlu bit lon cel btw) (wM a cI cJ cS res.2.1 kep bef isk res.2.2 man nex wor sng hea lat tap tpd her flt vlu bit lon cel btw) res.1 := by
  refine CtI_mk (cc := cX6_turn) (maxL := 3) (ret := (some .int)) (by decide) rfl (Nat.le_of_ble_eq_true rfl) ?_
  intro p e s m args below meth c ls hx hb hr hlk hml hown hts hP hK hE hl
  have hS : va_S (adA a 16 s.heap.size) s.heap s.heap [] := va_S.rf
  have hl : lv_has ls 3 [(0, .ref (a 0)), (1, .int x1), (2, .int x2)] := hl
  have hown : s.vm.findClass RX6 = some m.cls := hown
  obtain ⟨Q, hQ⟩ : ∃ Q, Q = mqI below D 16 a args s (wM a cI cJ cS res.2.1 kep bef isk res.2.2 man nex wor sng hea lat tap tpd her flt vlu bit lon cel btw) res.1 := ⟨_, rfl⟩
  rw [← hQ]
  have b30 : ∀ (sv : Nat → Int32) (fnd : Nat → Int32), fX6_turn_b30 sv fnd = some res → ∀ (H : Heap) (locs : List Loc) (ls : Array Slot), va_P D vwCl (wM a cI cJ cS sv kep bef isk fnd man nex wor sng hea lat tap tpd her flt vlu bit lon cel btw) H → va_S (adA a 16 s.heap.size) s.heap H locs → lv_has ls 3 [(0, .ref (a 0))] → W p l e rX6_turn s m args below meth c H locs 0 0 Q (F0 m 30 ls []) := by
    intro sv fnd hres H locs ls hP hS hl
    unfold fX6_turn_b30 at hres
    refine lv_aload_n hx hb dX6_turn_30 rfl (lv_at hl 0 rfl) ?_
    refine lv_iconst (v := 0) hx hb dX6_turn_31 (by decide) ?_
    obtain ⟨q32, e32, hres⟩ := obd hres
    refine cvI (q0 := 0) (ci := 6) hx hb hml hown hts hEo hE hK hP hS (kX6_no l D a cI cJ cS hd hEo sv kep bef isk fnd man nex wor sng hea lat tap tpd her flt vlu bit lon cel btw (0 : Int32) q32 e32) gX6_turn_X6_no rfl hdX6_no rfl rfl rfl ⟨rfl, rfl⟩ ⟨Nat.le_of_ble_eq_true rfl, Nat.le_of_ble_eq_true rfl⟩ ⟨Nat.zero_le _, Nat.zero_le _⟩ rfl hl.1 rfl (Nat.le_of_ble_eq_true rfl) dX6_turn_32 (fun H locs hP hS => ?_)
    exact hQ ▸ rtI (v := q32.1)  hx hb hr hlk hP hS (by rw [← (Option.some.inj hres)]) (by rw [← (Option.some.inj hres)]) dX6_turn_35
  unfold fX6_turn at hres
  refine lv_aload_n hx hb dX6_turn_0 rfl (lv_at hl 0 rfl) ?_
  refine lv_iload_n hx hb dX6_turn_1 rfl (lv_at hl 1 rfl) ?_
  refine cvI (q0 := 0) (ci := 6) hx hb hml hown hts hEo hE hK hP hS (kX6_isPart l D a cI cJ cS hd hEo sv kep bef isk fnd man nex wor sng hea lat tap tpd her flt vlu bit lon cel btw x1) gX6_turn_X6_isPart rfl hdX6_isPart rfl rfl rfl ⟨rfl, rfl⟩ ⟨Nat.le_of_ble_eq_true rfl, Nat.le_of_ble_eq_true rfl⟩ ⟨Nat.zero_le _, Nat.zero_le _⟩ rfl hl.1 rfl (Nat.le_of_ble_eq_true rfl) dX6_turn_2 (fun H locs hP hS => ?_)
  refine lv_if_eq (tgt := 30) hx hb dX6_turn_5 (by decide) (fun c5 => ?_) (fun c5 => ?_)
  · have hres := (itl hres).1 c5
    exact b30 sv fnd hres _ _ _ hP hS (lv_sub hl [0] rfl)
  · have hres := (itl hres).2 c5
    refine lv_iload_n hx hb dX6_turn_8 rfl (lv_at hl 2 rfl) ?_
    refine csI hx hb hml hown hts hEo hE hK hP hS (kX6_isKind l D a cI cJ cS hd hEo sv kep bef isk fnd man nex wor sng hea lat tap tpd her flt vlu bit lon cel btw x2) gX6_turn_X6_isKind rfl hdX6_isKind ⟨rfl, rfl⟩ ⟨Nat.le_of_ble_eq_true rfl, Nat.le_of_ble_eq_true rfl⟩ ⟨Nat.zero_le _, Nat.zero_le _⟩ rfl hl.1 rfl (Nat.le_of_ble_eq_true rfl) dX6_turn_9 (fun H locs hP hS => ?_)
    refine lv_if_eq (tgt := 30) hx hb dX6_turn_12 (by decide) (fun c12 => ?_) (fun c12 => ?_)
    · have hres := (itl hres).1 c12
      exact b30 sv fnd hres _ _ _ hP hS (lv_sub hl [0] rfl)
    · have hres := (itl hres).2 c12
      refine lv_aload_n hx hb dX6_turn_15 rfl (lv_at hl 0 rfl) ?_
      refine lv_iconst (v := 4) hx hb dX6_turn_16 (by decide) ?_
      refine lv_iconst (v := 4) hx hb dX6_turn_17 (by decide) ?_
      refine lv_iload_n hx hb dX6_turn_18 rfl (lv_at hl 1 rfl) ?_
      refine lv_imul hx hb dX6_turn_19 ?_
      refine lv_iadd hx hb dX6_turn_20 ?_
      refine lv_iconst (v := 0) hx hb dX6_turn_21 (by decide) ?_
      refine lv_iadd hx hb dX6_turn_22 ?_
      refine lv_iload_n hx hb dX6_turn_23 rfl (lv_at hl 2 rfl) ?_
      obtain ⟨q24, e24, hres⟩ := obd hres
      refine cvI (q0 := 0) (ci := 6) hx hb hml hown hts hEo hE hK hP hS (kX6_puts l D a cI cJ cS hd hEo sv kep bef isk fnd man nex wor sng hea lat tap tpd her flt vlu bit lon cel btw (((4 : Int32) + ((4 : Int32) * x1)) + (0 : Int32)) x2 q24 e24) gX6_turn_X6_puts rfl hdX6_puts rfl rfl rfl ⟨rfl, rfl⟩ ⟨Nat.le_of_ble_eq_true rfl, Nat.le_of_ble_eq_true rfl⟩ ⟨Nat.zero_le _, Nat.zero_le _⟩ rfl hl.1 rfl (Nat.le_of_ble_eq_true rfl) dX6_turn_24 (fun H locs hP hS => ?_)
      refine lv_goto (tgt := 35) hx hb dX6_turn_27 (by decide) ?_
      exact hQ ▸ rtI (v := q24.1)  hx hb hr hlk hP hS (by rw [← (Option.some.inj hres)]) (by rw [← (Option.some.inj hres)]) dX6_turn_35
def fX6_isUnder (x0 : Int32) (x1 : Int32) : Bool :=
  if x1 = 0 then true else if x1 = 1 then if x0 = (1 : Int32) then true else if x0 = (3 : Int32) then true else if x0 = (4 : Int32) then true else false else if x1 = 2 then if x0 = (2 : Int32) then true else if x0 = (5 : Int32) then true else false else if x0 = x1 then true else false
abbrev rX6_isUnder : Room := { frames := 0, cells := 0, slots := 0, locals := 0 }
set_option maxHeartbeats 4000000 in
set_option maxRecDepth 100000 in
theorem kX6_isUnder (l : Launch) (D : va_G) (a : Nat → Nat) (cI cJ cS : ClassId) (hd : aok a 16) {Env : (Nat → Prop) → State → Heap → Prop} (hEo : envOK Env) (sv kep bef : Nat → Int32) (isk : Int32) (fnd : Nat → Int32) (man nex : Nat → Int64) (wor sng hea lat tap : Nat → Int32) (tpd her flt vlu : Int32) (bit lon : Nat → Int32) (cel btw : Nat → Int64) (x0 : Int32) (x1 : Int32) : CtI l D (tyL cI cJ cS) 16 a Env yX6_isUnder wsX6_isUnder rX6_isUnder [.int x0, .int x1] (wM a cI cJ cS sv kep bef isk fnd man nex wor sng hea lat tap tpd her flt vlu bit lon cel btw) (wM a cI cJ cS sv kep bef isk fnd man nex wor sng hea lat tap tpd her flt vlu bit lon cel btw) (bI (fX6_isUnder x0 x1)) := by
  generalize hres : fX6_isUnder x0 x1 = res
  refine CtI_mk (cc := cX6_isUnder) (maxL := 2) (ret := (some .boolean)) (by decide) rfl (Nat.le_of_ble_eq_true rfl) ?_
  intro p e s m args below meth c ls hx hb hr hlk hml hown hts hP hK hE hl
  have hS : va_S (adA a 16 s.heap.size) s.heap s.heap [] := va_S.rf
  have hl : lv_has ls 2 [(0, .int x0), (1, .int x1)] := hl
  have hown : s.vm.findClass RX6 = some m.cls := hown
  obtain ⟨Q, hQ⟩ : ∃ Q, Q = mqI below D 16 a args s (wM a cI cJ cS sv kep bef isk fnd man nex wor sng hea lat tap tpd her flt vlu bit lon cel btw) (bI res) := ⟨_, rfl⟩
  rw [← hQ]
  unfold fX6_isUnder at hres
  refine lv_iload_n hx hb dX6_isUnder_0 rfl (lv_at hl 1 rfl) ?_
  by_cases v1_0 : x1 = 0
  · have hres := (itl hres).1 v1_0
    refine lv_tableIn (off := 27) (tgt := 28) hx hb dX6_isUnder_1 (by rw [v1_0]; decide) (by rw [v1_0]; decide) (by rw [v1_0]; rfl) (by decide) ?_
    refine lv_iconst (v := 1) hx hb dX6_isUnder_28 (by decide) ?_
    exact hQ ▸ rtZ (v := true)  hx hb hr hlk hP hS (by rw [← hres]) rfl dX6_isUnder_29
  · have hres := (itl hres).2 v1_0
    by_cases v1_1 : x1 = 1
    · have hres := (itl hres).1 v1_1
      refine lv_tableIn (off := 29) (tgt := 30) hx hb dX6_isUnder_1 (by rw [v1_1]; decide) (by rw [v1_1]; decide) (by rw [v1_1]; rfl) (by decide) ?_
      refine lv_iload_n hx hb dX6_isUnder_30 rfl (lv_at hl 0 rfl) ?_
      refine lv_iconst (v := 1) hx hb dX6_isUnder_31 (by decide) ?_
      refine lv_icmp_eq (tgt := 45) hx hb dX6_isUnder_32 (by decide) (fun c32 => ?_) (fun c32 => ?_)
      · have hres := (itl hres).1 c32
        refine lv_iconst (v := 1) hx hb dX6_isUnder_45 (by decide) ?_
        refine lv_goto (tgt := 50) hx hb dX6_isUnder_46 (by decide) ?_
        exact hQ ▸ rtZ (v := true)  hx hb hr hlk hP hS (by rw [← hres]) rfl dX6_isUnder_50
      · have hres := (itl hres).2 c32
        refine lv_iload_n hx hb dX6_isUnder_35 rfl (lv_at hl 0 rfl) ?_
        refine lv_iconst (v := 3) hx hb dX6_isUnder_36 (by decide) ?_
        refine lv_icmp_eq (tgt := 45) hx hb dX6_isUnder_37 (by decide) (fun c37 => ?_) (fun c37 => ?_)
        · have hres := (itl hres).1 c37
          refine lv_iconst (v := 1) hx hb dX6_isUnder_45 (by decide) ?_
          refine lv_goto (tgt := 50) hx hb dX6_isUnder_46 (by decide) ?_
          exact hQ ▸ rtZ (v := true)  hx hb hr hlk hP hS (by rw [← hres]) rfl dX6_isUnder_50
        · have hres := (itl hres).2 c37
          refine lv_iload_n hx hb dX6_isUnder_40 rfl (lv_at hl 0 rfl) ?_
          refine lv_iconst (v := 4) hx hb dX6_isUnder_41 (by decide) ?_
          refine lv_icmp_ne (tgt := 49) hx hb dX6_isUnder_42 (by decide) (fun c42 => ?_) (fun c42 => ?_)
          · have hres := (itl hres).2 c42
            refine lv_iconst (v := 0) hx hb dX6_isUnder_49 (by decide) ?_
            exact hQ ▸ rtZ (v := false)  hx hb hr hlk hP hS (by rw [← hres]) rfl dX6_isUnder_50
          · have hres := (itl hres).1 c42
            refine lv_iconst (v := 1) hx hb dX6_isUnder_45 (by decide) ?_
            refine lv_goto (tgt := 50) hx hb dX6_isUnder_46 (by decide) ?_
            exact hQ ▸ rtZ (v := true)  hx hb hr hlk hP hS (by rw [← hres]) rfl dX6_isUnder_50
    · have hres := (itl hres).2 v1_1
      by_cases v1_2 : x1 = 2
      · have hres := (itl hres).1 v1_2
        refine lv_tableIn (off := 50) (tgt := 51) hx hb dX6_isUnder_1 (by rw [v1_2]; decide) (by rw [v1_2]; decide) (by rw [v1_2]; rfl) (by decide) ?_
        refine lv_iload_n hx hb dX6_isUnder_51 rfl (lv_at hl 0 rfl) ?_
        refine lv_iconst (v := 2) hx hb dX6_isUnder_52 (by decide) ?_
        refine lv_icmp_eq (tgt := 61) hx hb dX6_isUnder_53 (by decide) (fun c53 => ?_) (fun c53 => ?_)
        · have hres := (itl hres).1 c53
          refine lv_iconst (v := 1) hx hb dX6_isUnder_61 (by decide) ?_
          refine lv_goto (tgt := 66) hx hb dX6_isUnder_62 (by decide) ?_
          exact hQ ▸ rtZ (v := true)  hx hb hr hlk hP hS (by rw [← hres]) rfl dX6_isUnder_66
        · have hres := (itl hres).2 c53
          refine lv_iload_n hx hb dX6_isUnder_56 rfl (lv_at hl 0 rfl) ?_
          refine lv_iconst (v := 5) hx hb dX6_isUnder_57 (by decide) ?_
          refine lv_icmp_ne (tgt := 65) hx hb dX6_isUnder_58 (by decide) (fun c58 => ?_) (fun c58 => ?_)
          · have hres := (itl hres).2 c58
            refine lv_iconst (v := 0) hx hb dX6_isUnder_65 (by decide) ?_
            exact hQ ▸ rtZ (v := false)  hx hb hr hlk hP hS (by rw [← hres]) rfl dX6_isUnder_66
          · have hres := (itl hres).1 c58
            refine lv_iconst (v := 1) hx hb dX6_isUnder_61 (by decide) ?_
            refine lv_goto (tgt := 66) hx hb dX6_isUnder_62 (by decide) ?_
            exact hQ ▸ rtZ (v := true)  hx hb hr hlk hP hS (by rw [← hres]) rfl dX6_isUnder_66
      · have hres := (itl hres).2 v1_2
        refine lv_tableOut (tgt := 67) hx hb dX6_isUnder_1 (sw02 v1_0 v1_1 v1_2) (by decide) ?_
        refine lv_iload_n hx hb dX6_isUnder_67 rfl (lv_at hl 0 rfl) ?_
        refine lv_iload_n hx hb dX6_isUnder_68 rfl (lv_at hl 1 rfl) ?_
        refine lv_icmp_ne (tgt := 76) hx hb dX6_isUnder_69 (by decide) (fun c69 => ?_) (fun c69 => ?_)
        · have hres := (itl hres).2 c69
          refine lv_iconst (v := 0) hx hb dX6_isUnder_76 (by decide) ?_
          exact hQ ▸ rtZ (v := false)  hx hb hr hlk hP hS (by rw [← hres]) rfl dX6_isUnder_77
        · have hres := (itl hres).1 c69
          refine lv_iconst (v := 1) hx hb dX6_isUnder_72 (by decide) ?_
          refine lv_goto (tgt := 77) hx hb dX6_isUnder_73 (by decide) ?_
          exact hQ ▸ rtZ (v := true)  hx hb hr hlk hP hS (by rw [← hres]) rfl dX6_isUnder_77
def fX6_as_b15 (fnd : Nat → Int32) : Option (Int32 × (Nat → Int32)) :=
 (fX6_no fnd (0 : Int32)).bind fun q17 => some (q17.1, q17.2)
def fX6_as (sv : Nat → Int32) (fnd : Nat → Int32) (x1 : Int32) (x2 : Int32) : Option (Int32 × (Nat → Int32)) :=
  if (bI (fX6_isPart sv x1)) = 0 then fX6_as_b15 fnd else if (bI (fX6_isKind x2)) = 0 then fX6_as_b15 fnd else (fX6_has sv x1 (0 : Int32)).bind fun q24 => if (bI (fX6_isUnder q24 x2)) = 0 then (fX6_no fnd (2 : Int32)).bind fun q45 => some (q45.1, q45.2) else (fX6_has sv x1 (3 : Int32)).bind fun q37 => some (q37, fnd)
theorem hdX6_isUnder : yX6_isUnder.cls ≠ "java/lang/invoke/MethodHandle" ∧ yX6_isUnder.cls ≠ "java/lang/invoke/VarHandle" ∧ (parseMethodDescriptor yX6_isUnder.desc).map (fun d => d.parameters.length) = some 2 := by decide +kernel
abbrev rX6_as : Room := { frames := 2, cells := 0, slots := 0, locals := 43 }
set_option maxHeartbeats 4000000 in
set_option maxRecDepth 100000 in
theorem kX6_as (l : Launch) (D : va_G) (a : Nat → Nat) (cI cJ cS : ClassId) (hd : aok a 16) {Env : (Nat → Prop) → State → Heap → Prop} (hEo : envOK Env) (sv kep bef : Nat → Int32) (isk : Int32) (fnd : Nat → Int32) (man nex : Nat → Int64) (wor sng hea lat tap : Nat → Int32) (tpd her flt vlu : Int32) (bit lon : Nat → Int32) (cel btw : Nat → Int64) (x1 : Int32) (x2 : Int32) (res : Int32 × (Nat → Int32)) (hres : fX6_as sv fnd x1 x2 = some res) : CtI l D (tyL cI cJ cS) 16 a Env yX6_as wsX6_as rX6_as [.ref (a 0), .int x1, .int x2] (wM a cI cJ cS sv kep bef isk fnd man nex wor sng hea lat tap tpd her flt vlu bit lon cel btw) (wM a cI cJ cS sv kep bef isk res.2 man nex wor sng hea lat tap tpd her flt vlu bit lon cel btw) res.1 := by
  refine CtI_mk (cc := cX6_as) (maxL := 3) (ret := (some .int)) (by decide) rfl (Nat.le_of_ble_eq_true rfl) ?_
  intro p e s m args below meth c ls hx hb hr hlk hml hown hts hP hK hE hl
  have hS : va_S (adA a 16 s.heap.size) s.heap s.heap [] := va_S.rf
  have hl : lv_has ls 3 [(0, .ref (a 0)), (1, .int x1), (2, .int x2)] := hl
  have hown : s.vm.findClass RX6 = some m.cls := hown
  obtain ⟨Q, hQ⟩ : ∃ Q, Q = mqI below D 16 a args s (wM a cI cJ cS sv kep bef isk res.2 man nex wor sng hea lat tap tpd her flt vlu bit lon cel btw) res.1 := ⟨_, rfl⟩
  rw [← hQ]
  have b15 : ∀ (fnd : Nat → Int32), fX6_as_b15 fnd = some res → ∀ (H : Heap) (locs : List Loc) (ls : Array Slot), va_P D vwCl (wM a cI cJ cS sv kep bef isk fnd man nex wor sng hea lat tap tpd her flt vlu bit lon cel btw) H → va_S (adA a 16 s.heap.size) s.heap H locs → lv_has ls 3 [(0, .ref (a 0))] → W p l e rX6_as s m args below meth c H locs 0 0 Q (F0 m 15 ls []) := by
    intro fnd hres H locs ls hP hS hl
    unfold fX6_as_b15 at hres
    refine lv_aload_n hx hb dX6_as_15 rfl (lv_at hl 0 rfl) ?_
    refine lv_iconst (v := 0) hx hb dX6_as_16 (by decide) ?_
    obtain ⟨q17, e17, hres⟩ := obd hres
    refine cvI (q0 := 0) (ci := 6) hx hb hml hown hts hEo hE hK hP hS (kX6_no l D a cI cJ cS hd hEo sv kep bef isk fnd man nex wor sng hea lat tap tpd her flt vlu bit lon cel btw (0 : Int32) q17 e17) gX6_as_X6_no rfl hdX6_no rfl rfl rfl ⟨rfl, rfl⟩ ⟨Nat.le_of_ble_eq_true rfl, Nat.le_of_ble_eq_true rfl⟩ ⟨Nat.zero_le _, Nat.zero_le _⟩ rfl hl.1 rfl (Nat.le_of_ble_eq_true rfl) dX6_as_17 (fun H locs hP hS => ?_)
    exact hQ ▸ rtI (v := q17.1)  hx hb hr hlk hP hS (by rw [← (Option.some.inj hres)]) (by rw [← (Option.some.inj hres)]) dX6_as_20
  unfold fX6_as at hres
  refine lv_aload_n hx hb dX6_as_0 rfl (lv_at hl 0 rfl) ?_
  refine lv_iload_n hx hb dX6_as_1 rfl (lv_at hl 1 rfl) ?_
  refine cvI (q0 := 0) (ci := 6) hx hb hml hown hts hEo hE hK hP hS (kX6_isPart l D a cI cJ cS hd hEo sv kep bef isk fnd man nex wor sng hea lat tap tpd her flt vlu bit lon cel btw x1) gX6_as_X6_isPart rfl hdX6_isPart rfl rfl rfl ⟨rfl, rfl⟩ ⟨Nat.le_of_ble_eq_true rfl, Nat.le_of_ble_eq_true rfl⟩ ⟨Nat.zero_le _, Nat.zero_le _⟩ rfl hl.1 rfl (Nat.le_of_ble_eq_true rfl) dX6_as_2 (fun H locs hP hS => ?_)
  refine lv_if_eq (tgt := 15) hx hb dX6_as_5 (by decide) (fun c5 => ?_) (fun c5 => ?_)
  · have hres := (itl hres).1 c5
    exact b15 fnd hres _ _ _ hP hS (lv_sub hl [0] rfl)
  · have hres := (itl hres).2 c5
    refine lv_iload_n hx hb dX6_as_8 rfl (lv_at hl 2 rfl) ?_
    refine csI hx hb hml hown hts hEo hE hK hP hS (kX6_isKind l D a cI cJ cS hd hEo sv kep bef isk fnd man nex wor sng hea lat tap tpd her flt vlu bit lon cel btw x2) gX6_as_X6_isKind rfl hdX6_isKind ⟨rfl, rfl⟩ ⟨Nat.le_of_ble_eq_true rfl, Nat.le_of_ble_eq_true rfl⟩ ⟨Nat.zero_le _, Nat.zero_le _⟩ rfl hl.1 rfl (Nat.le_of_ble_eq_true rfl) dX6_as_9 (fun H locs hP hS => ?_)
    refine lv_if_ne (tgt := 21) hx hb dX6_as_12 (by decide) (fun c12 => ?_) (fun c12 => ?_)
    · have hres := (itl hres).2 c12
      refine lv_aload_n hx hb dX6_as_21 rfl (lv_at hl 0 rfl) ?_
      refine lv_iload_n hx hb dX6_as_22 rfl (lv_at hl 1 rfl) ?_
      refine lv_iconst (v := 0) hx hb dX6_as_23 (by decide) ?_
      obtain ⟨q24, e24, hres⟩ := obd hres
      refine cvI (q0 := 0) (ci := 6) hx hb hml hown hts hEo hE hK hP hS (kX6_has l D a cI cJ cS hd hEo sv kep bef isk fnd man nex wor sng hea lat tap tpd her flt vlu bit lon cel btw x1 (0 : Int32) q24 e24) gX6_as_X6_has rfl hdX6_has rfl rfl rfl ⟨rfl, rfl⟩ ⟨Nat.le_of_ble_eq_true rfl, Nat.le_of_ble_eq_true rfl⟩ ⟨Nat.zero_le _, Nat.zero_le _⟩ rfl hl.1 rfl (Nat.le_of_ble_eq_true rfl) dX6_as_24 (fun H locs hP hS => ?_)
      refine lv_iload_n hx hb dX6_as_27 rfl (lv_at hl 2 rfl) ?_
      refine csI hx hb hml hown hts hEo hE hK hP hS (kX6_isUnder l D a cI cJ cS hd hEo sv kep bef isk fnd man nex wor sng hea lat tap tpd her flt vlu bit lon cel btw q24 x2) gX6_as_X6_isUnder rfl hdX6_isUnder ⟨rfl, rfl⟩ ⟨Nat.le_of_ble_eq_true rfl, Nat.le_of_ble_eq_true rfl⟩ ⟨Nat.zero_le _, Nat.zero_le _⟩ rfl hl.1 rfl (Nat.le_of_ble_eq_true rfl) dX6_as_28 (fun H locs hP hS => ?_)
      refine lv_if_eq (tgt := 43) hx hb dX6_as_31 (by decide) (fun c31 => ?_) (fun c31 => ?_)
      · have hres := (itl hres).1 c31
        refine lv_aload_n hx hb dX6_as_43 rfl (lv_at hl 0 rfl) ?_
        refine lv_iconst (v := 2) hx hb dX6_as_44 (by decide) ?_
        obtain ⟨q45, e45, hres⟩ := obd hres
        refine cvI (q0 := 0) (ci := 6) hx hb hml hown hts hEo hE hK hP hS (kX6_no l D a cI cJ cS hd hEo sv kep bef isk fnd man nex wor sng hea lat tap tpd her flt vlu bit lon cel btw (2 : Int32) q45 e45) gX6_as_X6_no rfl hdX6_no rfl rfl rfl ⟨rfl, rfl⟩ ⟨Nat.le_of_ble_eq_true rfl, Nat.le_of_ble_eq_true rfl⟩ ⟨Nat.zero_le _, Nat.zero_le _⟩ rfl hl.1 rfl (Nat.le_of_ble_eq_true rfl) dX6_as_45 (fun H locs hP hS => ?_)
        exact hQ ▸ rtI (v := q45.1)  hx hb hr hlk hP hS (by rw [← (Option.some.inj hres)]) (by rw [← (Option.some.inj hres)]) dX6_as_48
      · have hres := (itl hres).2 c31
        refine lv_aload_n hx hb dX6_as_34 rfl (lv_at hl 0 rfl) ?_
        refine lv_iload_n hx hb dX6_as_35 rfl (lv_at hl 1 rfl) ?_
        refine lv_iconst (v := 3) hx hb dX6_as_36 (by decide) ?_
        obtain ⟨q37, e37, hres⟩ := obd hres
        refine cvI (q0 := 0) (ci := 6) hx hb hml hown hts hEo hE hK hP hS (kX6_has l D a cI cJ cS hd hEo sv kep bef isk fnd man nex wor sng hea lat tap tpd her flt vlu bit lon cel btw x1 (3 : Int32) q37 e37) gX6_as_X6_has rfl hdX6_has rfl rfl rfl ⟨rfl, rfl⟩ ⟨Nat.le_of_ble_eq_true rfl, Nat.le_of_ble_eq_true rfl⟩ ⟨Nat.zero_le _, Nat.zero_le _⟩ rfl hl.1 rfl (Nat.le_of_ble_eq_true rfl) dX6_as_37 (fun H locs hP hS => ?_)
        refine lv_goto (tgt := 48) hx hb dX6_as_40 (by decide) ?_
        exact hQ ▸ rtI (v := q37)  hx hb hr hlk hP hS (by rw [← (Option.some.inj hres)]) (by rw [← (Option.some.inj hres)]) dX6_as_48
    · have hres := (itl hres).1 c12
      exact b15 fnd hres _ _ _ hP hS (lv_sub hl [0] rfl)
def fX6_valued (sv : Nat → Int32) (x1 : Int32) (x2 : Int32) : Option (Int32) :=
 (fX6_has sv x1 (3 : Int32)).bind fun q3 => (fX6_has sv x1 (0 : Int32)).bind fun q10 => if q10 = 0 then some q3 else if q10 = 1 then some (q3 * x2) else if q10 = 2 then if x2 ≤ 0 then some (0 : Int32) else some q3 else if q10 = 3 then some ((q3 * x2) + (5 : Int32)) else if q10 = 4 then (fX6_has sv x1 (2 : Int32)).bind fun q74 => if x2 ≤ q74 then some (q3 * x2) else some (q3 * (x2 / (2 : Int32))) else some (-x2)
abbrev rX6_valued : Room := { frames := 1, cells := 0, slots := 0, locals := 22 }
set_option maxHeartbeats 4000000 in
set_option maxRecDepth 100000 in
theorem kX6_valued (l : Launch) (D : va_G) (a : Nat → Nat) (cI cJ cS : ClassId) (hd : aok a 16) {Env : (Nat → Prop) → State → Heap → Prop} (hEo : envOK Env) (sv kep bef : Nat → Int32) (isk : Int32) (fnd : Nat → Int32) (man nex : Nat → Int64) (wor sng hea lat tap : Nat → Int32) (tpd her flt vlu : Int32) (bit lon : Nat → Int32) (cel btw : Nat → Int64) (x1 : Int32) (x2 : Int32) (res : Int32) (hres : fX6_valued sv x1 x2 = some res) : CtI l D (tyL cI cJ cS) 16 a Env yX6_valued wsX6_valued rX6_valued [.ref (a 0), .int x1, .int x2] (wM a cI cJ cS sv kep bef isk fnd man nex wor sng hea lat tap tpd her flt vlu bit lon cel btw) (wM a cI cJ cS sv kep bef isk fnd man nex wor sng hea lat tap tpd her flt vlu bit lon cel btw) res := by
  refine CtI_mk (cc := cX6_valued) (maxL := 4) (ret := (some .int)) (by decide) rfl (Nat.le_of_ble_eq_true rfl) ?_
  intro p e s m args below meth c ls hx hb hr hlk hml hown hts hP hK hE hl
  have hS : va_S (adA a 16 s.heap.size) s.heap s.heap [] := va_S.rf
  have hl : lv_has ls 4 [(0, .ref (a 0)), (1, .int x1), (2, .int x2)] := hl
  have hown : s.vm.findClass RX6 = some m.cls := hown
  obtain ⟨Q, hQ⟩ : ∃ Q, Q = mqI below D 16 a args s (wM a cI cJ cS sv kep bef isk fnd man nex wor sng hea lat tap tpd her flt vlu bit lon cel btw) res := ⟨_, rfl⟩
  rw [← hQ]
  unfold fX6_valued at hres
  refine lv_aload_n hx hb dX6_valued_0 rfl (lv_at hl 0 rfl) ?_
  refine lv_iload_n hx hb dX6_valued_1 rfl (lv_at hl 1 rfl) ?_
  refine lv_iconst (v := 3) hx hb dX6_valued_2 (by decide) ?_
  obtain ⟨q3, e3, hres⟩ := obd hres
  refine cvI (q0 := 0) (ci := 6) hx hb hml hown hts hEo hE hK hP hS (kX6_has l D a cI cJ cS hd hEo sv kep bef isk fnd man nex wor sng hea lat tap tpd her flt vlu bit lon cel btw x1 (3 : Int32) q3 e3) gX6_valued_X6_has rfl hdX6_has rfl rfl rfl ⟨rfl, rfl⟩ ⟨Nat.le_of_ble_eq_true rfl, Nat.le_of_ble_eq_true rfl⟩ ⟨Nat.zero_le _, Nat.zero_le _⟩ rfl hl.1 rfl (Nat.le_of_ble_eq_true rfl) dX6_valued_3 (fun H locs hP hS => ?_)
  refine lv_istore_n (lv' := [(3, .int q3), (0, .ref (a 0)), (1, .int x1), (2, .int x2)]) hx hb dX6_valued_6 rfl hl (by decide) rfl (fun ls hl => ?_)
  refine lv_aload_n hx hb dX6_valued_7 rfl (lv_at hl 1 rfl) ?_
  refine lv_iload_n hx hb dX6_valued_8 rfl (lv_at hl 2 rfl) ?_
  refine lv_iconst (v := 0) hx hb dX6_valued_9 (by decide) ?_
  obtain ⟨q10, e10, hres⟩ := obd hres
  refine cvI (q0 := 0) (ci := 6) hx hb hml hown hts hEo hE hK hP hS (kX6_has l D a cI cJ cS hd hEo sv kep bef isk fnd man nex wor sng hea lat tap tpd her flt vlu bit lon cel btw x1 (0 : Int32) q10 e10) gX6_valued_X6_has rfl hdX6_has rfl rfl rfl ⟨rfl, rfl⟩ ⟨Nat.le_of_ble_eq_true rfl, Nat.le_of_ble_eq_true rfl⟩ ⟨Nat.zero_le _, Nat.zero_le _⟩ rfl hl.1 rfl (Nat.le_of_ble_eq_true rfl) dX6_valued_10 (fun H locs hP hS => ?_)
  by_cases v13_0 : q10 = 0
  · have hres := (itl hres).1 v13_0
    refine lv_tableIn (off := 35) (tgt := 48) hx hb dX6_valued_13 (by rw [v13_0]; decide) (by rw [v13_0]; decide) (by rw [v13_0]; rfl) (by decide) ?_
    refine lv_iload_n hx hb dX6_valued_48 rfl (lv_at hl 0 rfl) ?_
    exact hQ ▸ rtI (v := q3)  hx hb hr hlk hP hS (by rw [← (Option.some.inj hres)]) rfl dX6_valued_49
  · have hres := (itl hres).2 v13_0
    by_cases v13_1 : q10 = 1
    · have hres := (itl hres).1 v13_1
      refine lv_tableIn (off := 37) (tgt := 50) hx hb dX6_valued_13 (by rw [v13_1]; decide) (by rw [v13_1]; decide) (by rw [v13_1]; rfl) (by decide) ?_
      refine lv_iload_n hx hb dX6_valued_50 rfl (lv_at hl 0 rfl) ?_
      refine lv_iload_n hx hb dX6_valued_51 rfl (lv_at hl 3 rfl) ?_
      refine lv_imul hx hb dX6_valued_52 ?_
      exact hQ ▸ rtI (v := q3 * x2)  hx hb hr hlk hP hS (by rw [← (Option.some.inj hres)]) rfl dX6_valued_53
    · have hres := (itl hres).2 v13_1
      by_cases v13_2 : q10 = 2
      · have hres := (itl hres).1 v13_2
        refine lv_tableIn (off := 41) (tgt := 54) hx hb dX6_valued_13 (by rw [v13_2]; decide) (by rw [v13_2]; decide) (by rw [v13_2]; rfl) (by decide) ?_
        refine lv_iload_n hx hb dX6_valued_54 rfl (lv_at hl 3 rfl) ?_
        refine lv_if_le (tgt := 62) hx hb dX6_valued_55 (by decide) (fun c55 => ?_) (fun c55 => ?_)
        · have hres := (itl hres).1 c55
          refine lv_iconst (v := 0) hx hb dX6_valued_62 (by decide) ?_
          exact hQ ▸ rtI (v := (0 : Int32))  hx hb hr hlk hP hS (by rw [← (Option.some.inj hres)]) rfl dX6_valued_63
        · have hres := (itl hres).2 c55
          refine lv_iload_n hx hb dX6_valued_58 rfl (lv_at hl 0 rfl) ?_
          refine lv_goto (tgt := 63) hx hb dX6_valued_59 (by decide) ?_
          exact hQ ▸ rtI (v := q3)  hx hb hr hlk hP hS (by rw [← (Option.some.inj hres)]) rfl dX6_valued_63
      · have hres := (itl hres).2 v13_2
        by_cases v13_3 : q10 = 3
        · have hres := (itl hres).1 v13_3
          refine lv_tableIn (off := 51) (tgt := 64) hx hb dX6_valued_13 (by rw [v13_3]; decide) (by rw [v13_3]; decide) (by rw [v13_3]; rfl) (by decide) ?_
          refine lv_iload_n hx hb dX6_valued_64 rfl (lv_at hl 0 rfl) ?_
          refine lv_iload_n hx hb dX6_valued_65 rfl (lv_at hl 3 rfl) ?_
          refine lv_imul hx hb dX6_valued_66 ?_
          refine lv_iconst (v := 5) hx hb dX6_valued_67 (by decide) ?_
          refine lv_iadd hx hb dX6_valued_68 ?_
          exact hQ ▸ rtI (v := (q3 * x2) + (5 : Int32))  hx hb hr hlk hP hS (by rw [← (Option.some.inj hres)]) rfl dX6_valued_69
        · have hres := (itl hres).2 v13_3
          by_cases v13_4 : q10 = 4
          · have hres := (itl hres).1 v13_4
            refine lv_tableIn (off := 57) (tgt := 70) hx hb dX6_valued_13 (by rw [v13_4]; decide) (by rw [v13_4]; decide) (by rw [v13_4]; rfl) (by decide) ?_
            refine lv_iload_n hx hb dX6_valued_70 rfl (lv_at hl 3 rfl) ?_
            refine lv_aload_n hx hb dX6_valued_71 rfl (lv_at hl 1 rfl) ?_
            refine lv_iload_n hx hb dX6_valued_72 rfl (lv_at hl 2 rfl) ?_
            refine lv_iconst (v := 2) hx hb dX6_valued_73 (by decide) ?_
            obtain ⟨q74, e74, hres⟩ := obd hres
            refine cvI (q0 := 0) (ci := 6) hx hb hml hown hts hEo hE hK hP hS (kX6_has l D a cI cJ cS hd hEo sv kep bef isk fnd man nex wor sng hea lat tap tpd her flt vlu bit lon cel btw x1 (2 : Int32) q74 e74) gX6_valued_X6_has rfl hdX6_has rfl rfl rfl ⟨rfl, rfl⟩ ⟨Nat.le_of_ble_eq_true rfl, Nat.le_of_ble_eq_true rfl⟩ ⟨Nat.zero_le _, Nat.zero_le _⟩ rfl hl.1 rfl (Nat.le_of_ble_eq_true rfl) dX6_valued_74 (fun H locs hP hS => ?_)
            refine lv_icmp_le (tgt := 88) hx hb dX6_valued_77 (by decide) (fun c77 => ?_) (fun c77 => ?_)
            · have hres := (itl hres).1 c77
              refine lv_iload_n hx hb dX6_valued_88 rfl (lv_at hl 0 rfl) ?_
              refine lv_iload_n hx hb dX6_valued_89 rfl (lv_at hl 3 rfl) ?_
              refine lv_imul hx hb dX6_valued_90 ?_
              exact hQ ▸ rtI (v := q3 * x2)  hx hb hr hlk hP hS (by rw [← (Option.some.inj hres)]) rfl dX6_valued_91
            · have hres := (itl hres).2 c77
              refine lv_iload_n hx hb dX6_valued_80 rfl (lv_at hl 0 rfl) ?_
              refine lv_iload_n hx hb dX6_valued_81 rfl (lv_at hl 3 rfl) ?_
              refine lv_iconst (v := 2) hx hb dX6_valued_82 (by decide) ?_
              refine lv_idiv hx hb dX6_valued_83 (by decide) ?_
              refine lv_imul hx hb dX6_valued_84 ?_
              refine lv_goto (tgt := 91) hx hb dX6_valued_85 (by decide) ?_
              exact hQ ▸ rtI (v := q3 * (x2 / (2 : Int32)))  hx hb hr hlk hP hS (by rw [← (Option.some.inj hres)]) rfl dX6_valued_91
          · have hres := (itl hres).2 v13_4
            refine lv_tableOut (tgt := 92) hx hb dX6_valued_13 (sw04 v13_0 v13_1 v13_2 v13_3 v13_4) (by decide) ?_
            refine lv_iload_n hx hb dX6_valued_92 rfl (lv_at hl 3 rfl) ?_
            refine lv_ineg hx hb dX6_valued_93 ?_
            exact hQ ▸ rtI (v := -x2)  hx hb hr hlk hP hS (by rw [← (Option.some.inj hres)]) rfl dX6_valued_94
def fX6_value_b18 (fnd : Nat → Int32) : Option (Int32 × (Nat → Int32)) :=
 (fX6_no fnd (0 : Int32)).bind fun q20 => some (q20.1, q20.2)
def fX6_value (sv : Nat → Int32) (fnd : Nat → Int32) (x1 : Int32) (x2 : Int32) : Option (Int32 × (Nat → Int32)) :=
  if (bI (fX6_isPart sv x1)) = 0 then fX6_value_b18 fnd else if (bI (fX6_in x2 (0 : Int32) (24 : Int32))) = 0 then fX6_value_b18 fnd else (fX6_isLength sv x1 x2).bind fun q27 => if (bI q27) = 0 then (fX6_no fnd (0 : Int32)).bind fun q44 => some (q44.1, q44.2) else (fX6_valued sv x1 x2).bind fun q36 => some (q36, fnd)
theorem hdX6_valued : yX6_valued.cls = RX6 ∧ yX6_valued.cls ≠ "java/lang/invoke/MethodHandle" ∧ yX6_valued.cls ≠ "java/lang/invoke/VarHandle" ∧ (parseMethodDescriptor yX6_valued.desc).map (fun d => d.parameters.length) = some 2 := by decide +kernel
abbrev rX6_value : Room := { frames := 2, cells := 0, slots := 0, locals := 46 }
set_option maxHeartbeats 4000000 in
set_option maxRecDepth 100000 in
theorem kX6_value (l : Launch) (D : va_G) (a : Nat → Nat) (cI cJ cS : ClassId) (hd : aok a 16) {Env : (Nat → Prop) → State → Heap → Prop} (hEo : envOK Env) (sv kep bef : Nat → Int32) (isk : Int32) (fnd : Nat → Int32) (man nex : Nat → Int64) (wor sng hea lat tap : Nat → Int32) (tpd her flt vlu : Int32) (bit lon : Nat → Int32) (cel btw : Nat → Int64) (x1 : Int32) (x2 : Int32) (res : Int32 × (Nat → Int32)) (hres : fX6_value sv fnd x1 x2 = some res) : CtI l D (tyL cI cJ cS) 16 a Env yX6_value wsX6_value rX6_value [.ref (a 0), .int x1, .int x2] (wM a cI cJ cS sv kep bef isk fnd man nex wor sng hea lat tap tpd her flt vlu bit lon cel btw) (wM a cI cJ cS sv kep bef isk res.2 man nex wor sng hea lat tap tpd her flt vlu bit lon cel btw) res.1 := by
  refine CtI_mk (cc := cX6_value) (maxL := 3) (ret := (some .int)) (by decide) rfl (Nat.le_of_ble_eq_true rfl) ?_
  intro p e s m args below meth c ls hx hb hr hlk hml hown hts hP hK hE hl
  have hS : va_S (adA a 16 s.heap.size) s.heap s.heap [] := va_S.rf
  have hl : lv_has ls 3 [(0, .ref (a 0)), (1, .int x1), (2, .int x2)] := hl
  have hown : s.vm.findClass RX6 = some m.cls := hown
  obtain ⟨Q, hQ⟩ : ∃ Q, Q = mqI below D 16 a args s (wM a cI cJ cS sv kep bef isk res.2 man nex wor sng hea lat tap tpd her flt vlu bit lon cel btw) res.1 := ⟨_, rfl⟩
  rw [← hQ]
  have b18 : ∀ (fnd : Nat → Int32), fX6_value_b18 fnd = some res → ∀ (H : Heap) (locs : List Loc) (ls : Array Slot), va_P D vwCl (wM a cI cJ cS sv kep bef isk fnd man nex wor sng hea lat tap tpd her flt vlu bit lon cel btw) H → va_S (adA a 16 s.heap.size) s.heap H locs → lv_has ls 3 [(0, .ref (a 0))] → W p l e rX6_value s m args below meth c H locs 0 0 Q (F0 m 18 ls []) := by
    intro fnd hres H locs ls hP hS hl
    unfold fX6_value_b18 at hres
    refine lv_aload_n hx hb dX6_value_18 rfl (lv_at hl 0 rfl) ?_
    refine lv_iconst (v := 0) hx hb dX6_value_19 (by decide) ?_
    obtain ⟨q20, e20, hres⟩ := obd hres
    refine cvI (q0 := 0) (ci := 6) hx hb hml hown hts hEo hE hK hP hS (kX6_no l D a cI cJ cS hd hEo sv kep bef isk fnd man nex wor sng hea lat tap tpd her flt vlu bit lon cel btw (0 : Int32) q20 e20) gX6_value_X6_no rfl hdX6_no rfl rfl rfl ⟨rfl, rfl⟩ ⟨Nat.le_of_ble_eq_true rfl, Nat.le_of_ble_eq_true rfl⟩ ⟨Nat.zero_le _, Nat.zero_le _⟩ rfl hl.1 rfl (Nat.le_of_ble_eq_true rfl) dX6_value_20 (fun H locs hP hS => ?_)
    exact hQ ▸ rtI (v := q20.1)  hx hb hr hlk hP hS (by rw [← (Option.some.inj hres)]) (by rw [← (Option.some.inj hres)]) dX6_value_23
  unfold fX6_value at hres
  refine lv_aload_n hx hb dX6_value_0 rfl (lv_at hl 0 rfl) ?_
  refine lv_iload_n hx hb dX6_value_1 rfl (lv_at hl 1 rfl) ?_
  refine cvI (q0 := 0) (ci := 6) hx hb hml hown hts hEo hE hK hP hS (kX6_isPart l D a cI cJ cS hd hEo sv kep bef isk fnd man nex wor sng hea lat tap tpd her flt vlu bit lon cel btw x1) gX6_value_X6_isPart rfl hdX6_isPart rfl rfl rfl ⟨rfl, rfl⟩ ⟨Nat.le_of_ble_eq_true rfl, Nat.le_of_ble_eq_true rfl⟩ ⟨Nat.zero_le _, Nat.zero_le _⟩ rfl hl.1 rfl (Nat.le_of_ble_eq_true rfl) dX6_value_2 (fun H locs hP hS => ?_)
  refine lv_if_eq (tgt := 18) hx hb dX6_value_5 (by decide) (fun c5 => ?_) (fun c5 => ?_)
  · have hres := (itl hres).1 c5
    exact b18 fnd hres _ _ _ hP hS (lv_sub hl [0] rfl)
  · have hres := (itl hres).2 c5
    refine lv_iload_n hx hb dX6_value_8 rfl (lv_at hl 2 rfl) ?_
    refine lv_iconst (v := 0) hx hb dX6_value_9 (by decide) ?_
    refine lv_bipush (v := 24) hx hb dX6_value_10 (by decide) ?_
    refine csI hx hb hml hown hts hEo hE hK hP hS (kX6_in l D a cI cJ cS hd hEo sv kep bef isk fnd man nex wor sng hea lat tap tpd her flt vlu bit lon cel btw x2 (0 : Int32) (24 : Int32)) gX6_value_X6_in rfl hdX6_in ⟨rfl, rfl⟩ ⟨Nat.le_of_ble_eq_true rfl, Nat.le_of_ble_eq_true rfl⟩ ⟨Nat.zero_le _, Nat.zero_le _⟩ rfl hl.1 rfl (Nat.le_of_ble_eq_true rfl) dX6_value_12 (fun H locs hP hS => ?_)
    refine lv_if_ne (tgt := 24) hx hb dX6_value_15 (by decide) (fun c15 => ?_) (fun c15 => ?_)
    · have hres := (itl hres).2 c15
      refine lv_aload_n hx hb dX6_value_24 rfl (lv_at hl 0 rfl) ?_
      refine lv_iload_n hx hb dX6_value_25 rfl (lv_at hl 1 rfl) ?_
      refine lv_iload_n hx hb dX6_value_26 rfl (lv_at hl 2 rfl) ?_
      obtain ⟨q27, e27, hres⟩ := obd hres
      refine cvI (q0 := 0) (ci := 6) hx hb hml hown hts hEo hE hK hP hS (kX6_isLength l D a cI cJ cS hd hEo sv kep bef isk fnd man nex wor sng hea lat tap tpd her flt vlu bit lon cel btw x1 x2 q27 e27) gX6_value_X6_isLength rfl hdX6_isLength rfl rfl rfl ⟨rfl, rfl⟩ ⟨Nat.le_of_ble_eq_true rfl, Nat.le_of_ble_eq_true rfl⟩ ⟨Nat.zero_le _, Nat.zero_le _⟩ rfl hl.1 rfl (Nat.le_of_ble_eq_true rfl) dX6_value_27 (fun H locs hP hS => ?_)
      refine lv_if_eq (tgt := 42) hx hb dX6_value_30 (by decide) (fun c30 => ?_) (fun c30 => ?_)
      · have hres := (itl hres).1 c30
        refine lv_aload_n hx hb dX6_value_42 rfl (lv_at hl 0 rfl) ?_
        refine lv_iconst (v := 0) hx hb dX6_value_43 (by decide) ?_
        obtain ⟨q44, e44, hres⟩ := obd hres
        refine cvI (q0 := 0) (ci := 6) hx hb hml hown hts hEo hE hK hP hS (kX6_no l D a cI cJ cS hd hEo sv kep bef isk fnd man nex wor sng hea lat tap tpd her flt vlu bit lon cel btw (0 : Int32) q44 e44) gX6_value_X6_no rfl hdX6_no rfl rfl rfl ⟨rfl, rfl⟩ ⟨Nat.le_of_ble_eq_true rfl, Nat.le_of_ble_eq_true rfl⟩ ⟨Nat.zero_le _, Nat.zero_le _⟩ rfl hl.1 rfl (Nat.le_of_ble_eq_true rfl) dX6_value_44 (fun H locs hP hS => ?_)
        exact hQ ▸ rtI (v := q44.1)  hx hb hr hlk hP hS (by rw [← (Option.some.inj hres)]) (by rw [← (Option.some.inj hres)]) dX6_value_47
      · have hres := (itl hres).2 c30
        refine lv_aload_n hx hb dX6_value_33 rfl (lv_at hl 0 rfl) ?_
        refine lv_iload_n hx hb dX6_value_34 rfl (lv_at hl 1 rfl) ?_
        refine lv_iload_n hx hb dX6_value_35 rfl (lv_at hl 2 rfl) ?_
        obtain ⟨q36, e36, hres⟩ := obd hres
        refine cvI (q0 := 0) (ci := 6) hx hb hml hown hts hEo hE hK hP hS (kX6_valued l D a cI cJ cS hd hEo sv kep bef isk fnd man nex wor sng hea lat tap tpd her flt vlu bit lon cel btw x1 x2 q36 e36) gX6_value_X6_valued rfl hdX6_valued rfl rfl rfl ⟨rfl, rfl⟩ ⟨Nat.le_of_ble_eq_true rfl, Nat.le_of_ble_eq_true rfl⟩ ⟨Nat.zero_le _, Nat.zero_le _⟩ rfl hl.1 rfl (Nat.le_of_ble_eq_true rfl) dX6_value_36 (fun H locs hP hS => ?_)
        refine lv_goto (tgt := 47) hx hb dX6_value_39 (by decide) ?_
        exact hQ ▸ rtI (v := q36)  hx hb hr hlk hP hS (by rw [← (Option.some.inj hres)]) (by rw [← (Option.some.inj hres)]) dX6_value_47
    · have hres := (itl hres).1 c15
      exact b18 fnd hres _ _ _ hP hS (lv_sub hl [0] rfl)
def fX6_long_ (sv : Nat → Int32) (x1 : Int32) : Option (Int32) :=
  gd (ib ((68 : Int32) + ((11 : Int32) * x1)) 166) (some (sv ((68 : Int32) + ((11 : Int32) * x1)).toNatClampNeg))
abbrev rX6_long_ : Room := { frames := 0, cells := 0, slots := 0, locals := 0 }
set_option maxHeartbeats 4000000 in
set_option maxRecDepth 100000 in
theorem kX6_long_ (l : Launch) (D : va_G) (a : Nat → Nat) (cI cJ cS : ClassId) (hd : aok a 16) {Env : (Nat → Prop) → State → Heap → Prop} (hEo : envOK Env) (sv kep bef : Nat → Int32) (isk : Int32) (fnd : Nat → Int32) (man nex : Nat → Int64) (wor sng hea lat tap : Nat → Int32) (tpd her flt vlu : Int32) (bit lon : Nat → Int32) (cel btw : Nat → Int64) (x1 : Int32) (res : Int32) (hres : fX6_long_ sv x1 = some res) : CtI l D (tyL cI cJ cS) 16 a Env yX6_long_ wsX6_long_ rX6_long_ [.ref (a 0), .int x1] (wM a cI cJ cS sv kep bef isk fnd man nex wor sng hea lat tap tpd her flt vlu bit lon cel btw) (wM a cI cJ cS sv kep bef isk fnd man nex wor sng hea lat tap tpd her flt vlu bit lon cel btw) res := by
  refine CtI_mk (cc := cX6_long_) (maxL := 2) (ret := (some .int)) (by decide) rfl (Nat.le_of_ble_eq_true rfl) ?_
  intro p e s m args below meth c ls hx hb hr hlk hml hown hts hP hK hE hl
  have hS : va_S (adA a 16 s.heap.size) s.heap s.heap [] := va_S.rf
  have hl : lv_has ls 2 [(0, .ref (a 0)), (1, .int x1)] := hl
  have hown : s.vm.findClass RX6 = some m.cls := hown
  have hw6 : ∀ w ∈ wsX60, w.before args s = true := fun w h => hts w (List.mem_cons_of_mem _ (List.mem_append_right _ h))
  have u1 : (Cond.fieldLink RX6 9 "YearWordsModel" "s" "[I").before args s = true := hts _ (List.mem_of_getElem? (i := 1) (by decide +kernel))
  obtain ⟨Q, hQ⟩ : ∃ Q, Q = mqI below D 16 a args s (wM a cI cJ cS sv kep bef isk fnd man nex wor sng hea lat tap tpd her flt vlu bit lon cel btw) res := ⟨_, rfl⟩
  rw [← hQ]
  unfold fX6_long_ at hres
  refine lv_aload_n hx hb dX6_long__0 rfl (lv_at hl 0 rfl) ?_
  refine gM_this6_s hx hb hown hw6 hK hP u1 dX6_long__1 ?_
  refine lv_bipush (v := 68) hx hb dX6_long__4 (by decide) ?_
  refine lv_bipush (v := 11) hx hb dX6_long__6 (by decide) ?_
  refine lv_iload_n hx hb dX6_long__8 rfl (lv_at hl 1 rfl) ?_
  refine lv_imul hx hb dX6_long__9 ?_
  refine lv_iadd hx hb dX6_long__10 ?_
  obtain ⟨i11, hres⟩ := gdi hres
  refine lM_sv hx hb hK hP i11 dX6_long__11 ?_
  exact hQ ▸ rtI (v := sv ((68 : Int32) + ((11 : Int32) * x1)).toNatClampNeg)  hx hb hr hlk hP hS (by rw [← (Option.some.inj hres)]) rfl dX6_long__12
def fX6_nth (sv : Nat → Int32) (x1 : Int32) (x2 : Int32) : Option (Int32) :=
  gd (ib ((((68 : Int32) + ((11 : Int32) * x1)) + (1 : Int32)) + x2) 166) (some (sv ((((68 : Int32) + ((11 : Int32) * x1)) + (1 : Int32)) + x2).toNatClampNeg))
abbrev rX6_nth : Room := { frames := 0, cells := 0, slots := 0, locals := 0 }
set_option maxHeartbeats 4000000 in
set_option maxRecDepth 100000 in
theorem kX6_nth (l : Launch) (D : va_G) (a : Nat → Nat) (cI cJ cS : ClassId) (hd : aok a 16) {Env : (Nat → Prop) → State → Heap → Prop} (hEo : envOK Env) (sv kep bef : Nat → Int32) (isk : Int32) (fnd : Nat → Int32) (man nex : Nat → Int64) (wor sng hea lat tap : Nat → Int32) (tpd her flt vlu : Int32) (bit lon : Nat → Int32) (cel btw : Nat → Int64) (x1 : Int32) (x2 : Int32) (res : Int32) (hres : fX6_nth sv x1 x2 = some res) : CtI l D (tyL cI cJ cS) 16 a Env yX6_nth wsX6_nth rX6_nth [.ref (a 0), .int x1, .int x2] (wM a cI cJ cS sv kep bef isk fnd man nex wor sng hea lat tap tpd her flt vlu bit lon cel btw) (wM a cI cJ cS sv kep bef isk fnd man nex wor sng hea lat tap tpd her flt vlu bit lon cel btw) res := by
  refine CtI_mk (cc := cX6_nth) (maxL := 3) (ret := (some .int)) (by decide) rfl (Nat.le_of_ble_eq_true rfl) ?_
  intro p e s m args below meth c ls hx hb hr hlk hml hown hts hP hK hE hl
  have hS : va_S (adA a 16 s.heap.size) s.heap s.heap [] := va_S.rf
  have hl : lv_has ls 3 [(0, .ref (a 0)), (1, .int x1), (2, .int x2)] := hl
  have hown : s.vm.findClass RX6 = some m.cls := hown
  have hw6 : ∀ w ∈ wsX60, w.before args s = true := fun w h => hts w (List.mem_cons_of_mem _ (List.mem_append_right _ h))
  have u1 : (Cond.fieldLink RX6 9 "YearWordsModel" "s" "[I").before args s = true := hts _ (List.mem_of_getElem? (i := 1) (by decide +kernel))
  obtain ⟨Q, hQ⟩ : ∃ Q, Q = mqI below D 16 a args s (wM a cI cJ cS sv kep bef isk fnd man nex wor sng hea lat tap tpd her flt vlu bit lon cel btw) res := ⟨_, rfl⟩
  rw [← hQ]
  unfold fX6_nth at hres
  refine lv_aload_n hx hb dX6_nth_0 rfl (lv_at hl 0 rfl) ?_
  refine gM_this6_s hx hb hown hw6 hK hP u1 dX6_nth_1 ?_
  refine lv_bipush (v := 68) hx hb dX6_nth_4 (by decide) ?_
  refine lv_bipush (v := 11) hx hb dX6_nth_6 (by decide) ?_
  refine lv_iload_n hx hb dX6_nth_8 rfl (lv_at hl 1 rfl) ?_
  refine lv_imul hx hb dX6_nth_9 ?_
  refine lv_iadd hx hb dX6_nth_10 ?_
  refine lv_iconst (v := 1) hx hb dX6_nth_11 (by decide) ?_
  refine lv_iadd hx hb dX6_nth_12 ?_
  refine lv_iload_n hx hb dX6_nth_13 rfl (lv_at hl 2 rfl) ?_
  refine lv_iadd hx hb dX6_nth_14 ?_
  obtain ⟨i15, hres⟩ := gdi hres
  refine lM_sv hx hb hK hP i15 dX6_nth_15 ?_
  exact hQ ▸ rtI (v := sv ((((68 : Int32) + ((11 : Int32) * x1)) + (1 : Int32)) + x2).toNatClampNeg)  hx hb hr hlk hP hS (by rw [← (Option.some.inj hres)]) rfl dX6_nth_16
def fX6_tale (sv : Nat → Int32) (fnd : Nat → Int32) : Option (Int32 × (Nat → Int32) × (Nat → Int32)) :=
  if (sv (2 : Int32).toNatClampNeg) = (8 : Int32) then (fX6_no fnd (1 : Int32)).bind fun q13 => some (q13.1, sv, q13.2) else gd (ib ((68 : Int32) + ((11 : Int32) * (sv (2 : Int32).toNatClampNeg))) 166) (some (((upd (upd sv ((68 : Int32) + ((11 : Int32) * (sv (2 : Int32).toNatClampNeg))).toNatClampNeg (0 : Int32)) (2 : Int32).toNatClampNeg (((upd sv ((68 : Int32) + ((11 : Int32) * (sv (2 : Int32).toNatClampNeg))).toNatClampNeg (0 : Int32)) (2 : Int32).toNatClampNeg) + (1 : Int32))) (2 : Int32).toNatClampNeg) - (1 : Int32), upd (upd sv ((68 : Int32) + ((11 : Int32) * (sv (2 : Int32).toNatClampNeg))).toNatClampNeg (0 : Int32)) (2 : Int32).toNatClampNeg (((upd sv ((68 : Int32) + ((11 : Int32) * (sv (2 : Int32).toNatClampNeg))).toNatClampNeg (0 : Int32)) (2 : Int32).toNatClampNeg) + (1 : Int32)), fnd))
abbrev rX6_tale : Room := { frames := 1, cells := 0, slots := 0, locals := 21 }
set_option maxHeartbeats 4000000 in
set_option maxRecDepth 100000 in
theorem kX6_tale (l : Launch) (D : va_G) (a : Nat → Nat) (cI cJ cS : ClassId) (hd : aok a 16) {Env : (Nat → Prop) → State → Heap → Prop} (hEo : envOK Env) (sv kep bef : Nat → Int32) (isk : Int32) (fnd : Nat → Int32) (man nex : Nat → Int64) (wor sng hea lat tap : Nat → Int32) (tpd her flt vlu : Int32) (bit lon : Nat → Int32) (cel btw : Nat → Int64)  (res : Int32 × (Nat → Int32) × (Nat → Int32)) (hres : fX6_tale sv fnd = some res) : CtI l D (tyL cI cJ cS) 16 a Env yX6_tale wsX6_tale rX6_tale [.ref (a 0)] (wM a cI cJ cS sv kep bef isk fnd man nex wor sng hea lat tap tpd her flt vlu bit lon cel btw) (wM a cI cJ cS res.2.1 kep bef isk res.2.2 man nex wor sng hea lat tap tpd her flt vlu bit lon cel btw) res.1 := by
  refine CtI_mk (cc := cX6_tale) (maxL := 1) (ret := (some .int)) (by decide) rfl (Nat.le_of_ble_eq_true rfl) ?_
  intro p e s m args below meth c ls hx hb hr hlk hml hown hts hP hK hE hl
  have hS : va_S (adA a 16 s.heap.size) s.heap s.heap [] := va_S.rf
  have hl : lv_has ls 1 [(0, .ref (a 0))] := hl
  have hown : s.vm.findClass RX6 = some m.cls := hown
  have hw6 : ∀ w ∈ wsX60, w.before args s = true := fun w h => hts w (List.mem_cons_of_mem _ (List.mem_append_right _ h))
  have u1 : (Cond.fieldLink RX6 9 "YearWordsModel" "s" "[I").before args s = true := hts _ (List.mem_of_getElem? (i := 1) (by decide +kernel))
  obtain ⟨Q, hQ⟩ : ∃ Q, Q = mqI below D 16 a args s (wM a cI cJ cS res.2.1 kep bef isk res.2.2 man nex wor sng hea lat tap tpd her flt vlu bit lon cel btw) res.1 := ⟨_, rfl⟩
  rw [← hQ]
  unfold fX6_tale at hres
  refine lv_aload_n hx hb dX6_tale_0 rfl (lv_at hl 0 rfl) ?_
  refine gM_this6_s hx hb hown hw6 hK hP u1 dX6_tale_1 ?_
  refine lv_iconst (v := 2) hx hb dX6_tale_4 (by decide) ?_
  have i5 : vp_in (2 : Int32) 166 := ib_in (by decide)
  refine lM_sv hx hb hK hP i5 dX6_tale_5 ?_
  refine lv_bipush (v := 8) hx hb dX6_tale_6 (by decide) ?_
  refine lv_icmp_ne (tgt := 17) hx hb dX6_tale_8 (by decide) (fun c8 => ?_) (fun c8 => ?_)
  · have hres := (itl hres).2 c8
    refine lv_aload_n hx hb dX6_tale_17 rfl (lv_at hl 0 rfl) ?_
    refine gM_this6_s hx hb hown hw6 hK hP u1 dX6_tale_18 ?_
    refine lv_bipush (v := 68) hx hb dX6_tale_21 (by decide) ?_
    refine lv_bipush (v := 11) hx hb dX6_tale_23 (by decide) ?_
    refine lv_aload_n hx hb dX6_tale_25 rfl (lv_at hl 0 rfl) ?_
    refine gM_this6_s hx hb hown hw6 hK hP u1 dX6_tale_26 ?_
    refine lv_iconst (v := 2) hx hb dX6_tale_29 (by decide) ?_
    have i30 : vp_in (2 : Int32) 166 := ib_in (by decide)
    refine lM_sv hx hb hK hP i30 dX6_tale_30 ?_
    refine lv_imul hx hb dX6_tale_31 ?_
    refine lv_iadd hx hb dX6_tale_32 ?_
    refine lv_iconst (v := 0) hx hb dX6_tale_33 (by decide) ?_
    obtain ⟨i34, hres⟩ := gdi hres
    refine sM_sv hx hb hK hP hd hS i34 dX6_tale_34 (fun H locs hP hS => ?_)
    refine lv_aload_n hx hb dX6_tale_35 rfl (lv_at hl 0 rfl) ?_
    refine gM_this6_s hx hb hown hw6 hK hP u1 dX6_tale_36 ?_
    refine lv_iconst (v := 2) hx hb dX6_tale_39 (by decide) ?_
    refine lv_dup2_11 hx hb dX6_tale_40 rfl rfl ?_
    have i41 : vp_in (2 : Int32) 166 := ib_in (by decide)
    refine lM_sv hx hb hK hP i41 dX6_tale_41 ?_
    refine lv_iconst (v := 1) hx hb dX6_tale_42 (by decide) ?_
    refine lv_iadd hx hb dX6_tale_43 ?_
    have i44 : vp_in (2 : Int32) 166 := ib_in (by decide)
    refine sM_sv hx hb hK hP hd hS i44 dX6_tale_44 (fun H locs hP hS => ?_)
    refine lv_aload_n hx hb dX6_tale_45 rfl (lv_at hl 0 rfl) ?_
    refine gM_this6_s hx hb hown hw6 hK hP u1 dX6_tale_46 ?_
    refine lv_iconst (v := 2) hx hb dX6_tale_49 (by decide) ?_
    have i50 : vp_in (2 : Int32) 166 := ib_in (by decide)
    refine lM_sv hx hb hK hP i50 dX6_tale_50 ?_
    refine lv_iconst (v := 1) hx hb dX6_tale_51 (by decide) ?_
    refine lv_isub hx hb dX6_tale_52 ?_
    exact hQ ▸ rtI (v := ((upd (upd sv ((68 : Int32) + ((11 : Int32) * (sv (2 : Int32).toNatClampNeg))).toNatClampNeg (0 : Int32)) (2 : Int32).toNatClampNeg (((upd sv ((68 : Int32) + ((11 : Int32) * (sv (2 : Int32).toNatClampNeg))).toNatClampNeg (0 : Int32)) (2 : Int32).toNatClampNeg) + (1 : Int32))) (2 : Int32).toNatClampNeg) - (1 : Int32))  hx hb hr hlk hP hS (by rw [← (Option.some.inj hres)]) (by rw [← (Option.some.inj hres)]) dX6_tale_53
  · have hres := (itl hres).1 c8
    refine lv_aload_n hx hb dX6_tale_11 rfl (lv_at hl 0 rfl) ?_
    refine lv_iconst (v := 1) hx hb dX6_tale_12 (by decide) ?_
    obtain ⟨q13, e13, hres⟩ := obd hres
    refine cvI (q0 := 0) (ci := 6) hx hb hml hown hts hEo hE hK hP hS (kX6_no l D a cI cJ cS hd hEo sv kep bef isk fnd man nex wor sng hea lat tap tpd her flt vlu bit lon cel btw (1 : Int32) q13 e13) gX6_tale_X6_no rfl hdX6_no rfl rfl rfl ⟨rfl, rfl⟩ ⟨Nat.le_of_ble_eq_true rfl, Nat.le_of_ble_eq_true rfl⟩ ⟨Nat.zero_le _, Nat.zero_le _⟩ rfl hl.1 rfl (Nat.le_of_ble_eq_true rfl) dX6_tale_13 (fun H locs hP hS => ?_)
    exact hQ ▸ rtI (v := q13.1)  hx hb hr hlk hP hS (by rw [← (Option.some.inj hres)]) (by rw [← (Option.some.inj hres)]) dX6_tale_16
def fX6_tells (sv : Nat → Int32) (x1 : Int32) (x2 : Int32) : Option ((Nat → Int32)) :=
  gd (ib ((68 : Int32) + ((11 : Int32) * x1)) 166) (gd (ib ((68 : Int32) + ((11 : Int32) * x1)) 166) (gd (ib ((68 : Int32) + ((11 : Int32) * x1)) 166) (gd (ib (((68 : Int32) + ((11 : Int32) * x1)) + ((upd sv ((68 : Int32) + ((11 : Int32) * x1)).toNatClampNeg ((sv ((68 : Int32) + ((11 : Int32) * x1)).toNatClampNeg) + (1 : Int32))) ((68 : Int32) + ((11 : Int32) * x1)).toNatClampNeg)) 166) (some (upd (upd sv ((68 : Int32) + ((11 : Int32) * x1)).toNatClampNeg ((sv ((68 : Int32) + ((11 : Int32) * x1)).toNatClampNeg) + (1 : Int32))) (((68 : Int32) + ((11 : Int32) * x1)) + ((upd sv ((68 : Int32) + ((11 : Int32) * x1)).toNatClampNeg ((sv ((68 : Int32) + ((11 : Int32) * x1)).toNatClampNeg) + (1 : Int32))) ((68 : Int32) + ((11 : Int32) * x1)).toNatClampNeg)).toNatClampNeg x2)))))
abbrev rX6_tells : Room := { frames := 0, cells := 0, slots := 0, locals := 0 }
set_option maxHeartbeats 4000000 in
set_option maxRecDepth 100000 in
theorem kX6_tells (l : Launch) (D : va_G) (a : Nat → Nat) (cI cJ cS : ClassId) (hd : aok a 16) {Env : (Nat → Prop) → State → Heap → Prop} (hEo : envOK Env) (sv kep bef : Nat → Int32) (isk : Int32) (fnd : Nat → Int32) (man nex : Nat → Int64) (wor sng hea lat tap : Nat → Int32) (tpd her flt vlu : Int32) (bit lon : Nat → Int32) (cel btw : Nat → Int64) (x1 : Int32) (x2 : Int32) (res : (Nat → Int32)) (hres : fX6_tells sv x1 x2 = some res) : CtV l D (tyL cI cJ cS) 16 a Env yX6_tells wsX6_tells rX6_tells [.ref (a 0), .int x1, .int x2] (wM a cI cJ cS sv kep bef isk fnd man nex wor sng hea lat tap tpd her flt vlu bit lon cel btw) (wM a cI cJ cS res kep bef isk fnd man nex wor sng hea lat tap tpd her flt vlu bit lon cel btw) := by
  refine CtV_mk (cc := cX6_tells) (maxL := 4) (ret := none) (by decide) rfl (Nat.le_of_ble_eq_true rfl) ?_
  intro p e s m args below meth c ls hx hb hr hlk hml hown hts hP hK hE hl
  have hS : va_S (adA a 16 s.heap.size) s.heap s.heap [] := va_S.rf
  have hl : lv_has ls 4 [(0, .ref (a 0)), (1, .int x1), (2, .int x2)] := hl
  have hown : s.vm.findClass RX6 = some m.cls := hown
  have hw6 : ∀ w ∈ wsX60, w.before args s = true := fun w h => hts w (List.mem_cons_of_mem _ (List.mem_append_right _ h))
  have u1 : (Cond.fieldLink RX6 9 "YearWordsModel" "s" "[I").before args s = true := hts _ (List.mem_of_getElem? (i := 1) (by decide +kernel))
  obtain ⟨Q, hQ⟩ : ∃ Q, Q = mqV below D 16 a args s (wM a cI cJ cS res kep bef isk fnd man nex wor sng hea lat tap tpd her flt vlu bit lon cel btw) := ⟨_, rfl⟩
  rw [← hQ]
  unfold fX6_tells at hres
  refine lv_bipush (v := 68) hx hb dX6_tells_0 (by decide) ?_
  refine lv_bipush (v := 11) hx hb dX6_tells_2 (by decide) ?_
  refine lv_iload_n hx hb dX6_tells_4 rfl (lv_at hl 1 rfl) ?_
  refine lv_imul hx hb dX6_tells_5 ?_
  refine lv_iadd hx hb dX6_tells_6 ?_
  refine lv_istore_n (lv' := [(3, .int ((68 : Int32) + ((11 : Int32) * x1))), (0, .ref (a 0)), (1, .int x1), (2, .int x2)]) hx hb dX6_tells_7 rfl hl (by decide) rfl (fun ls hl => ?_)
  refine lv_aload_n hx hb dX6_tells_8 rfl (lv_at hl 1 rfl) ?_
  refine gM_this6_s hx hb hown hw6 hK hP u1 dX6_tells_9 ?_
  refine lv_iload_n hx hb dX6_tells_12 rfl (lv_at hl 0 rfl) ?_
  refine lv_dup2_11 hx hb dX6_tells_13 rfl rfl ?_
  obtain ⟨i14, hres⟩ := gdi hres
  refine lM_sv hx hb hK hP i14 dX6_tells_14 ?_
  refine lv_iconst (v := 1) hx hb dX6_tells_15 (by decide) ?_
  refine lv_iadd hx hb dX6_tells_16 ?_
  obtain ⟨i17, hres⟩ := gdi hres
  refine sM_sv hx hb hK hP hd hS i17 dX6_tells_17 (fun H locs hP hS => ?_)
  refine lv_aload_n hx hb dX6_tells_18 rfl (lv_at hl 1 rfl) ?_
  refine gM_this6_s hx hb hown hw6 hK hP u1 dX6_tells_19 ?_
  refine lv_iload_n hx hb dX6_tells_22 rfl (lv_at hl 0 rfl) ?_
  refine lv_aload_n hx hb dX6_tells_23 rfl (lv_at hl 1 rfl) ?_
  refine gM_this6_s hx hb hown hw6 hK hP u1 dX6_tells_24 ?_
  refine lv_iload_n hx hb dX6_tells_27 rfl (lv_at hl 0 rfl) ?_
  obtain ⟨i28, hres⟩ := gdi hres
  refine lM_sv hx hb hK hP i28 dX6_tells_28 ?_
  refine lv_iadd hx hb dX6_tells_29 ?_
  refine lv_iload_n hx hb dX6_tells_30 rfl (lv_at hl 3 rfl) ?_
  obtain ⟨i31, hres⟩ := gdi hres
  refine sM_sv hx hb hK hP hd hS i31 dX6_tells_31 (fun H locs hP hS => ?_)
  exact hQ ▸ rtV hx hb hr hlk hP hS (by rw [← (Option.some.inj hres)]) dX6_tells_32
