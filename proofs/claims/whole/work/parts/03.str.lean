def strLen : List Nat := [4, 4, 4, 5, 4, 3, 4, 6, 2, 5, 2]
def strByt : List (List Int32) := [[119, 111, 114, 100], [110, 97, 109, 101], [108, 105, 110, 107], [116, 105, 116, 108, 101], [101, 99, 104, 111], [112, 97, 100], [116, 97, 108, 101], [104, 101, 97, 114, 101, 114], [116, 111], [119, 111, 114, 116, 104], [111, 102]]
def strC (k j : Nat) : Int32 := (strByt.getD k []).getD j 0
theorem str_all : ∀ i, i < 11 → (strLen.getD i 0 < 2 ^ 31 ∧ ∀ j, j < strLen.getD i 0 → strC i j &&& 255 = strC i j) := by decide +kernel
def envS (sa sb : Nat → Nat) (A : Nat → Prop) (U : State) (H : Heap) : Prop := vk_S 11 strLen strByt sa sb A U H ∧ va_Z "java/lang/String" "COMPACT_STRINGS" "Z" (.int 1) A U H ∧ va_Zq "jdk/internal/util/Preconditions" "SIOOBE_FORMATTER" "Ljava/util/function/BiFunction;" A U H
def strM (sa : Nat → Nat) (U : State) : Prop := vk_R RX6 231 "word" (sa 0) U ∧ vk_R RX6 233 "name" (sa 1) U ∧ vk_R RX6 235 "link" (sa 2) U ∧ vk_R RX6 237 "title" (sa 3) U ∧ vk_R RX6 239 "echo" (sa 4) U ∧ vk_R RX6 241 "pad" (sa 5) U ∧ vk_R RX6 265 "tale" (sa 6) U ∧ vk_R RX6 269 "hearer" (sa 7) U ∧ vk_R RX6 246 "to" (sa 8) U ∧ vk_R RX6 248 "worth" (sa 9) U ∧ vk_R RX6 253 "of" (sa 10) U
def strX (sa : Nat → Nat) (U : State) : Prop := vk_R RX0 122 "word" (sa 0) U ∧ vk_R RX0 124 "name" (sa 1) U ∧ vk_R RX0 126 "link" (sa 2) U ∧ vk_R RX0 128 "title" (sa 3) U ∧ vk_R RX0 130 "echo" (sa 4) U ∧ vk_R RX0 132 "pad" (sa 5) U ∧ vk_R RX0 51 "tale" (sa 6) U ∧ vk_R RX0 56 "hearer" (sa 7) U ∧ vk_R RX0 70 "to" (sa 8) U ∧ vk_R RX0 72 "worth" (sa 9) U ∧ vk_R RX0 85 "of" (sa 10) U
def underV (k : Nat) : Int32 := if k = 0 then -1 else if k = 1 then 0 else if k = 2 then 0 else if k = 3 then 1 else if k = 4 then 1 else 2
def envM (Env : (Nat → Prop) → State → Heap → Prop) (sa sb : Nat → Nat) : Prop := (∀ A U H, Env A U H → envS sa sb A U H) ∧ ∀ A U H, Env A U H → strM sa U
def envX (Env : (Nat → Prop) → State → Heap → Prop) (ut : Nat) (sa sb : Nat → Nat) : Prop := (∀ A U H, Env A U H → va_Z "YearWords" "UNDER" "[I" (.ref ut) A U H ∧ va_T .int ut 6 (fun k => .int (underV k)) A U H) ∧ (∀ A U H, Env A U H → envS sa sb A U H) ∧ (∀ A U H, Env A U H → strX sa U) ∧ ∀ A U H, Env A U H → va_Nw (.methodLinkNest RX0 109 yX5_isIn "YearWords") U
theorem va_ldcSW {p : Program} {l : Launch} {e : Jvm.Env} {R : Room} {s : State} {m : MethodId} {args : Array Value} {below : List Frame} {meth : Method} {c : Code} {H : Heap} {locs : List Loc} {cells slots : Nat} {Q : State → Prop} {cc : ByteArray} {pc : Nat} {ls : Array Slot} {rest : List Value} (hexec : p.tables.exec = Jvm.exec) (hb : c.code = cc) {own tx : String} {index q : Nat} (hown : s.vm.findClass own = some m.cls) (hZ : vk_R own index tx q s) (hdg : decode cc pc = .ok (.ldc_w index, 3))
    (k : W p l e R s m args below meth c H locs cells slots Q (F0 m (pc + 3) ls (.ref q :: rest))) : W p l e R s m args below meth c H locs cells slots Q (F0 m pc ls rest) := by
  intro T hT X
  obtain ⟨t, a1, b1⟩ := k T hT X
  refine ⟨t, ?_, b1⟩
  obtain ⟨kk, cf, i, a', hk, hcf, hcp, -, hr, hev'⟩ := Cond.stringRef_spec hown hZ.1
  cases hZ.2.symm.trans hev'
  obtain ⟨k', hk', he⟩ := X.warmed.alike.2.2 _ _ hk
  have hr' : k'.resolved[index]? = some (some (.string q)) := by
    rcases X.warmed.entry hk hk' index with h | ⟨h, -⟩
    · rw [h]; exact hr
    · rw [hr] at h; cases h
  have hdg' : decode c.code pc = .ok (.ldc_w index, 3) := by rw [hb]; exact hdg
  jvm_step X.here [hexec, hdg', Op.ldc_w.wp_string (e := e) (s := T) (f := F0 m pc ls rest) X.here.top hk' (by rw [he]; exact hcf) hcp hr']
  exact a1
abbrev rJ3_checkIndex : Room := { frames := 0, cells := 0, slots := 0, locals := 0 }
abbrev rJ0_checkIndex : Room := { frames := 1, cells := 0, slots := 0, locals := 22 }
abbrev rJ1_charAt : Room := { frames := 2, cells := 0, slots := 0, locals := 43 }
abbrev rJ0_isLatin1 : Room := { frames := 0, cells := 0, slots := 0, locals := 0 }
abbrev rJ0_charAt : Room := { frames := 3, cells := 0, slots := 0, locals := 64 }
abbrev rJ0_coder : Room := { frames := 0, cells := 0, slots := 0, locals := 0 }
abbrev rJ0_length : Room := { frames := 1, cells := 0, slots := 0, locals := 20 }
theorem hdJ3_checkIndex_8e157 : yJ3_checkIndex_8e157.cls ≠ "java/lang/invoke/MethodHandle" ∧ yJ3_checkIndex_8e157.cls ≠ "java/lang/invoke/VarHandle" ∧ (parseMethodDescriptor yJ3_checkIndex_8e157.desc).map (fun d => d.parameters.length) = some 3 := by decide +kernel
theorem hdJ0_checkIndex_df160 : yJ0_checkIndex_df160.cls ≠ "java/lang/invoke/MethodHandle" ∧ yJ0_checkIndex_df160.cls ≠ "java/lang/invoke/VarHandle" ∧ (parseMethodDescriptor yJ0_checkIndex_df160.desc).map (fun d => d.parameters.length) = some 2 := by decide +kernel
theorem hdJ1_charAt_3b067 : yJ1_charAt_3b067.cls ≠ "java/lang/invoke/MethodHandle" ∧ yJ1_charAt_3b067.cls ≠ "java/lang/invoke/VarHandle" ∧ (parseMethodDescriptor yJ1_charAt_3b067.desc).map (fun d => d.parameters.length) = some 2 := by decide +kernel
theorem hdJ0_isLatin1_aae02 : yJ0_isLatin1_aae02.cls = RJ0 ∧ yJ0_isLatin1_aae02.cls ≠ "java/lang/invoke/MethodHandle" ∧ yJ0_isLatin1_aae02.cls ≠ "java/lang/invoke/VarHandle" ∧ (parseMethodDescriptor yJ0_isLatin1_aae02.desc).map (fun d => d.parameters.length) = some 0 := by decide +kernel
theorem hdJ0_coder_7d493 : yJ0_coder_7d493.cls = RJ0 ∧ yJ0_coder_7d493.cls ≠ "java/lang/invoke/MethodHandle" ∧ yJ0_coder_7d493.cls ≠ "java/lang/invoke/VarHandle" ∧ (parseMethodDescriptor yJ0_coder_7d493.desc).map (fun d => d.parameters.length) = some 0 := by decide +kernel
theorem hdJ0_length_8abf5 : yJ0_length_8abf5.cls = RJ0 ∧ yJ0_length_8abf5.cls ≠ "java/lang/invoke/MethodHandle" ∧ yJ0_length_8abf5.cls ≠ "java/lang/invoke/VarHandle" ∧ (parseMethodDescriptor yJ0_length_8abf5.desc).map (fun d => d.parameters.length) = some 0 := by decide +kernel
theorem hdJ0_charAt_5068e : yJ0_charAt_5068e.cls = RJ0 ∧ yJ0_charAt_5068e.cls ≠ "java/lang/invoke/MethodHandle" ∧ yJ0_charAt_5068e.cls ≠ "java/lang/invoke/VarHandle" ∧ (parseMethodDescriptor yJ0_charAt_5068e.desc).map (fun d => d.parameters.length) = some 1 := by decide +kernel
set_option maxHeartbeats 4000000 in
set_option maxRecDepth 100000 in
theorem kJ3_checkIndex (l : Launch) (D : va_G) (tys : List (ClassId × FieldType)) (N : Nat) (a : Nat → Nat) {Env : (Nat → Prop) → State → Heap → Prop} (hEo : envOK Env) (w : va_W) (i n : Int32) (v : Value) (hv : v = .null ∨ ∃ t, v = .ref t) (h0 : ¬ i < 0) (h1 : i < n) : CtI l D tys N a Env yJ3_checkIndex_8e157 wsJ3_checkIndex_8e157 rJ3_checkIndex [.int i, .int n, v] w w i := by
  have hlen : (lg_sl [.int i, .int n, v]).length ≤ 3 := by rcases hv with rfl | ⟨t, rfl⟩ <;> exact Nat.le_of_ble_eq_true rfl
  refine CtI_mk (cc := cJ3_checkIndex_8e157) (maxL := 3) (ret := some .int) (by decide) rfl hlen ?_
  intro p e s m args below meth c ls hx hb hr hlk hml hown hts hP hK hE hl
  have hS : va_S (adA a N s.heap.size) s.heap s.heap [] := va_S.rf
  have hl : lv_has ls 3 [(0, .int i), (1, .int n)] := by
    rcases hv with rfl | ⟨t, rfl⟩
    · exact lv_sub (l := [(0, .int i), (1, .int n), (2, .null)]) hl [0, 1] rfl
    · exact lv_sub (l := [(0, .int i), (1, .int n), (2, .ref t)]) hl [0, 1] rfl
  refine lv_iload_n hx hb dJ3_checkIndex_8e157_0 rfl (lv_at hl 0 rfl) ?_
  refine lv_if_lt (tgt := 9) hx hb dJ3_checkIndex_8e157_1 (by decide) (fun c => absurd c h0) (fun _ => ?_)
  refine lv_iload_n hx hb dJ3_checkIndex_8e157_4 rfl (lv_at hl 0 rfl) ?_
  refine lv_iload_n hx hb dJ3_checkIndex_8e157_5 rfl (lv_at hl 1 rfl) ?_
  refine lv_icmp_lt (tgt := 16) hx hb dJ3_checkIndex_8e157_6 (by decide) (fun _ => ?_) (fun c => absurd h1 c)
  refine lv_iload_n hx hb dJ3_checkIndex_8e157_16 rfl (lv_at hl 0 rfl) ?_
  exact rtI hx hb hr hlk hP hS rfl rfl dJ3_checkIndex_8e157_17
set_option maxHeartbeats 4000000 in
set_option maxRecDepth 100000 in
theorem kJ0_checkIndex (l : Launch) (D : va_G) (tys : List (ClassId × FieldType)) (N : Nat) (a : Nat → Nat) {Env : (Nat → Prop) → State → Heap → Prop} (hEo : envOK Env) (w : va_W) (sa sb : Nat → Nat) (hES : ∀ A U H, Env A U H → envS sa sb A U H) (i n : Int32) (h0 : ¬ i < 0) (h1 : i < n) : CtV l D tys N a Env yJ0_checkIndex_df160 wsJ0_checkIndex_df160 rJ0_checkIndex [.int i, .int n] w w := by
  refine CtV_mk (cc := cJ0_checkIndex_df160) (maxL := 2) (ret := none) (by decide) rfl (Nat.le_of_ble_eq_true rfl) ?_
  intro p e s m args below meth c ls hx hb hr hlk hml hown hts hP hK hE hl
  have hS : va_S (adA a N s.heap.size) s.heap s.heap [] := va_S.rf
  have hl : lv_has ls 2 [(0, .int i), (1, .int n)] := hl
  have u1 : (Cond.fieldLink RJ0 1053 "jdk/internal/util/Preconditions" "SIOOBE_FORMATTER" "Ljava/util/function/BiFunction;").before args s = true := hts _ (List.mem_of_getElem? (i := 1) (by decide +kernel))
  have go : ∀ v : Value, (v = .null ∨ ∃ t, v = .ref t) → va_Z "jdk/internal/util/Preconditions" "SIOOBE_FORMATTER" "Ljava/util/function/BiFunction;" v (adA a N s.heap.size) s s.heap → W p l e rJ0_checkIndex s m args below meth c s.heap [] 0 0 (mqV below D N a args s w) (F0 m 0 ls []) := by
    intro v hv hZ
    refine lv_iload_n hx hb dJ0_checkIndex_df160_0 rfl (lv_at hl 0 rfl) ?_
    refine lv_iload_n hx hb dJ0_checkIndex_df160_1 rfl (lv_at hl 1 rfl) ?_
    refine va_gets (v := v) hx hb hZ hS hown u1 (fun _ h => h) dJ0_checkIndex_df160_2 ?_
    refine csI hx hb hml hown hts hEo hE hK hP hS (kJ3_checkIndex l D tys N a hEo w i n v hv h0 h1) gJ0_checkIndex_df160_J3_checkIndex_8e157 rfl hdJ3_checkIndex_8e157 ⟨rfl, rfl⟩ ⟨Nat.le_of_ble_eq_true rfl, Nat.le_of_ble_eq_true rfl⟩ ⟨Nat.zero_le _, Nat.zero_le _⟩ rfl hl.1 rfl (Nat.le_of_ble_eq_true rfl) dJ0_checkIndex_df160_5 (fun H locs hP hS => ?_)
    refine lv_pop hx hb dJ0_checkIndex_df160_8 rfl ?_
    exact rtV hx hb hr hlk hP hS rfl dJ0_checkIndex_df160_9
  rcases (hES _ _ _ hE).2.2 with hZ | ⟨t, hZ⟩
  · exact go _ (Or.inl rfl) hZ
  · exact go _ (Or.inr ⟨t, rfl⟩) hZ
set_option maxHeartbeats 4000000 in
set_option maxRecDepth 100000 in
theorem kJ1_charAt (l : Launch) (D : va_G) (tys : List (ClassId × FieldType)) (N : Nat) (a : Nat → Nat) {Env : (Nat → Prop) → State → Heap → Prop} (hEo : envOK Env) (w : va_W) (sa sb : Nat → Nat) (hES : ∀ A U H, Env A U H → envS sa sb A U H) (k : Nat) (hk : k < 11) (i : Int32) (hi : vp_in i (strLen.getD k 0)) : CtI l D tys N a Env yJ1_charAt_3b067 wsJ1_charAt_3b067 rJ1_charAt [.ref (sb k), .int i] w w (strC k i.toNatClampNeg) := by
  obtain ⟨hL, hC⟩ := str_all k hk
  obtain ⟨j, hj, rfl⟩ := vp_in_of hi hL
  have ej : (nI j).toNatClampNeg = j := nI_clamp (by omega)
  rw [ej]
  refine CtI_mk (cc := cJ1_charAt_3b067) (maxL := 2) (ret := some .char) (by decide) rfl (Nat.le_of_ble_eq_true rfl) ?_
  intro p e s m args below meth c ls hx hb hr hlk hml hown hts hP hK hE hl
  have hS : va_S (adA a N s.heap.size) s.heap s.heap [] := va_S.rf
  have hl : lv_has ls 2 [(0, .ref (sb k)), (1, .int (nI j))] := hl
  have hT := ((hES _ _ _ hE).1.1 k hk).2.2.2
  refine lv_iload_n hx hb dJ1_charAt_3b067_0 rfl (lv_at hl 1 rfl) ?_
  refine lv_aload_n hx hb dJ1_charAt_3b067_1 rfl (lv_at hl 0 rfl) ?_
  refine va_tlen hx hb hT hS (v := nI (strLen.getD k 0)) rfl dJ1_charAt_3b067_2 ?_
  refine csV hx hb hml hown hts hEo hE hK hP hS (kJ0_checkIndex l D tys N a hEo w sa sb hES (nI j) (nI (strLen.getD k 0)) (nI_pos (by omega)) (nI_lt hj hL)) gJ1_charAt_3b067_J0_checkIndex_df160 rfl hdJ0_checkIndex_df160 ⟨rfl, rfl⟩ ⟨Nat.le_of_ble_eq_true rfl, Nat.le_of_ble_eq_true rfl⟩ ⟨Nat.zero_le _, Nat.zero_le _⟩ rfl hl.1 rfl (Nat.le_of_ble_eq_true rfl) dJ1_charAt_3b067_3 (fun H locs hP hS => ?_)
  refine lv_aload_n hx hb dJ1_charAt_3b067_6 rfl (lv_at hl 0 rfl) ?_
  refine lv_iload_n hx hb dJ1_charAt_3b067_7 rfl (lv_at hl 1 rfl) ?_
  refine va_tb hx hb hT hS (vp_in_nI hj hL) (v := .int (strC k j)) (by rw [ej]; rfl) dJ1_charAt_3b067_8 ?_
  refine lv_sipush (v := 255) hx hb dJ1_charAt_3b067_9 (by decide) ?_
  refine lv_iand hx hb dJ1_charAt_3b067_12 ?_
  refine lv_i2c hx hb dJ1_charAt_3b067_13 (sc_c2 _) ?_
  have e1 := hC j hj
  have n1 := sc_nar (strC k j)
  rw [e1] at n1 ⊢
  exact W.zret hx hb hr n1 (fun t ht hW => ⟨⟨strC k j, (), rfl, rfl, by show va_P D vwCl w t.heap; rw [ht]; exact hP⟩, hS.F ht⟩) hS.2.2 dJ1_charAt_3b067_14 hlk
set_option maxHeartbeats 4000000 in
set_option maxRecDepth 100000 in
theorem kJ0_isLatin1 (l : Launch) (D : va_G) (tys : List (ClassId × FieldType)) (N : Nat) (a : Nat → Nat) {Env : (Nat → Prop) → State → Heap → Prop} (hEo : envOK Env) (w : va_W) (sa sb : Nat → Nat) (hES : ∀ A U H, Env A U H → envS sa sb A U H) (k : Nat) (hk : k < 11) : CtI l D tys N a Env yJ0_isLatin1_aae02 wsJ0_isLatin1_aae02 rJ0_isLatin1 [.ref (sa k)] w w (bI true) := by
  refine CtI_mk (cc := cJ0_isLatin1_aae02) (maxL := 1) (ret := some .boolean) (by decide) rfl (Nat.le_of_ble_eq_true rfl) ?_
  intro p e s m args below meth c ls hx hb hr hlk hml hown hts hP hK hE hl
  have hS : va_S (adA a N s.heap.size) s.heap s.heap [] := va_S.rf
  have hl : lv_has ls 1 [(0, .ref (sa k))] := hl
  have uC : (Cond.fieldLink RJ0 38 "java/lang/String" "COMPACT_STRINGS" "Z").before args s = true := hts _ (List.mem_of_getElem? (i := 1) (by decide +kernel))
  have uD : (Cond.fieldLink RJ0 15 "java/lang/String" "coder" "B").before args s = true := hts _ (List.mem_of_getElem? (i := 2) (by decide +kernel))
  obtain ⟨hV, hZ, -⟩ := hES _ _ _ hE
  refine va_gets (v := .int 1) hx hb hZ hS hown uC (fun _ h => h) dJ0_isLatin1_aae02_0 ?_
  refine lv_if_eq (tgt := 17) hx hb dJ0_isLatin1_aae02_3 (by decide) (fun c => absurd c (by decide)) (fun _ => ?_)
  refine lv_aload_n hx hb dJ0_isLatin1_aae02_6 rfl (lv_at hl 0 rfl) ?_
  refine vk_getf hx hb (hV.1 k hk).2.1 hS hown uD (fun _ h => h) dJ0_isLatin1_aae02_7 ?_
  refine lv_if_ne (tgt := 17) hx hb dJ0_isLatin1_aae02_10 (by decide) (fun c => absurd rfl c) (fun _ => ?_)
  refine lv_iconst (v := 1) hx hb dJ0_isLatin1_aae02_13 (by decide) ?_
  refine lv_goto (tgt := 18) hx hb dJ0_isLatin1_aae02_14 (by decide) ?_
  exact rtZ (v := true) hx hb hr hlk hP hS rfl rfl dJ0_isLatin1_aae02_18
set_option maxHeartbeats 4000000 in
set_option maxRecDepth 100000 in
theorem kJ0_coder (l : Launch) (D : va_G) (tys : List (ClassId × FieldType)) (N : Nat) (a : Nat → Nat) {Env : (Nat → Prop) → State → Heap → Prop} (hEo : envOK Env) (w : va_W) (sa sb : Nat → Nat) (hES : ∀ A U H, Env A U H → envS sa sb A U H) (k : Nat) (hk : k < 11) : CtI l D tys N a Env yJ0_coder_7d493 wsJ0_coder_7d493 rJ0_coder [.ref (sa k)] w w 0 := by
  refine CtI_mk (cc := cJ0_coder_7d493) (maxL := 1) (ret := some .byte) (by decide) rfl (Nat.le_of_ble_eq_true rfl) ?_
  intro p e s m args below meth c ls hx hb hr hlk hml hown hts hP hK hE hl
  have hS : va_S (adA a N s.heap.size) s.heap s.heap [] := va_S.rf
  have hl : lv_has ls 1 [(0, .ref (sa k))] := hl
  have uC : (Cond.fieldLink RJ0 38 "java/lang/String" "COMPACT_STRINGS" "Z").before args s = true := hts _ (List.mem_of_getElem? (i := 1) (by decide +kernel))
  have uD : (Cond.fieldLink RJ0 15 "java/lang/String" "coder" "B").before args s = true := hts _ (List.mem_of_getElem? (i := 2) (by decide +kernel))
  obtain ⟨hV, hZ, -⟩ := hES _ _ _ hE
  refine va_gets (v := .int 1) hx hb hZ hS hown uC (fun _ h => h) dJ0_coder_7d493_0 ?_
  refine lv_if_eq (tgt := 13) hx hb dJ0_coder_7d493_3 (by decide) (fun c => absurd c (by decide)) (fun _ => ?_)
  refine lv_aload_n hx hb dJ0_coder_7d493_6 rfl (lv_at hl 0 rfl) ?_
  refine vk_getf hx hb (hV.1 k hk).2.1 hS hown uD (fun _ h => h) dJ0_coder_7d493_7 ?_
  refine lv_goto (tgt := 14) hx hb dJ0_coder_7d493_10 (by decide) ?_
  exact W.zret (v := 0) hx hb hr rfl (fun t ht hW => ⟨⟨0, (), rfl, rfl, by show va_P D vwCl w t.heap; rw [ht]; exact hP⟩, hS.F ht⟩) hS.2.2 dJ0_coder_7d493_14 hlk
set_option maxHeartbeats 4000000 in
set_option maxRecDepth 100000 in
theorem kJ0_length (l : Launch) (D : va_G) (tys : List (ClassId × FieldType)) (N : Nat) (a : Nat → Nat) {Env : (Nat → Prop) → State → Heap → Prop} (hEo : envOK Env) (w : va_W) (sa sb : Nat → Nat) (hES : ∀ A U H, Env A U H → envS sa sb A U H) (k : Nat) (hk : k < 11) : CtI l D tys N a Env yJ0_length_8abf5 wsJ0_length_8abf5 rJ0_length [.ref (sa k)] w w (nI (strLen.getD k 0)) := by
  refine CtI_mk (cc := cJ0_length_8abf5) (maxL := 1) (ret := some .int) (by decide) rfl (Nat.le_of_ble_eq_true rfl) ?_
  intro p e s m args below meth c ls hx hb hr hlk hml hown hts hP hK hE hl
  have hS : va_S (adA a N s.heap.size) s.heap s.heap [] := va_S.rf
  have hl : lv_has ls 1 [(0, .ref (sa k))] := hl
  have u1 : (Cond.fieldLink RJ0 9 "java/lang/String" "value" "[B").before args s = true := hts _ (List.mem_of_getElem? (i := 1) (by decide +kernel))
  obtain ⟨hV, hZ, -⟩ := hES _ _ _ hE
  refine lv_aload_n hx hb dJ0_length_8abf5_0 rfl (lv_at hl 0 rfl) ?_
  refine vk_getf hx hb (hV.1 k hk).2.2.1 hS hown u1 (fun _ h => h) dJ0_length_8abf5_1 ?_
  refine va_tlen hx hb (hV.1 k hk).2.2.2 hS (v := nI (strLen.getD k 0)) rfl dJ0_length_8abf5_4 ?_
  refine lv_aload_n hx hb dJ0_length_8abf5_5 rfl (lv_at hl 0 rfl) ?_
  refine cwI_ (vk_recv hV hk hS) hx hb hml hown hts hEo hE hK hP hS (kJ0_coder l D tys N a hEo w sa sb hES k hk) gJ0_length_8abf5_J0_coder_7d493 rfl hdJ0_coder_7d493 ⟨rfl, rfl⟩ ⟨Nat.le_of_ble_eq_true rfl, Nat.le_of_ble_eq_true rfl⟩ ⟨Nat.zero_le _, Nat.zero_le _⟩ rfl hl.1 rfl (Nat.le_of_ble_eq_true rfl) dJ0_length_8abf5_6 (fun H locs hP hS => ?_)
  refine lv_ishr hx hb dJ0_length_8abf5_9 ?_
  exact rtI hx hb hr hlk hP hS (sc_shr0 (str_all k hk).1) rfl dJ0_length_8abf5_10
set_option maxHeartbeats 4000000 in
set_option maxRecDepth 100000 in
theorem kJ0_charAt (l : Launch) (D : va_G) (tys : List (ClassId × FieldType)) (N : Nat) (a : Nat → Nat) {Env : (Nat → Prop) → State → Heap → Prop} (hEo : envOK Env) (w : va_W) (sa sb : Nat → Nat) (hES : ∀ A U H, Env A U H → envS sa sb A U H) (k : Nat) (hk : k < 11) (i : Int32) (hi : vp_in i (strLen.getD k 0)) : CtI l D tys N a Env yJ0_charAt_5068e wsJ0_charAt_5068e rJ0_charAt [.ref (sa k), .int i] w w (strC k i.toNatClampNeg) := by
  refine CtI_mk (cc := cJ0_charAt_5068e) (maxL := 2) (ret := some .char) (by decide) rfl (Nat.le_of_ble_eq_true rfl) ?_
  intro p e s m args below meth c ls hx hb hr hlk hml hown hts hP hK hE hl
  have hS : va_S (adA a N s.heap.size) s.heap s.heap [] := va_S.rf
  have hl : lv_has ls 2 [(0, .ref (sa k)), (1, .int i)] := hl
  have u1 : (Cond.fieldLink RJ0 9 "java/lang/String" "value" "[B").before args s = true := hts _ (List.mem_of_getElem? (i := 1) (by decide +kernel))
  obtain ⟨hV, hZ, -⟩ := hES _ _ _ hE
  refine lv_aload_n hx hb dJ0_charAt_5068e_0 rfl (lv_at hl 0 rfl) ?_
  refine cwI_ (vk_recv hV hk hS) hx hb hml hown hts hEo hE hK hP hS (kJ0_isLatin1 l D tys N a hEo w sa sb hES k hk) gJ0_charAt_5068e_J0_isLatin1_aae02 rfl hdJ0_isLatin1_aae02 ⟨rfl, rfl⟩ ⟨Nat.le_of_ble_eq_true rfl, Nat.le_of_ble_eq_true rfl⟩ ⟨Nat.zero_le _, Nat.zero_le _⟩ rfl hl.1 rfl (Nat.le_of_ble_eq_true rfl) dJ0_charAt_5068e_1 (fun H locs hP hS => ?_)
  refine lv_if_eq (tgt := 16) hx hb dJ0_charAt_5068e_4 (by decide) (fun c => absurd c (by decide)) (fun _ => ?_)
  refine lv_aload_n hx hb dJ0_charAt_5068e_7 rfl (lv_at hl 0 rfl) ?_
  refine vk_getf hx hb (hV.1 k hk).2.2.1 hS hown u1 (fun _ h => h) dJ0_charAt_5068e_8 ?_
  refine lv_iload_n hx hb dJ0_charAt_5068e_11 rfl (lv_at hl 1 rfl) ?_
  refine csI hx hb hml hown hts hEo hE hK hP hS (kJ1_charAt l D tys N a hEo w sa sb hES k hk i hi) gJ0_charAt_5068e_J1_charAt_3b067 rfl hdJ1_charAt_3b067 ⟨rfl, rfl⟩ ⟨Nat.le_of_ble_eq_true rfl, Nat.le_of_ble_eq_true rfl⟩ ⟨Nat.zero_le _, Nat.zero_le _⟩ rfl hl.1 rfl (Nat.le_of_ble_eq_true rfl) dJ0_charAt_5068e_12 (fun H locs hP hS => ?_)
  have hL := (str_all k hk).1
  obtain ⟨j, hj, rfl⟩ := vp_in_of hi hL
  have ej : (nI j).toNatClampNeg = j := nI_clamp (by omega)
  have n1 := sc_nar (strC k j)
  rw [(str_all k hk).2 j hj] at n1
  rw [ej]
  exact W.zret hx hb hr n1 (fun t ht hW => ⟨⟨strC k j, (), rfl, rfl, by show va_P D vwCl w t.heap; rw [ht]; exact hP⟩, hS.F ht⟩) hS.2.2 dJ0_charAt_5068e_15 hlk
