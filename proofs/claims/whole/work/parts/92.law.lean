set_option maxHeartbeats 8000000 in
set_option maxRecDepth 100000 in
theorem law_loop {p : Program} {l : Launch} {e : Jvm.Env} {s : State} {m : MethodId} {below : List Frame} {meth : Method} {c : Code} {b L : Nat} {xs : Nat → Int32} {D : va_G} {aX aM : Nat → Nat} {cI cJ cS : ClassId} {ut : Nat} {sa sb : Nat → Nat} (C1 : LC p s m meth c b L xs D aX aM cI cJ cS ut sa sb) (hr : meth.sig.returnType = ret) (hlocks : meth.locks = false) (hL : L ≤ 3072) :
    ∀ (n i : Nat), i ≤ L → L - i < n → ∀ (H : Heap) (locs : List Loc) (ls : Array Slot), LInv D aX aM cI cJ cS H → va_S (fun q : Nat => s.heap.size ≤ q) s.heap H locs → lv_has ls 4 [(0, .ref b), (1, .ref (aX 0)), (2, .ref (aM 0)), (3, .int (nI i))] → W p l e room_1 s m #[Value.ref b] below meth c H locs 600000 7302250 (lw_Z below #[Value.ref b] s) (F0 m 18 ls []) := by
  intro n
  induction n with
  | zero => intro i h1 h2; exact absurd h2 (Nat.not_lt_zero _)
  | succ n ih =>
    intro i hi hn H locs ls hI hS hl
    obtain ⟨⟨hx, hb, hml, hown, hts, hX, hbl⟩, hK, hE, hdX, hdM, hfX, hfM, hdj⟩ := id C1
    have hbA : ¬ (fun q : Nat => s.heap.size ≤ q) b := Nat.not_le.mpr hbl
    refine lv_iload_n hx hb dL_law_18 rfl (lv_at hl 3 rfl) ?_
    refine lv_aload_n hx hb dL_law_19 rfl (lv_at hl 0 rfl) ?_
    refine va_slen hx hb hX hbl hbA hS dL_law_20 ?_
    refine lv_bipush (v := 6) hx hb dL_law_21 (by decide) ?_
    refine lv_isub hx hb dL_law_23 ?_
    have e1 : (nI L - 6 : Int32).toInt = (L : Int) - 6 := pk_sub_toInt (a := L) (b := 6) (by omega) (by omega)
    have e2 : (nI i).toInt = (i : Int) := nI_toInt (by omega)
    refine lv_icmp_gt (tgt := 1689) hx hb dL_law_24 (by decide) (fun _ => ?_) (fun c24 => ?_)
    · refine lv_iconst (v := 1) hx hb dL_law_1689 (by decide) ?_
      refine va_forget (fun q hq => hS.2.2 q hq) ?_
      exact lw_ret hx hb hr hlocks dL_law_1690
    · have h6 : i + 6 ≤ L := by
        rcases Nat.lt_or_ge L (i + 6) with q | q
        · refine absurd (Int32.lt_iff_toInt_lt.mpr ?_) c24
          show (nI L - 6 : Int32).toInt < (nI i).toInt
          rw [e1, e2]
          omega
        · exact q
      have hin0 : vp_in (nI i) L := vp_in_nI (by omega) (by omega)
      have ih2 : ∀ (H : Heap) (locs : List Loc) (ls : Array Slot), LInv D aX aM cI cJ cS H → va_S (fun q : Nat => s.heap.size ≤ q) s.heap H locs → lv_has ls 4 [(0, .ref b), (1, .ref (aX 0)), (2, .ref (aM 0)), (3, .int (nI i + 6))] → W p l e room_1 s m #[Value.ref b] below meth c H locs 600000 7302250 (lw_Z below #[Value.ref b] s) (F0 m 18 ls []) := by
        intro H locs ls hI hS hl
        rw [show (nI i + 6 : Int32) = nI (i + 6) from nI_add i 6] at hl
        exact ih (i + 6) h6 (by omega) H locs ls hI hS hl
      refine lv_aload_n hx hb dL_law_27 rfl (lv_at hl 0 rfl) ?_
      refine lv_iload_n hx hb dL_law_28 rfl (lv_at hl 3 rfl) ?_
      refine va_sld hx hb hX hbl hbA hS hin0 dL_law_29 ?_
      refine lv_bipush (v := 63) hx hb dL_law_30 (by decide) ?_
      refine lv_iand hx hb dL_law_32 ?_
      obtain ⟨j, hj, ej⟩ := pk_andE (xs (nI i).toNatClampNeg) (m := 63) 6 (by decide)
      rw [ej]
      rcases (show j = 0 ∨ j = 1 ∨ j = 2 ∨ j = 3 ∨ j = 4 ∨ j = 5 ∨ j = 6 ∨ j = 7 ∨ j = 8 ∨ j = 9 ∨ j = 10 ∨ j = 11 ∨ j = 12 ∨ j = 13 ∨ j = 14 ∨ j = 15 ∨ j = 16 ∨ j = 17 ∨ j = 18 ∨ j = 19 ∨ j = 20 ∨ j = 21 ∨ j = 22 ∨ j = 23 ∨ j = 24 ∨ j = 25 ∨ j = 26 ∨ j = 27 ∨ j = 28 ∨ j = 29 ∨ j = 30 ∨ j = 31 ∨ j = 32 ∨ j = 33 ∨ j = 34 ∨ j = 35 ∨ j = 36 ∨ j = 37 ∨ j = 38 ∨ j = 39 ∨ j = 40 ∨ j = 41 ∨ j = 42 ∨ j = 43 ∨ j = 44 ∨ j = 45 ∨ 46 ≤ j by omega) with rfl | rfl | rfl | rfl | rfl | rfl | rfl | rfl | rfl | rfl | rfl | rfl | rfl | rfl | rfl | rfl | rfl | rfl | rfl | rfl | rfl | rfl | rfl | rfl | rfl | rfl | rfl | rfl | rfl | rfl | rfl | rfl | rfl | rfl | rfl | rfl | rfl | rfl | rfl | rfl | rfl | rfl | rfl | rfl | rfl | rfl | hj2
      · exact lv_tableIn (off := 199) (tgt := 232) hx hb dL_law_33 (by decide) (by decide) (by decide) (by decide) (law_c0 C1 hL h6 ih2 hI hS hl)
      · exact lv_tableIn (off := 252) (tgt := 285) hx hb dL_law_33 (by decide) (by decide) (by decide) (by decide) (law_c1 C1 hL h6 ih2 hI hS hl)
      · exact lv_tableIn (off := 285) (tgt := 318) hx hb dL_law_33 (by decide) (by decide) (by decide) (by decide) (law_c2 C1 hL h6 ih2 hI hS hl)
      · exact lv_tableIn (off := 328) (tgt := 361) hx hb dL_law_33 (by decide) (by decide) (by decide) (by decide) (law_c3 C1 hL h6 ih2 hI hS hl)
      · exact lv_tableIn (off := 361) (tgt := 394) hx hb dL_law_33 (by decide) (by decide) (by decide) (by decide) (law_c4 C1 hL h6 ih2 hI hS hl)
      · exact lv_tableIn (off := 394) (tgt := 427) hx hb dL_law_33 (by decide) (by decide) (by decide) (by decide) (law_c5 C1 hL h6 ih2 hI hS hl)
      · exact lv_tableIn (off := 427) (tgt := 460) hx hb dL_law_33 (by decide) (by decide) (by decide) (by decide) (law_c6 C1 hL h6 ih2 hI hS hl)
      · exact lv_tableIn (off := 440) (tgt := 473) hx hb dL_law_33 (by decide) (by decide) (by decide) (by decide) (law_c7 C1 hL h6 ih2 hI hS hl)
      · exact lv_tableIn (off := 473) (tgt := 506) hx hb dL_law_33 (by decide) (by decide) (by decide) (by decide) (law_c8 C1 hL h6 ih2 hI hS hl)
      · exact lv_tableIn (off := 496) (tgt := 529) hx hb dL_law_33 (by decide) (by decide) (by decide) (by decide) (law_c9 C1 hL h6 ih2 hI hS hl)
      · exact lv_tableIn (off := 529) (tgt := 562) hx hb dL_law_33 (by decide) (by decide) (by decide) (by decide) (law_c10 C1 hL h6 ih2 hI hS hl)
      · exact lv_tableIn (off := 552) (tgt := 585) hx hb dL_law_33 (by decide) (by decide) (by decide) (by decide) (law_c11 C1 hL h6 ih2 hI hS hl)
      · exact lv_tableIn (off := 586) (tgt := 619) hx hb dL_law_33 (by decide) (by decide) (by decide) (by decide) (law_c12 C1 hL h6 ih2 hI hS hl)
      · exact lv_tableIn (off := 610) (tgt := 643) hx hb dL_law_33 (by decide) (by decide) (by decide) (by decide) (law_c13 C1 hL h6 ih2 hI hS hl)
      · exact lv_tableIn (off := 643) (tgt := 676) hx hb dL_law_33 (by decide) (by decide) (by decide) (by decide) (law_c14 C1 hL h6 ih2 hI hS hl)
      · exact lv_tableIn (off := 686) (tgt := 719) hx hb dL_law_33 (by decide) (by decide) (by decide) (by decide) (law_c15 C1 hL h6 ih2 hI hS hl)
      · exact lv_tableIn (off := 709) (tgt := 742) hx hb dL_law_33 (by decide) (by decide) (by decide) (by decide) (law_c16 C1 hL h6 ih2 hI hS hl)
      · exact lv_tableIn (off := 742) (tgt := 775) hx hb dL_law_33 (by decide) (by decide) (by decide) (by decide) (law_c17 C1 hL h6 ih2 hI hS hl)
      · exact lv_tableIn (off := 765) (tgt := 798) hx hb dL_law_33 (by decide) (by decide) (by decide) (by decide) (law_c18 C1 hL h6 ih2 hI hS hl)
      · exact lv_tableIn (off := 798) (tgt := 831) hx hb dL_law_33 (by decide) (by decide) (by decide) (by decide) (law_c19 C1 hL h6 ih2 hI hS hl)
      · exact lv_tableIn (off := 821) (tgt := 854) hx hb dL_law_33 (by decide) (by decide) (by decide) (by decide) (law_c20 C1 hL h6 ih2 hI hS hl)
      · exact lv_tableIn (off := 844) (tgt := 877) hx hb dL_law_33 (by decide) (by decide) (by decide) (by decide) (law_c21 C1 hL h6 ih2 hI hS hl)
      · exact lv_tableIn (off := 867) (tgt := 900) hx hb dL_law_33 (by decide) (by decide) (by decide) (by decide) (law_c22 C1 hL h6 ih2 hI hS hl)
      · exact lv_tableIn (off := 890) (tgt := 923) hx hb dL_law_33 (by decide) (by decide) (by decide) (by decide) (law_c23 C1 hL h6 ih2 hI hS hl)
      · exact lv_tableIn (off := 923) (tgt := 956) hx hb dL_law_33 (by decide) (by decide) (by decide) (by decide) (law_c24 C1 hL h6 ih2 hI hS hl)
      · exact lv_tableIn (off := 956) (tgt := 989) hx hb dL_law_33 (by decide) (by decide) (by decide) (by decide) (law_c25 C1 hL h6 ih2 hI hS hl)
      · exact lv_tableIn (off := 999) (tgt := 1032) hx hb dL_law_33 (by decide) (by decide) (by decide) (by decide) (law_c26 C1 hL h6 ih2 hI hS hl)
      · exact lv_tableIn (off := 1042) (tgt := 1075) hx hb dL_law_33 (by decide) (by decide) (by decide) (by decide) (law_c27 C1 hL h6 ih2 hI hS hl)
      · exact lv_tableIn (off := 1075) (tgt := 1108) hx hb dL_law_33 (by decide) (by decide) (by decide) (by decide) (law_c28 C1 hL h6 ih2 hI hS hl)
      · exact lv_tableIn (off := 1118) (tgt := 1151) hx hb dL_law_33 (by decide) (by decide) (by decide) (by decide) (law_c29 C1 hL h6 ih2 hI hS hl)
      · exact lv_tableIn (off := 1161) (tgt := 1194) hx hb dL_law_33 (by decide) (by decide) (by decide) (by decide) (law_c30 C1 hL h6 ih2 hI hS hl)
      · exact lv_tableIn (off := 1184) (tgt := 1217) hx hb dL_law_33 (by decide) (by decide) (by decide) (by decide) (law_c31 C1 hL h6 ih2 hI hS hl)
      · exact lv_tableIn (off := 1217) (tgt := 1250) hx hb dL_law_33 (by decide) (by decide) (by decide) (by decide) (law_c32 C1 hL h6 ih2 hI hS hl)
      · exact lv_tableIn (off := 1250) (tgt := 1283) hx hb dL_law_33 (by decide) (by decide) (by decide) (by decide) (law_c33 C1 hL h6 ih2 hI hS hl)
      · exact lv_tableIn (off := 1263) (tgt := 1296) hx hb dL_law_33 (by decide) (by decide) (by decide) (by decide) (law_c34 C1 hL h6 ih2 hI hS hl)
      · exact lv_tableIn (off := 1276) (tgt := 1309) hx hb dL_law_33 (by decide) (by decide) (by decide) (by decide) (law_c35 C1 hL h6 ih2 hI hS hl)
      · exact lv_tableIn (off := 1319) (tgt := 1352) hx hb dL_law_33 (by decide) (by decide) (by decide) (by decide) (law_c36 C1 hL h6 ih2 hI hS hl)
      · exact lv_tableIn (off := 1393) (tgt := 1426) hx hb dL_law_33 (by decide) (by decide) (by decide) (by decide) (law_c37 C1 hL h6 ih2 hI hS hl)
      · exact lv_tableIn (off := 1456) (tgt := 1489) hx hb dL_law_33 (by decide) (by decide) (by decide) (by decide) (law_c38 C1 hL h6 ih2 hI hS hl)
      · exact lv_tableIn (off := 1479) (tgt := 1512) hx hb dL_law_33 (by decide) (by decide) (by decide) (by decide) (law_c39 C1 hL h6 ih2 hI hS hl)
      · exact lv_tableIn (off := 1522) (tgt := 1555) hx hb dL_law_33 (by decide) (by decide) (by decide) (by decide) (law_c40 C1 hL h6 ih2 hI hS hl)
      · exact lv_tableIn (off := 1565) (tgt := 1598) hx hb dL_law_33 (by decide) (by decide) (by decide) (by decide) (law_c41 C1 hL h6 ih2 hI hS hl)
      · exact lv_tableIn (off := 1578) (tgt := 1611) hx hb dL_law_33 (by decide) (by decide) (by decide) (by decide) (law_c42 C1 hL h6 ih2 hI hS hl)
      · exact lv_tableIn (off := 1591) (tgt := 1624) hx hb dL_law_33 (by decide) (by decide) (by decide) (by decide) (law_c43 C1 hL h6 ih2 hI hS hl)
      · exact lv_tableIn (off := 1604) (tgt := 1637) hx hb dL_law_33 (by decide) (by decide) (by decide) (by decide) (law_c44 C1 hL h6 ih2 hI hS hl)
      · exact lv_tableIn (off := 1627) (tgt := 1660) hx hb dL_law_33 (by decide) (by decide) (by decide) (by decide) (law_c45 C1 hL h6 ih2 hI hS hl)
      · refine lv_tableOut (tgt := 1683) hx hb dL_law_33 (Or.inr (by rw [nI_toInt (by omega)]; omega)) (by decide) ?_
        refine lv_iinc (v := nI i + 6) (lv' := [(3, .int (nI i + 6)), (0, .ref b), (1, .ref (aX 0)), (2, .ref (aM 0))]) hx hb dL_law_1683 hl (k := 3) rfl (congrArg (fun z => nI i + z) (by decide)) (by decide) rfl (fun ls hl => ?_)
        refine lv_goto (tgt := 18) hx hb dL_law_1686 (by decide) ?_
        exact ih2 _ _ _ hI hS (lv_sub hl [1, 2, 3, 0] rfl)

theorem va_P_ap {D : va_G} {cl : List vw_C} {u v : va_W} {H : Heap} (h : va_P D cl (u ++ v) H) : va_P D cl u H ∧ va_P D cl v H := by
  refine ⟨fun k q hk => h k q ?_, fun k q hk => h (u.length + k) q ?_⟩
  · rw [List.getElem?_append_left (List.getElem?_eq_some_iff.mp hk).1]; exact hk
  · rw [List.getElem?_append_right (Nat.le_add_right _ _), Nat.add_sub_cancel_left]; exact hk
theorem va_D_ap {A : Nat → Prop} {u v : va_W} {a b : Nat → Nat} {N M : Nat} (h : va_D A (u ++ v)) (hu : u.map Prod.fst = (List.range N).map a) (hv : v.map Prod.fst = (List.range M).map b) : aok a N ∧ aok b M ∧ (∀ k, k < N → A (a k)) ∧ (∀ k, k < M → A (b k)) ∧ ∀ i j, i < N → j < M → a i ≠ b j := by
  have lu : u.length = N := by have := congrArg List.length hu; simpa using this
  have gu : ∀ k, k < N → ∃ q, (u ++ v)[k]? = some q ∧ q.1 = a k := by
    intro k hk
    have h1 : (u.map Prod.fst)[k]? = some (a k) := by rw [hu, List.getElem?_map, List.getElem?_range hk]; rfl
    rw [List.getElem?_map] at h1
    cases hq : u[k]? with
    | none => rw [hq] at h1; cases h1
    | some q => rw [hq] at h1; exact ⟨q, by rw [List.getElem?_append_left (by omega)]; exact hq, Option.some.inj h1⟩
  have gv : ∀ k, k < M → ∃ q, (u ++ v)[N + k]? = some q ∧ q.1 = b k := by
    intro k hk
    have h1 : (v.map Prod.fst)[k]? = some (b k) := by rw [hv, List.getElem?_map, List.getElem?_range hk]; rfl
    rw [List.getElem?_map] at h1
    cases hq : v[k]? with
    | none => rw [hq] at h1; cases h1
    | some q => rw [hq] at h1; exact ⟨q, by rw [List.getElem?_append_right (by omega), lu, Nat.add_sub_cancel_left]; exact hq, Option.some.inj h1⟩
  refine ⟨fun i j hi hj e => ?_, fun i j hi hj e => ?_, fun k hk => ?_, fun k hk => ?_, fun i j hi hj e => ?_⟩
  · obtain ⟨p, p1, p2⟩ := gu i hi
    obtain ⟨q, q1, q2⟩ := gu j hj
    exact h.1 i j p q p1 q1 (by rw [p2, q2, e])
  · obtain ⟨p, p1, p2⟩ := gv i hi
    obtain ⟨q, q1, q2⟩ := gv j hj
    have := h.1 (N + i) (N + j) p q p1 q1 (by rw [p2, q2, e])
    omega
  · obtain ⟨p, p1, p2⟩ := gu k hk
    rw [← p2]
    exact h.2 k p p1
  · obtain ⟨p, p1, p2⟩ := gv k hk
    rw [← p2]
    exact h.2 (N + k) p p1
  · obtain ⟨p, p1, p2⟩ := gu i hi
    obtain ⟨q, q1, q2⟩ := gv j hj
    have := h.1 i (N + j) p q p1 q1 (by rw [p2, q2, e])
    omega

def tmS (i : Nat) : Term := .string "YearWords$Reading" (([122, 124, 126, 128, 130, 132, 51, 56, 70, 72, 85] : List Nat).getD i 0)
theorem tm_ne0 : ∀ j, j < 11 → 0 ≠ j → (Cond.not (Cond.eq (tmS 0) (tmS j)) ∈ flatC (Jvm.Cond.and given_1 narrow_1) ∨ Cond.not (Cond.eq (tmS j) (tmS 0)) ∈ flatC (Jvm.Cond.and given_1 narrow_1)) := by decide +kernel
theorem tm_ne1 : ∀ j, j < 11 → 1 ≠ j → (Cond.not (Cond.eq (tmS 1) (tmS j)) ∈ flatC (Jvm.Cond.and given_1 narrow_1) ∨ Cond.not (Cond.eq (tmS j) (tmS 1)) ∈ flatC (Jvm.Cond.and given_1 narrow_1)) := by decide +kernel
theorem tm_ne2 : ∀ j, j < 11 → 2 ≠ j → (Cond.not (Cond.eq (tmS 2) (tmS j)) ∈ flatC (Jvm.Cond.and given_1 narrow_1) ∨ Cond.not (Cond.eq (tmS j) (tmS 2)) ∈ flatC (Jvm.Cond.and given_1 narrow_1)) := by decide +kernel
theorem tm_ne3 : ∀ j, j < 11 → 3 ≠ j → (Cond.not (Cond.eq (tmS 3) (tmS j)) ∈ flatC (Jvm.Cond.and given_1 narrow_1) ∨ Cond.not (Cond.eq (tmS j) (tmS 3)) ∈ flatC (Jvm.Cond.and given_1 narrow_1)) := by decide +kernel
theorem tm_ne4 : ∀ j, j < 11 → 4 ≠ j → (Cond.not (Cond.eq (tmS 4) (tmS j)) ∈ flatC (Jvm.Cond.and given_1 narrow_1) ∨ Cond.not (Cond.eq (tmS j) (tmS 4)) ∈ flatC (Jvm.Cond.and given_1 narrow_1)) := by decide +kernel
theorem tm_ne5 : ∀ j, j < 11 → 5 ≠ j → (Cond.not (Cond.eq (tmS 5) (tmS j)) ∈ flatC (Jvm.Cond.and given_1 narrow_1) ∨ Cond.not (Cond.eq (tmS j) (tmS 5)) ∈ flatC (Jvm.Cond.and given_1 narrow_1)) := by decide +kernel
theorem tm_ne6 : ∀ j, j < 11 → 6 ≠ j → (Cond.not (Cond.eq (tmS 6) (tmS j)) ∈ flatC (Jvm.Cond.and given_1 narrow_1) ∨ Cond.not (Cond.eq (tmS j) (tmS 6)) ∈ flatC (Jvm.Cond.and given_1 narrow_1)) := by decide +kernel
theorem tm_ne7 : ∀ j, j < 11 → 7 ≠ j → (Cond.not (Cond.eq (tmS 7) (tmS j)) ∈ flatC (Jvm.Cond.and given_1 narrow_1) ∨ Cond.not (Cond.eq (tmS j) (tmS 7)) ∈ flatC (Jvm.Cond.and given_1 narrow_1)) := by decide +kernel
theorem tm_ne8 : ∀ j, j < 11 → 8 ≠ j → (Cond.not (Cond.eq (tmS 8) (tmS j)) ∈ flatC (Jvm.Cond.and given_1 narrow_1) ∨ Cond.not (Cond.eq (tmS j) (tmS 8)) ∈ flatC (Jvm.Cond.and given_1 narrow_1)) := by decide +kernel
theorem tm_ne9 : ∀ j, j < 11 → 9 ≠ j → (Cond.not (Cond.eq (tmS 9) (tmS j)) ∈ flatC (Jvm.Cond.and given_1 narrow_1) ∨ Cond.not (Cond.eq (tmS j) (tmS 9)) ∈ flatC (Jvm.Cond.and given_1 narrow_1)) := by decide +kernel
theorem tm_ne10 : ∀ j, j < 11 → 10 ≠ j → (Cond.not (Cond.eq (tmS 10) (tmS j)) ∈ flatC (Jvm.Cond.and given_1 narrow_1) ∨ Cond.not (Cond.eq (tmS j) (tmS 10)) ∈ flatC (Jvm.Cond.and given_1 narrow_1)) := by decide +kernel
theorem tm_ne : ∀ i, i < 11 → ∀ j, j < 11 → i ≠ j → (Cond.not (Cond.eq (tmS i) (tmS j)) ∈ flatC (Jvm.Cond.and given_1 narrow_1) ∨ Cond.not (Cond.eq (tmS j) (tmS i)) ∈ flatC (Jvm.Cond.and given_1 narrow_1)) := by
  intro i hi
  rcases (show i = 0 ∨ i = 1 ∨ i = 2 ∨ i = 3 ∨ i = 4 ∨ i = 5 ∨ i = 6 ∨ i = 7 ∨ i = 8 ∨ i = 9 ∨ i = 10 by omega) with rfl | rfl | rfl | rfl | rfl | rfl | rfl | rfl | rfl | rfl | rfl
  · exact tm_ne0
  · exact tm_ne1
  · exact tm_ne2
  · exact tm_ne3
  · exact tm_ne4
  · exact tm_ne5
  · exact tm_ne6
  · exact tm_ne7
  · exact tm_ne8
  · exact tm_ne9
  · exact tm_ne10
set_option maxRecDepth 100000 in
set_option maxHeartbeats 4000000 in
theorem env_start {s : State} {b : Nat} (hts : ∀ w ∈ lw_tbl, w.before #[Value.ref b] s = true) (hgv : (Jvm.Cond.and given_1 narrow_1).before #[Value.ref b] s = true) : ∃ (ut : Nat) (sa sb : Nat → Nat), envL ut sa sb (fun q : Nat => s.heap.size ≤ q) s s.heap := by
  have hs := flat_of_before _ hgv
  have hA : ∀ a : Nat, a < s.heap.size → ¬ (fun q : Nat => s.heap.size ≤ q) a := fun a h => Nat.not_le.mpr h
  obtain ⟨ut, hu, hT⟩ := va_Tof (tm := .static "YearWords" "UNDER" "[I") (ty := .int) (N := 6) (f := fun k => .int (underV k)) (by decide) (hs _ (by decide +kernel)) (va_eqt (hs _ (by decide +kernel))) (fun j hj => by
    rcases (show j = 0 ∨ j = 1 ∨ j = 2 ∨ j = 3 ∨ j = 4 ∨ j = 5 by omega) with rfl | rfl | rfl | rfl | rfl | rfl
    · exact va_eqt (z := -1) (hs _ (by decide +kernel))
    · exact va_eqt (z := 0) (hs _ (by decide +kernel))
    · exact va_eqt (z := 0) (hs _ (by decide +kernel))
    · exact va_eqt (z := 1) (hs _ (by decide +kernel))
    · exact va_eqt (z := 1) (hs _ (by decide +kernel))
    · exact va_eqt (z := 2) (hs _ (by decide +kernel))) hA
  have hZ := va_Zref (t := ut) (hts (.laysStatic "YearWords" "UNDER" "[I") (by decide +kernel)) (hts (.initialized "YearWords") (by decide +kernel)) hu hA
  obtain ⟨sa, sb, hV, hv⟩ := vk_Sof (N := 11) (tm := tmS) (len := strLen) (byt := strByt) (A := (fun q : Nat => s.heap.size ≤ q)) (fun i hi => (str_all i hi).1)
    (fun i hi => hs _ ((show ∀ i, i < 11 → Cond.exactly (tmS i) "java/lang/String" ∈ flatC (Jvm.Cond.and given_1 narrow_1) by decide +kernel) i hi))
    (fun i hi => hs _ ((show ∀ i, i < 11 → Cond.eq (.field (tmS i) "java/lang/String" "coder" "B") (.int 0) ∈ flatC (Jvm.Cond.and given_1 narrow_1) by decide +kernel) i hi))
    (fun i hi => hs _ ((show ∀ i, i < 11 → Cond.arrayOf (.field (tmS i) "java/lang/String" "value" "[B") .byte ∈ flatC (Jvm.Cond.and given_1 narrow_1) by decide +kernel) i hi))
    (fun i hi => hs _ ((show ∀ i, i < 11 → Cond.eq (.length (.field (tmS i) "java/lang/String" "value" "[B")) (.int (Int32.ofNat (strLen.getD i 0))) ∈ flatC (Jvm.Cond.and given_1 narrow_1) by decide +kernel) i hi))
    (fun i hi j hj => hs _ ((show ∀ i, i < 11 → ∀ j, j < strLen.getD i 0 → Cond.eq (.elem (.field (tmS i) "java/lang/String" "value" "[B") (.int (Int32.ofNat j))) (.int ((strByt.getD i []).getD j 0)) ∈ flatC (Jvm.Cond.and given_1 narrow_1) by decide +kernel) i hi j hj))
    (fun i j hi hj hij => (tm_ne i hi j hj hij).elim (fun h => Or.inl (hs _ h)) (fun h => Or.inr (hs _ h))) hA
  have hC := va_Zof (v := .int 1) (hts (.laysStatic "java/lang/String" "COMPACT_STRINGS" "Z") (by decide +kernel)) (hts (.initialized "java/lang/String") (by decide +kernel)) (va_eqi (hs _ (by decide +kernel))) hA
  have hQ := va_Zqof (hts (.laysStatic "jdk/internal/util/Preconditions" "SIOOBE_FORMATTER" "Ljava/util/function/BiFunction;") (by decide +kernel)) (hts (.initialized "jdk/internal/util/Preconditions") (by decide +kernel)) (hs _ (by decide +kernel)) hA
  have hN := va_Nw.of rfl (hts (.methodLinkNest RX0 109 yX5_isIn "YearWords") (by decide +kernel))
  have x0 : vk_R RX0 122 "word" (sa 0) s := vk_R.of (hts (.stringRef RX0 122 "word") (by decide +kernel)) (hv 0 (by decide))
  have x1 : vk_R RX0 124 "name" (sa 1) s := vk_R.of (hts (.stringRef RX0 124 "name") (by decide +kernel)) (hv 1 (by decide))
  have x2 : vk_R RX0 126 "link" (sa 2) s := vk_R.of (hts (.stringRef RX0 126 "link") (by decide +kernel)) (hv 2 (by decide))
  have x3 : vk_R RX0 128 "title" (sa 3) s := vk_R.of (hts (.stringRef RX0 128 "title") (by decide +kernel)) (hv 3 (by decide))
  have x4 : vk_R RX0 130 "echo" (sa 4) s := vk_R.of (hts (.stringRef RX0 130 "echo") (by decide +kernel)) (hv 4 (by decide))
  have x5 : vk_R RX0 132 "pad" (sa 5) s := vk_R.of (hts (.stringRef RX0 132 "pad") (by decide +kernel)) (hv 5 (by decide))
  have x6 : vk_R RX0 51 "tale" (sa 6) s := vk_R.of (hts (.stringRef RX0 51 "tale") (by decide +kernel)) (hv 6 (by decide))
  have x7 : vk_R RX0 56 "hearer" (sa 7) s := vk_R.of (hts (.stringRef RX0 56 "hearer") (by decide +kernel)) (hv 7 (by decide))
  have x8 : vk_R RX0 70 "to" (sa 8) s := vk_R.of (hts (.stringRef RX0 70 "to") (by decide +kernel)) (hv 8 (by decide))
  have x9 : vk_R RX0 72 "worth" (sa 9) s := vk_R.of (hts (.stringRef RX0 72 "worth") (by decide +kernel)) (hv 9 (by decide))
  have x10 : vk_R RX0 85 "of" (sa 10) s := vk_R.of (hts (.stringRef RX0 85 "of") (by decide +kernel)) (hv 10 (by decide))
  have m0 : vk_R RX6 231 "word" (sa 0) s := vk_R.of (hts (.stringRef RX6 231 "word") (by decide +kernel)) (va_eqR (t := tmS 0) (hs _ (by decide +kernel)) (hv 0 (by decide)))
  have m1 : vk_R RX6 233 "name" (sa 1) s := vk_R.of (hts (.stringRef RX6 233 "name") (by decide +kernel)) (va_eqR (t := tmS 1) (hs _ (by decide +kernel)) (hv 1 (by decide)))
  have m2 : vk_R RX6 235 "link" (sa 2) s := vk_R.of (hts (.stringRef RX6 235 "link") (by decide +kernel)) (va_eqR (t := tmS 2) (hs _ (by decide +kernel)) (hv 2 (by decide)))
  have m3 : vk_R RX6 237 "title" (sa 3) s := vk_R.of (hts (.stringRef RX6 237 "title") (by decide +kernel)) (va_eqR (t := tmS 3) (hs _ (by decide +kernel)) (hv 3 (by decide)))
  have m4 : vk_R RX6 239 "echo" (sa 4) s := vk_R.of (hts (.stringRef RX6 239 "echo") (by decide +kernel)) (va_eqR (t := tmS 4) (hs _ (by decide +kernel)) (hv 4 (by decide)))
  have m5 : vk_R RX6 241 "pad" (sa 5) s := vk_R.of (hts (.stringRef RX6 241 "pad") (by decide +kernel)) (va_eqR (t := tmS 5) (hs _ (by decide +kernel)) (hv 5 (by decide)))
  have m6 : vk_R RX6 265 "tale" (sa 6) s := vk_R.of (hts (.stringRef RX6 265 "tale") (by decide +kernel)) (va_eqR (t := tmS 6) (hs _ (by decide +kernel)) (hv 6 (by decide)))
  have m7 : vk_R RX6 269 "hearer" (sa 7) s := vk_R.of (hts (.stringRef RX6 269 "hearer") (by decide +kernel)) (va_eqR (t := tmS 7) (hs _ (by decide +kernel)) (hv 7 (by decide)))
  have m8 : vk_R RX6 246 "to" (sa 8) s := vk_R.of (hts (.stringRef RX6 246 "to") (by decide +kernel)) (va_eqR (t := tmS 8) (hs _ (by decide +kernel)) (hv 8 (by decide)))
  have m9 : vk_R RX6 248 "worth" (sa 9) s := vk_R.of (hts (.stringRef RX6 248 "worth") (by decide +kernel)) (va_eqR (t := tmS 9) (hs _ (by decide +kernel)) (hv 9 (by decide)))
  have m10 : vk_R RX6 253 "of" (sa 10) s := vk_R.of (hts (.stringRef RX6 253 "of") (by decide +kernel)) (va_eqR (t := tmS 10) (hs _ (by decide +kernel)) (hv 10 (by decide)))
  exact ⟨ut, sa, sb, ⟨hZ, hT⟩, ⟨hV, hC, hQ⟩, ⟨x0, x1, x2, x3, x4, x5, x6, x7, x8, x9, x10⟩, ⟨m0, m1, m2, m3, m4, m5, m6, m7, m8, m9, m10⟩, hN⟩

set_option maxHeartbeats 8000000 in
set_option maxRecDepth 100000 in
theorem whole_start {p : Program} {e : Jvm.Env} {s : State} {m : MethodId} {below : List Frame} {meth : Method} {c : Code} (l : Launch) (hflags : l.flags = flags0) {b L : Nat} {xs : Nat → Int32} (hL : L ≤ 3072) (C0 : lw_At p s m meth c b L xs) : W p l e room_1 s m #[Value.ref b] below meth c s.heap [] 0 0 (lw_Z below #[Value.ref b] s) (entryFrame m ([Value.ref b] : List Value).toArray 4) := by
  obtain ⟨hx, hb, hr, hml, hown, htb, hX, hbl, hlocks, hgv⟩ := id C0
  have hts := htb
  have hown : s.vm.findClass RL = some m.cls := hown
  obtain ⟨ut, sa, sb, hE⟩ := env_start htb hgv
  have hA : ∀ q : Nat, s.heap.size ≤ q → (fun q : Nat => s.heap.size ≤ q) q := fun _ h => h
  have hbA : ¬ (fun q : Nat => s.heap.size ≤ q) b := Nat.not_le.mpr hbl
  obtain ⟨c0, iS0, hKn0⟩ := u_known (C := RX0) (T := TX0) (N := 6) (n := 6) hts inX0 (hts (Cond.instantiable RX0 6) lwm_2_4)
  obtain ⟨c1, iS1, hKn1⟩ := u_known (C := RX1) (T := TX1) (N := 7) (n := 7) hts inX1 (hts (Cond.instantiable RX1 7) lwm_1_20)
  obtain ⟨c2, iS2, hKn2⟩ := u_known (C := RX2) (T := TX2) (N := 3) (n := 3) hts inX2 (hts (Cond.instantiable RX2 3) lwm_2_9)
  obtain ⟨c3, iS3, hKn3⟩ := u_known (C := RX3) (T := TX3) (N := 11) (n := 11) hts inX3 (hts (Cond.instantiable RX3 11) lwm_1_14)
  obtain ⟨c4, iS4, hKn4⟩ := u_known (C := RX4) (T := TX4) (N := 2) (n := 2) hts inX4 (hts (Cond.instantiable RX4 2) lwm_2_0)
  obtain ⟨c5, iS5, hKn5⟩ := u_known (C := RX5) (T := TX5) (N := 8) (n := 8) hts inX5 (hts (Cond.instantiable RX5 8) lwm_1_1)
  obtain ⟨c6, iS6, hKn6⟩ := u_known (C := RX6) (T := TX6) (N := 20) (n := 20) hts inX6 (hts (Cond.instantiable RX6 20) lwm_1_4)
  obtain ⟨dC, dI, hKc⟩ : ∃ (dC : Nat → ClassId) (dI : Nat → Nat → Nat), ∀ (k : Nat) (q : vw_C), vwCl[k]? = some q → u_Kn s q.1 q.2.1 q.2.2 (dC k) (dI k) := by
    refine ⟨fun k => if k = 0 then c0 else if k = 1 then c1 else if k = 2 then c2 else if k = 3 then c3 else if k = 4 then c4 else if k = 5 then c5 else c6, fun k => if k = 0 then iS0 else if k = 1 then iS1 else if k = 2 then iS2 else if k = 3 then iS3 else if k = 4 then iS4 else if k = 5 then iS5 else iS6, ?_⟩
    intro k q hq
    match k, hq with
    | 0, hq => cases hq; exact hKn0
    | 1, hq => cases hq; exact hKn1
    | 2, hq => cases hq; exact hKn2
    | 3, hq => cases hq; exact hKn3
    | 4, hq => cases hq; exact hKn4
    | 5, hq => cases hq; exact hKn5
    | 6, hq => cases hq; exact hKn6
    | k + 7, hq => simp [vwCl] at hq
  obtain ⟨cI, kI, pI, i1, i2, i3⟩ := Cond.arrayClass_spec (hts (Cond.arrayClass .int) lwm_2_11)
  obtain ⟨cJ, kJ, pJ, j1, j2, j3⟩ := Cond.arrayClass_spec (hts (Cond.arrayClass .long) lwm_3_7)
  have hAOw : (Cond.arrayOver (.object RX2)).before #[Value.ref b] s = true := htb _ (by decide +kernel)
  obtain ⟨pS, cS, kS, s4, -, s2, s3, s1⟩ := Cond.arrayOver_spec hAOw
  have hK : va_K (dC, dI) vwCl (tyL cI cJ cS) s := by
    refine ⟨hKc, fun k q hq => ?_⟩
    match k, hq with
    | 0, hq => cases hq; exact ⟨fun n z => ⟨fun k h => (by cases h), kI, i2, pI, i3⟩, i1⟩
    | 1, hq => cases hq; exact ⟨fun n z => ⟨fun k h => (by cases h), kJ, j2, pJ, j3⟩, j1⟩
    | 2, hq => cases hq; exact ⟨fun n z => ⟨fun k h => (by cases h), kS, s2, pS, s3⟩, kS, pS, s2, s3, s4, s1⟩
    | k + 3, hq => simp [tyL] at hq
  have hEN : enN s := ⟨va_Nw.of rfl (htb _ (by decide +kernel)), va_Nw.of rfl (htb _ (by decide +kernel)), va_Nw.of rfl (htb _ (by decide +kernel)), va_AO.of hAOw⟩
  have hS : va_S (fun q : Nat => s.heap.size ≤ q) s.heap s.heap [] := va_S.rf
  have hP : va_P (dC, dI) vwCl [] s.heap := fun k q h => by simp at h
  have hD : va_D (fun q : Nat => s.heap.size ≤ q) [] := ⟨fun i j p q h => by simp at h, fun k q h => by simp at h⟩
  have hl := lv_entry ([.ref b]) (n := 4) (Nat.le_of_ble_eq_true rfl)
  rw [lg_entry_eq]
  generalize (lg_sl ([.ref b]) ++ List.replicate (4 - (lg_sl ([.ref b])).length) Slot.unset).toArray = ls at hl ⊢
  have hl : lv_has ls 4 [(0, .ref b)] := hl
  refine va_new (ci := 5) (fs := [.null, .null, .int 0, .null, .null, .null, .null, .null]) (C := RX5) (T := TX5) (N := 8) hx hb hts inX5 tyX5 tyX5_ok hown (hts (Cond.classLink RL 7 RX5) lwm_1_0) (hts (Cond.instantiable RX5 8) lwm_1_1) (hts (Cond.initialized RX5) lwm_1_2) hK hP hD hS hA rfl (fun j hj => by rcases (show j = 0 ∨ j = 1 ∨ j = 2 ∨ j = 3 ∨ j = 4 ∨ j = 5 ∨ j = 6 ∨ j = 7 by omega) with rfl | rfl | rfl | rfl | rfl | rfl | rfl | rfl <;> rfl) (Nat.le_of_ble_eq_true rfl) (Nat.le_of_ble_eq_true rfl) dL_law_0 (fun q0 H hP hD hS => ?_)
  have hP : va_P (dC, dI) vwCl [(q0, .inr (5, [.null, .null, .int 0, .null, .null, .null, .null, .null]))] H := hP
  have hD : va_D (fun q : Nat => s.heap.size ≤ q) [(q0, .inr (5, [.null, .null, .int 0, .null, .null, .null, .null, .null]))] := hD
  refine W.widen (k := 1) (n := 8) (Nat.le_of_ble_eq_true rfl) (Nat.le_of_ble_eq_true rfl) ?_
  refine lv_dup hx hb dL_law_3 rfl ?_
  have hFc := va_free (wc := [(q0, .inr (5, [.null, .null, .int 0, .null, .null, .null, .null, .null]))]) hD hS hA [0] rfl
  refine va_callv (va_runI (As := []) (rest := [.ref q0]) ⟨hx, hb, hml, hown, hts⟩ (nX5 l (dC, dI) cI cJ cS q0 H.size) (cwI 0 hts ggT_X5_init rfl rfl rfl (hts (Cond.initialized RX5) lwm_1_2) (hts (Cond.methodLink RL 9 yX5_init) lwm_1_7) (hts (Cond.instanceMethod yX5_init) lwm_1_8) rfl (by decide +kernel) ⟨Nat.le_of_ble_eq_true rfl, Nat.le_of_ble_eq_true rfl⟩) ⟨fun a U g mk q => by obtain ⟨q0, q1, qP, qK, qD, n1, n2, n3, n4⟩ := q; exact ⟨q0, q1, qP, va_K.moved (u := U) (U := U.calling g mk a) (Vm.Alike.refl U.vm) qK, qD, va_Nw.same rfl rfl n1, va_Nw.same rfl rfl n2, va_Nw.same rfl rfl n3, va_AO.moved (u := U) (U := U.calling g mk a) (Vm.Alike.refl U.vm) n4⟩, fun U hU hW => ⟨rfl, by rw [hU], by rw [hU]; exact hP, va_K.moved hW.alike hK, hD.weaken (fun _ _ _ _ => trivial), va_Nw.warmM hW hEN.1, va_Nw.warmM hW hEN.2.1, va_Nw.warmM hW hEN.2.2.1, va_AO.moved hW.alike hEN.2.2.2⟩⟩ rfl rfl hl.1 rfl (lv_room (Nat.le_of_ble_eq_true rfl)) dL_law_4 ⟨Nat.le_of_ble_eq_true rfl, Nat.le_of_ble_eq_true rfl⟩) hS (fun q _ h => hFc q h) hFc (fun aX t H1 locs ht hvm hw hB hz1 hk1 hS => ?_)
  obtain ⟨hP1, hD1⟩ := hB
  rw [ht] at hP1
  obtain ⟨hP, hD⟩ := va_join (wr := []) (w1 := wX aX cI cJ cS 0 (fun _ => 0) (fun _ => 0) (fun _ => 0) (fun _ => 0) 0 (fun _ => 0) (fun _ => 0) 0 (fun _ => 0) 0 0 (fun _ => 0) (fun _ => 0) (fun _ => 0) (fun _ => 0) 0 (fun _ => 0) (fun _ => 0) 0 (fun _ => 0) 0 0 (fun _ => 0) (fun _ => 0) (fun _ => 0) (fun _ => 0) (fun _ => 0) 0 (fun _ => 0) 0 0 0 0 0 (fun _ => 0) (fun _ => 0) (fun _ => 0) (fun _ _ => 0)) hP hD [0] [] rfl rfl (by decide) (by decide) hk1 hFc hP1 hD1
  generalize H1 = H at hP hS ⊢
  have hP : va_P (dC, dI) vwCl (wX aX cI cJ cS 0 (fun _ => 0) (fun _ => 0) (fun _ => 0) (fun _ => 0) 0 (fun _ => 0) (fun _ => 0) 0 (fun _ => 0) 0 0 (fun _ => 0) (fun _ => 0) (fun _ => 0) (fun _ => 0) 0 (fun _ => 0) (fun _ => 0) 0 (fun _ => 0) 0 0 (fun _ => 0) (fun _ => 0) (fun _ => 0) (fun _ => 0) (fun _ => 0) 0 (fun _ => 0) 0 0 0 0 0 (fun _ => 0) (fun _ => 0) (fun _ => 0) (fun _ _ => 0)) H := hP
  have hD : va_D (fun q : Nat => s.heap.size ≤ q) (wX aX cI cJ cS 0 (fun _ => 0) (fun _ => 0) (fun _ => 0) (fun _ => 0) 0 (fun _ => 0) (fun _ => 0) 0 (fun _ => 0) 0 0 (fun _ => 0) (fun _ => 0) (fun _ => 0) (fun _ => 0) 0 (fun _ => 0) (fun _ => 0) 0 (fun _ => 0) 0 0 (fun _ => 0) (fun _ => 0) (fun _ => 0) (fun _ => 0) (fun _ => 0) 0 (fun _ => 0) 0 0 0 0 0 (fun _ => 0) (fun _ => 0) (fun _ => 0) (fun _ _ => 0)) := hD
  have hw : aX 0 = q0 := hw
  rw [← hw]
  refine W.widen (k := 36) (n := 2156) (Nat.le_of_ble_eq_true rfl) (Nat.le_of_ble_eq_true rfl) ?_
  refine lv_astore_n (lv' := [(1, .ref (aX 0)), (0, .ref b)]) hx hb dL_law_7 rfl hl (by decide) rfl (fun ls hl => ?_)
  refine va_new (ci := 6) (fs := [.null, .null, .null, .int 0, .null, .null, .null, .null, .null, .null, .null, .null, .int 0, .int 0, .int 0, .int 0, .null, .null, .null, .null]) (C := RX6) (T := TX6) (N := 20) hx hb hts inX6 tyX6 tyX6_ok hown (hts (Cond.classLink RL 10 RX6) lwm_1_3) (hts (Cond.instantiable RX6 20) lwm_1_4) (hts (Cond.initialized RX6) lwm_1_5) hK hP hD hS hA rfl (fun j hj => by rcases (show j = 0 ∨ j = 1 ∨ j = 2 ∨ j = 3 ∨ j = 4 ∨ j = 5 ∨ j = 6 ∨ j = 7 ∨ j = 8 ∨ j = 9 ∨ j = 10 ∨ j = 11 ∨ j = 12 ∨ j = 13 ∨ j = 14 ∨ j = 15 ∨ j = 16 ∨ j = 17 ∨ j = 18 ∨ j = 19 by omega) with rfl | rfl | rfl | rfl | rfl | rfl | rfl | rfl | rfl | rfl | rfl | rfl | rfl | rfl | rfl | rfl | rfl | rfl | rfl | rfl <;> rfl) (Nat.le_of_ble_eq_true rfl) (Nat.le_of_ble_eq_true rfl) dL_law_8 (fun q8 H hP hD hS => ?_)
  refine W.widen (k := 37) (n := 2176) (Nat.le_of_ble_eq_true rfl) (Nat.le_of_ble_eq_true rfl) ?_
  refine lv_dup hx hb dL_law_11 rfl ?_
  have hPc := hP.sub (ws' := [(q8, .inr (6, [.null, .null, .null, .int 0, .null, .null, .null, .null, .null, .null, .null, .null, .int 0, .int 0, .int 0, .int 0, .null, .null, .null, .null]))]) [36] rfl
  have hDc := hD.sub (ws' := [(q8, .inr (6, [.null, .null, .null, .int 0, .null, .null, .null, .null, .null, .null, .null, .null, .int 0, .int 0, .int 0, .int 0, .null, .null, .null, .null]))]) [36] (by decide) rfl
  have hFc := va_free (wc := [(q8, .inr (6, [.null, .null, .null, .int 0, .null, .null, .null, .null, .null, .null, .null, .null, .int 0, .int 0, .int 0, .int 0, .null, .null, .null, .null]))]) hD hS hA [36] rfl
  refine va_callv (va_runI (As := []) (rest := [.ref q8]) ⟨hx, hb, hml, hown, hts⟩ (nX6 l (dC, dI) cI cJ cS q8 H.size) (cwI 0 hts ggT_X6_init rfl rfl rfl (hts (Cond.initialized RX6) lwm_1_5) (hts (Cond.methodLink RL 12 yX6_init) lwm_4_12) (hts (Cond.instanceMethod yX6_init) lwm_4_13) rfl (by decide +kernel) ⟨Nat.le_of_ble_eq_true rfl, Nat.le_of_ble_eq_true rfl⟩) ⟨fun a U g mk q => by obtain ⟨q0, q1, qP, qK, qD⟩ := q; exact ⟨q0, q1, qP, va_K.moved (u := U) (U := U.calling g mk a) (Vm.Alike.refl U.vm) qK, qD⟩, fun U hU hW => ⟨rfl, by rw [hU], by rw [hU]; exact hPc, va_K.moved hW.alike hK, hDc.weaken (fun _ _ _ _ => trivial)⟩⟩ rfl rfl hl.1 rfl (lv_room (Nat.le_of_ble_eq_true rfl)) dL_law_12 ⟨Nat.le_of_ble_eq_true rfl, Nat.le_of_ble_eq_true rfl⟩) hS (fun q _ h => hFc q h) hFc (fun u t H1 locs ht hvm hw hB hz1 hk1 hS => ?_)
  obtain ⟨hP1, hD1⟩ := hB
  rw [ht] at hP1
  obtain ⟨aM, ea, eM⟩ := mkX6_w cI cJ cS q8 u
  rw [eM] at hP1 hD1
  rw [← ea]
  obtain ⟨hP, hD⟩ := va_join (wr := wX aX cI cJ cS 0 (fun _ => 0) (fun _ => 0) (fun _ => 0) (fun _ => 0) 0 (fun _ => 0) (fun _ => 0) 0 (fun _ => 0) 0 0 (fun _ => 0) (fun _ => 0) (fun _ => 0) (fun _ => 0) 0 (fun _ => 0) (fun _ => 0) 0 (fun _ => 0) 0 0 (fun _ => 0) (fun _ => 0) (fun _ => 0) (fun _ => 0) (fun _ => 0) 0 (fun _ => 0) 0 0 0 0 0 (fun _ => 0) (fun _ => 0) (fun _ => 0) (fun _ _ => 0)) (w1 := wM aM cI cJ cS (fun _ => 0) (fun _ => 0) (fun _ => 0) 0 (fun _ => 0) (fun _ => 0) (fun _ => 0) (fun _ => 0) (fun _ => 0) (fun _ => 0) (fun _ => 0) (fun _ => 0) 0 0 0 0 (fun _ => 0) (fun _ => 0) (fun _ => 0) (fun _ => 0)) hP hD [36] [0, 1, 2, 3, 4, 5, 6, 7, 8, 9, 10, 11, 12, 13, 14, 15, 16, 17, 18, 19, 20, 21, 22, 23, 24, 25, 26, 27, 28, 29, 30, 31, 32, 33, 34, 35] rfl rfl (by decide) (by decide) hk1 hFc hP1 hD1
  generalize H1 = H at hP hS ⊢
  refine W.widen (k := 600000) (n := 7302250) (Nat.le_of_ble_eq_true rfl) (Nat.le_of_ble_eq_true rfl) ?_
  refine lv_astore_n (lv' := [(2, .ref (aM 0)), (1, .ref (aX 0)), (0, .ref b)]) hx hb dL_law_15 rfl hl (by decide) rfl (fun ls hl => ?_)
  refine lv_iconst (v := 0) hx hb dL_law_16 (by decide) ?_
  refine lv_istore_n (lv' := [(3, .int (nI 0)), (2, .ref (aM 0)), (1, .ref (aX 0)), (0, .ref b)]) hx hb dL_law_17 rfl hl (by decide) rfl (fun ls hl => ?_)
  obtain ⟨hPX, hPM⟩ := va_P_ap hP
  obtain ⟨d1, d2, d3, d4, d5⟩ := va_D_ap (a := aX) (b := aM) (N := 36) (M := 16) hD rfl rfl
  exact law_loop (D := (dC, dI)) (aX := aX) (aM := aM) (cI := cI) (cJ := cJ) (cS := cS) (ut := ut) (sa := sa) (sb := sb) (xs := xs) ⟨⟨hx, hb, hml, hown, hts, hX, hbl⟩, hK, hE, d1, d2, d3, d4, d5⟩ hr hlocks hL (L + 1) 0 (Nat.zero_le L) (by omega) _ _ _ ⟨_, _, _, _, _, _, _, _, _, _, _, _, _, _, _, _, _, _, _, _, _, _, _, _, _, _, _, _, _, _, _, _, _, _, _, _, _, _, _, _, _, _, _, _, _, _, _, _, _, _, _, _, _, _, _, _, _, _, _, hPX, hPM, rel0⟩ hS (lv_sub hl [3, 2, 1, 0] rfl)
