def bp (o : Option Int) : Prop := ∀ v, o = some v → 0 ≤ v ∧ v ≤ 3000
theorem nI_iI {n : Nat} (h : n < 2 ^ 31) : nI n = iI n := by
  apply Int32.toInt_inj.mp
  rw [nI_toInt h, iI_toInt (by omega) (by omega)]
theorem enc_mxB {N : Int} (hN : -2147483648 ≤ N) (hN2 : N < 0) {a b : Option Int} (ha : bp a) (hb : bp b) : enc N (mxo a b) = if enc N b ≤ enc N a then enc N a else enc N b := by
  cases b with
  | none =>
    have : enc N none ≤ enc N a := by
      cases a with
      | none => exact (iI_le (a := N) (b := N) (by omega) (by omega) (by omega) (by omega)).mpr (Int.le_refl N)
      | some u =>
        have := ha u rfl
        exact (iI_le (a := N) (b := u) (by omega) (by omega) (by omega) (by omega)).mpr (by omega)
    rw [if_pos this]
    rfl
  | some v =>
    have hv := hb v rfl
    cases a with
    | none =>
      have : ¬ enc N (some v) ≤ enc N none := fun z => by
        have := (iI_le (a := v) (b := N) (by omega) (by omega) (by omega) (by omega)).mp z
        omega
      rw [if_neg this]
      rfl
    | some u =>
      have hu := ha u rfl
      have e : enc N (some v) ≤ enc N (some u) ↔ v ≤ u := iI_le (a := v) (b := u) (by omega) (by omega) (by omega) (by omega)
      by_cases c : v ≤ u
      · rw [if_pos (e.mpr c)]
        show iI ((if v ≤ u then some u else some v).getD N) = _
        rw [if_pos c]
        rfl
      · rw [if_neg (fun z => c (e.mp z))]
        show iI ((if v ≤ u then some u else some v).getD N) = _
        rw [if_neg c]
        rfl
theorem bp_mxo {a b : Option Int} (ha : bp a) (hb : bp b) : bp (mxo a b) := by
  intro v hv
  cases b with
  | none => exact ha v hv
  | some w =>
    cases a with
    | none => exact hb v hv
    | some u =>
      simp only [mxo] at hv
      split at hv
      · exact ha v hv
      · exact hb v hv
theorem bp_gmax {f : Nat → Option Int} (h : ∀ l, bp (f l)) : ∀ n, bp (gmax f n)
  | 0 => fun v hv => by cases hv
  | n + 1 => bp_mxo (bp_gmax h n) (h n)
theorem ltI (a b : Int32) : a < b ↔ ¬ b ≤ a := by
  rw [Int32.lt_iff_toInt_lt, Int32.le_iff_toInt_le]
  omega
/-- the hearers of the mask that hear w words -/
def hgc (A : Nat → Nat) (x : Int32) (w : Nat) : Nat → Nat
  | 0 => 0
  | h + 1 => hgc A x w h + if ((x >>> (nI h &&& 31)) &&& (1 : Int32)) = 1 ∧ ¬ A (156 + h) < w then 1 else 0
theorem hgc_le (A : Nat → Nat) (x : Int32) (w : Nat) : ∀ h, hgc A x w h ≤ h
  | 0 => Nat.le_refl 0
  | h + 1 => by
    have := hgc_le A x w h
    rw [hgc]
    split <;> omega
theorem X_hearing {A : Nat → Nat} (hw : wfA A) {ags : Nat → Int32} (hsa : ∀ h, h < A 3 → ags h = nI (A (156 + h))) (x : Int32) {w : Nat} (hw2 : w ≤ 120) : fX1_hearing (nI (A 3)) ags x (nI w) = some (nI (hgc A x w (A 3))) := by
  have h3 := hw.2.2.2.1
  unfold fX1_hearing
  refine up2 (A 3) (fun i x3 x4 => x3 = nI (hgc A x w i) ∧ x4 = nI i) ?_ ?_ 2000 0 _ _ (by omega) (by omega) ⟨rfl, rfl⟩
  · rintro K x3 x4 ⟨rfl, rfl⟩
    unfold fX1_hearing_l5
    rw [if_pos (nI_le (Nat.le_refl _) (by omega))]
  · rintro K i x3 x4 hi ⟨rfl, rfl⟩
    right
    have ha := hw.2.2.2.2.2.2 i hi
    refine ⟨nI (hgc A x w (i + 1)), nI (i + 1), ?_, rfl, rfl⟩
    unfold fX1_hearing_l5 fX1_hearing_b44
    rw [if_neg (nI_ge hi (by omega)), gdN (by omega) (by omega), nI_clamp (by omega), hsa i hi, nI_1, nI_1, hgc]
    by_cases q : ((x >>> (nI i &&& 31)) &&& (1 : Int32)) = 1
    · rw [if_pos q]
      by_cases z : A (156 + i) < w
      · rw [if_pos (nI_lt z (by omega)), if_neg (fun y => y.2 z)]
        rfl
      · rw [if_neg (nI_nlt (by omega) (by omega)), if_pos ⟨q, z⟩]
    · rw [if_neg q, if_neg (fun y => q y.1)]
      rfl
theorem M_hearing {A : Nat → Nat} (hw : wfA A) (x : Int32) {w : Nat} (hw2 : w ≤ 120) : fX6_hearing (toF A) x (nI w) = some (nI (hgc A x w (A 3))) := by
  have h3 := hw.2.2.2.1
  unfold fX6_hearing
  refine up2 (A 3) (fun i x3 x4 => x3 = nI (hgc A x w i) ∧ x4 = nI i) ?_ ?_ 2000 0 _ _ (by omega) (by omega) ⟨rfl, rfl⟩
  · rintro K x3 x4 ⟨rfl, rfl⟩
    unfold fX6_hearing_l5
    rw [if_pos (show toF A (3 : Int32).toNatClampNeg ≤ nI (A 3) from nI_le (Nat.le_refl _) (by omega))]
  · rintro K i x3 x4 hi ⟨rfl, rfl⟩
    right
    have ha := hw.2.2.2.2.2.2 i hi
    refine ⟨nI (hgc A x w (i + 1)), nI (i + 1), ?_, rfl, rfl⟩
    unfold fX6_hearing_l5 fX6_hearing_b46 fX6_hearing_b47
    rw [if_neg (show ¬ toF A (3 : Int32).toNatClampNeg ≤ nI i from nI_ge (b := A 3) hi (by omega)), e_age, gdN (by omega) (by omega), nI_clamp (by omega), toF_at, nI_1, hgc, show bI false = 0 from rfl, show bI true = 1 from rfl, Int32.add_zero, nI_1]
    by_cases q : ((x >>> (nI i &&& 31)) &&& (1 : Int32)) = 1
    · rw [if_pos q]
      by_cases z : A (156 + i) < w
      · rw [if_pos (nI_lt z (by omega)), if_neg (fun y => y.2 z)]
        rfl
      · rw [if_neg (nI_nlt (by omega) (by omega)), if_pos ⟨q, z⟩]
    · rw [if_neg q, if_neg (fun y => q y.1)]
      rfl
def ff (A : Nat → Nat) (p : Nat) (G : Nat → Option Int) (w l : Nat) : Option Int := if l ≤ w ∧ lenA A p l = true then G (w - l) else none
def hu (A : Nat → Nat) (t : Nat) (x : Int32) : Nat → Nat → Option Int
  | 0, w => if w = 0 then some 0 else none
  | k + 1, w => (gmax (ff A (A (69 + 11 * t + k)) (hu A t x k) w) 25).map (· + (hgc A x w (A 3) : Int))
theorem ff_bp {A : Nat → Nat} {p : Nat} {G : Nat → Option Int} (h : ∀ w, bp (G w)) (w l : Nat) : bp (ff A p G w l) := by
  unfold ff
  split
  · exact h _
  · intro v hv; cases hv
theorem mxo_or (a b : Option Int) : mxo a b = a ∨ mxo a b = b := by
  cases b with
  | none => exact Or.inl rfl
  | some v =>
    cases a with
    | none => exact Or.inr rfl
    | some u =>
      show (if v ≤ u then some u else some v) = _ ∨ (if v ≤ u then some u else some v) = _
      split
      · exact Or.inl rfl
      · exact Or.inr rfl
theorem hu_bd {A : Nat → Nat} (h3 : A 3 ≤ 10) (t : Nat) (x : Int32) : ∀ k w v, hu A t x k w = some v → 0 ≤ v ∧ v ≤ 10 * k
  | 0, w, v, h => by
    simp only [hu] at h
    split at h
    · have : (0 : Int) = v := by simpa using h
      omega
    · cases h
  | k + 1, w, v, h => by
    have ih := hu_bd h3 t x k
    have hle := hgc_le A x w (A 3)
    simp only [hu] at h
    cases e : gmax (ff A (A (69 + 11 * t + k)) (hu A t x k) w) 25 with
    | none => rw [e] at h; cases h
    | some u =>
      rw [e] at h
      obtain ⟨l, hl, e2⟩ := gmax_has 25 e
      unfold ff at e2
      split at e2
      · have := ih _ u e2
        have e3 : u + (hgc A x w (A 3) : Int) = v := by simpa using h
        omega
      · cases e2
theorem hu_bp {A : Nat → Nat} (h3 : A 3 ≤ 10) (t : Nat) (x : Int32) {k : Nat} (hk : k ≤ 10) (w : Nat) : bp (hu A t x k w) := fun v hv => by
  have := hu_bd h3 t x k w v hv
  omega
theorem X_ahead {A : Nat → Nat} (hw : wfA A) {p w : Nat} (hp : p < A 1) (hw2 : w ≤ 120) {G : Nat → Option Int} (hG : ∀ w, bp (G w)) {gai : Nat → Int32} (h : ∀ j, j ≤ w → gai j = enc (-1000000000) (G j)) : fX1_mostAhead gai (nI (lsA A p)) (nI w) = some (enc (-1000000000) (gmax (ff A p G w) 25)) := by
  unfold fX1_mostAhead
  have hfin : ∀ e, (e = 25 ∨ (e = w + 1 ∧ e ≤ 25)) → gmax (ff A p G w) e = gmax (ff A p G w) 25 := by
    intro e he
    rcases he with rfl | ⟨rfl, h25⟩
    · rfl
    · exact (gmax_stay h25 (fun l h1 h2 => if_neg (fun h => by omega))).symm
  refine up2 (if 25 ≤ w + 1 then 25 else w + 1) (fun l x3 x4 => x3 = enc (-1000000000) (gmax (ff A p G w) l) ∧ x4 = nI l) ?_ ?_ 2000 0 _ _ (by split <;> omega) (by omega) ⟨rfl, rfl⟩
  · rintro K x3 x4 ⟨rfl, rfl⟩
    rw [hfin _ (by split <;> omega)]
    unfold fX1_mostAhead_l6
    by_cases q : 25 ≤ w + 1
    · rw [if_pos q]
      by_cases q2 : nI w < nI 25
      · rw [if_pos q2]
      · rw [if_neg q2, if_pos (by decide)]
    · rw [if_neg q, if_pos (nI_lt (by omega) (by omega))]
  · rintro K l x3 x4 hl ⟨rfl, rfl⟩
    right
    have hl2 : l < 25 ∧ l ≤ w := by split at hl <;> omega
    refine ⟨enc (-1000000000) (gmax (ff A p G w) (l + 1)), nI (l + 1), ?_, rfl, rfl⟩
    unfold fX1_mostAhead_l6 fX1_mostAhead_b43
    rw [if_neg (nI_nlt hl2.2 (by omega)), if_neg (show ¬ (24 : Int32) < nI l from nI_nlt (a := 24) (by omega) (by omega)), pk_sub hl2.2, gdN (by omega) (by omega), nI_clamp (by omega), h _ (by omega), nI_1]
    by_cases c : lenA A p l = true
    · rw [if_pos ((bitA hw hp hl2.1).mpr c)]
      have e1 : gmax (ff A p G w) (l + 1) = mxo (gmax (ff A p G w) l) (G (w - l)) := by
        show mxo _ (ff A p G w l) = _
        rw [show ff A p G w l = G (w - l) from if_pos ⟨hl2.2, c⟩]
      rw [e1, enc_mxB (by omega) (by omega) (bp_gmax (ff_bp hG w) l) (hG _)]
      by_cases z : enc (-1000000000) (G (w - l)) ≤ enc (-1000000000) (gmax (ff A p G w) l)
      · rw [if_pos z, if_neg (fun y => (ltI _ _).mp y z)]
      · rw [if_neg z, if_pos ((ltI _ _).mpr z)]
    · rw [if_neg (fun e => c ((bitA hw hp hl2.1).mp e)), gmax_none (if_neg (fun z => c z.2))]

