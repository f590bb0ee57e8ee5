theorem iI_toInt {z : Int} (h1 : -2147483648 ≤ z) (h2 : z < 2147483648) : (iI z).toInt = z := Int32.toInt_ofInt_of_le (by simpa using h1) (by simpa using h2)
theorem iI_add (a b : Int) : iI a + iI b = iI (a + b) := (Int32.ofInt_add a b).symm
theorem iI_le {a b : Int} (ha : -2147483648 ≤ a) (ha2 : a < 2147483648) (hb : -2147483648 ≤ b) (hb2 : b < 2147483648) : iI a ≤ iI b ↔ a ≤ b := by
  rw [Int32.le_iff_toInt_le, iI_toInt ha ha2, iI_toInt hb hb2]
theorem iI_eq {a b : Int} (ha : -2147483648 ≤ a) (ha2 : a < 2147483648) (hb : -2147483648 ≤ b) (hb2 : b < 2147483648) : iI a = iI b ↔ a = b := by
  rw [← Int32.toInt_inj, iI_toInt ha ha2, iI_toInt hb hb2]
/-- how a worth that may be missing is kept -/
def enc (N : Int) (o : Option Int) : Int32 := iI (o.getD N)
def mxo (a b : Option Int) : Option Int := match b with
  | none => a
  | some v => match a with
    | none => some v
    | some u => if v ≤ u then some u else some v
def gmax (f : Nat → Option Int) : Nat → Option Int
  | 0 => none
  | n + 1 => mxo (gmax f n) (f n)
def bd (m : Int) (o : Option Int) : Prop := ∀ v, o = some v → -m ≤ v ∧ v ≤ m
theorem bd_mxo {m : Int} {a b : Option Int} (ha : bd m a) (hb : bd m b) : bd m (mxo a b) := by
  intro v hv
  cases b with
  | none => exact ha v hv
  | some w =>
    cases a with
    | none => exact hb v hv
    | some u =>
      simp only [mxo] at hv
      split at hv
      · exact ha v hv
      · exact hb v hv
theorem bd_gmax {m : Int} {f : Nat → Option Int} (h : ∀ l, bd m (f l)) : ∀ n, bd m (gmax f n)
  | 0 => fun v hv => by cases hv
  | n + 1 => bd_mxo (bd_gmax h n) (h n)
theorem enc_mx {N : Int} (hN : -2147483648 ≤ N) (hN2 : N < -3000) {a : Option Int} (ha : bd 3000 a) {v : Int} (h1 : -3000 ≤ v) (h2 : v ≤ 3000) : enc N (mxo a (some v)) = if iI v ≤ enc N a then enc N a else iI v := by
  cases a with
  | none =>
    have : ¬ iI v ≤ enc N none := by
      show ¬ iI v ≤ iI N
      rw [iI_le (by omega) (by omega) (by omega) (by omega)]
      omega
    rw [if_neg this]
    rfl
  | some u =>
    obtain ⟨u1, u2⟩ := ha u rfl
    have e : iI v ≤ enc N (some u) ↔ v ≤ u := iI_le (a := v) (b := u) (by omega) (by omega) (by omega) (by omega)
    by_cases c : v ≤ u
    · rw [if_pos (e.mpr c)]
      show iI ((if v ≤ u then some u else some v).getD N) = _
      rw [if_pos c]
      rfl
    · rw [if_neg (fun q => c (e.mp q))]
      show iI ((if v ≤ u then some u else some v).getD N) = _
      rw [if_neg c]
      rfl
theorem enc_some {N v : Int} (hN : -2147483648 ≤ N) (hN2 : N < -3000) (h1 : -3000 ≤ v) (h2 : v ≤ 3000) : ¬ enc N (some v) = iI N ∧ ¬ enc N (some v) ≤ iI N := by
  have e : enc N (some v) = iI v := rfl
  rw [e, iI_eq (by omega) (by omega) (by omega) (by omega), iI_le (by omega) (by omega) (by omega) (by omega)]
  omega
/-- what the part p adds with l words to the rest g of w words -/
def fa (A : Nat → Nat) (p : Nat) (g : Nat → Option Int) (w l : Nat) : Option Int := if l ≤ w ∧ lenA A p l = true then (g (w - l)).map (· + vA A p l) else none
/-- the best worth of the parts i.. of tale t, of size s; d = s - i -/
def gn (A : Nat → Nat) (t s : Nat) : Nat → Nat → Option Int
  | 0, w => if w = 0 then some 0 else none
  | d + 1, w => gmax (fa A (A (69 + 11 * t + (s - (d + 1)))) (gn A t s d) w) 25
theorem fa_bd {A : Nat → Nat} (hw : wfA A) {p : Nat} (hp : p < A 1) {g : Nat → Option Int} {m : Int} (hm : ∀ w, bd m (g w)) (w l : Nat) (hl : l < 25) : bd (m + 221) (fa A p g w l) := by
  intro v hv
  unfold fa at hv
  split at hv
  · cases e : g (w - l) with
    | none => rw [e] at hv; cases hv
    | some u =>
      rw [e] at hv
      have h1 := hm _ u e
      have h2 := vA_lo hw hp hl
      have h3 : u + vA A p l = v := by simpa using hv
      omega
  · cases hv
theorem gmax_bd {m : Int} {f : Nat → Option Int} : ∀ n, (∀ l, l < n → bd m (f l)) → bd m (gmax f n)
  | 0, _ => fun v hv => by cases hv
  | n + 1, h => bd_mxo (gmax_bd n (fun l hl => h l (by omega))) (h n (by omega))
theorem gn_bd {A : Nat → Nat} (hw : wfA A) {t : Nat} (ht : t < A 2) : ∀ d, d ≤ A (68 + 11 * t) → ∀ w, bd (221 * d) (gn A t (A (68 + 11 * t)) d w)
  | 0, _, w => by
    intro v hv
    simp only [gn] at hv
    split at hv
    · have : (0 : Int) = v := by simpa using hv
      omega
    · cases hv
  | d + 1, hd, w => by
    have ih := gn_bd hw ht d (by omega)
    obtain ⟨tp, -, -⟩ := tale_part hw ht (i := A (68 + 11 * t) - (d + 1)) (by omega)
    have h := gmax_bd (m := 221 * d + 221) (f := fa A (A (69 + 11 * t + (A (68 + 11 * t) - (d + 1)))) (gn A t (A (68 + 11 * t)) d) w) 25 (fun l hl => fa_bd hw tp ih w l hl)
    intro v hv
    have := h v hv
    constructor <;> omega
theorem gn_bd3 {A : Nat → Nat} (hw : wfA A) {t : Nat} (ht : t < A 2) {d : Nat} (hd : d ≤ A (68 + 11 * t)) (w : Nat) : bd 3000 (gn A t (A (68 + 11 * t)) d w) := by
  intro v hv
  have h10 := (hw.2.2.2.2.2.1 t ht).1
  have := gn_bd hw ht d hd w v hv
  omega
theorem fa_bd3 {A : Nat → Nat} (hw : wfA A) {t : Nat} (ht : t < A 2) {d : Nat} (hd : d < A (68 + 11 * t)) (w l : Nat) (hl : l < 25) : bd 3000 (fa A (A (69 + 11 * t + (A (68 + 11 * t) - (d + 1)))) (gn A t (A (68 + 11 * t)) d) w l) := by
  intro v hv
  have h10 := (hw.2.2.2.2.2.1 t ht).1
  obtain ⟨tp, -, -⟩ := tale_part hw ht (i := A (68 + 11 * t) - (d + 1)) (by omega)
  have := fa_bd hw tp (gn_bd hw ht d (by omega)) w l hl v hv
  omega
theorem fa_none {A : Nat → Nat} {p : Nat} {g : Nat → Option Int} {w l : Nat} (h : ¬ (l ≤ w ∧ lenA A p l = true)) : fa A p g w l = none := if_neg h
theorem gmax_none {f : Nat → Option Int} {n : Nat} (h : f n = none) : gmax f (n + 1) = gmax f n := by
  show mxo _ (f n) = _
  rw [h]
  rfl
theorem gmax_stay {f : Nat → Option Int} {a : Nat} : ∀ {b : Nat}, a ≤ b → (∀ l, a ≤ l → l < b → f l = none) → gmax f b = gmax f a
  | 0, h, _ => by rw [show a = 0 by omega]
  | b + 1, h, h0 => by
    by_cases hb : a = b + 1
    · rw [hb]
    · rw [gmax_none (h0 b (by omega) (by omega)), gmax_stay (a := a) (b := b) (by omega) (fun l h2 h3 => h0 l h2 (by omega))]
theorem e_row (m w : Nat) : ((121 : Int32) * nI m) + nI w = nI (121 * m + w) := by
  rw [show (121 : Int32) = nI 121 from rfl, pk_mul, nI_add]
theorem e_rowX (m w : Nat) : (nI m * (121 : Int32)) + nI w = nI (121 * m + w) := by
  rw [show (121 : Int32) = nI 121 from rfl, pk_mul, nI_add, Nat.mul_comm]
theorem e_row1 (m : Nat) : (nI m + (1 : Int32)) * (121 : Int32) = nI (121 * (m + 1)) := by
  rw [nI_1, show (121 : Int32) = nI 121 from rfl, pk_mul, Nat.mul_comm]
theorem row_inj {j m w v : Nat} (hw : w ≤ 120) (hv : v ≤ 120) (h : 121 * j + w = 121 * m + v) : j = m ∧ w = v := by omega
/-- one length l of the part p in row m -/
theorem X_gainWith {A : Nat → Nat} (hw : wfA A) {p s m l : Nat} (hp : p < A 1) (hs : s ≤ 10) (hm : m < s) (hl : l < 25) (hL : lenA A p l = true) {T : Nat → Nat → Option Int} {g f : Nat → Option Int} (hg : ∀ w, bd 2700 (g w)) (hf : ∀ w, bd 3000 (f w)) {gai : Nat → Int32} (h : ∀ j, j ≤ s → ∀ w, w ≤ 120 → gai (121 * j + w) = enc (-1000000000) (if j = m then f w else if j = m + 1 then g w else T j w)) :
    ∃ gai', fX1_gainWith gai (nI m) (nI l) (iI (vA A p l)) = some gai' ∧ ∀ j, j ≤ s → ∀ w, w ≤ 120 → gai' (121 * j + w) = enc (-1000000000) (if j = m then mxo (f w) (fa A p g w l) else if j = m + 1 then g w else T j w) := by
  unfold fX1_gainWith
  rw [e_rowX, e_row1]
  refine uq2 (fun o => ∃ (gai' : Nat → Int32), o = some gai' ∧ ∀ j, j ≤ s → ∀ w, w ≤ 120 → gai' (121 * j + w) = enc (-1000000000) (if j = m then mxo (f w) (fa A p g w l) else if j = m + 1 then g w else T j w)) (121 - l) (fun e x6 (ga : Nat → Int32) => x6 = nI e ∧ ∀ j, j ≤ s → ∀ w, w ≤ 120 → ga (121 * j + w) = enc (-1000000000) (if j = m then (if w < l + e then mxo (f w) (fa A p g w l) else f w) else if j = m + 1 then g w else T j w)) ?_ ?_ 2000 0 _ _ (by omega) (by omega) ⟨rfl, ?_⟩
  · rintro K x6 ga ⟨rfl, h2⟩
    unfold fX1_gainWith_l19
    rw [nI_add, if_pos (show (121 : Int32) ≤ nI (121 - l + l) from nI_le (a := 121) (by omega) (by omega))]
    refine ⟨ga, rfl, fun j hj w hw2 => ?_⟩
    rw [h2 j hj w hw2, if_pos (show w < l + (121 - l) by omega)]
  · rintro K e x6 ga he ⟨rfl, h2⟩
    right
    have hsrc := h2 (m + 1) (by omega) e (by omega)
    rw [if_neg (by omega), if_pos rfl] at hsrc
    have htgt := h2 m (by omega) (l + e) (by omega)
    rw [if_pos rfl, if_neg (Nat.lt_irrefl _)] at htgt
    have hv := vA_lo hw hp hl
    have hfa : fa A p g (l + e) l = (g e).map (· + vA A p l) := by
      unfold fa
      rw [if_pos ⟨by omega, hL⟩, Nat.add_sub_cancel_left]
    have key : ∀ ga2 : Nat → Int32, (∀ k, k ≠ 121 * m + l + e → ga2 k = ga k) → ga2 (121 * m + l + e) = enc (-1000000000) (mxo (f (l + e)) (fa A p g (l + e) l)) → ∀ j, j ≤ s → ∀ w, w ≤ 120 → ga2 (121 * j + w) = enc (-1000000000) (if j = m then (if w < l + (e + 1) then mxo (f w) (fa A p g w l) else f w) else if j = m + 1 then g w else T j w) := by
      intro ga2 hne hat j hj w hw2
      by_cases q : j = m ∧ w = l + e
      · obtain ⟨rfl, rfl⟩ := q
        rw [if_pos rfl, if_pos (by omega), ← hat, Nat.add_assoc]
      · rw [hne _ (fun hh => q (row_inj hw2 (show l + e ≤ 120 by omega) (by omega))), h2 j hj w hw2]
        by_cases q1 : j = m
        · rw [if_pos q1, if_pos q1]
          by_cases q2 : w < l + e
          · rw [if_pos q2, if_pos (by omega)]
          · rw [if_neg q2, if_neg (by omega)]
        · rw [if_neg q1, if_neg q1]
    unfold fX1_gainWith_l19 fX1_gainWith_b78
    rw [nI_add, if_neg (show ¬ (121 : Int32) ≤ nI (e + l) from nI_ge (b := 121) (by omega) (by omega)), nI_add, gdN (by omega) (by omega), nI_clamp (by omega), nI_add, gdN (by omega) (by omega), gdN (by omega) (by omega), nI_clamp (by omega), nI_1, hsrc, show 121 * m + l + e = 121 * m + (l + e) by omega, htgt]
    cases eg : g e with
    | none =>
      rw [if_pos (show enc (-1000000000) none = (-1000000000 : Int32) from rfl)]
      refine ⟨nI (e + 1), ga, rfl, rfl, key ga (fun _ _ => rfl) ?_⟩
      rw [hfa, eg, Nat.add_assoc, htgt]
      rfl
    | some u =>
      obtain ⟨u1, u2⟩ := hg e u eg
      rw [if_neg (show ¬ enc (-1000000000) (some u) = (-1000000000 : Int32) from (enc_some (by omega) (by omega) (by omega) (by omega)).1)]
      have es : enc (-1000000000) (some u) + iI (vA A p l) = iI (u + vA A p l) := iI_add _ _
      have em := enc_mx (N := -1000000000) (by omega) (by omega) (hf (l + e)) (v := u + vA A p l) (by omega) (by omega)
      rw [es]
      by_cases q : iI (u + vA A p l) ≤ enc (-1000000000) (f (l + e))
      · rw [if_pos q] at em ⊢
        refine ⟨nI (e + 1), ga, rfl, rfl, key ga (fun _ _ => rfl) ?_⟩
        rw [hfa, eg, Nat.add_assoc, htgt]
        exact em.symm
      · rw [if_neg q] at em ⊢
        refine ⟨nI (e + 1), upd ga (121 * m + (l + e)) (iI (u + vA A p l)), rfl, rfl, key _ (fun k hk => ?_) ?_⟩
        · rw [updI_at, if_neg (by omega)]
        · rw [updI_at, if_pos (by omega), hfa, eg]
          exact em.symm
  · intro j hj w hw2
    rw [h j hj w hw2]
    by_cases q : j = m
    · rw [if_pos q, if_pos q]
      by_cases q2 : w < l
      · rw [if_pos (by omega), fa_none (by omega)]
        rfl
      · rw [if_neg (by omega)]
    · rw [if_neg q, if_neg q]
/-- the rows of the gains, rows below b still empty -/
def gT (A : Nat → Nat) (t b : Nat) (j w : Nat) : Option Int := if b ≤ j then gn A t (A (68 + 11 * t)) (A (68 + 11 * t) - j) w else none
def gR (A : Nat → Nat) (t : Nat) (N : Int) (gai : Nat → Int32) : Prop := ∀ j, j ≤ A (68 + 11 * t) → ∀ w, w ≤ 120 → gai (121 * j + w) = enc N (gn A t (A (68 + 11 * t)) (A (68 + 11 * t) - j) w)
theorem X_gains {A : Nat → Nat} (hw : wfA A) {par : Int32} {kin lea mos wrt : Nat → Int32} {tal : Int32} {siz tol : Nat → Int32} {hrs : Int32} {ags : Nat → Int32} {yea : Int32} (hs : stk A par kin lea mos wrt tal siz tol hrs ags yea) {t : Nat} (ht : t < A 2) (gai : Nat → Int32) : ∃ gai', fX1_findGains kin lea mos wrt siz tol gai (nI t) = some gai' ∧ gR A t (-1000000000) gai' := by
  have h8 : t < 8 := by have := hw.2.2.1; omega
  have h10 : A (68 + 11 * t) ≤ 10 := (hw.2.2.2.2.2.1 t ht).1
  obtain ⟨s, hsz⟩ : ∃ s, s = A (68 + 11 * t) := ⟨_, rfl⟩
  unfold fX1_findGains
  rw [gdN h8 (by omega), nI_clamp (by omega), (hs.2.2.2.1 t ht).1, ← hsz]
  refine uq2 (fun o => ∃ (gai' : Nat → Int32), o = some gai' ∧ gR A t (-1000000000) gai') (121 * (s + 1)) (fun i x3 (ga : Nat → Int32) => x3 = nI i ∧ ∀ k, k < i → ga k = -1000000000) ?_ ?_ 2000 0 _ _ (by omega) (by omega) ⟨rfl, fun k hk => absurd hk (Nat.not_lt_zero k)⟩
  · rintro K x3 ga ⟨rfl, h⟩
    unfold fX1_findGains_l12
    rw [e_row1, if_pos (nI_le (Nat.le_refl _) (by omega))]
    unfold fX1_findGains_b36
    have e1 : nI s * (121 : Int32) = nI (121 * s) := by rw [show (121 : Int32) = nI 121 from rfl, pk_mul, Nat.mul_comm]
    rw [e1, gdN (by omega) (by omega), nI_clamp (by omega)]
    refine uq2 (fun o => ∃ (gai' : Nat → Int32), o = some gai' ∧ gR A t (-1000000000) gai') s (fun i x3 (ga : Nat → Int32) => i ≤ s ∧ x3 = nI (s - i) - 1 ∧ ∀ j, j ≤ s → ∀ w, w ≤ 120 → ga (121 * j + w) = enc (-1000000000) (gT A t (s - i) j w)) ?_ ?_ 2000 0 _ _ (by omega) (by omega) ⟨Nat.zero_le _, rfl, ?_⟩
    · rintro K2 x3 g2 ⟨h1, rfl, h2⟩
      unfold fX1_findGains_l50
      rw [Nat.sub_self, if_pos (by decide)]
      refine ⟨g2, rfl, fun j hj w hw2 => ?_⟩
      rw [h2 j (by omega) w hw2]
      unfold gT
      rw [if_pos (by omega)]
    · rintro K2 i x3 g2 hi ⟨h1, rfl, h2⟩
      right
      obtain ⟨m, hm⟩ : ∃ m, s - i = m + 1 := ⟨s - i - 1, by omega⟩
      obtain ⟨tp, ti, -⟩ := tale_part hw ht (i := m) (by omega)
      have hd : A (68 + 11 * t) - m = (s - m - 1) + 1 := by omega
      have hidx : A (68 + 11 * t) - (s - m - 1 + 1) = m := by omega
      have main : ∃ g3, fix2 (fX1_findGains_l79 K2 kin mos wrt (nI m) (nI (A (69 + 11 * t + m))) (nI (lsA A (A (69 + 11 * t + m))))) 2000 0 g2 = K2 (nI m - 1) g3 ∧ ∀ j, j ≤ s → ∀ w, w ≤ 120 → g3 (121 * j + w) = enc (-1000000000) (gT A t m j w) := by
        refine uq2 (fun o => ∃ (g3 : Nat → Int32), o = K2 (nI m - 1) g3 ∧ ∀ j, j ≤ s → ∀ w, w ≤ 120 → g3 (121 * j + w) = enc (-1000000000) (gT A t m j w)) 25 (fun l x6 (ga : Nat → Int32) => x6 = nI l ∧ ∀ j, j ≤ s → ∀ w, w ≤ 120 → ga (121 * j + w) = enc (-1000000000) (if j = m then gmax (fa A (A (69 + 11 * t + m)) (gn A t (A (68 + 11 * t)) (s - m - 1)) w) l else if j = m + 1 then gn A t (A (68 + 11 * t)) (s - m - 1) w else gT A t (m + 1) j w)) ?_ ?_ 2000 0 _ _ (by omega) (by omega) ⟨rfl, ?_⟩
        · rintro K3 x6 g3 ⟨rfl, h3⟩
          unfold fX1_findGains_l79
          rw [if_pos (by decide)]
          unfold fX1_findGains_b121
          refine ⟨g3, by rw [Int32.sub_eq_add_neg], fun j hj w hw2 => ?_⟩
          rw [h3 j hj w hw2]
          congr 1
          unfold gT
          by_cases q : j = m
          · rw [if_pos q, if_pos (by omega), q, hd]
            show _ = gmax _ 25
            rw [hidx]
          · rw [if_neg q]
            by_cases q1 : j = m + 1
            · rw [if_pos q1, if_pos (by omega), q1, show A (68 + 11 * t) - (m + 1) = s - m - 1 by omega]
            · rw [if_neg q1]
              by_cases q2 : m + 1 ≤ j
              · rw [if_pos q2, if_pos (by omega)]
              · rw [if_neg q2, if_neg (by omega)]
        · rintro K3 l x6 g3 hl ⟨rfl, h3⟩
          right
          unfold fX1_findGains_l79 fX1_findGains_b115
          rw [if_neg (show ¬ (24 : Int32) < nI l from nI_nlt (a := 24) (by omega) (by omega))]
          by_cases c : lenA A (A (69 + 11 * t + m)) l = true
          · obtain ⟨g4, e4, h4⟩ := X_gainWith hw tp (show s ≤ 10 by omega) (show m < s by omega) hl c (T := gT A t (m + 1)) (g := gn A t (A (68 + 11 * t)) (s - m - 1)) (f := fun w => gmax (fa A (A (69 + 11 * t + m)) (gn A t (A (68 + 11 * t)) (s - m - 1)) w) l) (fun w v hv => by have := gn_bd hw ht (s - m - 1) (by omega) w v hv; omega) (fun w => gmax_bd l (fun l2 hl2 => by have := fa_bd3 hw ht (d := s - m - 1) (by omega) w l2 (by omega); rw [hidx] at this; exact this)) h3
            refine ⟨nI (l + 1), g4, ?_, rfl, h4⟩
            rw [if_pos ((bitA hw tp hl).mpr c), X_val hw hs tp hl, Option.bind_some, e4, Option.bind_some, nI_1]
          · refine ⟨nI (l + 1), g3, ?_, rfl, fun j hj w hw2 => ?_⟩
            · rw [if_neg (fun e => c ((bitA hw tp hl).mp e)), nI_1]
            · rw [h3 j hj w hw2]
              by_cases q : j = m
              · rw [if_pos q, if_pos q, gmax_none (fa_none (fun z => c z.2))]
              · rw [if_neg q, if_neg q]
        · intro j hj w hw2
          rw [h2 j hj w hw2, hm]
          congr 1
          unfold gT
          by_cases q : j = m
          · rw [if_pos q, if_neg (by omega)]
            rfl
          · rw [if_neg q]
            by_cases q1 : j = m + 1
            · rw [if_pos q1, if_pos (by omega), q1, show A (68 + 11 * t) - (m + 1) = s - m - 1 by omega]
            · rw [if_neg q1]
      obtain ⟨g3, e3, h3⟩ := main
      refine ⟨nI m - 1, g3, ?_, by omega, by rw [show s - (i + 1) = m by omega], by rw [show s - (i + 1) = m by omega]; exact h3⟩
      unfold fX1_findGains_l50
      rw [hm, nI_pred, if_neg (nI_pos (by omega)), X_told hw hs ht (by omega), Option.bind_some, X_len hw hs tp, Option.bind_some]
      exact e3
    · intro j hj w hw2
      rw [updI_at]
      unfold gT
      by_cases q : j = s
      · subst q
        rw [if_pos (show j - 0 ≤ j by omega), ← hsz, Nat.sub_self]
        simp only [gn]
        by_cases q2 : w = 0
        · rw [if_pos (show 121 * j + w = 121 * j by omega), if_pos q2]
          rfl
        · rw [if_neg (show ¬ 121 * j + w = 121 * j by omega), if_neg q2, h _ (by omega)]
          rfl
      · rw [if_neg (show ¬ 121 * j + w = 121 * s by omega), if_neg (show ¬ s - 0 ≤ j by omega), h _ (by omega)]
        rfl
  · rintro K i x3 ga hi ⟨rfl, h⟩
    right
    refine ⟨nI (i + 1), upd ga i (-1000000000), ?_, rfl, ?_⟩
    · unfold fX1_findGains_l12
      rw [e_row1, if_neg (nI_ge hi (by omega)), gdN (by omega) (by omega), nI_clamp (by omega), nI_1]
    · intro k hk
      rw [updI_at]
      by_cases q : k = i
      · rw [if_pos q]
      · rw [if_neg q]
        exact h k (by omega)

