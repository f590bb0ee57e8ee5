def bt (b : Nat → Nat) (n i : Nat) : Int32 := if i < n then nI (b i) else -1
def sortV (v : Nat) : Nat := if 97 ≤ v ∧ v ≤ 122 then 1 else if 48 ≤ v ∧ v ≤ 57 then 2 else if v = 59 then 3 else 4
def srt (b : Nat → Nat) (n i : Nat) : Nat := if i < n then sortV (b i) else 0
theorem X_byte {b : Nat → Nat} {n i : Nat} (hn : n ≤ 120) (hi : i ≤ 1000) : fX0_byteAt (toF b) (nI n) (nI i) = some (bt b n i) := by
  unfold fX0_byteAt bt
  rw [if_neg (nI_pos (by omega))]
  by_cases c : i < n
  · rw [if_neg (nI_ge c (by omega)), gdN (by omega) (by omega), nI_clamp (by omega), if_pos c]
    rfl
  · rw [if_pos (nI_le (by omega) (by omega)), if_neg c]
theorem M_byte {b : Nat → Nat} {n i : Nat} (hn : n ≤ 120) (hi : i ≤ 1000) : fX6_byteAt (toF b) (nI n) (nI i) = some (bt b n i) := by
  unfold fX6_byteAt bt
  by_cases c : i < n
  · rw [if_neg (nI_ge c (by omega)), gdN (by omega) (by omega), nI_clamp (by omega), if_pos c]
    rfl
  · rw [if_pos (nI_le (by omega) (by omega)), if_neg c]
set_option maxRecDepth 100000 in
theorem sort_ok : ∀ v, v < 256 → fX0_sortOf (nI v) = nI (sortV v) := by decide +kernel
set_option maxRecDepth 100000 in
theorem let_ok : ∀ v, v < 256 → fX6_isLetter (nI v) = decide (sortV v = 1) := by decide +kernel
set_option maxRecDepth 100000 in
theorem dig_ok : ∀ v, v < 256 → fX6_isDigit (nI v) = decide (sortV v = 2) := by decide +kernel
theorem X_sort {b : Nat → Nat} {n i : Nat} (hb : ∀ k, b k < 256) : fX0_sortOf (bt b n i) = nI (srt b n i) := by
  unfold bt srt
  by_cases c : i < n
  · rw [if_pos c, if_pos c]
    exact sort_ok _ (hb i)
  · rw [if_neg c, if_neg c]
    decide
theorem M_let {b : Nat → Nat} {n i : Nat} (hb : ∀ k, b k < 256) : fX6_isLetter (bt b n i) = decide (srt b n i = 1) := by
  unfold bt srt
  by_cases c : i < n
  · rw [if_pos c, if_pos c]
    exact let_ok _ (hb i)
  · rw [if_neg c, if_neg c]
    decide
theorem M_dig {b : Nat → Nat} {n i : Nat} (hb : ∀ k, b k < 256) : fX6_isDigit (bt b n i) = decide (srt b n i = 2) := by
  unfold bt srt
  by_cases c : i < n
  · rw [if_pos c, if_pos c]
    exact dig_ok _ (hb i)
  · rw [if_neg c, if_neg c]
    decide
def isB (b : Nat → Nat) (n i : Nat) : Bool := decide (i < n ∧ b i = 32)
theorem isB_lt {b : Nat → Nat} {n : Nat} (j : Nat) (h : isB b n j = true) : j < n := (of_decide_eq_true h).1
theorem bl_eq {b : Nat → Nat} {n i : Nat} (hb : ∀ k, b k < 256) : bt b n i = 32 ↔ isB b n i = true := by
  have hbi := hb i
  unfold bt isB
  rw [decide_eq_true_eq]
  by_cases c : i < n
  · rw [if_pos c]
    exact ⟨fun h => ⟨c, (nI_eq (a := b i) (b := 32) (by omega) (by omega)).mp h⟩, fun h => (nI_eq (a := b i) (b := 32) (by omega) (by omega)).mpr h.2⟩
  · rw [if_neg c]
    exact ⟨fun h => absurd h (by decide), fun h => absurd h.1 c⟩
theorem sortV_3 {v : Nat} : sortV v = 3 ↔ v = 59 := by
  unfold sortV
  constructor
  · intro h
    split at h
    · omega
    · split at h
      · omega
      · split at h
        · assumption
        · omega
  · rintro rfl
    rfl
theorem sg_eq {b : Nat → Nat} {n i : Nat} (hb : ∀ k, b k < 256) : bt b n i = 59 ↔ srt b n i = 3 := by
  have hbi := hb i
  unfold bt srt
  by_cases c : i < n
  · rw [if_pos c, if_pos c, sortV_3]
    exact nI_eq (a := b i) (b := 59) (by omega) (by omega)
  · rw [if_neg c, if_neg c]
    exact ⟨fun h => absurd h (by decide), fun h => absurd h (by omega)⟩
theorem srt_le (b : Nat → Nat) (n i : Nat) : srt b n i ≤ 4 := by
  unfold srt sortV
  split
  · split
    · omega
    · split
      · omega
      · split <;> omega
  · omega
theorem srt_lt {b : Nat → Nat} {n i : Nat} (h : srt b n i ≠ 0) : i < n := by
  unfold srt at h
  by_cases c : i < n
  · exact c
  · rw [if_neg c] at h
    exact absurd rfl h
theorem srt_0 {b : Nat → Nat} {n i : Nat} (h : i < n) : srt b n i ≠ 0 := by
  unfold srt sortV
  rw [if_pos h]
  split
  · omega
  · split
    · omega
    · split <;> omega
theorem srt_2 {b : Nat → Nat} {n i : Nat} (h : srt b n i = 2) : i < n ∧ 48 ≤ b i ∧ b i ≤ 57 := by
  have c := srt_lt (show srt b n i ≠ 0 by omega)
  unfold srt sortV at h
  rw [if_pos c] at h
  split at h
  · omega
  · split at h
    · omega
    · split at h <;> omega
def scn (p : Nat → Bool) : Nat → Nat → Nat
  | 0, i => i
  | m + 1, i => if p i = true then scn p m (i + 1) else i
def rn (p : Nat → Bool) (n i : Nat) : Nat := scn p (n - i) i
theorem scn_spec {p : Nat → Bool} : ∀ m i, (∀ j, p j = true → j < i + m) → i ≤ scn p m i ∧ scn p m i ≤ i + m ∧ (∀ j, i ≤ j → j < scn p m i → p j = true) ∧ p (scn p m i) = false
  | 0, i, h => by
    refine ⟨Nat.le_refl i, Nat.le_refl i, fun j h1 h2 => ?_, ?_⟩
    · have : scn p 0 i = i := rfl
      omega
    · show p i = false
      by_cases c : p i = true
      · have := h i c
        omega
      · exact nT c
  | m + 1, i, h => by
    by_cases c : p i = true
    · have e : scn p (m + 1) i = scn p m (i + 1) := if_pos c
      obtain ⟨h1, h2, h3, h4⟩ := scn_spec m (i + 1) (fun j hj => by have := h j hj; omega)
      rw [e]
      refine ⟨by omega, by omega, fun j q1 q2 => ?_, h4⟩
      by_cases z : j = i
      · rw [z]; exact c
      · exact h3 j (by omega) q2
    · have e : scn p (m + 1) i = i := if_neg c
      rw [e]
      exact ⟨Nat.le_refl i, by omega, fun j q1 q2 => absurd q2 (by omega), nT c⟩
theorem rn_spec {p : Nat → Bool} {n i : Nat} (hp : ∀ j, p j = true → j < n) (hi : i ≤ n) : i ≤ rn p n i ∧ rn p n i ≤ n ∧ (∀ j, i ≤ j → j < rn p n i → p j = true) ∧ p (rn p n i) = false := by
  obtain ⟨h1, h2, h3, h4⟩ := scn_spec (p := p) (n - i) i (fun j hj => by have := hp j hj; omega)
  have h2' : scn p (n - i) i ≤ n := by omega
  exact ⟨h1, h2', h3, h4⟩
theorem rn_uq {p : Nat → Bool} {n i e : Nat} (hp : ∀ j, p j = true → j < n) (hi : i ≤ n) (h0 : i ≤ e) (h1 : ∀ j, i ≤ j → j < e → p j = true) (h2 : p e = false) : rn p n i = e := by
  obtain ⟨g1, g2, g3, g4⟩ := rn_spec hp hi
  by_cases c : rn p n i < e
  · have := h1 _ g1 c
    rw [g4] at this
    cases this
  · by_cases d : e < rn p n i
    · have := g3 _ h0 d
      rw [h2] at this
      cases this
    · omega
theorem rn_stop {p : Nat → Bool} {n i : Nat} (hp : ∀ j, p j = true → j < n) (hi : i ≤ n) (h : p i = false) : rn p n i = i := rn_uq hp hi (Nat.le_refl i) (fun j h1 h2 => absurd h2 (by omega)) h
theorem rn_s {p : Nat → Bool} {n i : Nat} (hp : ∀ j, p j = true → j < n) (h : p i = true) : rn p n i = rn p n (i + 1) := by
  have hi := hp i h
  obtain ⟨g1, g2, g3, g4⟩ := rn_spec (i := i + 1) hp (by omega)
  refine rn_uq hp (by omega) (by omega) (fun j h1 h2 => ?_) g4
  by_cases c : j = i
  · rw [c]; exact h
  · exact g3 j (by omega) h2
theorem run1 {ρ : Type} {f : (Int32 → Option ρ) → Int32 → Option ρ} {p : Nat → Bool} {n : Nat} (R : Nat → Option ρ) (hn : n ≤ 120) (hp : ∀ j, p j = true → j < n) (h1 : ∀ K i, i ≤ n → p i = true → f K (nI i) = K (nI (i + 1))) (h2 : ∀ K i, i ≤ n → p i = false → f K (nI i) = R i) {i : Nat} (hi : i ≤ n) : fix1 f 2000 (nI i) = R (rn p n i) := by
  obtain ⟨e1, e2, e3, e4⟩ := rn_spec hp hi
  refine up1 (rn p n i - i) (fun k x => x = nI (i + k)) ?_ ?_ 2000 0 _ (by omega) (by omega) rfl
  · rintro K x rfl
    have e : i + (rn p n i - i) = rn p n i := by omega
    rw [e]
    exact h2 K _ e2 e4
  · rintro K k x hk rfl
    right
    exact ⟨nI (i + (k + 1)), h1 K _ (by omega) (e3 _ (by omega) (by omega)), rfl⟩
def isS (b : Nat → Nat) (n σ i : Nat) : Bool := decide (srt b n i = σ)
theorem isS_lt {b : Nat → Nat} {n σ : Nat} (hσ : 1 ≤ σ) (j : Nat) (h : isS b n σ j = true) : j < n := srt_lt (b := b) (fun z => by have e : srt b n j = σ := of_decide_eq_true h; omega)
def sk (b : Nat → Nat) (n i : Nat) : Nat := rn (isB b n) n i
def en (b : Nat → Nat) (n s : Nat) : Nat := if srt b n s = 0 then s else if srt b n s = 1 ∨ srt b n s = 2 then rn (isS b n (srt b n s)) n s else s + 1
theorem sk_le {b : Nat → Nat} {n i : Nat} (hi : i ≤ n) : i ≤ sk b n i ∧ sk b n i ≤ n := ⟨(rn_spec isB_lt hi).1, (rn_spec isB_lt hi).2.1⟩
theorem sk_sk {b : Nat → Nat} {n i : Nat} (hi : i ≤ n) : sk b n (sk b n i) = sk b n i := rn_stop isB_lt (sk_le hi).2 (rn_spec isB_lt hi).2.2.2
theorem en_le {b : Nat → Nat} {n s : Nat} (hs : s ≤ n) : s ≤ en b n s ∧ en b n s ≤ n := by
  unfold en
  by_cases c : srt b n s = 0
  · rw [if_pos c]
    exact ⟨Nat.le_refl s, hs⟩
  · rw [if_neg c]
    have := srt_lt c
    by_cases d : srt b n s = 1 ∨ srt b n s = 2
    · rw [if_pos d]
      have h := rn_spec (isS_lt (b := b) (n := n) (σ := srt b n s) (by omega)) hs
      exact ⟨h.1, h.2.1⟩
    · rw [if_neg d]
      omega
theorem en_lt {b : Nat → Nat} {n s : Nat} (hs : s < n) : s < en b n s := by
  have c := srt_0 (b := b) hs
  unfold en
  rw [if_neg c]
  by_cases d : srt b n s = 1 ∨ srt b n s = 2
  · rw [if_pos d, rn_s (isS_lt (by omega)) (decide_eq_true rfl)]
    have h := rn_spec (isS_lt (b := b) (n := n) (σ := srt b n s) (by omega)) (show s + 1 ≤ n by omega)
    omega
  · rw [if_neg d]
    omega
theorem X_l103 {b : Nat → Nat} (hb : ∀ k, b k < 256) {n : Nat} (hn : n ≤ 120) {σ i : Nat} (hσ : 1 ≤ σ) (hσ2 : σ ≤ 4) (hi : i ≤ n) (sta : Int32) : fix1 (fX0_step_l103 (toF b) (nI n) sta (nI σ)) 2000 (nI i) = some (sta, nI (rn (isS b n σ) n i), nI σ) := by
  refine run1 (p := isS b n σ) (fun e => some (sta, nI e, nI σ)) hn (isS_lt hσ) ?_ ?_ hi
  · intro K i hi c
    have hlt := isS_lt hσ i c
    unfold fX0_step_l103
    rw [if_neg (nI_ge hlt (by omega)), X_byte hn (by omega), Option.bind_some, X_sort hb, if_pos (by rw [of_decide_eq_true c]), nI_1]
  · intro K i hi c
    unfold fX0_step_l103
    by_cases z : i < n
    · have hs4 := srt_le b n i
      rw [if_neg (nI_ge z (by omega)), X_byte hn (by omega), Option.bind_some, X_sort hb, if_neg (fun q => of_decide_eq_false c ((nI_eq (by omega) (by omega)).mp q))]
    · rw [if_pos (nI_le (by omega) (by omega))]
theorem X_b48 {b : Nat → Nat} (hb : ∀ k, b k < 256) {n : Nat} (hn : n ≤ 120) {s : Nat} (hs : s ≤ n) (beh sor : Int32) : fX0_step_b48 (toF b) (nI n) (nI s) beh sor = some (nI s, nI (en b n s), nI (srt b n s)) := by
  have hs4 := srt_le b n s
  unfold fX0_step_b48
  rw [X_byte hn (by omega), Option.bind_some, X_sort hb]
  unfold fX0_step_b84 en
  by_cases c0 : srt b n s = 0
  · rw [c0, if_pos (show nI 0 = 0 from rfl), if_neg (by decide), if_neg (by decide), if_pos rfl]
  · have hlt := srt_lt c0
    rw [if_neg (nI_ne0 (by omega) (by omega)), if_neg c0]
    by_cases d : srt b n s = 1 ∨ srt b n s = 2
    · rw [if_pos d, nI_1, rn_s (isS_lt (by omega)) (decide_eq_true rfl)]
      have key := X_l103 hb hn (σ := srt b n s) (i := s + 1) (by omega) hs4 (by omega) (nI s)
      by_cases c1 : srt b n s = 1
      · rw [if_pos (show nI (srt b n s) = 1 by rw [c1]; rfl)]
        exact key
      · rw [if_neg (show ¬ nI (srt b n s) = (1 : Int32) from fun z => c1 ((nI_eq (b := 1) (by omega) (by omega)).mp z)), if_pos (show nI (srt b n s) = 2 by rw [show srt b n s = 2 by omega]; rfl)]
        exact key
    · rw [if_neg d, nI_1, if_neg (show ¬ nI (srt b n s) = (1 : Int32) from fun z => d (Or.inl ((nI_eq (b := 1) (by omega) (by omega)).mp z))), if_neg (show ¬ nI (srt b n s) = (2 : Int32) from fun z => d (Or.inr ((nI_eq (b := 2) (by omega) (by omega)).mp z)))]
theorem X_step {b : Nat → Nat} (hb : ∀ k, b k < 256) {n : Nat} (hn : n ≤ 120) {p : Nat} (hp : p ≤ n) (sta sor : Int32) : fX0_step (toF b) (nI n) sta (nI p) sor = some (nI (sk b n p), nI (en b n (sk b n p)), nI (srt b n (sk b n p))) := by
  unfold fX0_step
  refine (run1 (p := isB b n) (fun s => fX0_step_b48 (toF b) (nI n) (nI s) (nI p) sor) hn isB_lt ?_ ?_ hp).trans ?_
  · intro K i hi c
    unfold fX0_step_l8
    have := isB_lt i c
    rw [if_neg (nI_ge this (by omega)), X_byte hn (by omega), Option.bind_some, if_pos ((bl_eq hb).mpr c), nI_1]
  · intro K i hi c
    unfold fX0_step_l8
    by_cases z : i < n
    · rw [if_neg (nI_ge z (by omega)), X_byte hn (by omega), Option.bind_some, if_neg (fun q => by rw [(bl_eq hb).mp q] at c; cases c)]
    · rw [if_pos (nI_le (by omega) (by omega))]
  · exact X_b48 hb hn (sk_le hp).2 _ _
theorem M_blanks {b : Nat → Nat} (hb : ∀ k, b k < 256) {n : Nat} (hn : n ≤ 120) {p : Nat} (hp : p ≤ n) : fX6_blanks (toF b) (nI n) (nI p) = some (nI (sk b n p)) := by
  unfold fX6_blanks
  refine run1 (p := isB b n) (fun s => some (nI s)) hn isB_lt ?_ ?_ hp
  · intro K i hi c
    unfold fX6_blanks_l0
    rw [M_byte hn (by omega), Option.bind_some, if_pos ((bl_eq hb).mpr c), nI_1]
  · intro K i hi c
    unfold fX6_blanks_l0
    rw [M_byte hn (by omega), Option.bind_some, if_neg (fun q => by rw [(bl_eq hb).mp q] at c; cases c)]
theorem M_wordEnd {b : Nat → Nat} (hb : ∀ k, b k < 256) {n : Nat} (hn : n ≤ 120) {s : Nat} (hs : s ≤ n) : fX6_wordEnd (toF b) (nI n) (nI s) = some (nI (rn (isS b n 1) n s)) := by
  unfold fX6_wordEnd
  refine run1 (p := isS b n 1) (fun s => some (nI s)) hn (isS_lt (by omega)) ?_ ?_ hs
  · intro K i hi c
    unfold fX6_wordEnd_l5
    rw [M_byte hn (by omega), Option.bind_some, M_let hb, show decide (srt b n i = 1) = true from c, if0t, nI_1]
  · intro K i hi c
    unfold fX6_wordEnd_l5
    rw [M_byte hn (by omega), Option.bind_some, M_let hb, show decide (srt b n i = 1) = false from c, if0f]
def allN (f : Nat → Bool) : Nat → Bool
  | 0 => true
  | n + 1 => allN f n && f n
theorem allN_f {f : Nat → Bool} {j : Nat} (h : allN f j = false) : ∀ d, allN f (j + d) = false
  | 0 => h
  | d + 1 => by
    show (allN f (j + d) && f (j + d)) = false
    rw [allN_f h d]
    rfl
def tx (b : Nat → Nat) (n s k : Nat) : Bool := decide (rn (isS b n 1) n s = s + strLen.getD k 0) && allN (fun i => decide (bt b n (s + i) = strC k i)) (strLen.getD k 0)
theorem str_len : ∀ k, k < 11 → 2 ≤ strLen.getD k 0 ∧ strLen.getD k 0 ≤ 6 := by decide
theorem tx_en {b : Nat → Nat} {n s k : Nat} (hs : s ≤ n) (hk : k < 11) (h : tx b n s k = true) : srt b n s = 1 ∧ en b n s = s + strLen.getD k 0 := by
  obtain ⟨l1, l2⟩ := str_len k hk
  have e := of_decide_eq_true ((Bool.and_eq_true _ _).mp h).1
  have c : srt b n s = 1 := by
    by_cases c : srt b n s = 1
    · exact c
    · have := rn_stop (isS_lt (b := b) (n := n) (σ := 1) (by omega)) hs (decide_eq_false c)
      omega
  refine ⟨c, ?_⟩
  unfold en
  rw [if_neg (by omega), if_pos (Or.inl c), c]
  exact e
theorem X_isText {b : Nat → Nat} (hb : ∀ k, b k < 256) {n : Nat} (hn : n ≤ 120) {s k : Nat} (hs : s ≤ n) (hk : k < 11) : fX0_isText (toF b) (nI n) (nI s) (nI (en b n s)) (nI (srt b n s)) k = some (tx b n s k) := by
  have hs4 := srt_le b n s
  obtain ⟨l1, l2⟩ := str_len k hk
  unfold fX0_isText
  by_cases c : srt b n s = 1
  · have e : en b n s = rn (isS b n 1) n s := by
      unfold en
      rw [if_neg (by omega), if_pos (Or.inl c), c]
    obtain ⟨g1, g2, -, -⟩ := rn_spec (isS_lt (b := b) (n := n) (σ := 1) (by omega)) hs
    rw [if_pos (show nI (srt b n s) = 1 by rw [c]; rfl), e, pk_sub g1]
    by_cases d : rn (isS b n 1) n s = s + strLen.getD k 0
    · rw [if_pos (by rw [d, Nat.add_sub_cancel_left])]
      unfold tx
      rw [decide_eq_true d, Bool.true_and]
      refine up1 (strLen.getD k 0) (fun i x => x = nI i ∧ allN (fun i => decide (bt b n (s + i) = strC k i)) i = true) ?_ ?_ 2000 0 _ (by omega) (by omega) ⟨rfl, rfl⟩
      · rintro K x ⟨rfl, h⟩
        unfold fX0_isText_l28
        rw [if_pos (nI_le (Nat.le_refl _) (by omega)), h]
      · rintro K i x hi ⟨rfl, h⟩
        have ea : allN (fun i => decide (bt b n (s + i) = strC k i)) (i + 1) = (allN (fun i => decide (bt b n (s + i) = strC k i)) i && decide (bt b n (s + i) = strC k i)) := rfl
        by_cases z : bt b n (s + i) = strC k i
        · right
          refine ⟨nI (i + 1), ?_, rfl, by rw [ea, h, decide_eq_true z]; rfl⟩
          unfold fX0_isText_l28
          rw [if_neg (nI_ge hi (by omega)), nI_add, X_byte hn (by omega), Option.bind_some, gdN hi (by omega), nI_clamp (by omega), if_pos z, nI_1]
        · left
          have ef := allN_f (f := fun i => decide (bt b n (s + i) = strC k i)) (j := i + 1) (by rw [ea, decide_eq_false z, Bool.and_false]) (strLen.getD k 0 - (i + 1))
          rw [show i + 1 + (strLen.getD k 0 - (i + 1)) = strLen.getD k 0 by omega] at ef
          unfold fX0_isText_l28
          rw [if_neg (nI_ge hi (by omega)), nI_add, X_byte hn (by omega), Option.bind_some, gdN hi (by omega), nI_clamp (by omega), if_neg z, ef]
    · rw [if_neg (fun z => d (by have := (nI_eq (by omega) (by omega)).mp z; omega))]
      unfold tx
      rw [decide_eq_false d, Bool.false_and]
  · rw [if_neg (show ¬ nI (srt b n s) = (1 : Int32) from fun z => c ((nI_eq (b := 1) (by omega) (by omega)).mp z))]
    unfold tx
    rw [rn_stop (isS_lt (by omega)) hs (decide_eq_false c), decide_eq_false (by omega), Bool.false_and]
theorem M_isWord {b : Nat → Nat} (hb : ∀ k, b k < 256) {n : Nat} (hn : n ≤ 120) {p s k : Nat} (hp : p ≤ n) (hps : sk b n p = s) (hk : k < 11) : fX6_isWord (toF b) (nI n) (nI p) k = some (tx b n s k, nI s) := by
  have hs : s ≤ n := by have := (sk_le (b := b) hp).2; omega
  obtain ⟨l1, l2⟩ := str_len k hk
  obtain ⟨g1, g2, -, -⟩ := rn_spec (isS_lt (b := b) (n := n) (σ := 1) (by omega)) hs
  have both : ∀ z0 : Bool, fX6_isWord_b25 (toF b) (nI n) (nI s) k z0 = some (z0 && allN (fun i => decide (bt b n (s + i) = strC k i)) (strLen.getD k 0), nI s) := by
    intro z0
    unfold fX6_isWord_b25
    refine up2 (strLen.getD k 0) (fun i x2 x3 => x2 = (z0 && allN (fun i => decide (bt b n (s + i) = strC k i)) i) ∧ x3 = nI i) ?_ ?_ 2000 0 _ _ (by omega) (by omega) ⟨(Bool.and_true z0).symm, rfl⟩
    · rintro K x2 x3 ⟨rfl, rfl⟩
      unfold fX6_isWord_l28
      rw [if_pos (nI_le (Nat.le_refl _) (by omega))]
    · rintro K i x2 x3 hi ⟨rfl, rfl⟩
      have ea : allN (fun i => decide (bt b n (s + i) = strC k i)) (i + 1) = (allN (fun i => decide (bt b n (s + i) = strC k i)) i && decide (bt b n (s + i) = strC k i)) := rfl
      by_cases y : (z0 && allN (fun i => decide (bt b n (s + i) = strC k i)) i) = true
      · right
        refine ⟨_, nI (i + 1), ?_, rfl, rfl⟩
        unfold fX6_isWord_l28 fX6_isWord_b63
        rw [if_neg (nI_ge hi (by omega)), y, if0t, nI_add, M_byte hn (by omega), Option.bind_some, gdN hi (by omega), nI_clamp (by omega), nI_1, ea, ← Bool.and_assoc, y, Bool.true_and]
        by_cases z : bt b n (s + i) = strC k i
        · rw [if_pos z, decide_eq_true z]
        · rw [if_neg z, decide_eq_false z]
      · left
        have y := nT y
        have e2 : (z0 && allN (fun i => decide (bt b n (s + i) = strC k i)) (strLen.getD k 0)) = false := by
          cases z0 with
          | false => rfl
          | true =>
            have ef := allN_f (f := fun i => decide (bt b n (s + i) = strC k i)) (j := i) (by rw [← Bool.true_and (allN _ i)]; exact y) (strLen.getD k 0 - i)
            rw [show i + (strLen.getD k 0 - i) = strLen.getD k 0 by omega] at ef
            rw [ef]
            rfl
        unfold fX6_isWord_l28
        rw [if_neg (nI_ge hi (by omega)), y, if0f, e2]
  unfold fX6_isWord
  rw [M_blanks hb hn hp, Option.bind_some, hps, M_wordEnd hb hn hs, Option.bind_some, pk_sub g1]
  unfold tx
  by_cases d : rn (isS b n 1) n s = s + strLen.getD k 0
  · rw [if_pos (by rw [d, Nat.add_sub_cancel_left]), both, decide_eq_true d]
  · rw [if_neg (fun z => d (by have := (nI_eq (by omega) (by omega)).mp z; omega)), both, decide_eq_false d]
theorem M_may {b : Nat → Nat} (hb : ∀ k, b k < 256) {n : Nat} (hn : n ≤ 120) {p s k : Nat} (hp : p ≤ n) (hps : sk b n p = s) (hk : k < 11) : fX6_may (toF b) (nI n) (nI p) (-1) k = some (tx b n s k, nI (if tx b n s k = true then en b n s else s)) := by
  have hs : s ≤ n := by have := (sk_le (b := b) hp).2; omega
  unfold fX6_may
  rw [if_neg (by decide), M_isWord hb hn hp hps hk, Option.bind_some]
  by_cases c : tx b n s k = true
  · rw [c, if_pos rfl, (tx_en hs hk c).2, if0t]
    unfold fX6_may_b20 fX6_may_b38
    rw [if0t, nI_add]
  · rw [nT c, if_neg Bool.false_ne_true, if0f]
    unfold fX6_may_b19 fX6_may_b20 fX6_may_b38
    rw [if0f, Int32.add_zero]
theorem fails_1 (s : Nat) : fX6_fails (nI s) (-1) = (false, nI s) := by
  unfold fX6_fails fX6_fails_b19
  rw [if_neg (by decide)]
theorem M_must {b : Nat → Nat} (hb : ∀ k, b k < 256) {n : Nat} (hn : n ≤ 120) {p s k : Nat} (hp : p ≤ n) (hps : sk b n p = s) (hk : k < 11) : fX6_must (toF b) (nI n) (nI p) (-1) k = some (if tx b n s k = true then (true, nI (en b n s), -1) else (false, nI s, nI s)) := by
  unfold fX6_must
  rw [M_may hb hn hp hps hk, Option.bind_some]
  by_cases c : tx b n s k = true
  · rw [c, if_pos rfl, if0t, if_pos rfl]
  · rw [nT c, if_neg Bool.false_ne_true, if0f, if_neg Bool.false_ne_true, fails_1, if0f]
def nv (b : Nat → Nat) (s : Nat) : Nat → Nat
  | 0 => 0
  | k + 1 => 10 * nv b s k + (b (s + k) - 48)
def vl (b : Nat → Nat) (n s : Nat) : Nat := nv b s (rn (isS b n 2) n s - s)
def okN (b : Nat → Nat) (n s lo hx : Nat) : Bool := decide (srt b n s = 2) && decide (lo ≤ vl b n s ∧ vl b n s < hx)
theorem okN_of {b : Nat → Nat} {n s lo hx : Nat} (h : okN b n s lo hx = true) : srt b n s = 2 ∧ lo ≤ vl b n s ∧ vl b n s < hx := by
  have h2 := (Bool.and_eq_true _ _).mp h
  exact ⟨of_decide_eq_true h2.1, of_decide_eq_true h2.2⟩
def cap (c v : Nat) : Nat := if v < c then v else c
theorem cap_s {c v d : Nat} : cap c (10 * cap c v + d) = cap c (10 * v + d) := by
  unfold cap
  by_cases h : v < c
  · rw [if_pos h]
  · rw [if_neg h, if_neg (by omega), if_neg (by omega)]
theorem cap_le (c v : Nat) : cap c v ≤ c := by unfold cap; split <;> omega
theorem cap_lt {c v : Nat} (h : v < c) : cap c v = v := if_pos h
theorem cap_r {c v lo hx : Nat} (hc : 100 ≤ c) (hl : lo ≤ 100) (hh : hx ≤ 100) : (lo ≤ cap c v ∧ cap c v < hx) ↔ (lo ≤ v ∧ v < hx) := by
  unfold cap
  by_cases h : v < c
  · rw [if_pos h]
  · rw [if_neg h]
    omega
theorem en_2 {b : Nat → Nat} {n s : Nat} (c : srt b n s = 2) : en b n s = rn (isS b n 2) n s := by
  unfold en
  rw [if_neg (by omega), if_pos (Or.inr c), c]
theorem X_isNumber {b : Nat → Nat} (hb : ∀ k, b k < 256) {n : Nat} (hn : n ≤ 120) {s lo hx : Nat} (hs : s ≤ n) (hl : lo ≤ 100) (hh : hx ≤ 100) {y : Int32} (hy : y.toInt = (hx : Int) - 1) (num : Int32) : ∃ w, fX0_isNumber (toF b) (nI n) (nI s) (nI (en b n s)) (nI (srt b n s)) num (nI lo) y = some (okN b n s lo hx, w) ∧ (okN b n s lo hx = true → w = nI (vl b n s)) := by
  have hs4 := srt_le b n s
  unfold fX0_isNumber
  by_cases c : srt b n s = 2
  · obtain ⟨g1, g2, g3, g4⟩ := rn_spec (isS_lt (b := b) (n := n) (σ := 2) (by omega)) hs
    have hc := cap_le 1000 (vl b n s)
    refine ⟨nI (cap 1000 (vl b n s)), ?_, fun z => by rw [cap_lt (by have := okN_of z; omega)]⟩
    refine up2 (rn (isS b n 2) n s - s) (fun k x3 x4 => x3 = nI (s + k) ∧ x4 = nI (cap 1000 (nv b s k))) ?_ ?_ 2000 0 _ _ (by omega) (by omega) ⟨rfl, rfl⟩
    · rintro K x3 x4 ⟨rfl, rfl⟩
      have e : s + (rn (isS b n 2) n s - s) = rn (isS b n 2) n s := by omega
      have ev : nv b s (rn (isS b n 2) n s - s) = vl b n s := rfl
      unfold fX0_isNumber_l10 fX0_isNumber_b58
      rw [e, ev, en_2 c, if_pos (nI_le (Nat.le_refl _) (by omega)), if_pos (show nI (srt b n s) = 2 by rw [c]; rfl)]
      have ei : fX5_isIn (nI (cap 1000 (vl b n s))) (nI lo) y = decide (lo ≤ vl b n s ∧ vl b n s < hx) := by
        rw [isIn_eq, nI_toInt (by omega), nI_toInt (by omega), hy]
        have := cap_r (c := 1000) (v := vl b n s) (by omega) hl hh
        congr 1
        apply propext
        rw [← this]
        omega
      unfold okN
      rw [ei, decide_eq_true c, Bool.true_and]
      by_cases z : lo ≤ vl b n s ∧ vl b n s < hx
      · rw [decide_eq_true z, if0t]
      · rw [decide_eq_false z, if0f]
    · rintro K k x3 x4 hk ⟨rfl, rfl⟩
      right
      have c2 := srt_2 (of_decide_eq_true (g3 (s + k) (by omega) (by omega)))
      have hck := cap_le 1000 (nv b s k)
      refine ⟨nI (s + (k + 1)), nI (cap 1000 (nv b s (k + 1))), ?_, rfl, rfl⟩
      unfold fX0_isNumber_l10
      rw [en_2 c, if_neg (nI_ge (by omega) (by omega)), if_pos (show nI (srt b n s) = 2 by rw [c]; rfl), X_byte hn (by omega), Option.bind_some, nI_1]
      have e1 : nI (cap 1000 (nv b s k)) * (10 : Int32) + bt b n (s + k) - (48 : Int32) = nI (10 * cap 1000 (nv b s k) + (b (s + k) - 48)) := by
        unfold bt
        rw [if_pos c2.1]
        show nI (cap 1000 (nv b s k)) * nI 10 + nI (b (s + k)) - nI 48 = _
        rw [pk_mul, nI_add, pk_sub (by omega)]
        congr 1
        omega
      rw [e1]
      have e2 : (if nI (10 * cap 1000 (nv b s k) + (b (s + k) - 48)) < (1000 : Int32) then nI (10 * cap 1000 (nv b s k) + (b (s + k) - 48)) else (1000 : Int32)) = nI (cap 1000 (nv b s (k + 1))) := by
        show _ = nI (cap 1000 (10 * nv b s k + (b (s + k) - 48)))
        rw [← cap_s]
        by_cases z : 10 * cap 1000 (nv b s k) + (b (s + k) - 48) < 1000
        · rw [if_pos (show nI (10 * cap 1000 (nv b s k) + (b (s + k) - 48)) < (1000 : Int32) from nI_lt (b := 1000) z (by omega)), cap_lt z]
        · rw [if_neg (show ¬ nI (10 * cap 1000 (nv b s k) + (b (s + k) - 48)) < (1000 : Int32) from nI_nlt (b := 1000) (by omega) (by omega)), show cap 1000 (10 * cap 1000 (nv b s k) + (b (s + k) - 48)) = 1000 from if_neg z]
          rfl
      rw [e2]
      rfl
  · refine ⟨0, ?_, fun z => absurd (okN_of z).1 c⟩
    have ef : okN b n s lo hx = false := by
      unfold okN
      rw [decide_eq_false c, Bool.false_and]
    rw [ef]
    refine up2 0 (fun k x3 x4 => x3 = nI s ∧ x4 = 0) ?_ (fun K i x3 x4 h => absurd h (Nat.not_lt_zero i)) 2000 0 _ _ (by omega) (by omega) ⟨rfl, rfl⟩
    rintro K x3 x4 ⟨rfl, rfl⟩
    have n2 : ¬ nI (srt b n s) = 2 := fun z => c ((nI_eq (b := 2) (by omega) (by omega)).mp z)
    unfold fX0_isNumber_l10 fX0_isNumber_b58
    rw [if_neg n2, if_neg n2]
    by_cases z : nI (en b n s) ≤ nI s
    · rw [if_pos z]
    · rw [if_neg z]
theorem X_stn {b : Nat → Nat} (hb : ∀ k, b k < 256) {n : Nat} (hn : n ≤ 120) {p s lo hx : Nat} (hp : p ≤ n) (hps : sk b n p = s) (hl : lo ≤ 100) (hh : hx ≤ 100) {y : Int32} (hy : y.toInt = (hx : Int) - 1) (sta sor num : Int32) : ∃ w, fX0_stepToNumber (toF b) (nI n) sta (nI p) sor num (nI lo) y = some (okN b n s lo hx, nI s, nI (en b n s), nI (srt b n s), w) ∧ (okN b n s lo hx = true → w = nI (vl b n s)) := by
  have hs : s ≤ n := by have := (sk_le (b := b) hp).2; omega
  obtain ⟨w, e, h⟩ := X_isNumber hb hn hs hl hh hy num
  refine ⟨w, ?_, h⟩
  unfold fX0_stepToNumber
  rw [X_step hb hn hp, Option.bind_some, hps, e, Option.bind_some]
theorem le_ngt (x : Int32) : x ≤ 0 ↔ ¬ 0 < x := by
  rw [Int32.lt_iff_toInt_lt, Int32.le_iff_toInt_le]
  omega
theorem M_number {b : Nat → Nat} (hb : ∀ k, b k < 256) {n : Nat} (hn : n ≤ 120) {p s lo hx : Nat} (hp : p ≤ n) (hps : sk b n p = s) (hl : lo ≤ 100) (hh : hx ≤ 100) {y : Int32} (hy : y.toInt = (hx : Int) - 1) (vlu : Int32) : fX6_number (toF b) (nI n) (nI p) (-1) vlu (nI lo) y = some (if okN b n s lo hx = true then (true, nI (en b n s), -1, nI (vl b n s)) else (false, nI s, nI s, vlu)) := by
  have hs : s ≤ n := by have := (sk_le (b := b) hp).2; omega
  unfold fX6_number
  rw [M_blanks hb hn hp, Option.bind_some, hps, if_neg (by decide), M_byte hn (by omega), Option.bind_some, M_dig hb]
  by_cases c : srt b n s = 2
  · obtain ⟨g1, g2, g3, g4⟩ := rn_spec (isS_lt (b := b) (n := n) (σ := 2) (by omega)) hs
    rw [decide_eq_true c, if0t]
    refine up2 (rn (isS b n 2) n s - s) (fun k x3 x5 => x3 = lN (cap 99999 (nv b s k)) ∧ x5 = nI (s + k)) ?_ ?_ 2000 0 _ _ (by omega) (by omega) ⟨rfl, rfl⟩
    · rintro K x3 x5 ⟨rfl, rfl⟩
      have e : s + (rn (isS b n 2) n s - s) = rn (isS b n 2) n s := by omega
      have ev : nv b s (rn (isS b n 2) n s - s) = vl b n s := rfl
      have hc := cap_le 99999 (vl b n s)
      have hr := cap_r (c := 99999) (v := vl b n s) (lo := lo) (hx := hx) (by omega) hl hh
      unfold fX6_number_l38
      rw [e, ev, M_byte hn (by omega), Option.bind_some, M_dig hb, show decide (srt b n (rn (isS b n 2) n s) = 2) = false from g4, if0f, en_2 c]
      unfold fX6_number_b80 fX6_number_b94
      rw [fails_1, nI_l (by omega)]
      have t1 : lg_cmp (lN (cap 99999 (vl b n s))) (lN lo) < 0 ↔ cap 99999 (vl b n s) < lo := (lgc_lt _ _).trans (lN_lt (by omega) (by omega))
      have t2 : lg_cmp (lN (cap 99999 (vl b n s))) y.toInt64 ≤ 0 ↔ cap 99999 (vl b n s) < hx := by
        rw [le_ngt, lgc_gt, Int64.lt_iff_toInt_lt, Int32.toInt_toInt64, hy, lN_toInt (by omega)]
        omega
      unfold okN
      rw [decide_eq_true c, Bool.true_and]
      by_cases z : lo ≤ vl b n s ∧ vl b n s < hx
      · have z2 := hr.mpr z
        rw [if_neg (fun q => by have := t1.mp q; omega), if_pos (t2.mpr z2.2), decide_eq_true z, if_pos rfl, lN_i, cap_lt (by omega)]
      · rw [decide_eq_false z, if_neg Bool.false_ne_true]
        by_cases q : cap 99999 (vl b n s) < lo
        · rw [if_pos (t1.mpr q)]
        · rw [if_neg (fun w => q (t1.mp w)), if_neg (fun w => z (hr.mp ⟨by omega, t2.mp w⟩))]
    · rintro K k x3 x5 hk ⟨rfl, rfl⟩
      right
      have g := g3 (s + k) (by omega) (by omega)
      have c2 := srt_2 (of_decide_eq_true g)
      have hck := cap_le 99999 (nv b s k)
      refine ⟨lN (cap 99999 (nv b s (k + 1))), nI (s + (k + 1)), ?_, rfl, rfl⟩
      unfold fX6_number_l38
      rw [M_byte hn (by omega), Option.bind_some, M_dig hb, show decide (srt b n (s + k) = 2) = true from g, if0t, Option.bind_some, nI_1]
      have e1 : (10 : Int64) * lN (cap 99999 (nv b s k)) + (bt b n (s + k)).toInt64 - (48 : Int64) = lN (10 * cap 99999 (nv b s k) + (b (s + k) - 48)) := by
        unfold bt
        rw [if_pos c2.1, nI_l (by omega)]
        show lN 10 * lN (cap 99999 (nv b s k)) + lN (b (s + k)) - lN 48 = _
        rw [lN_mul, lN_add, lN_sub (by omega)]
        congr 1
        omega
      rw [e1]
      have e2 : (if lN (10 * cap 99999 (nv b s k) + (b (s + k) - 48)) < (99999 : Int64) then lN (10 * cap 99999 (nv b s k) + (b (s + k) - 48)) else (99999 : Int64)) = lN (cap 99999 (nv b s (k + 1))) := by
        show _ = lN (cap 99999 (10 * nv b s k + (b (s + k) - 48)))
        rw [← cap_s]
        have t3 : lN (10 * cap 99999 (nv b s k) + (b (s + k) - 48)) < (99999 : Int64) ↔ 10 * cap 99999 (nv b s k) + (b (s + k) - 48) < 99999 := lN_lt (b := 99999) (by omega) (by omega)
        by_cases z : 10 * cap 99999 (nv b s k) + (b (s + k) - 48) < 99999
        · rw [if_pos (t3.mpr z), cap_lt z]
        · rw [if_neg (fun q => z (t3.mp q)), show cap 99999 (10 * cap 99999 (nv b s k) + (b (s + k) - 48)) = 99999 from if_neg z]
          rfl
      rw [e2]
      rfl
  · rw [decide_eq_false c, if0f]
    unfold fX6_number_b25
    have ef : okN b n s lo hx = false := by
      unfold okN
      rw [decide_eq_false c, Bool.false_and]
    rw [fails_1, ef, if_neg Bool.false_ne_true]
theorem M_isNumber {b : Nat → Nat} (hb : ∀ k, b k < 256) {n : Nat} (hn : n ≤ 120) {p s : Nat} (hp : p ≤ n) (hps : sk b n p = s) : fX6_isNumber (toF b) (nI n) (nI p) (-1) = some (decide (srt b n s = 2), nI s) := by
  have hs : s ≤ n := by have := (sk_le (b := b) hp).2; omega
  unfold fX6_isNumber
  rw [M_blanks hb hn hp, Option.bind_some, hps, if_neg (by decide), M_byte hn (by omega), Option.bind_some, M_dig hb]
  by_cases c : srt b n s = 2
  · rw [decide_eq_true c, if0t]
  · rw [decide_eq_false c, if0f]

