theorem uq1 {T1 ρ : Type} {f : (T1 → Option ρ) → T1 → Option ρ} (P : Option ρ → Prop) (e : Nat) (Inv : Nat → T1 → Prop) (hx : ∀ (K : T1 → Option ρ) (x1 : T1), Inv e x1 → P (f K x1)) (hs : ∀ (K : T1 → Option ρ) (i : Nat) (x1 : T1), i < e → Inv i x1 → P (f K x1) ∨ ∃ (y1 : T1), f K x1 = K y1 ∧ Inv (i + 1) y1) : ∀ (m i : Nat) (x1 : T1), e - i < m → i ≤ e → Inv i x1 → P (fix1 f m x1) := by
  intro m
  induction m with
  | zero => intro i x1 h; exact absurd h (Nat.not_lt_zero _)
  | succ m ih =>
    intro i x1 h1 h2 hI
    show P (f (fix1 f m) x1)
    by_cases he : i = e
    · subst he
      exact hx _ x1 hI
    · rcases hs (fix1 f m) i x1 (by omega) hI with h | ⟨y1, h, hI2⟩
      · exact h
      · rw [h]
        exact ih (i + 1) y1 (by omega) (by omega) hI2
theorem up1 {T1 ρ : Type} {f : (T1 → Option ρ) → T1 → Option ρ} {R : Option ρ} (e : Nat) (Inv : Nat → T1 → Prop) (hx : ∀ (K : T1 → Option ρ) (x1 : T1), Inv e x1 → f K x1 = R) (hs : ∀ (K : T1 → Option ρ) (i : Nat) (x1 : T1), i < e → Inv i x1 → f K x1 = R ∨ ∃ (y1 : T1), f K x1 = K y1 ∧ Inv (i + 1) y1) : ∀ (m i : Nat) (x1 : T1), e - i < m → i ≤ e → Inv i x1 → fix1 f m x1 = R := uq1 (fun o => o = R) e Inv hx hs
theorem uq2 {T1 T2 ρ : Type} {f : (T1 → T2 → Option ρ) → T1 → T2 → Option ρ} (P : Option ρ → Prop) (e : Nat) (Inv : Nat → T1 → T2 → Prop) (hx : ∀ (K : T1 → T2 → Option ρ) (x1 : T1) (x2 : T2), Inv e x1 x2 → P (f K x1 x2)) (hs : ∀ (K : T1 → T2 → Option ρ) (i : Nat) (x1 : T1) (x2 : T2), i < e → Inv i x1 x2 → P (f K x1 x2) ∨ ∃ (y1 : T1) (y2 : T2), f K x1 x2 = K y1 y2 ∧ Inv (i + 1) y1 y2) : ∀ (m i : Nat) (x1 : T1) (x2 : T2), e - i < m → i ≤ e → Inv i x1 x2 → P (fix2 f m x1 x2) := by
  intro m
  induction m with
  | zero => intro i x1 x2 h; exact absurd h (Nat.not_lt_zero _)
  | succ m ih =>
    intro i x1 x2 h1 h2 hI
    show P (f (fix2 f m) x1 x2)
    by_cases he : i = e
    · subst he
      exact hx _ x1 x2 hI
    · rcases hs (fix2 f m) i x1 x2 (by omega) hI with h | ⟨y1, y2, h, hI2⟩
      · exact h
      · rw [h]
        exact ih (i + 1) y1 y2 (by omega) (by omega) hI2
theorem up2 {T1 T2 ρ : Type} {f : (T1 → T2 → Option ρ) → T1 → T2 → Option ρ} {R : Option ρ} (e : Nat) (Inv : Nat → T1 → T2 → Prop) (hx : ∀ (K : T1 → T2 → Option ρ) (x1 : T1) (x2 : T2), Inv e x1 x2 → f K x1 x2 = R) (hs : ∀ (K : T1 → T2 → Option ρ) (i : Nat) (x1 : T1) (x2 : T2), i < e → Inv i x1 x2 → f K x1 x2 = R ∨ ∃ (y1 : T1) (y2 : T2), f K x1 x2 = K y1 y2 ∧ Inv (i + 1) y1 y2) : ∀ (m i : Nat) (x1 : T1) (x2 : T2), e - i < m → i ≤ e → Inv i x1 x2 → fix2 f m x1 x2 = R := uq2 (fun o => o = R) e Inv hx hs
theorem uq3 {T1 T2 T3 ρ : Type} {f : (T1 → T2 → T3 → Option ρ) → T1 → T2 → T3 → Option ρ} (P : Option ρ → Prop) (e : Nat) (Inv : Nat → T1 → T2 → T3 → Prop) (hx : ∀ (K : T1 → T2 → T3 → Option ρ) (x1 : T1) (x2 : T2) (x3 : T3), Inv e x1 x2 x3 → P (f K x1 x2 x3)) (hs : ∀ (K : T1 → T2 → T3 → Option ρ) (i : Nat) (x1 : T1) (x2 : T2) (x3 : T3), i < e → Inv i x1 x2 x3 → P (f K x1 x2 x3) ∨ ∃ (y1 : T1) (y2 : T2) (y3 : T3), f K x1 x2 x3 = K y1 y2 y3 ∧ Inv (i + 1) y1 y2 y3) : ∀ (m i : Nat) (x1 : T1) (x2 : T2) (x3 : T3), e - i < m → i ≤ e → Inv i x1 x2 x3 → P (fix3 f m x1 x2 x3) := by
  intro m
  induction m with
  | zero => intro i x1 x2 x3 h; exact absurd h (Nat.not_lt_zero _)
  | succ m ih =>
    intro i x1 x2 x3 h1 h2 hI
    show P (f (fix3 f m) x1 x2 x3)
    by_cases he : i = e
    · subst he
      exact hx _ x1 x2 x3 hI
    · rcases hs (fix3 f m) i x1 x2 x3 (by omega) hI with h | ⟨y1, y2, y3, h, hI2⟩
      · exact h
      · rw [h]
        exact ih (i + 1) y1 y2 y3 (by omega) (by omega) hI2
theorem up3 {T1 T2 T3 ρ : Type} {f : (T1 → T2 → T3 → Option ρ) → T1 → T2 → T3 → Option ρ} {R : Option ρ} (e : Nat) (Inv : Nat → T1 → T2 → T3 → Prop) (hx : ∀ (K : T1 → T2 → T3 → Option ρ) (x1 : T1) (x2 : T2) (x3 : T3), Inv e x1 x2 x3 → f K x1 x2 x3 = R) (hs : ∀ (K : T1 → T2 → T3 → Option ρ) (i : Nat) (x1 : T1) (x2 : T2) (x3 : T3), i < e → Inv i x1 x2 x3 → f K x1 x2 x3 = R ∨ ∃ (y1 : T1) (y2 : T2) (y3 : T3), f K x1 x2 x3 = K y1 y2 y3 ∧ Inv (i + 1) y1 y2 y3) : ∀ (m i : Nat) (x1 : T1) (x2 : T2) (x3 : T3), e - i < m → i ≤ e → Inv i x1 x2 x3 → fix3 f m x1 x2 x3 = R := uq3 (fun o => o = R) e Inv hx hs
theorem uq4 {T1 T2 T3 T4 ρ : Type} {f : (T1 → T2 → T3 → T4 → Option ρ) → T1 → T2 → T3 → T4 → Option ρ} (P : Option ρ → Prop) (e : Nat) (Inv : Nat → T1 → T2 → T3 → T4 → Prop) (hx : ∀ (K : T1 → T2 → T3 → T4 → Option ρ) (x1 : T1) (x2 : T2) (x3 : T3) (x4 : T4), Inv e x1 x2 x3 x4 → P (f K x1 x2 x3 x4)) (hs : ∀ (K : T1 → T2 → T3 → T4 → Option ρ) (i : Nat) (x1 : T1) (x2 : T2) (x3 : T3) (x4 : T4), i < e → Inv i x1 x2 x3 x4 → P (f K x1 x2 x3 x4) ∨ ∃ (y1 : T1) (y2 : T2) (y3 : T3) (y4 : T4), f K x1 x2 x3 x4 = K y1 y2 y3 y4 ∧ Inv (i + 1) y1 y2 y3 y4) : ∀ (m i : Nat) (x1 : T1) (x2 : T2) (x3 : T3) (x4 : T4), e - i < m → i ≤ e → Inv i x1 x2 x3 x4 → P (fix4 f m x1 x2 x3 x4) := by
  intro m
  induction m with
  | zero => intro i x1 x2 x3 x4 h; exact absurd h (Nat.not_lt_zero _)
  | succ m ih =>
    intro i x1 x2 x3 x4 h1 h2 hI
    show P (f (fix4 f m) x1 x2 x3 x4)
    by_cases he : i = e
    · subst he
      exact hx _ x1 x2 x3 x4 hI
    · rcases hs (fix4 f m) i x1 x2 x3 x4 (by omega) hI with h | ⟨y1, y2, y3, y4, h, hI2⟩
      · exact h
      · rw [h]
        exact ih (i + 1) y1 y2 y3 y4 (by omega) (by omega) hI2
theorem up4 {T1 T2 T3 T4 ρ : Type} {f : (T1 → T2 → T3 → T4 → Option ρ) → T1 → T2 → T3 → T4 → Option ρ} {R : Option ρ} (e : Nat) (Inv : Nat → T1 → T2 → T3 → T4 → Prop) (hx : ∀ (K : T1 → T2 → T3 → T4 → Option ρ) (x1 : T1) (x2 : T2) (x3 : T3) (x4 : T4), Inv e x1 x2 x3 x4 → f K x1 x2 x3 x4 = R) (hs : ∀ (K : T1 → T2 → T3 → T4 → Option ρ) (i : Nat) (x1 : T1) (x2 : T2) (x3 : T3) (x4 : T4), i < e → Inv i x1 x2 x3 x4 → f K x1 x2 x3 x4 = R ∨ ∃ (y1 : T1) (y2 : T2) (y3 : T3) (y4 : T4), f K x1 x2 x3 x4 = K y1 y2 y3 y4 ∧ Inv (i + 1) y1 y2 y3 y4) : ∀ (m i : Nat) (x1 : T1) (x2 : T2) (x3 : T3) (x4 : T4), e - i < m → i ≤ e → Inv i x1 x2 x3 x4 → fix4 f m x1 x2 x3 x4 = R := uq4 (fun o => o = R) e Inv hx hs
theorem uq5 {T1 T2 T3 T4 T5 ρ : Type} {f : (T1 → T2 → T3 → T4 → T5 → Option ρ) → T1 → T2 → T3 → T4 → T5 → Option ρ} (P : Option ρ → Prop) (e : Nat) (Inv : Nat → T1 → T2 → T3 → T4 → T5 → Prop) (hx : ∀ (K : T1 → T2 → T3 → T4 → T5 → Option ρ) (x1 : T1) (x2 : T2) (x3 : T3) (x4 : T4) (x5 : T5), Inv e x1 x2 x3 x4 x5 → P (f K x1 x2 x3 x4 x5)) (hs : ∀ (K : T1 → T2 → T3 → T4 → T5 → Option ρ) (i : Nat) (x1 : T1) (x2 : T2) (x3 : T3) (x4 : T4) (x5 : T5), i < e → Inv i x1 x2 x3 x4 x5 → P (f K x1 x2 x3 x4 x5) ∨ ∃ (y1 : T1) (y2 : T2) (y3 : T3) (y4 : T4) (y5 : T5), f K x1 x2 x3 x4 x5 = K y1 y2 y3 y4 y5 ∧ Inv (i + 1) y1 y2 y3 y4 y5) : ∀ (m i : Nat) (x1 : T1) (x2 : T2) (x3 : T3) (x4 : T4) (x5 : T5), e - i < m → i ≤ e → Inv i x1 x2 x3 x4 x5 → P (fix5 f m x1 x2 x3 x4 x5) := by
  intro m
  induction m with
  | zero => intro i x1 x2 x3 x4 x5 h; exact absurd h (Nat.not_lt_zero _)
  | succ m ih =>
    intro i x1 x2 x3 x4 x5 h1 h2 hI
    show P (f (fix5 f m) x1 x2 x3 x4 x5)
    by_cases he : i = e
    · subst he
      exact hx _ x1 x2 x3 x4 x5 hI
    · rcases hs (fix5 f m) i x1 x2 x3 x4 x5 (by omega) hI with h | ⟨y1, y2, y3, y4, y5, h, hI2⟩
      · exact h
      · rw [h]
        exact ih (i + 1) y1 y2 y3 y4 y5 (by omega) (by omega) hI2
theorem up5 {T1 T2 T3 T4 T5 ρ : Type} {f : (T1 → T2 → T3 → T4 → T5 → Option ρ) → T1 → T2 → T3 → T4 → T5 → Option ρ} {R : Option ρ} (e : Nat) (Inv : Nat → T1 → T2 → T3 → T4 → T5 → Prop) (hx : ∀ (K : T1 → T2 → T3 → T4 → T5 → Option ρ) (x1 : T1) (x2 : T2) (x3 : T3) (x4 : T4) (x5 : T5), Inv e x1 x2 x3 x4 x5 → f K x1 x2 x3 x4 x5 = R) (hs : ∀ (K : T1 → T2 → T3 → T4 → T5 → Option ρ) (i : Nat) (x1 : T1) (x2 : T2) (x3 : T3) (x4 : T4) (x5 : T5), i < e → Inv i x1 x2 x3 x4 x5 → f K x1 x2 x3 x4 x5 = R ∨ ∃ (y1 : T1) (y2 : T2) (y3 : T3) (y4 : T4) (y5 : T5), f K x1 x2 x3 x4 x5 = K y1 y2 y3 y4 y5 ∧ Inv (i + 1) y1 y2 y3 y4 y5) : ∀ (m i : Nat) (x1 : T1) (x2 : T2) (x3 : T3) (x4 : T4) (x5 : T5), e - i < m → i ≤ e → Inv i x1 x2 x3 x4 x5 → fix5 f m x1 x2 x3 x4 x5 = R := uq5 (fun o => o = R) e Inv hx hs
theorem uq6 {T1 T2 T3 T4 T5 T6 ρ : Type} {f : (T1 → T2 → T3 → T4 → T5 → T6 → Option ρ) → T1 → T2 → T3 → T4 → T5 → T6 → Option ρ} (P : Option ρ → Prop) (e : Nat) (Inv : Nat → T1 → T2 → T3 → T4 → T5 → T6 → Prop) (hx : ∀ (K : T1 → T2 → T3 → T4 → T5 → T6 → Option ρ) (x1 : T1) (x2 : T2) (x3 : T3) (x4 : T4) (x5 : T5) (x6 : T6), Inv e x1 x2 x3 x4 x5 x6 → P (f K x1 x2 x3 x4 x5 x6)) (hs : ∀ (K : T1 → T2 → T3 → T4 → T5 → T6 → Option ρ) (i : Nat) (x1 : T1) (x2 : T2) (x3 : T3) (x4 : T4) (x5 : T5) (x6 : T6), i < e → Inv i x1 x2 x3 x4 x5 x6 → P (f K x1 x2 x3 x4 x5 x6) ∨ ∃ (y1 : T1) (y2 : T2) (y3 : T3) (y4 : T4) (y5 : T5) (y6 : T6), f K x1 x2 x3 x4 x5 x6 = K y1 y2 y3 y4 y5 y6 ∧ Inv (i + 1) y1 y2 y3 y4 y5 y6) : ∀ (m i : Nat) (x1 : T1) (x2 : T2) (x3 : T3) (x4 : T4) (x5 : T5) (x6 : T6), e - i < m → i ≤ e → Inv i x1 x2 x3 x4 x5 x6 → P (fix6 f m x1 x2 x3 x4 x5 x6) := by
  intro m
  induction m with
  | zero => intro i x1 x2 x3 x4 x5 x6 h; exact absurd h (Nat.not_lt_zero _)
  | succ m ih =>
    intro i x1 x2 x3 x4 x5 x6 h1 h2 hI
    show P (f (fix6 f m) x1 x2 x3 x4 x5 x6)
    by_cases he : i = e
    · subst he
      exact hx _ x1 x2 x3 x4 x5 x6 hI
    · rcases hs (fix6 f m) i x1 x2 x3 x4 x5 x6 (by omega) hI with h | ⟨y1, y2, y3, y4, y5, y6, h, hI2⟩
      · exact h
      · rw [h]
        exact ih (i + 1) y1 y2 y3 y4 y5 y6 (by omega) (by omega) hI2
theorem up6 {T1 T2 T3 T4 T5 T6 ρ : Type} {f : (T1 → T2 → T3 → T4 → T5 → T6 → Option ρ) → T1 → T2 → T3 → T4 → T5 → T6 → Option ρ} {R : Option ρ} (e : Nat) (Inv : Nat → T1 → T2 → T3 → T4 → T5 → T6 → Prop) (hx : ∀ (K : T1 → T2 → T3 → T4 → T5 → T6 → Option ρ) (x1 : T1) (x2 : T2) (x3 : T3) (x4 : T4) (x5 : T5) (x6 : T6), Inv e x1 x2 x3 x4 x5 x6 → f K x1 x2 x3 x4 x5 x6 = R) (hs : ∀ (K : T1 → T2 → T3 → T4 → T5 → T6 → Option ρ) (i : Nat) (x1 : T1) (x2 : T2) (x3 : T3) (x4 : T4) (x5 : T5) (x6 : T6), i < e → Inv i x1 x2 x3 x4 x5 x6 → f K x1 x2 x3 x4 x5 x6 = R ∨ ∃ (y1 : T1) (y2 : T2) (y3 : T3) (y4 : T4) (y5 : T5) (y6 : T6), f K x1 x2 x3 x4 x5 x6 = K y1 y2 y3 y4 y5 y6 ∧ Inv (i + 1) y1 y2 y3 y4 y5 y6) : ∀ (m i : Nat) (x1 : T1) (x2 : T2) (x3 : T3) (x4 : T4) (x5 : T5) (x6 : T6), e - i < m → i ≤ e → Inv i x1 x2 x3 x4 x5 x6 → fix6 f m x1 x2 x3 x4 x5 x6 = R := uq6 (fun o => o = R) e Inv hx hs
theorem uq7 {T1 T2 T3 T4 T5 T6 T7 ρ : Type} {f : (T1 → T2 → T3 → T4 → T5 → T6 → T7 → Option ρ) → T1 → T2 → T3 → T4 → T5 → T6 → T7 → Option ρ} (P : Option ρ → Prop) (e : Nat) (Inv : Nat → T1 → T2 → T3 → T4 → T5 → T6 → T7 → Prop) (hx : ∀ (K : T1 → T2 → T3 → T4 → T5 → T6 → T7 → Option ρ) (x1 : T1) (x2 : T2) (x3 : T3) (x4 : T4) (x5 : T5) (x6 : T6) (x7 : T7), Inv e x1 x2 x3 x4 x5 x6 x7 → P (f K x1 x2 x3 x4 x5 x6 x7)) (hs : ∀ (K : T1 → T2 → T3 → T4 → T5 → T6 → T7 → Option ρ) (i : Nat) (x1 : T1) (x2 : T2) (x3 : T3) (x4 : T4) (x5 : T5) (x6 : T6) (x7 : T7), i < e → Inv i x1 x2 x3 x4 x5 x6 x7 → P (f K x1 x2 x3 x4 x5 x6 x7) ∨ ∃ (y1 : T1) (y2 : T2) (y3 : T3) (y4 : T4) (y5 : T5) (y6 : T6) (y7 : T7), f K x1 x2 x3 x4 x5 x6 x7 = K y1 y2 y3 y4 y5 y6 y7 ∧ Inv (i + 1) y1 y2 y3 y4 y5 y6 y7) : ∀ (m i : Nat) (x1 : T1) (x2 : T2) (x3 : T3) (x4 : T4) (x5 : T5) (x6 : T6) (x7 : T7), e - i < m → i ≤ e → Inv i x1 x2 x3 x4 x5 x6 x7 → P (fix7 f m x1 x2 x3 x4 x5 x6 x7) := by
  intro m
  induction m with
  | zero => intro i x1 x2 x3 x4 x5 x6 x7 h; exact absurd h (Nat.not_lt_zero _)
  | succ m ih =>
    intro i x1 x2 x3 x4 x5 x6 x7 h1 h2 hI
    show P (f (fix7 f m) x1 x2 x3 x4 x5 x6 x7)
    by_cases he : i = e
    · subst he
      exact hx _ x1 x2 x3 x4 x5 x6 x7 hI
    · rcases hs (fix7 f m) i x1 x2 x3 x4 x5 x6 x7 (by omega) hI with h | ⟨y1, y2, y3, y4, y5, y6, y7, h, hI2⟩
      · exact h
      · rw [h]
        exact ih (i + 1) y1 y2 y3 y4 y5 y6 y7 (by omega) (by omega) hI2
theorem up7 {T1 T2 T3 T4 T5 T6 T7 ρ : Type} {f : (T1 → T2 → T3 → T4 → T5 → T6 → T7 → Option ρ) → T1 → T2 → T3 → T4 → T5 → T6 → T7 → Option ρ} {R : Option ρ} (e : Nat) (Inv : Nat → T1 → T2 → T3 → T4 → T5 → T6 → T7 → Prop) (hx : ∀ (K : T1 → T2 → T3 → T4 → T5 → T6 → T7 → Option ρ) (x1 : T1) (x2 : T2) (x3 : T3) (x4 : T4) (x5 : T5) (x6 : T6) (x7 : T7), Inv e x1 x2 x3 x4 x5 x6 x7 → f K x1 x2 x3 x4 x5 x6 x7 = R) (hs : ∀ (K : T1 → T2 → T3 → T4 → T5 → T6 → T7 → Option ρ) (i : Nat) (x1 : T1) (x2 : T2) (x3 : T3) (x4 : T4) (x5 : T5) (x6 : T6) (x7 : T7), i < e → Inv i x1 x2 x3 x4 x5 x6 x7 → f K x1 x2 x3 x4 x5 x6 x7 = R ∨ ∃ (y1 : T1) (y2 : T2) (y3 : T3) (y4 : T4) (y5 : T5) (y6 : T6) (y7 : T7), f K x1 x2 x3 x4 x5 x6 x7 = K y1 y2 y3 y4 y5 y6 y7 ∧ Inv (i + 1) y1 y2 y3 y4 y5 y6 y7) : ∀ (m i : Nat) (x1 : T1) (x2 : T2) (x3 : T3) (x4 : T4) (x5 : T5) (x6 : T6) (x7 : T7), e - i < m → i ≤ e → Inv i x1 x2 x3 x4 x5 x6 x7 → fix7 f m x1 x2 x3 x4 x5 x6 x7 = R := uq7 (fun o => o = R) e Inv hx hs
theorem uq8 {T1 T2 T3 T4 T5 T6 T7 T8 ρ : Type} {f : (T1 → T2 → T3 → T4 → T5 → T6 → T7 → T8 → Option ρ) → T1 → T2 → T3 → T4 → T5 → T6 → T7 → T8 → Option ρ} (P : Option ρ → Prop) (e : Nat) (Inv : Nat → T1 → T2 → T3 → T4 → T5 → T6 → T7 → T8 → Prop) (hx : ∀ (K : T1 → T2 → T3 → T4 → T5 → T6 → T7 → T8 → Option ρ) (x1 : T1) (x2 : T2) (x3 : T3) (x4 : T4) (x5 : T5) (x6 : T6) (x7 : T7) (x8 : T8), Inv e x1 x2 x3 x4 x5 x6 x7 x8 → P (f K x1 x2 x3 x4 x5 x6 x7 x8)) (hs : ∀ (K : T1 → T2 → T3 → T4 → T5 → T6 → T7 → T8 → Option ρ) (i : Nat) (x1 : T1) (x2 : T2) (x3 : T3) (x4 : T4) (x5 : T5) (x6 : T6) (x7 : T7) (x8 : T8), i < e → Inv i x1 x2 x3 x4 x5 x6 x7 x8 → P (f K x1 x2 x3 x4 x5 x6 x7 x8) ∨ ∃ (y1 : T1) (y2 : T2) (y3 : T3) (y4 : T4) (y5 : T5) (y6 : T6) (y7 : T7) (y8 : T8), f K x1 x2 x3 x4 x5 x6 x7 x8 = K y1 y2 y3 y4 y5 y6 y7 y8 ∧ Inv (i + 1) y1 y2 y3 y4 y5 y6 y7 y8) : ∀ (m i : Nat) (x1 : T1) (x2 : T2) (x3 : T3) (x4 : T4) (x5 : T5) (x6 : T6) (x7 : T7) (x8 : T8), e - i < m → i ≤ e → Inv i x1 x2 x3 x4 x5 x6 x7 x8 → P (fix8 f m x1 x2 x3 x4 x5 x6 x7 x8) := by
  intro m
  induction m with
  | zero => intro i x1 x2 x3 x4 x5 x6 x7 x8 h; exact absurd h (Nat.not_lt_zero _)
  | succ m ih =>
    intro i x1 x2 x3 x4 x5 x6 x7 x8 h1 h2 hI
    show P (f (fix8 f m) x1 x2 x3 x4 x5 x6 x7 x8)
    by_cases he : i = e
    · subst he
      exact hx _ x1 x2 x3 x4 x5 x6 x7 x8 hI
    · rcases hs (fix8 f m) i x1 x2 x3 x4 x5 x6 x7 x8 (by omega) hI with h | ⟨y1, y2, y3, y4, y5, y6, y7, y8, h, hI2⟩
      · exact h
      · rw [h]
        exact ih (i + 1) y1 y2 y3 y4 y5 y6 y7 y8 (by omega) (by omega) hI2
theorem up8 {T1 T2 T3 T4 T5 T6 T7 T8 ρ : Type} {f : (T1 → T2 → T3 → T4 → T5 → T6 → T7 → T8 → Option ρ) → T1 → T2 → T3 → T4 → T5 → T6 → T7 → T8 → Option ρ} {R : Option ρ} (e : Nat) (Inv : Nat → T1 → T2 → T3 → T4 → T5 → T6 → T7 → T8 → Prop) (hx : ∀ (K : T1 → T2 → T3 → T4 → T5 → T6 → T7 → T8 → Option ρ) (x1 : T1) (x2 : T2) (x3 : T3) (x4 : T4) (x5 : T5) (x6 : T6) (x7 : T7) (x8 : T8), Inv e x1 x2 x3 x4 x5 x6 x7 x8 → f K x1 x2 x3 x4 x5 x6 x7 x8 = R) (hs : ∀ (K : T1 → T2 → T3 → T4 → T5 → T6 → T7 → T8 → Option ρ) (i : Nat) (x1 : T1) (x2 : T2) (x3 : T3) (x4 : T4) (x5 : T5) (x6 : T6) (x7 : T7) (x8 : T8), i < e → Inv i x1 x2 x3 x4 x5 x6 x7 x8 → f K x1 x2 x3 x4 x5 x6 x7 x8 = R ∨ ∃ (y1 : T1) (y2 : T2) (y3 : T3) (y4 : T4) (y5 : T5) (y6 : T6) (y7 : T7) (y8 : T8), f K x1 x2 x3 x4 x5 x6 x7 x8 = K y1 y2 y3 y4 y5 y6 y7 y8 ∧ Inv (i + 1) y1 y2 y3 y4 y5 y6 y7 y8) : ∀ (m i : Nat) (x1 : T1) (x2 : T2) (x3 : T3) (x4 : T4) (x5 : T5) (x6 : T6) (x7 : T7) (x8 : T8), e - i < m → i ≤ e → Inv i x1 x2 x3 x4 x5 x6 x7 x8 → fix8 f m x1 x2 x3 x4 x5 x6 x7 x8 = R := uq8 (fun o => o = R) e Inv hx hs
theorem uq9 {T1 T2 T3 T4 T5 T6 T7 T8 T9 ρ : Type} {f : (T1 → T2 → T3 → T4 → T5 → T6 → T7 → T8 → T9 → Option ρ) → T1 → T2 → T3 → T4 → T5 → T6 → T7 → T8 → T9 → Option ρ} (P : Option ρ → Prop) (e : Nat) (Inv : Nat → T1 → T2 → T3 → T4 → T5 → T6 → T7 → T8 → T9 → Prop) (hx : ∀ (K : T1 → T2 → T3 → T4 → T5 → T6 → T7 → T8 → T9 → Option ρ) (x1 : T1) (x2 : T2) (x3 : T3) (x4 : T4) (x5 : T5) (x6 : T6) (x7 : T7) (x8 : T8) (x9 : T9), Inv e x1 x2 x3 x4 x5 x6 x7 x8 x9 → P (f K x1 x2 x3 x4 x5 x6 x7 x8 x9)) (hs : ∀ (K : T1 → T2 → T3 → T4 → T5 → T6 → T7 → T8 → T9 → Option ρ) (i : Nat) (x1 : T1) (x2 : T2) (x3 : T3) (x4 : T4) (x5 : T5) (x6 : T6) (x7 : T7) (x8 : T8) (x9 : T9), i < e → Inv i x1 x2 x3 x4 x5 x6 x7 x8 x9 → P (f K x1 x2 x3 x4 x5 x6 x7 x8 x9) ∨ ∃ (y1 : T1) (y2 : T2) (y3 : T3) (y4 : T4) (y5 : T5) (y6 : T6) (y7 : T7) (y8 : T8) (y9 : T9), f K x1 x2 x3 x4 x5 x6 x7 x8 x9 = K y1 y2 y3 y4 y5 y6 y7 y8 y9 ∧ Inv (i + 1) y1 y2 y3 y4 y5 y6 y7 y8 y9) : ∀ (m i : Nat) (x1 : T1) (x2 : T2) (x3 : T3) (x4 : T4) (x5 : T5) (x6 : T6) (x7 : T7) (x8 : T8) (x9 : T9), e - i < m → i ≤ e → Inv i x1 x2 x3 x4 x5 x6 x7 x8 x9 → P (fix9 f m x1 x2 x3 x4 x5 x6 x7 x8 x9) := by
  intro m
  induction m with
  | zero => intro i x1 x2 x3 x4 x5 x6 x7 x8 x9 h; exact absurd h (Nat.not_lt_zero _)
  | succ m ih =>
    intro i x1 x2 x3 x4 x5 x6 x7 x8 x9 h1 h2 hI
    show P (f (fix9 f m) x1 x2 x3 x4 x5 x6 x7 x8 x9)
    by_cases he : i = e
    · subst he
      exact hx _ x1 x2 x3 x4 x5 x6 x7 x8 x9 hI
    · rcases hs (fix9 f m) i x1 x2 x3 x4 x5 x6 x7 x8 x9 (by omega) hI with h | ⟨y1, y2, y3, y4, y5, y6, y7, y8, y9, h, hI2⟩
      · exact h
      · rw [h]
        exact ih (i + 1) y1 y2 y3 y4 y5 y6 y7 y8 y9 (by omega) (by omega) hI2
theorem up9 {T1 T2 T3 T4 T5 T6 T7 T8 T9 ρ : Type} {f : (T1 → T2 → T3 → T4 → T5 → T6 → T7 → T8 → T9 → Option ρ) → T1 → T2 → T3 → T4 → T5 → T6 → T7 → T8 → T9 → Option ρ} {R : Option ρ} (e : Nat) (Inv : Nat → T1 → T2 → T3 → T4 → T5 → T6 → T7 → T8 → T9 → Prop) (hx : ∀ (K : T1 → T2 → T3 → T4 → T5 → T6 → T7 → T8 → T9 → Option ρ) (x1 : T1) (x2 : T2) (x3 : T3) (x4 : T4) (x5 : T5) (x6 : T6) (x7 : T7) (x8 : T8) (x9 : T9), Inv e x1 x2 x3 x4 x5 x6 x7 x8 x9 → f K x1 x2 x3 x4 x5 x6 x7 x8 x9 = R) (hs : ∀ (K : T1 → T2 → T3 → T4 → T5 → T6 → T7 → T8 → T9 → Option ρ) (i : Nat) (x1 : T1) (x2 : T2) (x3 : T3) (x4 : T4) (x5 : T5) (x6 : T6) (x7 : T7) (x8 : T8) (x9 : T9), i < e → Inv i x1 x2 x3 x4 x5 x6 x7 x8 x9 → f K x1 x2 x3 x4 x5 x6 x7 x8 x9 = R ∨ ∃ (y1 : T1) (y2 : T2) (y3 : T3) (y4 : T4) (y5 : T5) (y6 : T6) (y7 : T7) (y8 : T8) (y9 : T9), f K x1 x2 x3 x4 x5 x6 x7 x8 x9 = K y1 y2 y3 y4 y5 y6 y7 y8 y9 ∧ Inv (i + 1) y1 y2 y3 y4 y5 y6 y7 y8 y9) : ∀ (m i : Nat) (x1 : T1) (x2 : T2) (x3 : T3) (x4 : T4) (x5 : T5) (x6 : T6) (x7 : T7) (x8 : T8) (x9 : T9), e - i < m → i ≤ e → Inv i x1 x2 x3 x4 x5 x6 x7 x8 x9 → fix9 f m x1 x2 x3 x4 x5 x6 x7 x8 x9 = R := uq9 (fun o => o = R) e Inv hx hs
theorem uq10 {T1 T2 T3 T4 T5 T6 T7 T8 T9 T10 ρ : Type} {f : (T1 → T2 → T3 → T4 → T5 → T6 → T7 → T8 → T9 → T10 → Option ρ) → T1 → T2 → T3 → T4 → T5 → T6 → T7 → T8 → T9 → T10 → Option ρ} (P : Option ρ → Prop) (e : Nat) (Inv : Nat → T1 → T2 → T3 → T4 → T5 → T6 → T7 → T8 → T9 → T10 → Prop) (hx : ∀ (K : T1 → T2 → T3 → T4 → T5 → T6 → T7 → T8 → T9 → T10 → Option ρ) (x1 : T1) (x2 : T2) (x3 : T3) (x4 : T4) (x5 : T5) (x6 : T6) (x7 : T7) (x8 : T8) (x9 : T9) (x10 : T10), Inv e x1 x2 x3 x4 x5 x6 x7 x8 x9 x10 → P (f K x1 x2 x3 x4 x5 x6 x7 x8 x9 x10)) (hs : ∀ (K : T1 → T2 → T3 → T4 → T5 → T6 → T7 → T8 → T9 → T10 → Option ρ) (i : Nat) (x1 : T1) (x2 : T2) (x3 : T3) (x4 : T4) (x5 : T5) (x6 : T6) (x7 : T7) (x8 : T8) (x9 : T9) (x10 : T10), i < e → Inv i x1 x2 x3 x4 x5 x6 x7 x8 x9 x10 → P (f K x1 x2 x3 x4 x5 x6 x7 x8 x9 x10) ∨ ∃ (y1 : T1) (y2 : T2) (y3 : T3) (y4 : T4) (y5 : T5) (y6 : T6) (y7 : T7) (y8 : T8) (y9 : T9) (y10 : T10), f K x1 x2 x3 x4 x5 x6 x7 x8 x9 x10 = K y1 y2 y3 y4 y5 y6 y7 y8 y9 y10 ∧ Inv (i + 1) y1 y2 y3 y4 y5 y6 y7 y8 y9 y10) : ∀ (m i : Nat) (x1 : T1) (x2 : T2) (x3 : T3) (x4 : T4) (x5 : T5) (x6 : T6) (x7 : T7) (x8 : T8) (x9 : T9) (x10 : T10), e - i < m → i ≤ e → Inv i x1 x2 x3 x4 x5 x6 x7 x8 x9 x10 → P (fix10 f m x1 x2 x3 x4 x5 x6 x7 x8 x9 x10) := by
  intro m
  induction m with
  | zero => intro i x1 x2 x3 x4 x5 x6 x7 x8 x9 x10 h; exact absurd h (Nat.not_lt_zero _)
  | succ m ih =>
    intro i x1 x2 x3 x4 x5 x6 x7 x8 x9 x10 h1 h2 hI
    show P (f (fix10 f m) x1 x2 x3 x4 x5 x6 x7 x8 x9 x10)
    by_cases he : i = e
    · subst he
      exact hx _ x1 x2 x3 x4 x5 x6 x7 x8 x9 x10 hI
    · rcases hs (fix10 f m) i x1 x2 x3 x4 x5 x6 x7 x8 x9 x10 (by omega) hI with h | ⟨y1, y2, y3, y4, y5, y6, y7, y8, y9, y10, h, hI2⟩
      · exact h
      · rw [h]
        exact ih (i + 1) y1 y2 y3 y4 y5 y6 y7 y8 y9 y10 (by omega) (by omega) hI2
theorem up10 {T1 T2 T3 T4 T5 T6 T7 T8 T9 T10 ρ : Type} {f : (T1 → T2 → T3 → T4 → T5 → T6 → T7 → T8 → T9 → T10 → Option ρ) → T1 → T2 → T3 → T4 → T5 → T6 → T7 → T8 → T9 → T10 → Option ρ} {R : Option ρ} (e : Nat) (Inv : Nat → T1 → T2 → T3 → T4 → T5 → T6 → T7 → T8 → T9 → T10 → Prop) (hx : ∀ (K : T1 → T2 → T3 → T4 → T5 → T6 → T7 → T8 → T9 → T10 → Option ρ) (x1 : T1) (x2 : T2) (x3 : T3) (x4 : T4) (x5 : T5) (x6 : T6) (x7 : T7) (x8 : T8) (x9 : T9) (x10 : T10), Inv e x1 x2 x3 x4 x5 x6 x7 x8 x9 x10 → f K x1 x2 x3 x4 x5 x6 x7 x8 x9 x10 = R) (hs : ∀ (K : T1 → T2 → T3 → T4 → T5 → T6 → T7 → T8 → T9 → T10 → Option ρ) (i : Nat) (x1 : T1) (x2 : T2) (x3 : T3) (x4 : T4) (x5 : T5) (x6 : T6) (x7 : T7) (x8 : T8) (x9 : T9) (x10 : T10), i < e → Inv i x1 x2 x3 x4 x5 x6 x7 x8 x9 x10 → f K x1 x2 x3 x4 x5 x6 x7 x8 x9 x10 = R ∨ ∃ (y1 : T1) (y2 : T2) (y3 : T3) (y4 : T4) (y5 : T5) (y6 : T6) (y7 : T7) (y8 : T8) (y9 : T9) (y10 : T10), f K x1 x2 x3 x4 x5 x6 x7 x8 x9 x10 = K y1 y2 y3 y4 y5 y6 y7 y8 y9 y10 ∧ Inv (i + 1) y1 y2 y3 y4 y5 y6 y7 y8 y9 y10) : ∀ (m i : Nat) (x1 : T1) (x2 : T2) (x3 : T3) (x4 : T4) (x5 : T5) (x6 : T6) (x7 : T7) (x8 : T8) (x9 : T9) (x10 : T10), e - i < m → i ≤ e → Inv i x1 x2 x3 x4 x5 x6 x7 x8 x9 x10 → fix10 f m x1 x2 x3 x4 x5 x6 x7 x8 x9 x10 = R := uq10 (fun o => o = R) e Inv hx hs
theorem uq11 {T1 T2 T3 T4 T5 T6 T7 T8 T9 T10 T11 ρ : Type} {f : (T1 → T2 → T3 → T4 → T5 → T6 → T7 → T8 → T9 → T10 → T11 → Option ρ) → T1 → T2 → T3 → T4 → T5 → T6 → T7 → T8 → T9 → T10 → T11 → Option ρ} (P : Option ρ → Prop) (e : Nat) (Inv : Nat → T1 → T2 → T3 → T4 → T5 → T6 → T7 → T8 → T9 → T10 → T11 → Prop) (hx : ∀ (K : T1 → T2 → T3 → T4 → T5 → T6 → T7 → T8 → T9 → T10 → T11 → Option ρ) (x1 : T1) (x2 : T2) (x3 : T3) (x4 : T4) (x5 : T5) (x6 : T6) (x7 : T7) (x8 : T8) (x9 : T9) (x10 : T10) (x11 : T11), Inv e x1 x2 x3 x4 x5 x6 x7 x8 x9 x10 x11 → P (f K x1 x2 x3 x4 x5 x6 x7 x8 x9 x10 x11)) (hs : ∀ (K : T1 → T2 → T3 → T4 → T5 → T6 → T7 → T8 → T9 → T10 → T11 → Option ρ) (i : Nat) (x1 : T1) (x2 : T2) (x3 : T3) (x4 : T4) (x5 : T5) (x6 : T6) (x7 : T7) (x8 : T8) (x9 : T9) (x10 : T10) (x11 : T11), i < e → Inv i x1 x2 x3 x4 x5 x6 x7 x8 x9 x10 x11 → P (f K x1 x2 x3 x4 x5 x6 x7 x8 x9 x10 x11) ∨ ∃ (y1 : T1) (y2 : T2) (y3 : T3) (y4 : T4) (y5 : T5) (y6 : T6) (y7 : T7) (y8 : T8) (y9 : T9) (y10 : T10) (y11 : T11), f K x1 x2 x3 x4 x5 x6 x7 x8 x9 x10 x11 = K y1 y2 y3 y4 y5 y6 y7 y8 y9 y10 y11 ∧ Inv (i + 1) y1 y2 y3 y4 y5 y6 y7 y8 y9 y10 y11) : ∀ (m i : Nat) (x1 : T1) (x2 : T2) (x3 : T3) (x4 : T4) (x5 : T5) (x6 : T6) (x7 : T7) (x8 : T8) (x9 : T9) (x10 : T10) (x11 : T11), e - i < m → i ≤ e → Inv i x1 x2 x3 x4 x5 x6 x7 x8 x9 x10 x11 → P (fix11 f m x1 x2 x3 x4 x5 x6 x7 x8 x9 x10 x11) := by
  intro m
  induction m with
  | zero => intro i x1 x2 x3 x4 x5 x6 x7 x8 x9 x10 x11 h; exact absurd h (Nat.not_lt_zero _)
  | succ m ih =>
    intro i x1 x2 x3 x4 x5 x6 x7 x8 x9 x10 x11 h1 h2 hI
    show P (f (fix11 f m) x1 x2 x3 x4 x5 x6 x7 x8 x9 x10 x11)
    by_cases he : i = e
    · subst he
      exact hx _ x1 x2 x3 x4 x5 x6 x7 x8 x9 x10 x11 hI
    · rcases hs (fix11 f m) i x1 x2 x3 x4 x5 x6 x7 x8 x9 x10 x11 (by omega) hI with h | ⟨y1, y2, y3, y4, y5, y6, y7, y8, y9, y10, y11, h, hI2⟩
      · exact h
      · rw [h]
        exact ih (i + 1) y1 y2 y3 y4 y5 y6 y7 y8 y9 y10 y11 (by omega) (by omega) hI2
theorem up11 {T1 T2 T3 T4 T5 T6 T7 T8 T9 T10 T11 ρ : Type} {f : (T1 → T2 → T3 → T4 → T5 → T6 → T7 → T8 → T9 → T10 → T11 → Option ρ) → T1 → T2 → T3 → T4 → T5 → T6 → T7 → T8 → T9 → T10 → T11 → Option ρ} {R : Option ρ} (e : Nat) (Inv : Nat → T1 → T2 → T3 → T4 → T5 → T6 → T7 → T8 → T9 → T10 → T11 → Prop) (hx : ∀ (K : T1 → T2 → T3 → T4 → T5 → T6 → T7 → T8 → T9 → T10 → T11 → Option ρ) (x1 : T1) (x2 : T2) (x3 : T3) (x4 : T4) (x5 : T5) (x6 : T6) (x7 : T7) (x8 : T8) (x9 : T9) (x10 : T10) (x11 : T11), Inv e x1 x2 x3 x4 x5 x6 x7 x8 x9 x10 x11 → f K x1 x2 x3 x4 x5 x6 x7 x8 x9 x10 x11 = R) (hs : ∀ (K : T1 → T2 → T3 → T4 → T5 → T6 → T7 → T8 → T9 → T10 → T11 → Option ρ) (i : Nat) (x1 : T1) (x2 : T2) (x3 : T3) (x4 : T4) (x5 : T5) (x6 : T6) (x7 : T7) (x8 : T8) (x9 : T9) (x10 : T10) (x11 : T11), i < e → Inv i x1 x2 x3 x4 x5 x6 x7 x8 x9 x10 x11 → f K x1 x2 x3 x4 x5 x6 x7 x8 x9 x10 x11 = R ∨ ∃ (y1 : T1) (y2 : T2) (y3 : T3) (y4 : T4) (y5 : T5) (y6 : T6) (y7 : T7) (y8 : T8) (y9 : T9) (y10 : T10) (y11 : T11), f K x1 x2 x3 x4 x5 x6 x7 x8 x9 x10 x11 = K y1 y2 y3 y4 y5 y6 y7 y8 y9 y10 y11 ∧ Inv (i + 1) y1 y2 y3 y4 y5 y6 y7 y8 y9 y10 y11) : ∀ (m i : Nat) (x1 : T1) (x2 : T2) (x3 : T3) (x4 : T4) (x5 : T5) (x6 : T6) (x7 : T7) (x8 : T8) (x9 : T9) (x10 : T10) (x11 : T11), e - i < m → i ≤ e → Inv i x1 x2 x3 x4 x5 x6 x7 x8 x9 x10 x11 → fix11 f m x1 x2 x3 x4 x5 x6 x7 x8 x9 x10 x11 = R := uq11 (fun o => o = R) e Inv hx hs
theorem uq12 {T1 T2 T3 T4 T5 T6 T7 T8 T9 T10 T11 T12 ρ : Type} {f : (T1 → T2 → T3 → T4 → T5 → T6 → T7 → T8 → T9 → T10 → T11 → T12 → Option ρ) → T1 → T2 → T3 → T4 → T5 → T6 → T7 → T8 → T9 → T10 → T11 → T12 → Option ρ} (P : Option ρ → Prop) (e : Nat) (Inv : Nat → T1 → T2 → T3 → T4 → T5 → T6 → T7 → T8 → T9 → T10 → T11 → T12 → Prop) (hx : ∀ (K : T1 → T2 → T3 → T4 → T5 → T6 → T7 → T8 → T9 → T10 → T11 → T12 → Option ρ) (x1 : T1) (x2 : T2) (x3 : T3) (x4 : T4) (x5 : T5) (x6 : T6) (x7 : T7) (x8 : T8) (x9 : T9) (x10 : T10) (x11 : T11) (x12 : T12), Inv e x1 x2 x3 x4 x5 x6 x7 x8 x9 x10 x11 x12 → P (f K x1 x2 x3 x4 x5 x6 x7 x8 x9 x10 x11 x12)) (hs : ∀ (K : T1 → T2 → T3 → T4 → T5 → T6 → T7 → T8 → T9 → T10 → T11 → T12 → Option ρ) (i : Nat) (x1 : T1) (x2 : T2) (x3 : T3) (x4 : T4) (x5 : T5) (x6 : T6) (x7 : T7) (x8 : T8) (x9 : T9) (x10 : T10) (x11 : T11) (x12 : T12), i < e → Inv i x1 x2 x3 x4 x5 x6 x7 x8 x9 x10 x11 x12 → P (f K x1 x2 x3 x4 x5 x6 x7 x8 x9 x10 x11 x12) ∨ ∃ (y1 : T1) (y2 : T2) (y3 : T3) (y4 : T4) (y5 : T5) (y6 : T6) (y7 : T7) (y8 : T8) (y9 : T9) (y10 : T10) (y11 : T11) (y12 : T12), f K x1 x2 x3 x4 x5 x6 x7 x8 x9 x10 x11 x12 = K y1 y2 y3 y4 y5 y6 y7 y8 y9 y10 y11 y12 ∧ Inv (i + 1) y1 y2 y3 y4 y5 y6 y7 y8 y9 y10 y11 y12) : ∀ (m i : Nat) (x1 : T1) (x2 : T2) (x3 : T3) (x4 : T4) (x5 : T5) (x6 : T6) (x7 : T7) (x8 : T8) (x9 : T9) (x10 : T10) (x11 : T11) (x12 : T12), e - i < m → i ≤ e → Inv i x1 x2 x3 x4 x5 x6 x7 x8 x9 x10 x11 x12 → P (fix12 f m x1 x2 x3 x4 x5 x6 x7 x8 x9 x10 x11 x12) := by
  intro m
  induction m with
  | zero => intro i x1 x2 x3 x4 x5 x6 x7 x8 x9 x10 x11 x12 h; exact absurd h (Nat.not_lt_zero _)
  | succ m ih =>
    intro i x1 x2 x3 x4 x5 x6 x7 x8 x9 x10 x11 x12 h1 h2 hI
    show P (f (fix12 f m) x1 x2 x3 x4 x5 x6 x7 x8 x9 x10 x11 x12)
    by_cases he : i = e
    · subst he
      exact hx _ x1 x2 x3 x4 x5 x6 x7 x8 x9 x10 x11 x12 hI
    · rcases hs (fix12 f m) i x1 x2 x3 x4 x5 x6 x7 x8 x9 x10 x11 x12 (by omega) hI with h | ⟨y1, y2, y3, y4, y5, y6, y7, y8, y9, y10, y11, y12, h, hI2⟩
      · exact h
      · rw [h]
        exact ih (i + 1) y1 y2 y3 y4 y5 y6 y7 y8 y9 y10 y11 y12 (by omega) (by omega) hI2
theorem up12 {T1 T2 T3 T4 T5 T6 T7 T8 T9 T10 T11 T12 ρ : Type} {f : (T1 → T2 → T3 → T4 → T5 → T6 → T7 → T8 → T9 → T10 → T11 → T12 → Option ρ) → T1 → T2 → T3 → T4 → T5 → T6 → T7 → T8 → T9 → T10 → T11 → T12 → Option ρ} {R : Option ρ} (e : Nat) (Inv : Nat → T1 → T2 → T3 → T4 → T5 → T6 → T7 → T8 → T9 → T10 → T11 → T12 → Prop) (hx : ∀ (K : T1 → T2 → T3 → T4 → T5 → T6 → T7 → T8 → T9 → T10 → T11 → T12 → Option ρ) (x1 : T1) (x2 : T2) (x3 : T3) (x4 : T4) (x5 : T5) (x6 : T6) (x7 : T7) (x8 : T8) (x9 : T9) (x10 : T10) (x11 : T11) (x12 : T12), Inv e x1 x2 x3 x4 x5 x6 x7 x8 x9 x10 x11 x12 → f K x1 x2 x3 x4 x5 x6 x7 x8 x9 x10 x11 x12 = R) (hs : ∀ (K : T1 → T2 → T3 → T4 → T5 → T6 → T7 → T8 → T9 → T10 → T11 → T12 → Option ρ) (i : Nat) (x1 : T1) (x2 : T2) (x3 : T3) (x4 : T4) (x5 : T5) (x6 : T6) (x7 : T7) (x8 : T8) (x9 : T9) (x10 : T10) (x11 : T11) (x12 : T12), i < e → Inv i x1 x2 x3 x4 x5 x6 x7 x8 x9 x10 x11 x12 → f K x1 x2 x3 x4 x5 x6 x7 x8 x9 x10 x11 x12 = R ∨ ∃ (y1 : T1) (y2 : T2) (y3 : T3) (y4 : T4) (y5 : T5) (y6 : T6) (y7 : T7) (y8 : T8) (y9 : T9) (y10 : T10) (y11 : T11) (y12 : T12), f K x1 x2 x3 x4 x5 x6 x7 x8 x9 x10 x11 x12 = K y1 y2 y3 y4 y5 y6 y7 y8 y9 y10 y11 y12 ∧ Inv (i + 1) y1 y2 y3 y4 y5 y6 y7 y8 y9 y10 y11 y12) : ∀ (m i : Nat) (x1 : T1) (x2 : T2) (x3 : T3) (x4 : T4) (x5 : T5) (x6 : T6) (x7 : T7) (x8 : T8) (x9 : T9) (x10 : T10) (x11 : T11) (x12 : T12), e - i < m → i ≤ e → Inv i x1 x2 x3 x4 x5 x6 x7 x8 x9 x10 x11 x12 → fix12 f m x1 x2 x3 x4 x5 x6 x7 x8 x9 x10 x11 x12 = R := uq12 (fun o => o = R) e Inv hx hs
theorem uq13 {T1 T2 T3 T4 T5 T6 T7 T8 T9 T10 T11 T12 T13 ρ : Type} {f : (T1 → T2 → T3 → T4 → T5 → T6 → T7 → T8 → T9 → T10 → T11 → T12 → T13 → Option ρ) → T1 → T2 → T3 → T4 → T5 → T6 → T7 → T8 → T9 → T10 → T11 → T12 → T13 → Option ρ} (P : Option ρ → Prop) (e : Nat) (Inv : Nat → T1 → T2 → T3 → T4 → T5 → T6 → T7 → T8 → T9 → T10 → T11 → T12 → T13 → Prop) (hx : ∀ (K : T1 → T2 → T3 → T4 → T5 → T6 → T7 → T8 → T9 → T10 → T11 → T12 → T13 → Option ρ) (x1 : T1) (x2 : T2) (x3 : T3) (x4 : T4) (x5 : T5) (x6 : T6) (x7 : T7) (x8 : T8) (x9 : T9) (x10 : T10) (x11 : T11) (x12 : T12) (x13 : T13), Inv e x1 x2 x3 x4 x5 x6 x7 x8 x9 x10 x11 x12 x13 → P (f K x1 x2 x3 x4 x5 x6 x7 x8 x9 x10 x11 x12 x13)) (hs : ∀ (K : T1 → T2 → T3 → T4 → T5 → T6 → T7 → T8 → T9 → T10 → T11 → T12 → T13 → Option ρ) (i : Nat) (x1 : T1) (x2 : T2) (x3 : T3) (x4 : T4) (x5 : T5) (x6 : T6) (x7 : T7) (x8 : T8) (x9 : T9) (x10 : T10) (x11 : T11) (x12 : T12) (x13 : T13), i < e → Inv i x1 x2 x3 x4 x5 x6 x7 x8 x9 x10 x11 x12 x13 → P (f K x1 x2 x3 x4 x5 x6 x7 x8 x9 x10 x11 x12 x13) ∨ ∃ (y1 : T1) (y2 : T2) (y3 : T3) (y4 : T4) (y5 : T5) (y6 : T6) (y7 : T7) (y8 : T8) (y9 : T9) (y10 : T10) (y11 : T11) (y12 : T12) (y13 : T13), f K x1 x2 x3 x4 x5 x6 x7 x8 x9 x10 x11 x12 x13 = K y1 y2 y3 y4 y5 y6 y7 y8 y9 y10 y11 y12 y13 ∧ Inv (i + 1) y1 y2 y3 y4 y5 y6 y7 y8 y9 y10 y11 y12 y13) : ∀ (m i : Nat) (x1 : T1) (x2 : T2) (x3 : T3) (x4 : T4) (x5 : T5) (x6 : T6) (x7 : T7) (x8 : T8) (x9 : T9) (x10 : T10) (x11 : T11) (x12 : T12) (x13 : T13), e - i < m → i ≤ e → Inv i x1 x2 x3 x4 x5 x6 x7 x8 x9 x10 x11 x12 x13 → P (fix13 f m x1 x2 x3 x4 x5 x6 x7 x8 x9 x10 x11 x12 x13) := by
  intro m
  induction m with
  | zero => intro i x1 x2 x3 x4 x5 x6 x7 x8 x9 x10 x11 x12 x13 h; exact absurd h (Nat.not_lt_zero _)
  | succ m ih =>
    intro i x1 x2 x3 x4 x5 x6 x7 x8 x9 x10 x11 x12 x13 h1 h2 hI
    show P (f (fix13 f m) x1 x2 x3 x4 x5 x6 x7 x8 x9 x10 x11 x12 x13)
    by_cases he : i = e
    · subst he
      exact hx _ x1 x2 x3 x4 x5 x6 x7 x8 x9 x10 x11 x12 x13 hI
    · rcases hs (fix13 f m) i x1 x2 x3 x4 x5 x6 x7 x8 x9 x10 x11 x12 x13 (by omega) hI with h | ⟨y1, y2, y3, y4, y5, y6, y7, y8, y9, y10, y11, y12, y13, h, hI2⟩
      · exact h
      · rw [h]
        exact ih (i + 1) y1 y2 y3 y4 y5 y6 y7 y8 y9 y10 y11 y12 y13 (by omega) (by omega) hI2
theorem up13 {T1 T2 T3 T4 T5 T6 T7 T8 T9 T10 T11 T12 T13 ρ : Type} {f : (T1 → T2 → T3 → T4 → T5 → T6 → T7 → T8 → T9 → T10 → T11 → T12 → T13 → Option ρ) → T1 → T2 → T3 → T4 → T5 → T6 → T7 → T8 → T9 → T10 → T11 → T12 → T13 → Option ρ} {R : Option ρ} (e : Nat) (Inv : Nat → T1 → T2 → T3 → T4 → T5 → T6 → T7 → T8 → T9 → T10 → T11 → T12 → T13 → Prop) (hx : ∀ (K : T1 → T2 → T3 → T4 → T5 → T6 → T7 → T8 → T9 → T10 → T11 → T12 → T13 → Option ρ) (x1 : T1) (x2 : T2) (x3 : T3) (x4 : T4) (x5 : T5) (x6 : T6) (x7 : T7) (x8 : T8) (x9 : T9) (x10 : T10) (x11 : T11) (x12 : T12) (x13 : T13), Inv e x1 x2 x3 x4 x5 x6 x7 x8 x9 x10 x11 x12 x13 → f K x1 x2 x3 x4 x5 x6 x7 x8 x9 x10 x11 x12 x13 = R) (hs : ∀ (K : T1 → T2 → T3 → T4 → T5 → T6 → T7 → T8 → T9 → T10 → T11 → T12 → T13 → Option ρ) (i : Nat) (x1 : T1) (x2 : T2) (x3 : T3) (x4 : T4) (x5 : T5) (x6 : T6) (x7 : T7) (x8 : T8) (x9 : T9) (x10 : T10) (x11 : T11) (x12 : T12) (x13 : T13), i < e → Inv i x1 x2 x3 x4 x5 x6 x7 x8 x9 x10 x11 x12 x13 → f K x1 x2 x3 x4 x5 x6 x7 x8 x9 x10 x11 x12 x13 = R ∨ ∃ (y1 : T1) (y2 : T2) (y3 : T3) (y4 : T4) (y5 : T5) (y6 : T6) (y7 : T7) (y8 : T8) (y9 : T9) (y10 : T10) (y11 : T11) (y12 : T12) (y13 : T13), f K x1 x2 x3 x4 x5 x6 x7 x8 x9 x10 x11 x12 x13 = K y1 y2 y3 y4 y5 y6 y7 y8 y9 y10 y11 y12 y13 ∧ Inv (i + 1) y1 y2 y3 y4 y5 y6 y7 y8 y9 y10 y11 y12 y13) : ∀ (m i : Nat) (x1 : T1) (x2 : T2) (x3 : T3) (x4 : T4) (x5 : T5) (x6 : T6) (x7 : T7) (x8 : T8) (x9 : T9) (x10 : T10) (x11 : T11) (x12 : T12) (x13 : T13), e - i < m → i ≤ e → Inv i x1 x2 x3 x4 x5 x6 x7 x8 x9 x10 x11 x12 x13 → fix13 f m x1 x2 x3 x4 x5 x6 x7 x8 x9 x10 x11 x12 x13 = R := uq13 (fun o => o = R) e Inv hx hs
theorem uq14 {T1 T2 T3 T4 T5 T6 T7 T8 T9 T10 T11 T12 T13 T14 ρ : Type} {f : (T1 → T2 → T3 → T4 → T5 → T6 → T7 → T8 → T9 → T10 → T11 → T12 → T13 → T14 → Option ρ) → T1 → T2 → T3 → T4 → T5 → T6 → T7 → T8 → T9 → T10 → T11 → T12 → T13 → T14 → Option ρ} (P : Option ρ → Prop) (e : Nat) (Inv : Nat → T1 → T2 → T3 → T4 → T5 → T6 → T7 → T8 → T9 → T10 → T11 → T12 → T13 → T14 → Prop) (hx : ∀ (K : T1 → T2 → T3 → T4 → T5 → T6 → T7 → T8 → T9 → T10 → T11 → T12 → T13 → T14 → Option ρ) (x1 : T1) (x2 : T2) (x3 : T3) (x4 : T4) (x5 : T5) (x6 : T6) (x7 : T7) (x8 : T8) (x9 : T9) (x10 : T10) (x11 : T11) (x12 : T12) (x13 : T13) (x14 : T14), Inv e x1 x2 x3 x4 x5 x6 x7 x8 x9 x10 x11 x12 x13 x14 → P (f K x1 x2 x3 x4 x5 x6 x7 x8 x9 x10 x11 x12 x13 x14)) (hs : ∀ (K : T1 → T2 → T3 → T4 → T5 → T6 → T7 → T8 → T9 → T10 → T11 → T12 → T13 → T14 → Option ρ) (i : Nat) (x1 : T1) (x2 : T2) (x3 : T3) (x4 : T4) (x5 : T5) (x6 : T6) (x7 : T7) (x8 : T8) (x9 : T9) (x10 : T10) (x11 : T11) (x12 : T12) (x13 : T13) (x14 : T14), i < e → Inv i x1 x2 x3 x4 x5 x6 x7 x8 x9 x10 x11 x12 x13 x14 → P (f K x1 x2 x3 x4 x5 x6 x7 x8 x9 x10 x11 x12 x13 x14) ∨ ∃ (y1 : T1) (y2 : T2) (y3 : T3) (y4 : T4) (y5 : T5) (y6 : T6) (y7 : T7) (y8 : T8) (y9 : T9) (y10 : T10) (y11 : T11) (y12 : T12) (y13 : T13) (y14 : T14), f K x1 x2 x3 x4 x5 x6 x7 x8 x9 x10 x11 x12 x13 x14 = K y1 y2 y3 y4 y5 y6 y7 y8 y9 y10 y11 y12 y13 y14 ∧ Inv (i + 1) y1 y2 y3 y4 y5 y6 y7 y8 y9 y10 y11 y12 y13 y14) : ∀ (m i : Nat) (x1 : T1) (x2 : T2) (x3 : T3) (x4 : T4) (x5 : T5) (x6 : T6) (x7 : T7) (x8 : T8) (x9 : T9) (x10 : T10) (x11 : T11) (x12 : T12) (x13 : T13) (x14 : T14), e - i < m → i ≤ e → Inv i x1 x2 x3 x4 x5 x6 x7 x8 x9 x10 x11 x12 x13 x14 → P (fix14 f m x1 x2 x3 x4 x5 x6 x7 x8 x9 x10 x11 x12 x13 x14) := by
  intro m
  induction m with
  | zero => intro i x1 x2 x3 x4 x5 x6 x7 x8 x9 x10 x11 x12 x13 x14 h; exact absurd h (Nat.not_lt_zero _)
  | succ m ih =>
    intro i x1 x2 x3 x4 x5 x6 x7 x8 x9 x10 x11 x12 x13 x14 h1 h2 hI
    show P (f (fix14 f m) x1 x2 x3 x4 x5 x6 x7 x8 x9 x10 x11 x12 x13 x14)
    by_cases he : i = e
    · subst he
      exact hx _ x1 x2 x3 x4 x5 x6 x7 x8 x9 x10 x11 x12 x13 x14 hI
    · rcases hs (fix14 f m) i x1 x2 x3 x4 x5 x6 x7 x8 x9 x10 x11 x12 x13 x14 (by omega) hI with h | ⟨y1, y2, y3, y4, y5, y6, y7, y8, y9, y10, y11, y12, y13, y14, h, hI2⟩
      · exact h
      · rw [h]
        exact ih (i + 1) y1 y2 y3 y4 y5 y6 y7 y8 y9 y10 y11 y12 y13 y14 (by omega) (by omega) hI2
theorem up14 {T1 T2 T3 T4 T5 T6 T7 T8 T9 T10 T11 T12 T13 T14 ρ : Type} {f : (T1 → T2 → T3 → T4 → T5 → T6 → T7 → T8 → T9 → T10 → T11 → T12 → T13 → T14 → Option ρ) → T1 → T2 → T3 → T4 → T5 → T6 → T7 → T8 → T9 → T10 → T11 → T12 → T13 → T14 → Option ρ} {R : Option ρ} (e : Nat) (Inv : Nat → T1 → T2 → T3 → T4 → T5 → T6 → T7 → T8 → T9 → T10 → T11 → T12 → T13 → T14 → Prop) (hx : ∀ (K : T1 → T2 → T3 → T4 → T5 → T6 → T7 → T8 → T9 → T10 → T11 → T12 → T13 → T14 → Option ρ) (x1 : T1) (x2 : T2) (x3 : T3) (x4 : T4) (x5 : T5) (x6 : T6) (x7 : T7) (x8 : T8) (x9 : T9) (x10 : T10) (x11 : T11) (x12 : T12) (x13 : T13) (x14 : T14), Inv e x1 x2 x3 x4 x5 x6 x7 x8 x9 x10 x11 x12 x13 x14 → f K x1 x2 x3 x4 x5 x6 x7 x8 x9 x10 x11 x12 x13 x14 = R) (hs : ∀ (K : T1 → T2 → T3 → T4 → T5 → T6 → T7 → T8 → T9 → T10 → T11 → T12 → T13 → T14 → Option ρ) (i : Nat) (x1 : T1) (x2 : T2) (x3 : T3) (x4 : T4) (x5 : T5) (x6 : T6) (x7 : T7) (x8 : T8) (x9 : T9) (x10 : T10) (x11 : T11) (x12 : T12) (x13 : T13) (x14 : T14), i < e → Inv i x1 x2 x3 x4 x5 x6 x7 x8 x9 x10 x11 x12 x13 x14 → f K x1 x2 x3 x4 x5 x6 x7 x8 x9 x10 x11 x12 x13 x14 = R ∨ ∃ (y1 : T1) (y2 : T2) (y3 : T3) (y4 : T4) (y5 : T5) (y6 : T6) (y7 : T7) (y8 : T8) (y9 : T9) (y10 : T10) (y11 : T11) (y12 : T12) (y13 : T13) (y14 : T14), f K x1 x2 x3 x4 x5 x6 x7 x8 x9 x10 x11 x12 x13 x14 = K y1 y2 y3 y4 y5 y6 y7 y8 y9 y10 y11 y12 y13 y14 ∧ Inv (i + 1) y1 y2 y3 y4 y5 y6 y7 y8 y9 y10 y11 y12 y13 y14) : ∀ (m i : Nat) (x1 : T1) (x2 : T2) (x3 : T3) (x4 : T4) (x5 : T5) (x6 : T6) (x7 : T7) (x8 : T8) (x9 : T9) (x10 : T10) (x11 : T11) (x12 : T12) (x13 : T13) (x14 : T14), e - i < m → i ≤ e → Inv i x1 x2 x3 x4 x5 x6 x7 x8 x9 x10 x11 x12 x13 x14 → fix14 f m x1 x2 x3 x4 x5 x6 x7 x8 x9 x10 x11 x12 x13 x14 = R := uq14 (fun o => o = R) e Inv hx hs
theorem uq15 {T1 T2 T3 T4 T5 T6 T7 T8 T9 T10 T11 T12 T13 T14 T15 ρ : Type} {f : (T1 → T2 → T3 → T4 → T5 → T6 → T7 → T8 → T9 → T10 → T11 → T12 → T13 → T14 → T15 → Option ρ) → T1 → T2 → T3 → T4 → T5 → T6 → T7 → T8 → T9 → T10 → T11 → T12 → T13 → T14 → T15 → Option ρ} (P : Option ρ → Prop) (e : Nat) (Inv : Nat → T1 → T2 → T3 → T4 → T5 → T6 → T7 → T8 → T9 → T10 → T11 → T12 → T13 → T14 → T15 → Prop) (hx : ∀ (K : T1 → T2 → T3 → T4 → T5 → T6 → T7 → T8 → T9 → T10 → T11 → T12 → T13 → T14 → T15 → Option ρ) (x1 : T1) (x2 : T2) (x3 : T3) (x4 : T4) (x5 : T5) (x6 : T6) (x7 : T7) (x8 : T8) (x9 : T9) (x10 : T10) (x11 : T11) (x12 : T12) (x13 : T13) (x14 : T14) (x15 : T15), Inv e x1 x2 x3 x4 x5 x6 x7 x8 x9 x10 x11 x12 x13 x14 x15 → P (f K x1 x2 x3 x4 x5 x6 x7 x8 x9 x10 x11 x12 x13 x14 x15)) (hs : ∀ (K : T1 → T2 → T3 → T4 → T5 → T6 → T7 → T8 → T9 → T10 → T11 → T12 → T13 → T14 → T15 → Option ρ) (i : Nat) (x1 : T1) (x2 : T2) (x3 : T3) (x4 : T4) (x5 : T5) (x6 : T6) (x7 : T7) (x8 : T8) (x9 : T9) (x10 : T10) (x11 : T11) (x12 : T12) (x13 : T13) (x14 : T14) (x15 : T15), i < e → Inv i x1 x2 x3 x4 x5 x6 x7 x8 x9 x10 x11 x12 x13 x14 x15 → P (f K x1 x2 x3 x4 x5 x6 x7 x8 x9 x10 x11 x12 x13 x14 x15) ∨ ∃ (y1 : T1) (y2 : T2) (y3 : T3) (y4 : T4) (y5 : T5) (y6 : T6) (y7 : T7) (y8 : T8) (y9 : T9) (y10 : T10) (y11 : T11) (y12 : T12) (y13 : T13) (y14 : T14) (y15 : T15), f K x1 x2 x3 x4 x5 x6 x7 x8 x9 x10 x11 x12 x13 x14 x15 = K y1 y2 y3 y4 y5 y6 y7 y8 y9 y10 y11 y12 y13 y14 y15 ∧ Inv (i + 1) y1 y2 y3 y4 y5 y6 y7 y8 y9 y10 y11 y12 y13 y14 y15) : ∀ (m i : Nat) (x1 : T1) (x2 : T2) (x3 : T3) (x4 : T4) (x5 : T5) (x6 : T6) (x7 : T7) (x8 : T8) (x9 : T9) (x10 : T10) (x11 : T11) (x12 : T12) (x13 : T13) (x14 : T14) (x15 : T15), e - i < m → i ≤ e → Inv i x1 x2 x3 x4 x5 x6 x7 x8 x9 x10 x11 x12 x13 x14 x15 → P (fix15 f m x1 x2 x3 x4 x5 x6 x7 x8 x9 x10 x11 x12 x13 x14 x15) := by
  intro m
  induction m with
  | zero => intro i x1 x2 x3 x4 x5 x6 x7 x8 x9 x10 x11 x12 x13 x14 x15 h; exact absurd h (Nat.not_lt_zero _)
  | succ m ih =>
    intro i x1 x2 x3 x4 x5 x6 x7 x8 x9 x10 x11 x12 x13 x14 x15 h1 h2 hI
    show P (f (fix15 f m) x1 x2 x3 x4 x5 x6 x7 x8 x9 x10 x11 x12 x13 x14 x15)
    by_cases he : i = e
    · subst he
      exact hx _ x1 x2 x3 x4 x5 x6 x7 x8 x9 x10 x11 x12 x13 x14 x15 hI
    · rcases hs (fix15 f m) i x1 x2 x3 x4 x5 x6 x7 x8 x9 x10 x11 x12 x13 x14 x15 (by omega) hI with h | ⟨y1, y2, y3, y4, y5, y6, y7, y8, y9, y10, y11, y12, y13, y14, y15, h, hI2⟩
      · exact h
      · rw [h]
        exact ih (i + 1) y1 y2 y3 y4 y5 y6 y7 y8 y9 y10 y11 y12 y13 y14 y15 (by omega) (by omega) hI2
theorem up15 {T1 T2 T3 T4 T5 T6 T7 T8 T9 T10 T11 T12 T13 T14 T15 ρ : Type} {f : (T1 → T2 → T3 → T4 → T5 → T6 → T7 → T8 → T9 → T10 → T11 → T12 → T13 → T14 → T15 → Option ρ) → T1 → T2 → T3 → T4 → T5 → T6 → T7 → T8 → T9 → T10 → T11 → T12 → T13 → T14 → T15 → Option ρ} {R : Option ρ} (e : Nat) (Inv : Nat → T1 → T2 → T3 → T4 → T5 → T6 → T7 → T8 → T9 → T10 → T11 → T12 → T13 → T14 → T15 → Prop) (hx : ∀ (K : T1 → T2 → T3 → T4 → T5 → T6 → T7 → T8 → T9 → T10 → T11 → T12 → T13 → T14 → T15 → Option ρ) (x1 : T1) (x2 : T2) (x3 : T3) (x4 : T4) (x5 : T5) (x6 : T6) (x7 : T7) (x8 : T8) (x9 : T9) (x10 : T10) (x11 : T11) (x12 : T12) (x13 : T13) (x14 : T14) (x15 : T15), Inv e x1 x2 x3 x4 x5 x6 x7 x8 x9 x10 x11 x12 x13 x14 x15 → f K x1 x2 x3 x4 x5 x6 x7 x8 x9 x10 x11 x12 x13 x14 x15 = R) (hs : ∀ (K : T1 → T2 → T3 → T4 → T5 → T6 → T7 → T8 → T9 → T10 → T11 → T12 → T13 → T14 → T15 → Option ρ) (i : Nat) (x1 : T1) (x2 : T2) (x3 : T3) (x4 : T4) (x5 : T5) (x6 : T6) (x7 : T7) (x8 : T8) (x9 : T9) (x10 : T10) (x11 : T11) (x12 : T12) (x13 : T13) (x14 : T14) (x15 : T15), i < e → Inv i x1 x2 x3 x4 x5 x6 x7 x8 x9 x10 x11 x12 x13 x14 x15 → f K x1 x2 x3 x4 x5 x6 x7 x8 x9 x10 x11 x12 x13 x14 x15 = R ∨ ∃ (y1 : T1) (y2 : T2) (y3 : T3) (y4 : T4) (y5 : T5) (y6 : T6) (y7 : T7) (y8 : T8) (y9 : T9) (y10 : T10) (y11 : T11) (y12 : T12) (y13 : T13) (y14 : T14) (y15 : T15), f K x1 x2 x3 x4 x5 x6 x7 x8 x9 x10 x11 x12 x13 x14 x15 = K y1 y2 y3 y4 y5 y6 y7 y8 y9 y10 y11 y12 y13 y14 y15 ∧ Inv (i + 1) y1 y2 y3 y4 y5 y6 y7 y8 y9 y10 y11 y12 y13 y14 y15) : ∀ (m i : Nat) (x1 : T1) (x2 : T2) (x3 : T3) (x4 : T4) (x5 : T5) (x6 : T6) (x7 : T7) (x8 : T8) (x9 : T9) (x10 : T10) (x11 : T11) (x12 : T12) (x13 : T13) (x14 : T14) (x15 : T15), e - i < m → i ≤ e → Inv i x1 x2 x3 x4 x5 x6 x7 x8 x9 x10 x11 x12 x13 x14 x15 → fix15 f m x1 x2 x3 x4 x5 x6 x7 x8 x9 x10 x11 x12 x13 x14 x15 = R := uq15 (fun o => o = R) e Inv hx hs
theorem uq16 {T1 T2 T3 T4 T5 T6 T7 T8 T9 T10 T11 T12 T13 T14 T15 T16 ρ : Type} {f : (T1 → T2 → T3 → T4 → T5 → T6 → T7 → T8 → T9 → T10 → T11 → T12 → T13 → T14 → T15 → T16 → Option ρ) → T1 → T2 → T3 → T4 → T5 → T6 → T7 → T8 → T9 → T10 → T11 → T12 → T13 → T14 → T15 → T16 → Option ρ} (P : Option ρ → Prop) (e : Nat) (Inv : Nat → T1 → T2 → T3 → T4 → T5 → T6 → T7 → T8 → T9 → T10 → T11 → T12 → T13 → T14 → T15 → T16 → Prop) (hx : ∀ (K : T1 → T2 → T3 → T4 → T5 → T6 → T7 → T8 → T9 → T10 → T11 → T12 → T13 → T14 → T15 → T16 → Option ρ) (x1 : T1) (x2 : T2) (x3 : T3) (x4 : T4) (x5 : T5) (x6 : T6) (x7 : T7) (x8 : T8) (x9 : T9) (x10 : T10) (x11 : T11) (x12 : T12) (x13 : T13) (x14 : T14) (x15 : T15) (x16 : T16), Inv e x1 x2 x3 x4 x5 x6 x7 x8 x9 x10 x11 x12 x13 x14 x15 x16 → P (f K x1 x2 x3 x4 x5 x6 x7 x8 x9 x10 x11 x12 x13 x14 x15 x16)) (hs : ∀ (K : T1 → T2 → T3 → T4 → T5 → T6 → T7 → T8 → T9 → T10 → T11 → T12 → T13 → T14 → T15 → T16 → Option ρ) (i : Nat) (x1 : T1) (x2 : T2) (x3 : T3) (x4 : T4) (x5 : T5) (x6 : T6) (x7 : T7) (x8 : T8) (x9 : T9) (x10 : T10) (x11 : T11) (x12 : T12) (x13 : T13) (x14 : T14) (x15 : T15) (x16 : T16), i < e → Inv i x1 x2 x3 x4 x5 x6 x7 x8 x9 x10 x11 x12 x13 x14 x15 x16 → P (f K x1 x2 x3 x4 x5 x6 x7 x8 x9 x10 x11 x12 x13 x14 x15 x16) ∨ ∃ (y1 : T1) (y2 : T2) (y3 : T3) (y4 : T4) (y5 : T5) (y6 : T6) (y7 : T7) (y8 : T8) (y9 : T9) (y10 : T10) (y11 : T11) (y12 : T12) (y13 : T13) (y14 : T14) (y15 : T15) (y16 : T16), f K x1 x2 x3 x4 x5 x6 x7 x8 x9 x10 x11 x12 x13 x14 x15 x16 = K y1 y2 y3 y4 y5 y6 y7 y8 y9 y10 y11 y12 y13 y14 y15 y16 ∧ Inv (i + 1) y1 y2 y3 y4 y5 y6 y7 y8 y9 y10 y11 y12 y13 y14 y15 y16) : ∀ (m i : Nat) (x1 : T1) (x2 : T2) (x3 : T3) (x4 : T4) (x5 : T5) (x6 : T6) (x7 : T7) (x8 : T8) (x9 : T9) (x10 : T10) (x11 : T11) (x12 : T12) (x13 : T13) (x14 : T14) (x15 : T15) (x16 : T16), e - i < m → i ≤ e → Inv i x1 x2 x3 x4 x5 x6 x7 x8 x9 x10 x11 x12 x13 x14 x15 x16 → P (fix16 f m x1 x2 x3 x4 x5 x6 x7 x8 x9 x10 x11 x12 x13 x14 x15 x16) := by
  intro m
  induction m with
  | zero => intro i x1 x2 x3 x4 x5 x6 x7 x8 x9 x10 x11 x12 x13 x14 x15 x16 h; exact absurd h (Nat.not_lt_zero _)
  | succ m ih =>
    intro i x1 x2 x3 x4 x5 x6 x7 x8 x9 x10 x11 x12 x13 x14 x15 x16 h1 h2 hI
    show P (f (fix16 f m) x1 x2 x3 x4 x5 x6 x7 x8 x9 x10 x11 x12 x13 x14 x15 x16)
    by_cases he : i = e
    · subst he
      exact hx _ x1 x2 x3 x4 x5 x6 x7 x8 x9 x10 x11 x12 x13 x14 x15 x16 hI
    · rcases hs (fix16 f m) i x1 x2 x3 x4 x5 x6 x7 x8 x9 x10 x11 x12 x13 x14 x15 x16 (by omega) hI with h | ⟨y1, y2, y3, y4, y5, y6, y7, y8, y9, y10, y11, y12, y13, y14, y15, y16, h, hI2⟩
      · exact h
      · rw [h]
        exact ih (i + 1) y1 y2 y3 y4 y5 y6 y7 y8 y9 y10 y11 y12 y13 y14 y15 y16 (by omega) (by omega) hI2
theorem up16 {T1 T2 T3 T4 T5 T6 T7 T8 T9 T10 T11 T12 T13 T14 T15 T16 ρ : Type} {f : (T1 → T2 → T3 → T4 → T5 → T6 → T7 → T8 → T9 → T10 → T11 → T12 → T13 → T14 → T15 → T16 → Option ρ) → T1 → T2 → T3 → T4 → T5 → T6 → T7 → T8 → T9 → T10 → T11 → T12 → T13 → T14 → T15 → T16 → Option ρ} {R : Option ρ} (e : Nat) (Inv : Nat → T1 → T2 → T3 → T4 → T5 → T6 → T7 → T8 → T9 → T10 → T11 → T12 → T13 → T14 → T15 → T16 → Prop) (hx : ∀ (K : T1 → T2 → T3 → T4 → T5 → T6 → T7 → T8 → T9 → T10 → T11 → T12 → T13 → T14 → T15 → T16 → Option ρ) (x1 : T1) (x2 : T2) (x3 : T3) (x4 : T4) (x5 : T5) (x6 : T6) (x7 : T7) (x8 : T8) (x9 : T9) (x10 : T10) (x11 : T11) (x12 : T12) (x13 : T13) (x14 : T14) (x15 : T15) (x16 : T16), Inv e x1 x2 x3 x4 x5 x6 x7 x8 x9 x10 x11 x12 x13 x14 x15 x16 → f K x1 x2 x3 x4 x5 x6 x7 x8 x9 x10 x11 x12 x13 x14 x15 x16 = R) (hs : ∀ (K : T1 → T2 → T3 → T4 → T5 → T6 → T7 → T8 → T9 → T10 → T11 → T12 → T13 → T14 → T15 → T16 → Option ρ) (i : Nat) (x1 : T1) (x2 : T2) (x3 : T3) (x4 : T4) (x5 : T5) (x6 : T6) (x7 : T7) (x8 : T8) (x9 : T9) (x10 : T10) (x11 : T11) (x12 : T12) (x13 : T13) (x14 : T14) (x15 : T15) (x16 : T16), i < e → Inv i x1 x2 x3 x4 x5 x6 x7 x8 x9 x10 x11 x12 x13 x14 x15 x16 → f K x1 x2 x3 x4 x5 x6 x7 x8 x9 x10 x11 x12 x13 x14 x15 x16 = R ∨ ∃ (y1 : T1) (y2 : T2) (y3 : T3) (y4 : T4) (y5 : T5) (y6 : T6) (y7 : T7) (y8 : T8) (y9 : T9) (y10 : T10) (y11 : T11) (y12 : T12) (y13 : T13) (y14 : T14) (y15 : T15) (y16 : T16), f K x1 x2 x3 x4 x5 x6 x7 x8 x9 x10 x11 x12 x13 x14 x15 x16 = K y1 y2 y3 y4 y5 y6 y7 y8 y9 y10 y11 y12 y13 y14 y15 y16 ∧ Inv (i + 1) y1 y2 y3 y4 y5 y6 y7 y8 y9 y10 y11 y12 y13 y14 y15 y16) : ∀ (m i : Nat) (x1 : T1) (x2 : T2) (x3 : T3) (x4 : T4) (x5 : T5) (x6 : T6) (x7 : T7) (x8 : T8) (x9 : T9) (x10 : T10) (x11 : T11) (x12 : T12) (x13 : T13) (x14 : T14) (x15 : T15) (x16 : T16), e - i < m → i ≤ e → Inv i x1 x2 x3 x4 x5 x6 x7 x8 x9 x10 x11 x12 x13 x14 x15 x16 → fix16 f m x1 x2 x3 x4 x5 x6 x7 x8 x9 x10 x11 x12 x13 x14 x15 x16 = R := uq16 (fun o => o = R) e Inv hx hs
