def aPart (A : Nat → Nat) (k a b w : Nat) : Nat → Nat := va_up (va_up (va_up (va_up (va_up A (4 + 4 * A 1) k) (5 + 4 * A 1) a) (6 + 4 * A 1) b) (7 + 4 * A 1) w) 1 (A 1 + 1)
def aTale (A : Nat → Nat) : Nat → Nat := va_up (va_up A (68 + 11 * A 2) 0) 2 (A 2 + 1)
def aTell (A : Nat → Nat) (t p : Nat) : Nat → Nat := va_up (va_up A (68 + 11 * t) (A (68 + 11 * t) + 1)) (69 + 11 * t + A (68 + 11 * t)) p
def aHear (A : Nat → Nat) (v : Nat) : Nat → Nat := va_up (va_up A (156 + A 3) v) 3 (A 3 + 1)
theorem up_at {α : Type} (f : Nat → α) (k : Nat) (v : α) (j : Nat) : va_up f k v j = if j = k then v else f j := rfl
theorem updI_at (f : Nat → Int32) (k : Nat) (v : Int32) (j : Nat) : upd f k v j = if j = k then v else f j := rfl
theorem wf_aPart {A : Nat → Nat} (hw : wfA A) {k a b w : Nat} (hl : A 1 < 16) (hk : k < 6) (ha : 1 ≤ a) (hab : a ≤ b) (hb : b ≤ 12) (hv : w ≤ 9) : wfA (aPart A k a b w) := by
  obtain ⟨hy, h1, h2, h3, hpp, htt, hhh⟩ := hw
  have e1 : aPart A k a b w 1 = A 1 + 1 := by simp only [aPart, up_at, if_true]
  have e0 : ∀ j, j ≠ 1 → (j < 4 ∨ 68 ≤ j ∨ (4 ≤ j ∧ j < 4 + 4 * A 1)) → aPart A k a b w j = A j := by
    intro j hj1 hj
    simp only [aPart, up_at]
    rw [if_neg hj1, if_neg (by omega), if_neg (by omega), if_neg (by omega), if_neg (by omega)]
  have f0 : aPart A k a b w (4 + 4 * A 1) = k := by simp only [aPart, up_at]; rw [if_neg (by omega), if_neg (by omega), if_neg (by omega), if_neg (by omega), if_true]
  have f1 : aPart A k a b w (5 + 4 * A 1) = a := by simp only [aPart, up_at]; rw [if_neg (by omega), if_neg (by omega), if_neg (by omega), if_true]
  have f2 : aPart A k a b w (6 + 4 * A 1) = b := by simp only [aPart, up_at]; rw [if_neg (by omega), if_neg (by omega), if_true]
  have f3 : aPart A k a b w (7 + 4 * A 1) = w := by simp only [aPart, up_at]; rw [if_neg (by omega), if_true]
  refine ⟨by rw [e0 0 (by omega) (by omega)]; exact hy, by rw [e1]; omega, by rw [e0 2 (by omega) (by omega)]; exact h2, by rw [e0 3 (by omega) (by omega)]; exact h3, ?_, ?_, ?_⟩
  · intro p hp
    rw [e1] at hp
    by_cases hq : p = A 1
    · subst hq
      rw [f0, f1, f2, f3]
      exact ⟨hk, ha, hab, hb, hv⟩
    · rw [e0 _ (by omega) (by omega), e0 _ (by omega) (by omega), e0 _ (by omega) (by omega), e0 _ (by omega) (by omega)]
      exact hpp p (by omega)
  · intro t ht
    rw [e0 2 (by omega) (by omega)] at ht
    obtain ⟨g1, g2⟩ := htt t ht
    rw [e0 _ (by omega) (by omega), e1]
    refine ⟨g1, fun i hi => ?_⟩
    rw [e0 _ (by omega) (by omega)]
    have := g2 i hi
    omega
  · intro h hh
    rw [e0 3 (by omega) (by omega)] at hh
    rw [e0 _ (by omega) (by omega)]
    exact hhh h hh
theorem stk_aPart {A : Nat → Nat} (hw : wfA A) {kin lea mos wrt : Nat → Int32} {siz tol ags : Nat → Int32} (hs : stk A (nI (A 1)) kin lea mos wrt (nI (A 2)) siz tol (nI (A 3)) ags (nI (A 0))) {k a b w : Nat} (hl : A 1 < 16) : stk (aPart A k a b w) (nI (A 1 + 1)) (upd kin (A 1) (nI k)) (upd lea (A 1) (nI a)) (upd mos (A 1) (nI b)) (upd wrt (A 1) (nI w)) (nI (A 2)) siz tol (nI (A 3)) ags (nI (A 0)) := by
  obtain ⟨hy, h1, h2, h3, hpp, htt, hhh⟩ := hw
  obtain ⟨-, hsp, -, hst, -, hsa, -⟩ := hs
  have e1 : aPart A k a b w 1 = A 1 + 1 := by simp only [aPart, up_at, if_true]
  have e0 : ∀ j, j ≠ 1 → (j < 4 ∨ 68 ≤ j ∨ (4 ≤ j ∧ j < 4 + 4 * A 1)) → aPart A k a b w j = A j := by
    intro j hj1 hj
    simp only [aPart, up_at]
    rw [if_neg hj1, if_neg (by omega), if_neg (by omega), if_neg (by omega), if_neg (by omega)]
  have f0 : aPart A k a b w (4 + 4 * A 1) = k := by simp only [aPart, up_at]; rw [if_neg (by omega), if_neg (by omega), if_neg (by omega), if_neg (by omega), if_true]
  have f1 : aPart A k a b w (5 + 4 * A 1) = a := by simp only [aPart, up_at]; rw [if_neg (by omega), if_neg (by omega), if_neg (by omega), if_true]
  have f2 : aPart A k a b w (6 + 4 * A 1) = b := by simp only [aPart, up_at]; rw [if_neg (by omega), if_neg (by omega), if_true]
  have f3 : aPart A k a b w (7 + 4 * A 1) = w := by simp only [aPart, up_at]; rw [if_neg (by omega), if_true]
  refine ⟨by rw [e1], ?_, by rw [e0 2 (by omega) (by omega)], ?_, by rw [e0 3 (by omega) (by omega)], ?_, by rw [e0 0 (by omega) (by omega)]⟩
  · intro p hp
    rw [e1] at hp
    simp only [updI_at]
    by_cases hq : p = A 1
    · subst hq
      rw [f0, f1, f2, f3, if_pos rfl, if_pos rfl, if_pos rfl, if_pos rfl]
      exact ⟨rfl, rfl, rfl, rfl⟩
    · rw [e0 _ (by omega) (by omega), e0 _ (by omega) (by omega), e0 _ (by omega) (by omega), e0 _ (by omega) (by omega), if_neg hq, if_neg hq, if_neg hq, if_neg hq]
      exact hsp p (by omega)
  · intro t ht
    rw [e0 2 (by omega) (by omega)] at ht
    obtain ⟨g1, g2⟩ := htt t ht
    obtain ⟨q1, q2⟩ := hst t ht
    rw [e0 _ (by omega) (by omega)]
    refine ⟨q1, fun i hi => ?_⟩
    rw [e0 _ (by omega) (by omega)]
    exact q2 i hi
  · intro h hh
    rw [e0 3 (by omega) (by omega)] at hh
    rw [e0 _ (by omega) (by omega)]
    exact hsa h hh
theorem wf_aTale {A : Nat → Nat} (hw : wfA A) (hl : A 2 < 8) : wfA (aTale A) := by
  obtain ⟨hy, h1, h2, h3, hpp, htt, hhh⟩ := hw
  have e2 : aTale A 2 = A 2 + 1 := by simp only [aTale, up_at, if_true]
  have e0 : ∀ j, j ≠ 2 → j ≠ 68 + 11 * A 2 → aTale A j = A j := by
    intro j hj1 hj
    simp only [aTale, up_at]
    rw [if_neg hj1, if_neg hj]
  have f0 : aTale A (68 + 11 * A 2) = 0 := by simp only [aTale, up_at]; rw [if_neg (by omega), if_true]
  refine ⟨by rw [e0 0 (by omega) (by omega)]; exact hy, by rw [e0 1 (by omega) (by omega)]; exact h1, by rw [e2]; omega, by rw [e0 3 (by omega) (by omega)]; exact h3, ?_, ?_, ?_⟩
  · intro p hp
    rw [e0 1 (by omega) (by omega)] at hp
    rw [e0 _ (by omega) (by omega), e0 _ (by omega) (by omega), e0 _ (by omega) (by omega), e0 _ (by omega) (by omega)]
    exact hpp p hp
  · intro t ht
    rw [e2] at ht
    by_cases hq : t = A 2
    · subst hq
      rw [f0]
      exact ⟨Nat.zero_le _, fun i hi => absurd hi (Nat.not_lt_zero i)⟩
    · obtain ⟨g1, g2⟩ := htt t (by omega)
      rw [e0 _ (by omega) (by omega), e0 1 (by omega) (by omega)]
      refine ⟨g1, fun i hi => ?_⟩
      rw [e0 _ (by omega) (by omega)]
      exact g2 i hi
  · intro h hh
    rw [e0 3 (by omega) (by omega)] at hh
    rw [e0 _ (by omega) (by omega)]
    exact hhh h hh
theorem stk_aTale {A : Nat → Nat} (hw : wfA A) {kin lea mos wrt : Nat → Int32} {siz tol ags : Nat → Int32} (hs : stk A (nI (A 1)) kin lea mos wrt (nI (A 2)) siz tol (nI (A 3)) ags (nI (A 0))) (hl : A 2 < 8) : stk (aTale A) (nI (A 1)) kin lea mos wrt (nI (A 2 + 1)) (upd siz (A 2) 0) tol (nI (A 3)) ags (nI (A 0)) := by
  obtain ⟨hy, h1, h2, h3, hpp, htt, hhh⟩ := hw
  obtain ⟨-, hsp, -, hst, -, hsa, -⟩ := hs
  have e2 : aTale A 2 = A 2 + 1 := by simp only [aTale, up_at, if_true]
  have e0 : ∀ j, j ≠ 2 → j ≠ 68 + 11 * A 2 → aTale A j = A j := by
    intro j hj1 hj
    simp only [aTale, up_at]
    rw [if_neg hj1, if_neg hj]
  have f0 : aTale A (68 + 11 * A 2) = 0 := by simp only [aTale, up_at]; rw [if_neg (by omega), if_true]
  refine ⟨by rw [e0 1 (by omega) (by omega)], ?_, by rw [e2], ?_, by rw [e0 3 (by omega) (by omega)], ?_, by rw [e0 0 (by omega) (by omega)]⟩
  · intro p hp
    rw [e0 1 (by omega) (by omega)] at hp
    rw [e0 _ (by omega) (by omega), e0 _ (by omega) (by omega), e0 _ (by omega) (by omega), e0 _ (by omega) (by omega)]
    exact hsp p hp
  · intro t ht
    rw [e2] at ht
    simp only [updI_at]
    by_cases hq : t = A 2
    · subst hq
      rw [f0, if_pos rfl]
      exact ⟨rfl, fun i hi => absurd hi (Nat.not_lt_zero i)⟩
    · obtain ⟨g1, g2⟩ := htt t (by omega)
      obtain ⟨q1, q2⟩ := hst t (by omega)
      rw [e0 _ (by omega) (by omega), if_neg hq]
      refine ⟨q1, fun i hi => ?_⟩
      rw [e0 _ (by omega) (by omega)]
      exact q2 i hi
  · intro h hh
    rw [e0 3 (by omega) (by omega)] at hh
    rw [e0 _ (by omega) (by omega)]
    exact hsa h hh
theorem wf_aTell {A : Nat → Nat} (hw : wfA A) {t p : Nat} (ht : t < A 2) (hp : p < A 1) (hl : A (68 + 11 * t) < 10) : wfA (aTell A t p) := by
  obtain ⟨hy, h1, h2, h3, hpp, htt, hhh⟩ := hw
  have e0 : ∀ j, j ≠ 68 + 11 * t → j ≠ 69 + 11 * t + A (68 + 11 * t) → aTell A t p j = A j := by
    intro j hj1 hj
    simp only [aTell, up_at]
    rw [if_neg hj, if_neg hj1]
  have f0 : aTell A t p (68 + 11 * t) = A (68 + 11 * t) + 1 := by simp only [aTell, up_at]; rw [if_neg (by omega), if_true]
  have f1 : aTell A t p (69 + 11 * t + A (68 + 11 * t)) = p := by simp only [aTell, up_at, if_true]
  refine ⟨by rw [e0 0 (by omega) (by omega)]; exact hy, by rw [e0 1 (by omega) (by omega)]; exact h1, by rw [e0 2 (by omega) (by omega)]; exact h2, by rw [e0 3 (by omega) (by omega)]; exact h3, ?_, ?_, ?_⟩
  · intro p hp
    rw [e0 1 (by omega) (by omega)] at hp
    rw [e0 _ (by omega) (by omega), e0 _ (by omega) (by omega), e0 _ (by omega) (by omega), e0 _ (by omega) (by omega)]
    exact hpp p hp
  · intro u hu
    rw [e0 2 (by omega) (by omega)] at hu
    rw [e0 1 (by omega) (by omega)]
    by_cases hq : u = t
    · subst hq
      obtain ⟨g1, g2⟩ := htt u ht
      rw [f0]
      refine ⟨by omega, fun i hi => ?_⟩
      by_cases hj : i = A (68 + 11 * u)
      · subst hj
        rw [f1]
        exact hp
      · rw [e0 _ (by omega) (by omega)]
        exact g2 i (by omega)
    · obtain ⟨g1, g2⟩ := htt u hu
      rw [e0 _ (by omega) (by omega)]
      refine ⟨g1, fun i hi => ?_⟩
      rw [e0 _ (by omega) (by omega)]
      exact g2 i hi
  · intro h hh
    rw [e0 3 (by omega) (by omega)] at hh
    rw [e0 _ (by omega) (by omega)]
    exact hhh h hh
theorem stk_aTell {A : Nat → Nat} (hw : wfA A) {kin lea mos wrt : Nat → Int32} {siz tol ags : Nat → Int32} (hs : stk A (nI (A 1)) kin lea mos wrt (nI (A 2)) siz tol (nI (A 3)) ags (nI (A 0))) {t p : Nat} (ht : t < A 2) (hl : A (68 + 11 * t) < 10) : stk (aTell A t p) (nI (A 1)) kin lea mos wrt (nI (A 2)) (upd siz t (nI (A (68 + 11 * t) + 1))) (upd tol (10 * t + A (68 + 11 * t)) (nI p)) (nI (A 3)) ags (nI (A 0)) := by
  obtain ⟨hy, h1, h2, h3, hpp, htt, hhh⟩ := hw
  obtain ⟨-, hsp, -, hst, -, hsa, -⟩ := hs
  have e0 : ∀ j, j ≠ 68 + 11 * t → j ≠ 69 + 11 * t + A (68 + 11 * t) → aTell A t p j = A j := by
    intro j hj1 hj
    simp only [aTell, up_at]
    rw [if_neg hj, if_neg hj1]
  have f0 : aTell A t p (68 + 11 * t) = A (68 + 11 * t) + 1 := by simp only [aTell, up_at]; rw [if_neg (by omega), if_true]
  have f1 : aTell A t p (69 + 11 * t + A (68 + 11 * t)) = p := by simp only [aTell, up_at, if_true]
  refine ⟨by rw [e0 1 (by omega) (by omega)], ?_, by rw [e0 2 (by omega) (by omega)], ?_, by rw [e0 3 (by omega) (by omega)], ?_, by rw [e0 0 (by omega) (by omega)]⟩
  · intro p hp
    rw [e0 1 (by omega) (by omega)] at hp
    rw [e0 _ (by omega) (by omega), e0 _ (by omega) (by omega), e0 _ (by omega) (by omega), e0 _ (by omega) (by omega)]
    exact hsp p hp
  · intro u hu
    rw [e0 2 (by omega) (by omega)] at hu
    simp only [updI_at]
    by_cases hq : u = t
    · subst hq
      obtain ⟨g1, g2⟩ := htt u ht
      obtain ⟨q1, q2⟩ := hst u ht
      rw [f0, if_pos rfl]
      refine ⟨rfl, fun i hi => ?_⟩
      by_cases hj : i = A (68 + 11 * u)
      · subst hj
        rw [f1, if_pos rfl]
      · rw [e0 _ (by omega) (by omega), if_neg (by omega)]
        exact q2 i (by omega)
    · obtain ⟨g1, g2⟩ := htt u hu
      obtain ⟨q1, q2⟩ := hst u hu
      rw [e0 _ (by omega) (by omega), if_neg hq]
      refine ⟨q1, fun i hi => ?_⟩
      rw [e0 _ (by omega) (by omega), if_neg (by omega)]
      exact q2 i hi
  · intro h hh
    rw [e0 3 (by omega) (by omega)] at hh
    rw [e0 _ (by omega) (by omega)]
    exact hsa h hh
theorem wf_aHear {A : Nat → Nat} (hw : wfA A) {v : Nat} (hl : A 3 < 10) (hv : v ≤ 99) : wfA (aHear A v) := by
  obtain ⟨hy, h1, h2, h3, hpp, htt, hhh⟩ := hw
  have e2 : aHear A v 3 = A 3 + 1 := by simp only [aHear, up_at, if_true]
  have e0 : ∀ j, j ≠ 3 → j ≠ 156 + A 3 → aHear A v j = A j := by
    intro j hj1 hj
    simp only [aHear, up_at]
    rw [if_neg hj1, if_neg hj]
  have f0 : aHear A v (156 + A 3) = v := by simp only [aHear, up_at]; rw [if_neg (by omega), if_true]
  refine ⟨by rw [e0 0 (by omega) (by omega)]; exact hy, by rw [e0 1 (by omega) (by omega)]; exact h1, by rw [e0 2 (by omega) (by omega)]; exact h2, by rw [e2]; omega, ?_, ?_, ?_⟩
  · intro p hp
    rw [e0 1 (by omega) (by omega)] at hp
    rw [e0 _ (by omega) (by omega), e0 _ (by omega) (by omega), e0 _ (by omega) (by omega), e0 _ (by omega) (by omega)]
    exact hpp p hp
  · intro t ht
    rw [e0 2 (by omega) (by omega)] at ht
    obtain ⟨g1, g2⟩ := htt t ht
    rw [e0 _ (by omega) (by omega), e0 1 (by omega) (by omega)]
    refine ⟨g1, fun i hi => ?_⟩
    rw [e0 _ (by omega) (by omega)]
    exact g2 i hi
  · intro h hh
    rw [e2] at hh
    by_cases hq : h = A 3
    · subst hq
      rw [f0]
      exact hv
    · rw [e0 _ (by omega) (by omega)]
      exact hhh h (by omega)
theorem stk_aHear {A : Nat → Nat} (hw : wfA A) {kin lea mos wrt : Nat → Int32} {siz tol ags : Nat → Int32} (hs : stk A (nI (A 1)) kin lea mos wrt (nI (A 2)) siz tol (nI (A 3)) ags (nI (A 0))) {v : Nat} (hl : A 3 < 10) : stk (aHear A v) (nI (A 1)) kin lea mos wrt (nI (A 2)) siz tol (nI (A 3 + 1)) (upd ags (A 3) (nI v)) (nI (A 0)) := by
  obtain ⟨hy, h1, h2, h3, hpp, htt, hhh⟩ := hw
  obtain ⟨-, hsp, -, hst, -, hsa, -⟩ := hs
  have e2 : aHear A v 3 = A 3 + 1 := by simp only [aHear, up_at, if_true]
  have e0 : ∀ j, j ≠ 3 → j ≠ 156 + A 3 → aHear A v j = A j := by
    intro j hj1 hj
    simp only [aHear, up_at]
    rw [if_neg hj1, if_neg hj]
  have f0 : aHear A v (156 + A 3) = v := by simp only [aHear, up_at]; rw [if_neg (by omega), if_true]
  refine ⟨by rw [e0 1 (by omega) (by omega)], ?_, by rw [e0 2 (by omega) (by omega)], ?_, by rw [e2], ?_, by rw [e0 0 (by omega) (by omega)]⟩
  · intro p hp
    rw [e0 1 (by omega) (by omega)] at hp
    rw [e0 _ (by omega) (by omega), e0 _ (by omega) (by omega), e0 _ (by omega) (by omega), e0 _ (by omega) (by omega)]
    exact hsp p hp
  · intro t ht
    rw [e0 2 (by omega) (by omega)] at ht
    obtain ⟨g1, g2⟩ := htt t ht
    obtain ⟨q1, q2⟩ := hst t ht
    rw [e0 _ (by omega) (by omega)]
    refine ⟨q1, fun i hi => ?_⟩
    rw [e0 _ (by omega) (by omega)]
    exact q2 i hi
  · intro h hh
    rw [e2] at hh
    simp only [updI_at]
    by_cases hq : h = A 3
    · subst hq
      rw [f0, if_pos rfl]
    · rw [e0 _ (by omega) (by omega), if_neg hq]
      exact hsa h (by omega)
/-- an age becomes another -/
theorem wf_age {A : Nat → Nat} (hw : wfA A) {h v : Nat} (hh : h < A 3) (hv : v ≤ 99) : wfA (va_up A (156 + h) v) := by
  obtain ⟨hy, h1, h2, h3, hpp, htt, hhh⟩ := hw
  have e0 : ∀ j, j ≠ 156 + h → va_up A (156 + h) v j = A j := fun j hj => va_up_ne _ _ hj
  refine ⟨by rw [e0 0 (by omega)]; exact hy, by rw [e0 1 (by omega)]; exact h1, by rw [e0 2 (by omega)]; exact h2, by rw [e0 3 (by omega)]; exact h3, ?_, ?_, ?_⟩
  · intro p hp
    rw [e0 1 (by omega)] at hp
    rw [e0 _ (by omega), e0 _ (by omega), e0 _ (by omega), e0 _ (by omega)]
    exact hpp p hp
  · intro t ht
    rw [e0 2 (by omega)] at ht
    obtain ⟨g1, g2⟩ := htt t ht
    rw [e0 _ (by omega), e0 1 (by omega)]
    refine ⟨g1, fun i hi => ?_⟩
    rw [e0 _ (by omega)]
    exact g2 i hi
  · intro g hg
    rw [e0 3 (by omega)] at hg
    by_cases hq : g = h
    · subst hq
      rw [va_up_self]
      exact hv
    · rw [e0 _ (by omega)]
      exact hhh g hg
theorem stk_age {A : Nat → Nat} (hw : wfA A) {kin lea mos wrt : Nat → Int32} {siz tol ags : Nat → Int32} (hs : stk A (nI (A 1)) kin lea mos wrt (nI (A 2)) siz tol (nI (A 3)) ags (nI (A 0))) {h v : Nat} (hh : h < A 3) : stk (va_up A (156 + h) v) (nI (A 1)) kin lea mos wrt (nI (A 2)) siz tol (nI (A 3)) (upd ags h (nI v)) (nI (A 0)) := by
  obtain ⟨hy, h1, h2, h3, hpp, htt, hhh⟩ := hw
  obtain ⟨-, hsp, -, hst, -, hsa, -⟩ := hs
  have e0 : ∀ j, j ≠ 156 + h → va_up A (156 + h) v j = A j := fun j hj => va_up_ne _ _ hj
  refine ⟨by rw [e0 1 (by omega)], ?_, by rw [e0 2 (by omega)], ?_, by rw [e0 3 (by omega)], ?_, by rw [e0 0 (by omega)]⟩
  · intro p hp
    rw [e0 1 (by omega)] at hp
    rw [e0 _ (by omega), e0 _ (by omega), e0 _ (by omega), e0 _ (by omega)]
    exact hsp p hp
  · intro t ht
    rw [e0 2 (by omega)] at ht
    obtain ⟨g1, g2⟩ := htt t ht
    obtain ⟨q1, q2⟩ := hst t ht
    rw [e0 _ (by omega)]
    refine ⟨q1, fun i hi => ?_⟩
    rw [e0 _ (by omega)]
    exact q2 i hi
  · intro g hg
    rw [e0 3 (by omega)] at hg
    simp only [updI_at]
    by_cases hq : g = h
    · subst hq
      rw [va_up_self, if_pos rfl]
    · rw [e0 _ (by omega), if_neg hq]
      exact hsa g hg
/-- a number of a part becomes another -/
theorem wf_put {A : Nat → Nat} (hw : wfA A) {p j v : Nat} (hp : p < A 1) (hj : 4 + 4 * p ≤ j) (hj2 : j < 8 + 4 * p) (hv : va_up A j v (4 + 4 * p) < 6 ∧ 1 ≤ va_up A j v (5 + 4 * p) ∧ va_up A j v (5 + 4 * p) ≤ va_up A j v (6 + 4 * p) ∧ va_up A j v (6 + 4 * p) ≤ 12 ∧ va_up A j v (7 + 4 * p) ≤ 9) : wfA (va_up A j v) := by
  obtain ⟨hy, h1, h2, h3, hpp, htt, hhh⟩ := hw
  have e0 : ∀ i, i ≠ j → va_up A j v i = A i := fun i hi => va_up_ne _ _ hi
  refine ⟨by rw [e0 0 (by omega)]; exact hy, by rw [e0 1 (by omega)]; exact h1, by rw [e0 2 (by omega)]; exact h2, by rw [e0 3 (by omega)]; exact h3, ?_, ?_, ?_⟩
  · intro q hq
    rw [e0 1 (by omega)] at hq
    by_cases hqp : q = p
    · subst hqp
      exact hv
    · rw [e0 _ (by omega), e0 _ (by omega), e0 _ (by omega), e0 _ (by omega)]
      exact hpp q hq
  · intro t ht
    rw [e0 2 (by omega)] at ht
    obtain ⟨g1, g2⟩ := htt t ht
    rw [e0 _ (by omega), e0 1 (by omega)]
    refine ⟨g1, fun i hi => ?_⟩
    rw [e0 _ (by omega)]
    exact g2 i hi
  · intro g hg
    rw [e0 3 (by omega)] at hg
    rw [e0 _ (by omega)]
    exact hhh g hg
theorem stk_put {A : Nat → Nat} (hw : wfA A) {kin lea mos wrt kin2 lea2 mos2 wrt2 : Nat → Int32} {siz tol ags : Nat → Int32} (hs : stk A (nI (A 1)) kin lea mos wrt (nI (A 2)) siz tol (nI (A 3)) ags (nI (A 0))) {p j v : Nat} (hp : p < A 1) (hj : 4 + 4 * p ≤ j) (hj2 : j < 8 + 4 * p) (ho : ∀ q, q ≠ p → kin2 q = kin q ∧ lea2 q = lea q ∧ mos2 q = mos q ∧ wrt2 q = wrt q) (hq : kin2 p = nI (va_up A j v (4 + 4 * p)) ∧ lea2 p = nI (va_up A j v (5 + 4 * p)) ∧ mos2 p = nI (va_up A j v (6 + 4 * p)) ∧ wrt2 p = nI (va_up A j v (7 + 4 * p))) : stk (va_up A j v) (nI (A 1)) kin2 lea2 mos2 wrt2 (nI (A 2)) siz tol (nI (A 3)) ags (nI (A 0)) := by
  obtain ⟨hy, h1, h2, h3, hpp, htt, hhh⟩ := hw
  obtain ⟨-, hsp, -, hst, -, hsa, -⟩ := hs
  have e0 : ∀ i, i ≠ j → va_up A j v i = A i := fun i hi => va_up_ne _ _ hi
  refine ⟨by rw [e0 1 (by omega)], ?_, by rw [e0 2 (by omega)], ?_, by rw [e0 3 (by omega)], ?_, by rw [e0 0 (by omega)]⟩
  · intro q hqq
    rw [e0 1 (by omega)] at hqq
    by_cases hqp : q = p
    · subst hqp
      exact hq
    · obtain ⟨o1, o2, o3, o4⟩ := ho q hqp
      rw [e0 _ (by omega), e0 _ (by omega), e0 _ (by omega), e0 _ (by omega), o1, o2, o3, o4]
      exact hsp q hqq
  · intro t ht
    rw [e0 2 (by omega)] at ht
    obtain ⟨g1, g2⟩ := htt t ht
    obtain ⟨q1, q2⟩ := hst t ht
    rw [e0 _ (by omega)]
    refine ⟨q1, fun i hi => ?_⟩
    rw [e0 _ (by omega)]
    exact q2 i hi
  · intro g hg
    rw [e0 3 (by omega)] at hg
    rw [e0 _ (by omega)]
    exact hsa g hg
/-- a tale becomes shorter -/
theorem wf_cut {A : Nat → Nat} (hw : wfA A) {t n : Nat} (ht : t < A 2) (hn : n ≤ A (68 + 11 * t)) : wfA (va_up A (68 + 11 * t) n) := by
  obtain ⟨hy, h1, h2, h3, hpp, htt, hhh⟩ := hw
  have e0 : ∀ i, i ≠ 68 + 11 * t → va_up A (68 + 11 * t) n i = A i := fun i hi => va_up_ne _ _ hi
  refine ⟨by rw [e0 0 (by omega)]; exact hy, by rw [e0 1 (by omega)]; exact h1, by rw [e0 2 (by omega)]; exact h2, by rw [e0 3 (by omega)]; exact h3, ?_, ?_, ?_⟩
  · intro p hp
    rw [e0 1 (by omega)] at hp
    rw [e0 _ (by omega), e0 _ (by omega), e0 _ (by omega), e0 _ (by omega)]
    exact hpp p hp
  · intro u hu
    rw [e0 2 (by omega)] at hu
    rw [e0 1 (by omega)]
    obtain ⟨g1, g2⟩ := htt u hu
    by_cases hq : u = t
    · subst hq
      rw [va_up_self]
      refine ⟨by omega, fun i hi => ?_⟩
      rw [e0 _ (by omega)]
      exact g2 i (by omega)
    · rw [e0 _ (by omega)]
      refine ⟨g1, fun i hi => ?_⟩
      rw [e0 _ (by omega)]
      exact g2 i hi
  · intro g hg
    rw [e0 3 (by omega)] at hg
    rw [e0 _ (by have := htt t ht; omega)]
    exact hhh g hg
theorem stk_cut {A : Nat → Nat} (hw : wfA A) {kin lea mos wrt : Nat → Int32} {siz tol ags : Nat → Int32} (hs : stk A (nI (A 1)) kin lea mos wrt (nI (A 2)) siz tol (nI (A 3)) ags (nI (A 0))) {t n : Nat} (ht : t < A 2) (hn : n ≤ A (68 + 11 * t)) : stk (va_up A (68 + 11 * t) n) (nI (A 1)) kin lea mos wrt (nI (A 2)) (upd siz t (nI n)) tol (nI (A 3)) ags (nI (A 0)) := by
  obtain ⟨hy, h1, h2, h3, hpp, htt, hhh⟩ := hw
  obtain ⟨-, hsp, -, hst, -, hsa, -⟩ := hs
  have e0 : ∀ i, i ≠ 68 + 11 * t → va_up A (68 + 11 * t) n i = A i := fun i hi => va_up_ne _ _ hi
  refine ⟨by rw [e0 1 (by omega)], ?_, by rw [e0 2 (by omega)], ?_, by rw [e0 3 (by omega)], ?_, by rw [e0 0 (by omega)]⟩
  · intro p hp
    rw [e0 1 (by omega)] at hp
    rw [e0 _ (by omega), e0 _ (by omega), e0 _ (by omega), e0 _ (by omega)]
    exact hsp p hp
  · intro u hu
    rw [e0 2 (by omega)] at hu
    obtain ⟨g1, g2⟩ := htt u hu
    obtain ⟨q1, q2⟩ := hst u hu
    simp only [updI_at]
    by_cases hq : u = t
    · subst hq
      rw [va_up_self, if_pos rfl]
      refine ⟨rfl, fun i hi => ?_⟩
      rw [e0 _ (by omega)]
      exact q2 i (by omega)
    · rw [e0 _ (by omega), if_neg hq]
      refine ⟨q1, fun i hi => ?_⟩
      rw [e0 _ (by omega)]
      exact q2 i hi
  · intro g hg
    rw [e0 3 (by omega)] at hg
    rw [e0 _ (by omega)]
    exact hsa g hg
theorem M_adds {A : Nat → Nat} {k a b w : Nat} (hl : A 1 < 16) : fX6_adds (toF A) (nI k) (nI a) (nI b) (nI w) = some (toF (aPart A k a b w)) := by
  have e0 : ((4 : Int32) + (4 : Int32) * toF A (1 : Int32).toNatClampNeg) + (0 : Int32) = nI (4 + 4 * A 1) := by
    show (nI 4 + nI 4 * nI (A 1)) + nI 0 = _
    rw [pk_mul, nI_add, nI_add]; rfl
  have e1 : ((4 : Int32) + (4 : Int32) * toF A (1 : Int32).toNatClampNeg) + (1 : Int32) = nI (5 + 4 * A 1) := by
    show (nI 4 + nI 4 * nI (A 1)) + nI 1 = _
    rw [pk_mul, nI_add, nI_add]; congr 1; omega
  have e2 : ((4 : Int32) + (4 : Int32) * toF A (1 : Int32).toNatClampNeg) + (2 : Int32) = nI (6 + 4 * A 1) := by
    show (nI 4 + nI 4 * nI (A 1)) + nI 2 = _
    rw [pk_mul, nI_add, nI_add]; congr 1; omega
  have e3 : ((4 : Int32) + (4 : Int32) * toF A (1 : Int32).toNatClampNeg) + (3 : Int32) = nI (7 + 4 * A 1) := by
    show (nI 4 + nI 4 * nI (A 1)) + nI 3 = _
    rw [pk_mul, nI_add, nI_add]; congr 1; omega
  unfold fX6_adds
  rw [e0, e1, e2, e3, gdN (by omega) (by omega), gdN (by omega) (by omega), gdN (by omega) (by omega), gdN (by omega) (by omega), nI_clamp (show 4 + 4 * A 1 < 2 ^ 31 by omega), nI_clamp (show 5 + 4 * A 1 < 2 ^ 31 by omega), nI_clamp (show 6 + 4 * A 1 < 2 ^ 31 by omega), nI_clamp (show 7 + 4 * A 1 < 2 ^ 31 by omega), upd_toF, upd_toF, upd_toF, upd_toF]
  have e4 : toF (va_up (va_up (va_up (va_up A (4 + 4 * A 1) k) (5 + 4 * A 1) a) (6 + 4 * A 1) b) (7 + 4 * A 1) w) (1 : Int32).toNatClampNeg + (1 : Int32) = nI (A 1 + 1) := by
    show nI (va_up (va_up (va_up (va_up A (4 + 4 * A 1) k) (5 + 4 * A 1) a) (6 + 4 * A 1) b) (7 + 4 * A 1) w 1) + 1 = _
    rw [va_up_ne _ _ (by omega), va_up_ne _ _ (by omega), va_up_ne _ _ (by omega), va_up_ne _ _ (by omega), nI_1]
  rw [e4]
  show some (upd (toF _) 1 (nI (A 1 + 1))) = _
  rw [upd_toF]
  rfl
theorem M_tells {A : Nat → Nat} {t p : Nat} (ht : t < 8) (hl : A (68 + 11 * t) < 10) : fX6_tells (toF A) (nI t) (nI p) = some (toF (aTell A t p)) := by
  unfold fX6_tells
  rw [e_tale, gdN (by omega) (by omega), gdN (by omega) (by omega), gdN (by omega) (by omega), nI_clamp (show 68 + 11 * t < 2 ^ 31 by omega), toF_at, nI_1, upd_toF, toF_at, va_up_self, nI_add, gdN (by omega) (by omega), nI_clamp (by omega), upd_toF]
  unfold aTell
  rw [show 68 + 11 * t + (A (68 + 11 * t) + 1) = 69 + 11 * t + A (68 + 11 * t) by omega]
theorem X_addPart {n : Nat} (hn : n < 16) (kin lea mos wrt : Nat → Int32) (x1 x2 x3 x4 : Int32) : fX3_addPart (nI n) kin lea mos wrt x1 x2 x3 x4 = some (nI n, nI (n + 1), upd kin n x1, upd lea n x2, upd mos n x3, upd wrt n x4) := by
  unfold fX3_addPart
  rw [gdN (by omega) (by omega), gdN (by omega) (by omega), gdN (by omega) (by omega), gdN (by omega) (by omega), nI_clamp (by omega), nI_1]
theorem X_addTale {n : Nat} (hn : n < 8) (siz : Nat → Int32) : fX3_addTale (nI n) siz = some (nI n, nI (n + 1), upd siz n 0) := by
  unfold fX3_addTale
  rw [gdN (by omega) (by omega), nI_clamp (by omega), nI_1]
theorem X_addTold {t n : Nat} (ht : t < 8) (hn : n < 10) {siz tol : Nat → Int32} (hs : siz t = nI n) (p : Int32) : fX3_addTold siz tol (nI t) p = some (nI (n + 1), upd siz t (nI (n + 1)), upd tol (10 * t + n) p) := by
  unfold fX3_addTold
  rw [gdN (by omega) (by omega), nI_clamp (show t < 2 ^ 31 by omega), hs, e_told, gdN (by omega) (by omega), gdN (by omega) (by omega), gdN (by omega) (by omega), nI_clamp (by omega), nI_1]
theorem X_addHearer {n : Nat} (hn : n < 10) (ags : Nat → Int32) (x : Int32) : fX3_addHearer (nI n) ags x = some (nI n, nI (n + 1), upd ags n x) := by
  unfold fX3_addHearer
  rw [gdN (by omega) (by omega), nI_clamp (by omega), nI_1]
theorem X_toldAt {t i : Nat} (ht : t < 8) (hi : i < 10) (tol : Nat → Int32) : fX3_toldAt tol (nI t) (nI i) = some (tol (10 * t + i)) := by
  unfold fX3_toldAt
  rw [e_told, gdN (by omega) (by omega), nI_clamp (by omega)]

