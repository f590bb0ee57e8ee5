def bI (b : Bool) : Int32 := if b = true then 1 else 0
theorem bI_nar (b : Bool) : narrow .boolean (.int (bI b)) = .int (bI b) := by cases b <;> rfl
def ib (i : Int32) (n : Nat) : Bool := !(decide (i < 0) || decide (n ≤ i.toNatClampNeg))
theorem ib_in {i : Int32} {n : Nat} (h : ib i n = true) : vp_in i n := by
  intro h2
  rcases h2 with h2 | h2 <;> simp [ib, h2] at h
def gd {α : Type} (b : Bool) (x : Option α) : Option α := if b = true then x else none
theorem gds {α : Type} {b : Bool} {x : Option α} {r : α} (h : gd b x = some r) : b = true ∧ x = some r := by
  unfold gd at h
  by_cases hb : b = true
  · rw [if_pos hb] at h; exact ⟨hb, h⟩
  · rw [if_neg hb] at h; cases h
theorem gdi {α : Type} {i : Int32} {n : Nat} {x : Option α} {r : α} (h : gd (ib i n) x = some r) : vp_in i n ∧ x = some r := ⟨ib_in (gds h).1, (gds h).2⟩
theorem itl {α : Type} {c : Prop} [Decidable c] {x y z : α} (h : (if c then x else y) = z) : (c → x = z) ∧ (¬ c → y = z) := ⟨fun hc => by rw [if_pos hc] at h; exact h, fun hc => by rw [if_neg hc] at h; exact h⟩
theorem obd {α β : Type} {o : Option α} {f : α → Option β} {r : β} (h : o.bind f = some r) : ∃ q, o = some q ∧ f q = some r := by
  cases o with
  | none => cases h
  | some q => exact ⟨q, rfl, h⟩
theorem ine {x k : Int32} (h : ¬ x = k) : x.toInt ≠ k.toInt := fun e => h (Int32.toInt_inj.mp e)
def fix1 {T1 ρ : Type} (f : (T1 → Option ρ) → T1 → Option ρ) : Nat → T1 → Option ρ
  | 0, _ => none
  | n + 1, x1 => f (fix1 f n) x1
theorem fix1_r {T1 ρ : Type} {f : (T1 → Option ρ) → T1 → Option ρ} {P : T1 → Prop} {res : ρ} (h : ∀ K : T1 → Option ρ, (∀ (x1 : T1), K x1 = some res → P x1) → ∀ (x1 : T1), f K x1 = some res → P x1) : ∀ (n : Nat) (x1 : T1), fix1 f n x1 = some res → P x1 := by
  intro n
  induction n with
  | zero => intro x1 hh; cases hh
  | succ n ih => intro x1 hh; exact h _ ih x1 hh
def fix2 {T1 T2 ρ : Type} (f : (T1 → T2 → Option ρ) → T1 → T2 → Option ρ) : Nat → T1 → T2 → Option ρ
  | 0, _, _ => none
  | n + 1, x1, x2 => f (fix2 f n) x1 x2
theorem fix2_r {T1 T2 ρ : Type} {f : (T1 → T2 → Option ρ) → T1 → T2 → Option ρ} {P : T1 → T2 → Prop} {res : ρ} (h : ∀ K : T1 → T2 → Option ρ, (∀ (x1 : T1) (x2 : T2), K x1 x2 = some res → P x1 x2) → ∀ (x1 : T1) (x2 : T2), f K x1 x2 = some res → P x1 x2) : ∀ (n : Nat) (x1 : T1) (x2 : T2), fix2 f n x1 x2 = some res → P x1 x2 := by
  intro n
  induction n with
  | zero => intro x1 x2 hh; cases hh
  | succ n ih => intro x1 x2 hh; exact h _ ih x1 x2 hh
def fix3 {T1 T2 T3 ρ : Type} (f : (T1 → T2 → T3 → Option ρ) → T1 → T2 → T3 → Option ρ) : Nat → T1 → T2 → T3 → Option ρ
  | 0, _, _, _ => none
  | n + 1, x1, x2, x3 => f (fix3 f n) x1 x2 x3
theorem fix3_r {T1 T2 T3 ρ : Type} {f : (T1 → T2 → T3 → Option ρ) → T1 → T2 → T3 → Option ρ} {P : T1 → T2 → T3 → Prop} {res : ρ} (h : ∀ K : T1 → T2 → T3 → Option ρ, (∀ (x1 : T1) (x2 : T2) (x3 : T3), K x1 x2 x3 = some res → P x1 x2 x3) → ∀ (x1 : T1) (x2 : T2) (x3 : T3), f K x1 x2 x3 = some res → P x1 x2 x3) : ∀ (n : Nat) (x1 : T1) (x2 : T2) (x3 : T3), fix3 f n x1 x2 x3 = some res → P x1 x2 x3 := by
  intro n
  induction n with
  | zero => intro x1 x2 x3 hh; cases hh
  | succ n ih => intro x1 x2 x3 hh; exact h _ ih x1 x2 x3 hh
def fix4 {T1 T2 T3 T4 ρ : Type} (f : (T1 → T2 → T3 → T4 → Option ρ) → T1 → T2 → T3 → T4 → Option ρ) : Nat → T1 → T2 → T3 → T4 → Option ρ
  | 0, _, _, _, _ => none
  | n + 1, x1, x2, x3, x4 => f (fix4 f n) x1 x2 x3 x4
theorem fix4_r {T1 T2 T3 T4 ρ : Type} {f : (T1 → T2 → T3 → T4 → Option ρ) → T1 → T2 → T3 → T4 → Option ρ} {P : T1 → T2 → T3 → T4 → Prop} {res : ρ} (h : ∀ K : T1 → T2 → T3 → T4 → Option ρ, (∀ (x1 : T1) (x2 : T2) (x3 : T3) (x4 : T4), K x1 x2 x3 x4 = some res → P x1 x2 x3 x4) → ∀ (x1 : T1) (x2 : T2) (x3 : T3) (x4 : T4), f K x1 x2 x3 x4 = some res → P x1 x2 x3 x4) : ∀ (n : Nat) (x1 : T1) (x2 : T2) (x3 : T3) (x4 : T4), fix4 f n x1 x2 x3 x4 = some res → P x1 x2 x3 x4 := by
  intro n
  induction n with
  | zero => intro x1 x2 x3 x4 hh; cases hh
  | succ n ih => intro x1 x2 x3 x4 hh; exact h _ ih x1 x2 x3 x4 hh
def fix5 {T1 T2 T3 T4 T5 ρ : Type} (f : (T1 → T2 → T3 → T4 → T5 → Option ρ) → T1 → T2 → T3 → T4 → T5 → Option ρ) : Nat → T1 → T2 → T3 → T4 → T5 → Option ρ
  | 0, _, _, _, _, _ => none
  | n + 1, x1, x2, x3, x4, x5 => f (fix5 f n) x1 x2 x3 x4 x5
theorem fix5_r {T1 T2 T3 T4 T5 ρ : Type} {f : (T1 → T2 → T3 → T4 → T5 → Option ρ) → T1 → T2 → T3 → T4 → T5 → Option ρ} {P : T1 → T2 → T3 → T4 → T5 → Prop} {res : ρ} (h : ∀ K : T1 → T2 → T3 → T4 → T5 → Option ρ, (∀ (x1 : T1) (x2 : T2) (x3 : T3) (x4 : T4) (x5 : T5), K x1 x2 x3 x4 x5 = some res → P x1 x2 x3 x4 x5) → ∀ (x1 : T1) (x2 : T2) (x3 : T3) (x4 : T4) (x5 : T5), f K x1 x2 x3 x4 x5 = some res → P x1 x2 x3 x4 x5) : ∀ (n : Nat) (x1 : T1) (x2 : T2) (x3 : T3) (x4 : T4) (x5 : T5), fix5 f n x1 x2 x3 x4 x5 = some res → P x1 x2 x3 x4 x5 := by
  intro n
  induction n with
  | zero => intro x1 x2 x3 x4 x5 hh; cases hh
  | succ n ih => intro x1 x2 x3 x4 x5 hh; exact h _ ih x1 x2 x3 x4 x5 hh
def fix6 {T1 T2 T3 T4 T5 T6 ρ : Type} (f : (T1 → T2 → T3 → T4 → T5 → T6 → Option ρ) → T1 → T2 → T3 → T4 → T5 → T6 → Option ρ) : Nat → T1 → T2 → T3 → T4 → T5 → T6 → Option ρ
  | 0, _, _, _, _, _, _ => none
  | n + 1, x1, x2, x3, x4, x5, x6 => f (fix6 f n) x1 x2 x3 x4 x5 x6
theorem fix6_r {T1 T2 T3 T4 T5 T6 ρ : Type} {f : (T1 → T2 → T3 → T4 → T5 → T6 → Option ρ) → T1 → T2 → T3 → T4 → T5 → T6 → Option ρ} {P : T1 → T2 → T3 → T4 → T5 → T6 → Prop} {res : ρ} (h : ∀ K : T1 → T2 → T3 → T4 → T5 → T6 → Option ρ, (∀ (x1 : T1) (x2 : T2) (x3 : T3) (x4 : T4) (x5 : T5) (x6 : T6), K x1 x2 x3 x4 x5 x6 = some res → P x1 x2 x3 x4 x5 x6) → ∀ (x1 : T1) (x2 : T2) (x3 : T3) (x4 : T4) (x5 : T5) (x6 : T6), f K x1 x2 x3 x4 x5 x6 = some res → P x1 x2 x3 x4 x5 x6) : ∀ (n : Nat) (x1 : T1) (x2 : T2) (x3 : T3) (x4 : T4) (x5 : T5) (x6 : T6), fix6 f n x1 x2 x3 x4 x5 x6 = some res → P x1 x2 x3 x4 x5 x6 := by
  intro n
  induction n with
  | zero => intro x1 x2 x3 x4 x5 x6 hh; cases hh
  | succ n ih => intro x1 x2 x3 x4 x5 x6 hh; exact h _ ih x1 x2 x3 x4 x5 x6 hh
def fix7 {T1 T2 T3 T4 T5 T6 T7 ρ : Type} (f : (T1 → T2 → T3 → T4 → T5 → T6 → T7 → Option ρ) → T1 → T2 → T3 → T4 → T5 → T6 → T7 → Option ρ) : Nat → T1 → T2 → T3 → T4 → T5 → T6 → T7 → Option ρ
  | 0, _, _, _, _, _, _, _ => none
  | n + 1, x1, x2, x3, x4, x5, x6, x7 => f (fix7 f n) x1 x2 x3 x4 x5 x6 x7
theorem fix7_r {T1 T2 T3 T4 T5 T6 T7 ρ : Type} {f : (T1 → T2 → T3 → T4 → T5 → T6 → T7 → Option ρ) → T1 → T2 → T3 → T4 → T5 → T6 → T7 → Option ρ} {P : T1 → T2 → T3 → T4 → T5 → T6 → T7 → Prop} {res : ρ} (h : ∀ K : T1 → T2 → T3 → T4 → T5 → T6 → T7 → Option ρ, (∀ (x1 : T1) (x2 : T2) (x3 : T3) (x4 : T4) (x5 : T5) (x6 : T6) (x7 : T7), K x1 x2 x3 x4 x5 x6 x7 = some res → P x1 x2 x3 x4 x5 x6 x7) → ∀ (x1 : T1) (x2 : T2) (x3 : T3) (x4 : T4) (x5 : T5) (x6 : T6) (x7 : T7), f K x1 x2 x3 x4 x5 x6 x7 = some res → P x1 x2 x3 x4 x5 x6 x7) : ∀ (n : Nat) (x1 : T1) (x2 : T2) (x3 : T3) (x4 : T4) (x5 : T5) (x6 : T6) (x7 : T7), fix7 f n x1 x2 x3 x4 x5 x6 x7 = some res → P x1 x2 x3 x4 x5 x6 x7 := by
  intro n
  induction n with
  | zero => intro x1 x2 x3 x4 x5 x6 x7 hh; cases hh
  | succ n ih => intro x1 x2 x3 x4 x5 x6 x7 hh; exact h _ ih x1 x2 x3 x4 x5 x6 x7 hh
def fix8 {T1 T2 T3 T4 T5 T6 T7 T8 ρ : Type} (f : (T1 → T2 → T3 → T4 → T5 → T6 → T7 → T8 → Option ρ) → T1 → T2 → T3 → T4 → T5 → T6 → T7 → T8 → Option ρ) : Nat → T1 → T2 → T3 → T4 → T5 → T6 → T7 → T8 → Option ρ
  | 0, _, _, _, _, _, _, _, _ => none
  | n + 1, x1, x2, x3, x4, x5, x6, x7, x8 => f (fix8 f n) x1 x2 x3 x4 x5 x6 x7 x8
theorem fix8_r {T1 T2 T3 T4 T5 T6 T7 T8 ρ : Type} {f : (T1 → T2 → T3 → T4 → T5 → T6 → T7 → T8 → Option ρ) → T1 → T2 → T3 → T4 → T5 → T6 → T7 → T8 → Option ρ} {P : T1 → T2 → T3 → T4 → T5 → T6 → T7 → T8 → Prop} {res : ρ} (h : ∀ K : T1 → T2 → T3 → T4 → T5 → T6 → T7 → T8 → Option ρ, (∀ (x1 : T1) (x2 : T2) (x3 : T3) (x4 : T4) (x5 : T5) (x6 : T6) (x7 : T7) (x8 : T8), K x1 x2 x3 x4 x5 x6 x7 x8 = some res → P x1 x2 x3 x4 x5 x6 x7 x8) → ∀ (x1 : T1) (x2 : T2) (x3 : T3) (x4 : T4) (x5 : T5) (x6 : T6) (x7 : T7) (x8 : T8), f K x1 x2 x3 x4 x5 x6 x7 x8 = some res → P x1 x2 x3 x4 x5 x6 x7 x8) : ∀ (n : Nat) (x1 : T1) (x2 : T2) (x3 : T3) (x4 : T4) (x5 : T5) (x6 : T6) (x7 : T7) (x8 : T8), fix8 f n x1 x2 x3 x4 x5 x6 x7 x8 = some res → P x1 x2 x3 x4 x5 x6 x7 x8 := by
  intro n
  induction n with
  | zero => intro x1 x2 x3 x4 x5 x6 x7 x8 hh; cases hh
  | succ n ih => intro x1 x2 x3 x4 x5 x6 x7 x8 hh; exact h _ ih x1 x2 x3 x4 x5 x6 x7 x8 hh
def fix9 {T1 T2 T3 T4 T5 T6 T7 T8 T9 ρ : Type} (f : (T1 → T2 → T3 → T4 → T5 → T6 → T7 → T8 → T9 → Option ρ) → T1 → T2 → T3 → T4 → T5 → T6 → T7 → T8 → T9 → Option ρ) : Nat → T1 → T2 → T3 → T4 → T5 → T6 → T7 → T8 → T9 → Option ρ
  | 0, _, _, _, _, _, _, _, _, _ => none
  | n + 1, x1, x2, x3, x4, x5, x6, x7, x8, x9 => f (fix9 f n) x1 x2 x3 x4 x5 x6 x7 x8 x9
theorem fix9_r {T1 T2 T3 T4 T5 T6 T7 T8 T9 ρ : Type} {f : (T1 → T2 → T3 → T4 → T5 → T6 → T7 → T8 → T9 → Option ρ) → T1 → T2 → T3 → T4 → T5 → T6 → T7 → T8 → T9 → Option ρ} {P : T1 → T2 → T3 → T4 → T5 → T6 → T7 → T8 → T9 → Prop} {res : ρ} (h : ∀ K : T1 → T2 → T3 → T4 → T5 → T6 → T7 → T8 → T9 → Option ρ, (∀ (x1 : T1) (x2 : T2) (x3 : T3) (x4 : T4) (x5 : T5) (x6 : T6) (x7 : T7) (x8 : T8) (x9 : T9), K x1 x2 x3 x4 x5 x6 x7 x8 x9 = some res → P x1 x2 x3 x4 x5 x6 x7 x8 x9) → ∀ (x1 : T1) (x2 : T2) (x3 : T3) (x4 : T4) (x5 : T5) (x6 : T6) (x7 : T7) (x8 : T8) (x9 : T9), f K x1 x2 x3 x4 x5 x6 x7 x8 x9 = some res → P x1 x2 x3 x4 x5 x6 x7 x8 x9) : ∀ (n : Nat) (x1 : T1) (x2 : T2) (x3 : T3) (x4 : T4) (x5 : T5) (x6 : T6) (x7 : T7) (x8 : T8) (x9 : T9), fix9 f n x1 x2 x3 x4 x5 x6 x7 x8 x9 = some res → P x1 x2 x3 x4 x5 x6 x7 x8 x9 := by
  intro n
  induction n with
  | zero => intro x1 x2 x3 x4 x5 x6 x7 x8 x9 hh; cases hh
  | succ n ih => intro x1 x2 x3 x4 x5 x6 x7 x8 x9 hh; exact h _ ih x1 x2 x3 x4 x5 x6 x7 x8 x9 hh
def fix10 {T1 T2 T3 T4 T5 T6 T7 T8 T9 T10 ρ : Type} (f : (T1 → T2 → T3 → T4 → T5 → T6 → T7 → T8 → T9 → T10 → Option ρ) → T1 → T2 → T3 → T4 → T5 → T6 → T7 → T8 → T9 → T10 → Option ρ) : Nat → T1 → T2 → T3 → T4 → T5 → T6 → T7 → T8 → T9 → T10 → Option ρ
  | 0, _, _, _, _, _, _, _, _, _, _ => none
  | n + 1, x1, x2, x3, x4, x5, x6, x7, x8, x9, x10 => f (fix10 f n) x1 x2 x3 x4 x5 x6 x7 x8 x9 x10
theorem fix10_r {T1 T2 T3 T4 T5 T6 T7 T8 T9 T10 ρ : Type} {f : (T1 → T2 → T3 → T4 → T5 → T6 → T7 → T8 → T9 → T10 → Option ρ) → T1 → T2 → T3 → T4 → T5 → T6 → T7 → T8 → T9 → T10 → Option ρ} {P : T1 → T2 → T3 → T4 → T5 → T6 → T7 → T8 → T9 → T10 → Prop} {res : ρ} (h : ∀ K : T1 → T2 → T3 → T4 → T5 → T6 → T7 → T8 → T9 → T10 → Option ρ, (∀ (x1 : T1) (x2 : T2) (x3 : T3) (x4 : T4) (x5 : T5) (x6 : T6) (x7 : T7) (x8 : T8) (x9 : T9) (x10 : T10), K x1 x2 x3 x4 x5 x6 x7 x8 x9 x10 = some res → P x1 x2 x3 x4 x5 x6 x7 x8 x9 x10) → ∀ (x1 : T1) (x2 : T2) (x3 : T3) (x4 : T4) (x5 : T5) (x6 : T6) (x7 : T7) (x8 : T8) (x9 : T9) (x10 : T10), f K x1 x2 x3 x4 x5 x6 x7 x8 x9 x10 = some res → P x1 x2 x3 x4 x5 x6 x7 x8 x9 x10) : ∀ (n : Nat) (x1 : T1) (x2 : T2) (x3 : T3) (x4 : T4) (x5 : T5) (x6 : T6) (x7 : T7) (x8 : T8) (x9 : T9) (x10 : T10), fix10 f n x1 x2 x3 x4 x5 x6 x7 x8 x9 x10 = some res → P x1 x2 x3 x4 x5 x6 x7 x8 x9 x10 := by
  intro n
  induction n with
  | zero => intro x1 x2 x3 x4 x5 x6 x7 x8 x9 x10 hh; cases hh
  | succ n ih => intro x1 x2 x3 x4 x5 x6 x7 x8 x9 x10 hh; exact h _ ih x1 x2 x3 x4 x5 x6 x7 x8 x9 x10 hh
def fix11 {T1 T2 T3 T4 T5 T6 T7 T8 T9 T10 T11 ρ : Type} (f : (T1 → T2 → T3 → T4 → T5 → T6 → T7 → T8 → T9 → T10 → T11 → Option ρ) → T1 → T2 → T3 → T4 → T5 → T6 → T7 → T8 → T9 → T10 → T11 → Option ρ) : Nat → T1 → T2 → T3 → T4 → T5 → T6 → T7 → T8 → T9 → T10 → T11 → Option ρ
  | 0, _, _, _, _, _, _, _, _, _, _, _ => none
  | n + 1, x1, x2, x3, x4, x5, x6, x7, x8, x9, x10, x11 => f (fix11 f n) x1 x2 x3 x4 x5 x6 x7 x8 x9 x10 x11
theorem fix11_r {T1 T2 T3 T4 T5 T6 T7 T8 T9 T10 T11 ρ : Type} {f : (T1 → T2 → T3 → T4 → T5 → T6 → T7 → T8 → T9 → T10 → T11 → Option ρ) → T1 → T2 → T3 → T4 → T5 → T6 → T7 → T8 → T9 → T10 → T11 → Option ρ} {P : T1 → T2 → T3 → T4 → T5 → T6 → T7 → T8 → T9 → T10 → T11 → Prop} {res : ρ} (h : ∀ K : T1 → T2 → T3 → T4 → T5 → T6 → T7 → T8 → T9 → T10 → T11 → Option ρ, (∀ (x1 : T1) (x2 : T2) (x3 : T3) (x4 : T4) (x5 : T5) (x6 : T6) (x7 : T7) (x8 : T8) (x9 : T9) (x10 : T10) (x11 : T11), K x1 x2 x3 x4 x5 x6 x7 x8 x9 x10 x11 = some res → P x1 x2 x3 x4 x5 x6 x7 x8 x9 x10 x11) → ∀ (x1 : T1) (x2 : T2) (x3 : T3) (x4 : T4) (x5 : T5) (x6 : T6) (x7 : T7) (x8 : T8) (x9 : T9) (x10 : T10) (x11 : T11), f K x1 x2 x3 x4 x5 x6 x7 x8 x9 x10 x11 = some res → P x1 x2 x3 x4 x5 x6 x7 x8 x9 x10 x11) : ∀ (n : Nat) (x1 : T1) (x2 : T2) (x3 : T3) (x4 : T4) (x5 : T5) (x6 : T6) (x7 : T7) (x8 : T8) (x9 : T9) (x10 : T10) (x11 : T11), fix11 f n x1 x2 x3 x4 x5 x6 x7 x8 x9 x10 x11 = some res → P x1 x2 x3 x4 x5 x6 x7 x8 x9 x10 x11 := by
  intro n
  induction n with
  | zero => intro x1 x2 x3 x4 x5 x6 x7 x8 x9 x10 x11 hh; cases hh
  | succ n ih => intro x1 x2 x3 x4 x5 x6 x7 x8 x9 x10 x11 hh; exact h _ ih x1 x2 x3 x4 x5 x6 x7 x8 x9 x10 x11 hh
def fix12 {T1 T2 T3 T4 T5 T6 T7 T8 T9 T10 T11 T12 ρ : Type} (f : (T1 → T2 → T3 → T4 → T5 → T6 → T7 → T8 → T9 → T10 → T11 → T12 → Option ρ) → T1 → T2 → T3 → T4 → T5 → T6 → T7 → T8 → T9 → T10 → T11 → T12 → Option ρ) : Nat → T1 → T2 → T3 → T4 → T5 → T6 → T7 → T8 → T9 → T10 → T11 → T12 → Option ρ
  | 0, _, _, _, _, _, _, _, _, _, _, _, _ => none
  | n + 1, x1, x2, x3, x4, x5, x6, x7, x8, x9, x10, x11, x12 => f (fix12 f n) x1 x2 x3 x4 x5 x6 x7 x8 x9 x10 x11 x12
theorem fix12_r {T1 T2 T3 T4 T5 T6 T7 T8 T9 T10 T11 T12 ρ : Type} {f : (T1 → T2 → T3 → T4 → T5 → T6 → T7 → T8 → T9 → T10 → T11 → T12 → Option ρ) → T1 → T2 → T3 → T4 → T5 → T6 → T7 → T8 → T9 → T10 → T11 → T12 → Option ρ} {P : T1 → T2 → T3 → T4 → T5 → T6 → T7 → T8 → T9 → T10 → T11 → T12 → Prop} {res : ρ} (h : ∀ K : T1 → T2 → T3 → T4 → T5 → T6 → T7 → T8 → T9 → T10 → T11 → T12 → Option ρ, (∀ (x1 : T1) (x2 : T2) (x3 : T3) (x4 : T4) (x5 : T5) (x6 : T6) (x7 : T7) (x8 : T8) (x9 : T9) (x10 : T10) (x11 : T11) (x12 : T12), K x1 x2 x3 x4 x5 x6 x7 x8 x9 x10 x11 x12 = some res → P x1 x2 x3 x4 x5 x6 x7 x8 x9 x10 x11 x12) → ∀ (x1 : T1) (x2 : T2) (x3 : T3) (x4 : T4) (x5 : T5) (x6 : T6) (x7 : T7) (x8 : T8) (x9 : T9) (x10 : T10) (x11 : T11) (x12 : T12), f K x1 x2 x3 x4 x5 x6 x7 x8 x9 x10 x11 x12 = some res → P x1 x2 x3 x4 x5 x6 x7 x8 x9 x10 x11 x12) : ∀ (n : Nat) (x1 : T1) (x2 : T2) (x3 : T3) (x4 : T4) (x5 : T5) (x6 : T6) (x7 : T7) (x8 : T8) (x9 : T9) (x10 : T10) (x11 : T11) (x12 : T12), fix12 f n x1 x2 x3 x4 x5 x6 x7 x8 x9 x10 x11 x12 = some res → P x1 x2 x3 x4 x5 x6 x7 x8 x9 x10 x11 x12 := by
  intro n
  induction n with
  | zero => intro x1 x2 x3 x4 x5 x6 x7 x8 x9 x10 x11 x12 hh; cases hh
  | succ n ih => intro x1 x2 x3 x4 x5 x6 x7 x8 x9 x10 x11 x12 hh; exact h _ ih x1 x2 x3 x4 x5 x6 x7 x8 x9 x10 x11 x12 hh
def fix13 {T1 T2 T3 T4 T5 T6 T7 T8 T9 T10 T11 T12 T13 ρ : Type} (f : (T1 → T2 → T3 → T4 → T5 → T6 → T7 → T8 → T9 → T10 → T11 → T12 → T13 → Option ρ) → T1 → T2 → T3 → T4 → T5 → T6 → T7 → T8 → T9 → T10 → T11 → T12 → T13 → Option ρ) : Nat → T1 → T2 → T3 → T4 → T5 → T6 → T7 → T8 → T9 → T10 → T11 → T12 → T13 → Option ρ
  | 0, _, _, _, _, _, _, _, _, _, _, _, _, _ => none
  | n + 1, x1, x2, x3, x4, x5, x6, x7, x8, x9, x10, x11, x12, x13 => f (fix13 f n) x1 x2 x3 x4 x5 x6 x7 x8 x9 x10 x11 x12 x13
theorem fix13_r {T1 T2 T3 T4 T5 T6 T7 T8 T9 T10 T11 T12 T13 ρ : Type} {f : (T1 → T2 → T3 → T4 → T5 → T6 → T7 → T8 → T9 → T10 → T11 → T12 → T13 → Option ρ) → T1 → T2 → T3 → T4 → T5 → T6 → T7 → T8 → T9 → T10 → T11 → T12 → T13 → Option ρ} {P : T1 → T2 → T3 → T4 → T5 → T6 → T7 → T8 → T9 → T10 → T11 → T12 → T13 → Prop} {res : ρ} (h : ∀ K : T1 → T2 → T3 → T4 → T5 → T6 → T7 → T8 → T9 → T10 → T11 → T12 → T13 → Option ρ, (∀ (x1 : T1) (x2 : T2) (x3 : T3) (x4 : T4) (x5 : T5) (x6 : T6) (x7 : T7) (x8 : T8) (x9 : T9) (x10 : T10) (x11 : T11) (x12 : T12) (x13 : T13), K x1 x2 x3 x4 x5 x6 x7 x8 x9 x10 x11 x12 x13 = some res → P x1 x2 x3 x4 x5 x6 x7 x8 x9 x10 x11 x12 x13) → ∀ (x1 : T1) (x2 : T2) (x3 : T3) (x4 : T4) (x5 : T5) (x6 : T6) (x7 : T7) (x8 : T8) (x9 : T9) (x10 : T10) (x11 : T11) (x12 : T12) (x13 : T13), f K x1 x2 x3 x4 x5 x6 x7 x8 x9 x10 x11 x12 x13 = some res → P x1 x2 x3 x4 x5 x6 x7 x8 x9 x10 x11 x12 x13) : ∀ (n : Nat) (x1 : T1) (x2 : T2) (x3 : T3) (x4 : T4) (x5 : T5) (x6 : T6) (x7 : T7) (x8 : T8) (x9 : T9) (x10 : T10) (x11 : T11) (x12 : T12) (x13 : T13), fix13 f n x1 x2 x3 x4 x5 x6 x7 x8 x9 x10 x11 x12 x13 = some res → P x1 x2 x3 x4 x5 x6 x7 x8 x9 x10 x11 x12 x13 := by
  intro n
  induction n with
  | zero => intro x1 x2 x3 x4 x5 x6 x7 x8 x9 x10 x11 x12 x13 hh; cases hh
  | succ n ih => intro x1 x2 x3 x4 x5 x6 x7 x8 x9 x10 x11 x12 x13 hh; exact h _ ih x1 x2 x3 x4 x5 x6 x7 x8 x9 x10 x11 x12 x13 hh
def fix14 {T1 T2 T3 T4 T5 T6 T7 T8 T9 T10 T11 T12 T13 T14 ρ : Type} (f : (T1 → T2 → T3 → T4 → T5 → T6 → T7 → T8 → T9 → T10 → T11 → T12 → T13 → T14 → Option ρ) → T1 → T2 → T3 → T4 → T5 → T6 → T7 → T8 → T9 → T10 → T11 → T12 → T13 → T14 → Option ρ) : Nat → T1 → T2 → T3 → T4 → T5 → T6 → T7 → T8 → T9 → T10 → T11 → T12 → T13 → T14 → Option ρ
  | 0, _, _, _, _, _, _, _, _, _, _, _, _, _, _ => none
  | n + 1, x1, x2, x3, x4, x5, x6, x7, x8, x9, x10, x11, x12, x13, x14 => f (fix14 f n) x1 x2 x3 x4 x5 x6 x7 x8 x9 x10 x11 x12 x13 x14
theorem fix14_r {T1 T2 T3 T4 T5 T6 T7 T8 T9 T10 T11 T12 T13 T14 ρ : Type} {f : (T1 → T2 → T3 → T4 → T5 → T6 → T7 → T8 → T9 → T10 → T11 → T12 → T13 → T14 → Option ρ) → T1 → T2 → T3 → T4 → T5 → T6 → T7 → T8 → T9 → T10 → T11 → T12 → T13 → T14 → Option ρ} {P : T1 → T2 → T3 → T4 → T5 → T6 → T7 → T8 → T9 → T10 → T11 → T12 → T13 → T14 → Prop} {res : ρ} (h : ∀ K : T1 → T2 → T3 → T4 → T5 → T6 → T7 → T8 → T9 → T10 → T11 → T12 → T13 → T14 → Option ρ, (∀ (x1 : T1) (x2 : T2) (x3 : T3) (x4 : T4) (x5 : T5) (x6 : T6) (x7 : T7) (x8 : T8) (x9 : T9) (x10 : T10) (x11 : T11) (x12 : T12) (x13 : T13) (x14 : T14), K x1 x2 x3 x4 x5 x6 x7 x8 x9 x10 x11 x12 x13 x14 = some res → P x1 x2 x3 x4 x5 x6 x7 x8 x9 x10 x11 x12 x13 x14) → ∀ (x1 : T1) (x2 : T2) (x3 : T3) (x4 : T4) (x5 : T5) (x6 : T6) (x7 : T7) (x8 : T8) (x9 : T9) (x10 : T10) (x11 : T11) (x12 : T12) (x13 : T13) (x14 : T14), f K x1 x2 x3 x4 x5 x6 x7 x8 x9 x10 x11 x12 x13 x14 = some res → P x1 x2 x3 x4 x5 x6 x7 x8 x9 x10 x11 x12 x13 x14) : ∀ (n : Nat) (x1 : T1) (x2 : T2) (x3 : T3) (x4 : T4) (x5 : T5) (x6 : T6) (x7 : T7) (x8 : T8) (x9 : T9) (x10 : T10) (x11 : T11) (x12 : T12) (x13 : T13) (x14 : T14), fix14 f n x1 x2 x3 x4 x5 x6 x7 x8 x9 x10 x11 x12 x13 x14 = some res → P x1 x2 x3 x4 x5 x6 x7 x8 x9 x10 x11 x12 x13 x14 := by
  intro n
  induction n with
  | zero => intro x1 x2 x3 x4 x5 x6 x7 x8 x9 x10 x11 x12 x13 x14 hh; cases hh
  | succ n ih => intro x1 x2 x3 x4 x5 x6 x7 x8 x9 x10 x11 x12 x13 x14 hh; exact h _ ih x1 x2 x3 x4 x5 x6 x7 x8 x9 x10 x11 x12 x13 x14 hh
def fix15 {T1 T2 T3 T4 T5 T6 T7 T8 T9 T10 T11 T12 T13 T14 T15 ρ : Type} (f : (T1 → T2 → T3 → T4 → T5 → T6 → T7 → T8 → T9 → T10 → T11 → T12 → T13 → T14 → T15 → Option ρ) → T1 → T2 → T3 → T4 → T5 → T6 → T7 → T8 → T9 → T10 → T11 → T12 → T13 → T14 → T15 → Option ρ) : Nat → T1 → T2 → T3 → T4 → T5 → T6 → T7 → T8 → T9 → T10 → T11 → T12 → T13 → T14 → T15 → Option ρ
  | 0, _, _, _, _, _, _, _, _, _, _, _, _, _, _, _ => none
  | n + 1, x1, x2, x3, x4, x5, x6, x7, x8, x9, x10, x11, x12, x13, x14, x15 => f (fix15 f n) x1 x2 x3 x4 x5 x6 x7 x8 x9 x10 x11 x12 x13 x14 x15
theorem fix15_r {T1 T2 T3 T4 T5 T6 T7 T8 T9 T10 T11 T12 T13 T14 T15 ρ : Type} {f : (T1 → T2 → T3 → T4 → T5 → T6 → T7 → T8 → T9 → T10 → T11 → T12 → T13 → T14 → T15 → Option ρ) → T1 → T2 → T3 → T4 → T5 → T6 → T7 → T8 → T9 → T10 → T11 → T12 → T13 → T14 → T15 → Option ρ} {P : T1 → T2 → T3 → T4 → T5 → T6 → T7 → T8 → T9 → T10 → T11 → T12 → T13 → T14 → T15 → Prop} {res : ρ} (h : ∀ K : T1 → T2 → T3 → T4 → T5 → T6 → T7 → T8 → T9 → T10 → T11 → T12 → T13 → T14 → T15 → Option ρ, (∀ (x1 : T1) (x2 : T2) (x3 : T3) (x4 : T4) (x5 : T5) (x6 : T6) (x7 : T7) (x8 : T8) (x9 : T9) (x10 : T10) (x11 : T11) (x12 : T12) (x13 : T13) (x14 : T14) (x15 : T15), K x1 x2 x3 x4 x5 x6 x7 x8 x9 x10 x11 x12 x13 x14 x15 = some res → P x1 x2 x3 x4 x5 x6 x7 x8 x9 x10 x11 x12 x13 x14 x15) → ∀ (x1 : T1) (x2 : T2) (x3 : T3) (x4 : T4) (x5 : T5) (x6 : T6) (x7 : T7) (x8 : T8) (x9 : T9) (x10 : T10) (x11 : T11) (x12 : T12) (x13 : T13) (x14 : T14) (x15 : T15), f K x1 x2 x3 x4 x5 x6 x7 x8 x9 x10 x11 x12 x13 x14 x15 = some res → P x1 x2 x3 x4 x5 x6 x7 x8 x9 x10 x11 x12 x13 x14 x15) : ∀ (n : Nat) (x1 : T1) (x2 : T2) (x3 : T3) (x4 : T4) (x5 : T5) (x6 : T6) (x7 : T7) (x8 : T8) (x9 : T9) (x10 : T10) (x11 : T11) (x12 : T12) (x13 : T13) (x14 : T14) (x15 : T15), fix15 f n x1 x2 x3 x4 x5 x6 x7 x8 x9 x10 x11 x12 x13 x14 x15 = some res → P x1 x2 x3 x4 x5 x6 x7 x8 x9 x10 x11 x12 x13 x14 x15 := by
  intro n
  induction n with
  | zero => intro x1 x2 x3 x4 x5 x6 x7 x8 x9 x10 x11 x12 x13 x14 x15 hh; cases hh
  | succ n ih => intro x1 x2 x3 x4 x5 x6 x7 x8 x9 x10 x11 x12 x13 x14 x15 hh; exact h _ ih x1 x2 x3 x4 x5 x6 x7 x8 x9 x10 x11 x12 x13 x14 x15 hh
def fix16 {T1 T2 T3 T4 T5 T6 T7 T8 T9 T10 T11 T12 T13 T14 T15 T16 ρ : Type} (f : (T1 → T2 → T3 → T4 → T5 → T6 → T7 → T8 → T9 → T10 → T11 → T12 → T13 → T14 → T15 → T16 → Option ρ) → T1 → T2 → T3 → T4 → T5 → T6 → T7 → T8 → T9 → T10 → T11 → T12 → T13 → T14 → T15 → T16 → Option ρ) : Nat → T1 → T2 → T3 → T4 → T5 → T6 → T7 → T8 → T9 → T10 → T11 → T12 → T13 → T14 → T15 → T16 → Option ρ
  | 0, _, _, _, _, _, _, _, _, _, _, _, _, _, _, _, _ => none
  | n + 1, x1, x2, x3, x4, x5, x6, x7, x8, x9, x10, x11, x12, x13, x14, x15, x16 => f (fix16 f n) x1 x2 x3 x4 x5 x6 x7 x8 x9 x10 x11 x12 x13 x14 x15 x16
theorem fix16_r {T1 T2 T3 T4 T5 T6 T7 T8 T9 T10 T11 T12 T13 T14 T15 T16 ρ : Type} {f : (T1 → T2 → T3 → T4 → T5 → T6 → T7 → T8 → T9 → T10 → T11 → T12 → T13 → T14 → T15 → T16 → Option ρ) → T1 → T2 → T3 → T4 → T5 → T6 → T7 → T8 → T9 → T10 → T11 → T12 → T13 → T14 → T15 → T16 → Option ρ} {P : T1 → T2 → T3 → T4 → T5 → T6 → T7 → T8 → T9 → T10 → T11 → T12 → T13 → T14 → T15 → T16 → Prop} {res : ρ} (h : ∀ K : T1 → T2 → T3 → T4 → T5 → T6 → T7 → T8 → T9 → T10 → T11 → T12 → T13 → T14 → T15 → T16 → Option ρ, (∀ (x1 : T1) (x2 : T2) (x3 : T3) (x4 : T4) (x5 : T5) (x6 : T6) (x7 : T7) (x8 : T8) (x9 : T9) (x10 : T10) (x11 : T11) (x12 : T12) (x13 : T13) (x14 : T14) (x15 : T15) (x16 : T16), K x1 x2 x3 x4 x5 x6 x7 x8 x9 x10 x11 x12 x13 x14 x15 x16 = some res → P x1 x2 x3 x4 x5 x6 x7 x8 x9 x10 x11 x12 x13 x14 x15 x16) → ∀ (x1 : T1) (x2 : T2) (x3 : T3) (x4 : T4) (x5 : T5) (x6 : T6) (x7 : T7) (x8 : T8) (x9 : T9) (x10 : T10) (x11 : T11) (x12 : T12) (x13 : T13) (x14 : T14) (x15 : T15) (x16 : T16), f K x1 x2 x3 x4 x5 x6 x7 x8 x9 x10 x11 x12 x13 x14 x15 x16 = some res → P x1 x2 x3 x4 x5 x6 x7 x8 x9 x10 x11 x12 x13 x14 x15 x16) : ∀ (n : Nat) (x1 : T1) (x2 : T2) (x3 : T3) (x4 : T4) (x5 : T5) (x6 : T6) (x7 : T7) (x8 : T8) (x9 : T9) (x10 : T10) (x11 : T11) (x12 : T12) (x13 : T13) (x14 : T14) (x15 : T15) (x16 : T16), fix16 f n x1 x2 x3 x4 x5 x6 x7 x8 x9 x10 x11 x12 x13 x14 x15 x16 = some res → P x1 x2 x3 x4 x5 x6 x7 x8 x9 x10 x11 x12 x13 x14 x15 x16 := by
  intro n
  induction n with
  | zero => intro x1 x2 x3 x4 x5 x6 x7 x8 x9 x10 x11 x12 x13 x14 x15 x16 hh; cases hh
  | succ n ih => intro x1 x2 x3 x4 x5 x6 x7 x8 x9 x10 x11 x12 x13 x14 x15 x16 hh; exact h _ ih x1 x2 x3 x4 x5 x6 x7 x8 x9 x10 x11 x12 x13 x14 x15 x16 hh
def fix17 {T1 T2 T3 T4 T5 T6 T7 T8 T9 T10 T11 T12 T13 T14 T15 T16 T17 ρ : Type} (f : (T1 → T2 → T3 → T4 → T5 → T6 → T7 → T8 → T9 → T10 → T11 → T12 → T13 → T14 → T15 → T16 → T17 → Option ρ) → T1 → T2 → T3 → T4 → T5 → T6 → T7 → T8 → T9 → T10 → T11 → T12 → T13 → T14 → T15 → T16 → T17 → Option ρ) : Nat → T1 → T2 → T3 → T4 → T5 → T6 → T7 → T8 → T9 → T10 → T11 → T12 → T13 → T14 → T15 → T16 → T17 → Option ρ
  | 0, _, _, _, _, _, _, _, _, _, _, _, _, _, _, _, _, _ => none
  | n + 1, x1, x2, x3, x4, x5, x6, x7, x8, x9, x10, x11, x12, x13, x14, x15, x16, x17 => f (fix17 f n) x1 x2 x3 x4 x5 x6 x7 x8 x9 x10 x11 x12 x13 x14 x15 x16 x17
theorem fix17_r {T1 T2 T3 T4 T5 T6 T7 T8 T9 T10 T11 T12 T13 T14 T15 T16 T17 ρ : Type} {f : (T1 → T2 → T3 → T4 → T5 → T6 → T7 → T8 → T9 → T10 → T11 → T12 → T13 → T14 → T15 → T16 → T17 → Option ρ) → T1 → T2 → T3 → T4 → T5 → T6 → T7 → T8 → T9 → T10 → T11 → T12 → T13 → T14 → T15 → T16 → T17 → Option ρ} {P : T1 → T2 → T3 → T4 → T5 → T6 → T7 → T8 → T9 → T10 → T11 → T12 → T13 → T14 → T15 → T16 → T17 → Prop} {res : ρ} (h : ∀ K : T1 → T2 → T3 → T4 → T5 → T6 → T7 → T8 → T9 → T10 → T11 → T12 → T13 → T14 → T15 → T16 → T17 → Option ρ, (∀ (x1 : T1) (x2 : T2) (x3 : T3) (x4 : T4) (x5 : T5) (x6 : T6) (x7 : T7) (x8 : T8) (x9 : T9) (x10 : T10) (x11 : T11) (x12 : T12) (x13 : T13) (x14 : T14) (x15 : T15) (x16 : T16) (x17 : T17), K x1 x2 x3 x4 x5 x6 x7 x8 x9 x10 x11 x12 x13 x14 x15 x16 x17 = some res → P x1 x2 x3 x4 x5 x6 x7 x8 x9 x10 x11 x12 x13 x14 x15 x16 x17) → ∀ (x1 : T1) (x2 : T2) (x3 : T3) (x4 : T4) (x5 : T5) (x6 : T6) (x7 : T7) (x8 : T8) (x9 : T9) (x10 : T10) (x11 : T11) (x12 : T12) (x13 : T13) (x14 : T14) (x15 : T15) (x16 : T16) (x17 : T17), f K x1 x2 x3 x4 x5 x6 x7 x8 x9 x10 x11 x12 x13 x14 x15 x16 x17 = some res → P x1 x2 x3 x4 x5 x6 x7 x8 x9 x10 x11 x12 x13 x14 x15 x16 x17) : ∀ (n : Nat) (x1 : T1) (x2 : T2) (x3 : T3) (x4 : T4) (x5 : T5) (x6 : T6) (x7 : T7) (x8 : T8) (x9 : T9) (x10 : T10) (x11 : T11) (x12 : T12) (x13 : T13) (x14 : T14) (x15 : T15) (x16 : T16) (x17 : T17), fix17 f n x1 x2 x3 x4 x5 x6 x7 x8 x9 x10 x11 x12 x13 x14 x15 x16 x17 = some res → P x1 x2 x3 x4 x5 x6 x7 x8 x9 x10 x11 x12 x13 x14 x15 x16 x17 := by
  intro n
  induction n with
  | zero => intro x1 x2 x3 x4 x5 x6 x7 x8 x9 x10 x11 x12 x13 x14 x15 x16 x17 hh; cases hh
  | succ n ih => intro x1 x2 x3 x4 x5 x6 x7 x8 x9 x10 x11 x12 x13 x14 x15 x16 x17 hh; exact h _ ih x1 x2 x3 x4 x5 x6 x7 x8 x9 x10 x11 x12 x13 x14 x15 x16 x17 hh
def fix18 {T1 T2 T3 T4 T5 T6 T7 T8 T9 T10 T11 T12 T13 T14 T15 T16 T17 T18 ρ : Type} (f : (T1 → T2 → T3 → T4 → T5 → T6 → T7 → T8 → T9 → T10 → T11 → T12 → T13 → T14 → T15 → T16 → T17 → T18 → Option ρ) → T1 → T2 → T3 → T4 → T5 → T6 → T7 → T8 → T9 → T10 → T11 → T12 → T13 → T14 → T15 → T16 → T17 → T18 → Option ρ) : Nat → T1 → T2 → T3 → T4 → T5 → T6 → T7 → T8 → T9 → T10 → T11 → T12 → T13 → T14 → T15 → T16 → T17 → T18 → Option ρ
  | 0, _, _, _, _, _, _, _, _, _, _, _, _, _, _, _, _, _, _ => none
  | n + 1, x1, x2, x3, x4, x5, x6, x7, x8, x9, x10, x11, x12, x13, x14, x15, x16, x17, x18 => f (fix18 f n) x1 x2 x3 x4 x5 x6 x7 x8 x9 x10 x11 x12 x13 x14 x15 x16 x17 x18
theorem fix18_r {T1 T2 T3 T4 T5 T6 T7 T8 T9 T10 T11 T12 T13 T14 T15 T16 T17 T18 ρ : Type} {f : (T1 → T2 → T3 → T4 → T5 → T6 → T7 → T8 → T9 → T10 → T11 → T12 → T13 → T14 → T15 → T16 → T17 → T18 → Option ρ) → T1 → T2 → T3 → T4 → T5 → T6 → T7 → T8 → T9 → T10 → T11 → T12 → T13 → T14 → T15 → T16 → T17 → T18 → Option ρ} {P : T1 → T2 → T3 → T4 → T5 → T6 → T7 → T8 → T9 → T10 → T11 → T12 → T13 → T14 → T15 → T16 → T17 → T18 → Prop} {res : ρ} (h : ∀ K : T1 → T2 → T3 → T4 → T5 → T6 → T7 → T8 → T9 → T10 → T11 → T12 → T13 → T14 → T15 → T16 → T17 → T18 → Option ρ, (∀ (x1 : T1) (x2 : T2) (x3 : T3) (x4 : T4) (x5 : T5) (x6 : T6) (x7 : T7) (x8 : T8) (x9 : T9) (x10 : T10) (x11 : T11) (x12 : T12) (x13 : T13) (x14 : T14) (x15 : T15) (x16 : T16) (x17 : T17) (x18 : T18), K x1 x2 x3 x4 x5 x6 x7 x8 x9 x10 x11 x12 x13 x14 x15 x16 x17 x18 = some res → P x1 x2 x3 x4 x5 x6 x7 x8 x9 x10 x11 x12 x13 x14 x15 x16 x17 x18) → ∀ (x1 : T1) (x2 : T2) (x3 : T3) (x4 : T4) (x5 : T5) (x6 : T6) (x7 : T7) (x8 : T8) (x9 : T9) (x10 : T10) (x11 : T11) (x12 : T12) (x13 : T13) (x14 : T14) (x15 : T15) (x16 : T16) (x17 : T17) (x18 : T18), f K x1 x2 x3 x4 x5 x6 x7 x8 x9 x10 x11 x12 x13 x14 x15 x16 x17 x18 = some res → P x1 x2 x3 x4 x5 x6 x7 x8 x9 x10 x11 x12 x13 x14 x15 x16 x17 x18) : ∀ (n : Nat) (x1 : T1) (x2 : T2) (x3 : T3) (x4 : T4) (x5 : T5) (x6 : T6) (x7 : T7) (x8 : T8) (x9 : T9) (x10 : T10) (x11 : T11) (x12 : T12) (x13 : T13) (x14 : T14) (x15 : T15) (x16 : T16) (x17 : T17) (x18 : T18), fix18 f n x1 x2 x3 x4 x5 x6 x7 x8 x9 x10 x11 x12 x13 x14 x15 x16 x17 x18 = some res → P x1 x2 x3 x4 x5 x6 x7 x8 x9 x10 x11 x12 x13 x14 x15 x16 x17 x18 := by
  intro n
  induction n with
  | zero => intro x1 x2 x3 x4 x5 x6 x7 x8 x9 x10 x11 x12 x13 x14 x15 x16 x17 x18 hh; cases hh
  | succ n ih => intro x1 x2 x3 x4 x5 x6 x7 x8 x9 x10 x11 x12 x13 x14 x15 x16 x17 x18 hh; exact h _ ih x1 x2 x3 x4 x5 x6 x7 x8 x9 x10 x11 x12 x13 x14 x15 x16 x17 x18 hh
def fix19 {T1 T2 T3 T4 T5 T6 T7 T8 T9 T10 T11 T12 T13 T14 T15 T16 T17 T18 T19 ρ : Type} (f : (T1 → T2 → T3 → T4 → T5 → T6 → T7 → T8 → T9 → T10 → T11 → T12 → T13 → T14 → T15 → T16 → T17 → T18 → T19 → Option ρ) → T1 → T2 → T3 → T4 → T5 → T6 → T7 → T8 → T9 → T10 → T11 → T12 → T13 → T14 → T15 → T16 → T17 → T18 → T19 → Option ρ) : Nat → T1 → T2 → T3 → T4 → T5 → T6 → T7 → T8 → T9 → T10 → T11 → T12 → T13 → T14 → T15 → T16 → T17 → T18 → T19 → Option ρ
  | 0, _, _, _, _, _, _, _, _, _, _, _, _, _, _, _, _, _, _, _ => none
  | n + 1, x1, x2, x3, x4, x5, x6, x7, x8, x9, x10, x11, x12, x13, x14, x15, x16, x17, x18, x19 => f (fix19 f n) x1 x2 x3 x4 x5 x6 x7 x8 x9 x10 x11 x12 x13 x14 x15 x16 x17 x18 x19
theorem fix19_r {T1 T2 T3 T4 T5 T6 T7 T8 T9 T10 T11 T12 T13 T14 T15 T16 T17 T18 T19 ρ : Type} {f : (T1 → T2 → T3 → T4 → T5 → T6 → T7 → T8 → T9 → T10 → T11 → T12 → T13 → T14 → T15 → T16 → T17 → T18 → T19 → Option ρ) → T1 → T2 → T3 → T4 → T5 → T6 → T7 → T8 → T9 → T10 → T11 → T12 → T13 → T14 → T15 → T16 → T17 → T18 → T19 → Option ρ} {P : T1 → T2 → T3 → T4 → T5 → T6 → T7 → T8 → T9 → T10 → T11 → T12 → T13 → T14 → T15 → T16 → T17 → T18 → T19 → Prop} {res : ρ} (h : ∀ K : T1 → T2 → T3 → T4 → T5 → T6 → T7 → T8 → T9 → T10 → T11 → T12 → T13 → T14 → T15 → T16 → T17 → T18 → T19 → Option ρ, (∀ (x1 : T1) (x2 : T2) (x3 : T3) (x4 : T4) (x5 : T5) (x6 : T6) (x7 : T7) (x8 : T8) (x9 : T9) (x10 : T10) (x11 : T11) (x12 : T12) (x13 : T13) (x14 : T14) (x15 : T15) (x16 : T16) (x17 : T17) (x18 : T18) (x19 : T19), K x1 x2 x3 x4 x5 x6 x7 x8 x9 x10 x11 x12 x13 x14 x15 x16 x17 x18 x19 = some res → P x1 x2 x3 x4 x5 x6 x7 x8 x9 x10 x11 x12 x13 x14 x15 x16 x17 x18 x19) → ∀ (x1 : T1) (x2 : T2) (x3 : T3) (x4 : T4) (x5 : T5) (x6 : T6) (x7 : T7) (x8 : T8) (x9 : T9) (x10 : T10) (x11 : T11) (x12 : T12) (x13 : T13) (x14 : T14) (x15 : T15) (x16 : T16) (x17 : T17) (x18 : T18) (x19 : T19), f K x1 x2 x3 x4 x5 x6 x7 x8 x9 x10 x11 x12 x13 x14 x15 x16 x17 x18 x19 = some res → P x1 x2 x3 x4 x5 x6 x7 x8 x9 x10 x11 x12 x13 x14 x15 x16 x17 x18 x19) : ∀ (n : Nat) (x1 : T1) (x2 : T2) (x3 : T3) (x4 : T4) (x5 : T5) (x6 : T6) (x7 : T7) (x8 : T8) (x9 : T9) (x10 : T10) (x11 : T11) (x12 : T12) (x13 : T13) (x14 : T14) (x15 : T15) (x16 : T16) (x17 : T17) (x18 : T18) (x19 : T19), fix19 f n x1 x2 x3 x4 x5 x6 x7 x8 x9 x10 x11 x12 x13 x14 x15 x16 x17 x18 x19 = some res → P x1 x2 x3 x4 x5 x6 x7 x8 x9 x10 x11 x12 x13 x14 x15 x16 x17 x18 x19 := by
  intro n
  induction n with
  | zero => intro x1 x2 x3 x4 x5 x6 x7 x8 x9 x10 x11 x12 x13 x14 x15 x16 x17 x18 x19 hh; cases hh
  | succ n ih => intro x1 x2 x3 x4 x5 x6 x7 x8 x9 x10 x11 x12 x13 x14 x15 x16 x17 x18 x19 hh; exact h _ ih x1 x2 x3 x4 x5 x6 x7 x8 x9 x10 x11 x12 x13 x14 x15 x16 x17 x18 x19 hh
def fix20 {T1 T2 T3 T4 T5 T6 T7 T8 T9 T10 T11 T12 T13 T14 T15 T16 T17 T18 T19 T20 ρ : Type} (f : (T1 → T2 → T3 → T4 → T5 → T6 → T7 → T8 → T9 → T10 → T11 → T12 → T13 → T14 → T15 → T16 → T17 → T18 → T19 → T20 → Option ρ) → T1 → T2 → T3 → T4 → T5 → T6 → T7 → T8 → T9 → T10 → T11 → T12 → T13 → T14 → T15 → T16 → T17 → T18 → T19 → T20 → Option ρ) : Nat → T1 → T2 → T3 → T4 → T5 → T6 → T7 → T8 → T9 → T10 → T11 → T12 → T13 → T14 → T15 → T16 → T17 → T18 → T19 → T20 → Option ρ
  | 0, _, _, _, _, _, _, _, _, _, _, _, _, _, _, _, _, _, _, _, _ => none
  | n + 1, x1, x2, x3, x4, x5, x6, x7, x8, x9, x10, x11, x12, x13, x14, x15, x16, x17, x18, x19, x20 => f (fix20 f n) x1 x2 x3 x4 x5 x6 x7 x8 x9 x10 x11 x12 x13 x14 x15 x16 x17 x18 x19 x20
theorem fix20_r {T1 T2 T3 T4 T5 T6 T7 T8 T9 T10 T11 T12 T13 T14 T15 T16 T17 T18 T19 T20 ρ : Type} {f : (T1 → T2 → T3 → T4 → T5 → T6 → T7 → T8 → T9 → T10 → T11 → T12 → T13 → T14 → T15 → T16 → T17 → T18 → T19 → T20 → Option ρ) → T1 → T2 → T3 → T4 → T5 → T6 → T7 → T8 → T9 → T10 → T11 → T12 → T13 → T14 → T15 → T16 → T17 → T18 → T19 → T20 → Option ρ} {P : T1 → T2 → T3 → T4 → T5 → T6 → T7 → T8 → T9 → T10 → T11 → T12 → T13 → T14 → T15 → T16 → T17 → T18 → T19 → T20 → Prop} {res : ρ} (h : ∀ K : T1 → T2 → T3 → T4 → T5 → T6 → T7 → T8 → T9 → T10 → T11 → T12 → T13 → T14 → T15 → T16 → T17 → T18 → T19 → T20 → Option ρ, (∀ (x1 : T1) (x2 : T2) (x3 : T3) (x4 : T4) (x5 : T5) (x6 : T6) (x7 : T7) (x8 : T8) (x9 : T9) (x10 : T10) (x11 : T11) (x12 : T12) (x13 : T13) (x14 : T14) (x15 : T15) (x16 : T16) (x17 : T17) (x18 : T18) (x19 : T19) (x20 : T20), K x1 x2 x3 x4 x5 x6 x7 x8 x9 x10 x11 x12 x13 x14 x15 x16 x17 x18 x19 x20 = some res → P x1 x2 x3 x4 x5 x6 x7 x8 x9 x10 x11 x12 x13 x14 x15 x16 x17 x18 x19 x20) → ∀ (x1 : T1) (x2 : T2) (x3 : T3) (x4 : T4) (x5 : T5) (x6 : T6) (x7 : T7) (x8 : T8) (x9 : T9) (x10 : T10) (x11 : T11) (x12 : T12) (x13 : T13) (x14 : T14) (x15 : T15) (x16 : T16) (x17 : T17) (x18 : T18) (x19 : T19) (x20 : T20), f K x1 x2 x3 x4 x5 x6 x7 x8 x9 x10 x11 x12 x13 x14 x15 x16 x17 x18 x19 x20 = some res → P x1 x2 x3 x4 x5 x6 x7 x8 x9 x10 x11 x12 x13 x14 x15 x16 x17 x18 x19 x20) : ∀ (n : Nat) (x1 : T1) (x2 : T2) (x3 : T3) (x4 : T4) (x5 : T5) (x6 : T6) (x7 : T7) (x8 : T8) (x9 : T9) (x10 : T10) (x11 : T11) (x12 : T12) (x13 : T13) (x14 : T14) (x15 : T15) (x16 : T16) (x17 : T17) (x18 : T18) (x19 : T19) (x20 : T20), fix20 f n x1 x2 x3 x4 x5 x6 x7 x8 x9 x10 x11 x12 x13 x14 x15 x16 x17 x18 x19 x20 = some res → P x1 x2 x3 x4 x5 x6 x7 x8 x9 x10 x11 x12 x13 x14 x15 x16 x17 x18 x19 x20 := by
  intro n
  induction n with
  | zero => intro x1 x2 x3 x4 x5 x6 x7 x8 x9 x10 x11 x12 x13 x14 x15 x16 x17 x18 x19 x20 hh; cases hh
  | succ n ih => intro x1 x2 x3 x4 x5 x6 x7 x8 x9 x10 x11 x12 x13 x14 x15 x16 x17 x18 x19 x20 hh; exact h _ ih x1 x2 x3 x4 x5 x6 x7 x8 x9 x10 x11 x12 x13 x14 x15 x16 x17 x18 x19 x20 hh
def adA (a : Nat → Nat) (N sz : Nat) : Nat → Prop := fun q => (∃ k, k < N ∧ q = a k) ∨ sz ≤ q
def aok (a : Nat → Nat) (N : Nat) : Prop := ∀ i j, i < N → j < N → a i = a j → i = j
theorem adA_mono {a : Nat → Nat} {N sz sz1 : Nat} (h : sz ≤ sz1) : ∀ q, adA a N sz1 q → adA a N sz q := fun q hq => hq.elim Or.inl (fun h1 => Or.inr (Nat.le_trans h h1))
theorem aok_D {a : Nat → Nat} {N sz : Nat} {ws : va_W} (h : aok a N) (he : ws.map Prod.fst = (List.range N).map a) : va_D (adA a N sz) ws := by
  have key : ∀ (k : Nat) (q : Nat × va_E), ws[k]? = some q → k < N ∧ q.1 = a k := by
    intro k q hq
    have h1 : (ws.map Prod.fst)[k]? = some q.1 := by rw [List.getElem?_map, hq]; rfl
    rw [he, List.getElem?_map] at h1
    by_cases hk : k < N
    · rw [List.getElem?_range hk] at h1
      exact ⟨hk, (Option.some.inj h1).symm⟩
    · rw [List.getElem?_eq_none (by simpa using hk)] at h1
      cases h1
  refine ⟨fun i j p q hi hj e => ?_, fun k q hq => Or.inl ⟨k, key k q hq⟩⟩
  have h1 := key i p hi
  have h2 := key j q hj
  exact h i j h1.1 h2.1 (by rw [← h1.2, ← h2.2, e])
def envOK (Env : (Nat → Prop) → State → Heap → Prop) : Prop :=
  (∀ (A : Nat → Prop) (U : State) (H : Heap) (g : JFrame) (mk : MethodId) (a : Array Value), Env A U H → Env A (U.calling g mk a) H) ∧
  (∀ (A : Nat → Prop) (s U : State) (H : Heap), s.WarmedH U.vm → Env A s H → Env A U H) ∧
  (∀ (A : Nat → Prop) (U : State) (H H1 : Heap), Env A U H → (∀ q : Nat, q < H.size → ¬ A q → H1[q]? = H[q]?) → Env A U H1) ∧
  (∀ (A B : Nat → Prop) (U : State) (H : Heap), Env A U H → (∀ q, B q → A q) → Env B U H)
def env0 : (Nat → Prop) → State → Heap → Prop := fun _ _ _ => True
theorem env0_ok : envOK env0 := ⟨fun _ _ _ _ _ _ _ => trivial, fun _ _ _ _ _ _ => trivial, fun _ _ _ _ _ _ => trivial, fun _ _ _ _ _ _ => trivial⟩
def preW (D : va_G) (tys : List (ClassId × FieldType)) (N : Nat) (a : Nat → Nat) (Env : (Nat → Prop) → State → Heap → Prop) (sz : Nat) (av : List Value) (w0 : va_W) : Array Value → State → Prop :=
  va_Pc av (fun U => U.heap.size = sz ∧ va_P D vwCl w0 U.heap ∧ va_K D vwCl tys U ∧ Env (adA a N sz) U U.heap)
def CtI (l : Launch) (D : va_G) (tys : List (ClassId × FieldType)) (N : Nat) (a : Nat → Nat) (Env : (Nat → Prop) → State → Heap → Prop) (y : MethodName) (ws : List Cond) (rm : Room) (av : List Value) (w0 w1 : va_W) (r : Int32) : Prop :=
  ∀ sz : Nat, Met l y ws rm (preW D tys N a Env sz av w0) (va_Qi (fun (x : Int32) (_ : Unit) => x = r) (fun _ t => va_P D vwCl w1 t.heap) (adA a N sz)) 0 0 (adA a N sz)
def CtL (l : Launch) (D : va_G) (tys : List (ClassId × FieldType)) (N : Nat) (a : Nat → Nat) (Env : (Nat → Prop) → State → Heap → Prop) (y : MethodName) (ws : List Cond) (rm : Room) (av : List Value) (w0 w1 : va_W) (r : Int64) : Prop :=
  ∀ sz : Nat, Met l y ws rm (preW D tys N a Env sz av w0) (va_Ql (fun (x : Int64) (_ : Unit) => x = r) (fun _ t => va_P D vwCl w1 t.heap) (adA a N sz)) 0 0 (adA a N sz)
def CtV (l : Launch) (D : va_G) (tys : List (ClassId × FieldType)) (N : Nat) (a : Nat → Nat) (Env : (Nat → Prop) → State → Heap → Prop) (y : MethodName) (ws : List Cond) (rm : Room) (av : List Value) (w0 w1 : va_W) : Prop :=
  ∀ sz : Nat, Met l y ws rm (preW D tys N a Env sz av w0) (va_Qv (fun (_ : Unit) => True) (fun _ t => va_P D vwCl w1 t.heap) (adA a N sz)) 0 0 (adA a N sz)
def CtR (l : Launch) (D : va_G) (tys : List (ClassId × FieldType)) (N : Nat) (a : Nat → Nat) (Env : (Nat → Prop) → State → Heap → Prop) (y : MethodName) (ws : List Cond) (rm : Room) (av : List Value) (w0 w1 : va_W) (r : Nat) : Prop :=
  ∀ sz : Nat, Met l y ws rm (preW D tys N a Env sz av w0) (va_Qr (fun (_ : Unit) => True) (fun _ x t => x = r ∧ va_P D vwCl w1 t.heap) (adA a N sz)) 0 0 (adA a N sz)
abbrev mqI (below : List Frame) (D : va_G) (N : Nat) (a : Nat → Nat) (args : Array Value) (s : State) (w1 : va_W) (r : Int32) : State → Prop := MQ below (va_Qi (fun (x : Int32) (_ : Unit) => x = r) (fun _ t => va_P D vwCl w1 t.heap) (adA a N s.heap.size)) args s 0 0 (adA a N s.heap.size)
abbrev mqL (below : List Frame) (D : va_G) (N : Nat) (a : Nat → Nat) (args : Array Value) (s : State) (w1 : va_W) (r : Int64) : State → Prop := MQ below (va_Ql (fun (x : Int64) (_ : Unit) => x = r) (fun _ t => va_P D vwCl w1 t.heap) (adA a N s.heap.size)) args s 0 0 (adA a N s.heap.size)
abbrev mqV (below : List Frame) (D : va_G) (N : Nat) (a : Nat → Nat) (args : Array Value) (s : State) (w1 : va_W) : State → Prop := MQ below (va_Qv (fun (_ : Unit) => True) (fun _ t => va_P D vwCl w1 t.heap) (adA a N s.heap.size)) args s 0 0 (adA a N s.heap.size)
abbrev mqR (below : List Frame) (D : va_G) (N : Nat) (a : Nat → Nat) (args : Array Value) (s : State) (w1 : va_W) (r : Nat) : State → Prop := MQ below (va_Qr (fun (_ : Unit) => True) (fun _ x t => x = r ∧ va_P D vwCl w1 t.heap) (adA a N s.heap.size)) args s 0 0 (adA a N s.heap.size)
theorem CtI_mk {l : Launch} {D : va_G} {tys : List (ClassId × FieldType)} {N : Nat} {a : Nat → Nat} {Env : (Nat → Prop) → State → Heap → Prop} {y : MethodName} {ws ws' : List Cond} {rm : Room} {av : List Value} {w0 w1 : va_W} {cc : ByteArray} {maxL : Nat} {ret : Option FieldType} {r : Int32} (hy : plainName y.cls = true) (hw : ws = Cond.code y cc maxL ret :: ws') (hlen : (lg_sl av).length ≤ maxL)
    (body : ∀ (p : Program) (e : Jvm.Env) (s : State) (m : MethodId) (args : Array Value) (below : List Frame) (meth : Method) (c : Code) (ls : Array Slot), p.tables.exec = Jvm.exec → c.code = cc → meth.sig.returnType = ret → meth.locks = false → c.maxLocals = maxL → s.vm.findClass y.cls = some m.cls → (∀ w ∈ ws, w.before args s = true) → va_P D vwCl w0 s.heap → va_K D vwCl tys s → Env (adA a N s.heap.size) s s.heap → lv_has ls maxL (lv_args 0 av) →
      W p l e rm s m args below meth c s.heap [] 0 0 (mqI below D N a args s w1 r) (F0 m 0 ls [])) : CtI l D tys N a Env y ws rm av w0 w1 r := by
  intro sz
  refine Met.ofW (cc := cc) (maxL := maxL) (ret := ret) hy hw ?_
  intro p e s m args below meth c s₁ B hml hv
  obtain ⟨he, hsz, hP, hK, hE⟩ := hv
  subst hsz
  subst he
  have hl := lv_entry av (n := maxL) hlen
  rw [lg_entry_eq]
  exact body p e s m _ below meth c _ B.exec B.bytes B.returns B.notSynchronized hml (findClass_of_methodNamed B.named) (atoms_spec (ws := ws) B.pre) hP hK hE hl
theorem CtL_mk {l : Launch} {D : va_G} {tys : List (ClassId × FieldType)} {N : Nat} {a : Nat → Nat} {Env : (Nat → Prop) → State → Heap → Prop} {y : MethodName} {ws ws' : List Cond} {rm : Room} {av : List Value} {w0 w1 : va_W} {cc : ByteArray} {maxL : Nat} {ret : Option FieldType} {r : Int64} (hy : plainName y.cls = true) (hw : ws = Cond.code y cc maxL ret :: ws') (hlen : (lg_sl av).length ≤ maxL)
    (body : ∀ (p : Program) (e : Jvm.Env) (s : State) (m : MethodId) (args : Array Value) (below : List Frame) (meth : Method) (c : Code) (ls : Array Slot), p.tables.exec = Jvm.exec → c.code = cc → meth.sig.returnType = ret → meth.locks = false → c.maxLocals = maxL → s.vm.findClass y.cls = some m.cls → (∀ w ∈ ws, w.before args s = true) → va_P D vwCl w0 s.heap → va_K D vwCl tys s → Env (adA a N s.heap.size) s s.heap → lv_has ls maxL (lv_args 0 av) →
      W p l e rm s m args below meth c s.heap [] 0 0 (mqL below D N a args s w1 r) (F0 m 0 ls [])) : CtL l D tys N a Env y ws rm av w0 w1 r := by
  intro sz
  refine Met.ofW (cc := cc) (maxL := maxL) (ret := ret) hy hw ?_
  intro p e s m args below meth c s₁ B hml hv
  obtain ⟨he, hsz, hP, hK, hE⟩ := hv
  subst hsz
  subst he
  have hl := lv_entry av (n := maxL) hlen
  rw [lg_entry_eq]
  exact body p e s m _ below meth c _ B.exec B.bytes B.returns B.notSynchronized hml (findClass_of_methodNamed B.named) (atoms_spec (ws := ws) B.pre) hP hK hE hl
theorem CtV_mk {l : Launch} {D : va_G} {tys : List (ClassId × FieldType)} {N : Nat} {a : Nat → Nat} {Env : (Nat → Prop) → State → Heap → Prop} {y : MethodName} {ws ws' : List Cond} {rm : Room} {av : List Value} {w0 w1 : va_W} {cc : ByteArray} {maxL : Nat} {ret : Option FieldType} (hy : plainName y.cls = true) (hw : ws = Cond.code y cc maxL ret :: ws') (hlen : (lg_sl av).length ≤ maxL)
    (body : ∀ (p : Program) (e : Jvm.Env) (s : State) (m : MethodId) (args : Array Value) (below : List Frame) (meth : Method) (c : Code) (ls : Array Slot), p.tables.exec = Jvm.exec → c.code = cc → meth.sig.returnType = ret → meth.locks = false → c.maxLocals = maxL → s.vm.findClass y.cls = some m.cls → (∀ w ∈ ws, w.before args s = true) → va_P D vwCl w0 s.heap → va_K D vwCl tys s → Env (adA a N s.heap.size) s s.heap → lv_has ls maxL (lv_args 0 av) →
      W p l e rm s m args below meth c s.heap [] 0 0 (mqV below D N a args s w1) (F0 m 0 ls [])) : CtV l D tys N a Env y ws rm av w0 w1 := by
  intro sz
  refine Met.ofW (cc := cc) (maxL := maxL) (ret := ret) hy hw ?_
  intro p e s m args below meth c s₁ B hml hv
  obtain ⟨he, hsz, hP, hK, hE⟩ := hv
  subst hsz
  subst he
  have hl := lv_entry av (n := maxL) hlen
  rw [lg_entry_eq]
  exact body p e s m _ below meth c _ B.exec B.bytes B.returns B.notSynchronized hml (findClass_of_methodNamed B.named) (atoms_spec (ws := ws) B.pre) hP hK hE hl
theorem CtR_mk {l : Launch} {D : va_G} {tys : List (ClassId × FieldType)} {N : Nat} {a : Nat → Nat} {Env : (Nat → Prop) → State → Heap → Prop} {y : MethodName} {ws ws' : List Cond} {rm : Room} {av : List Value} {w0 w1 : va_W} {cc : ByteArray} {maxL : Nat} {ret : Option FieldType} {r : Nat} (hy : plainName y.cls = true) (hw : ws = Cond.code y cc maxL ret :: ws') (hlen : (lg_sl av).length ≤ maxL)
    (body : ∀ (p : Program) (e : Jvm.Env) (s : State) (m : MethodId) (args : Array Value) (below : List Frame) (meth : Method) (c : Code) (ls : Array Slot), p.tables.exec = Jvm.exec → c.code = cc → meth.sig.returnType = ret → meth.locks = false → c.maxLocals = maxL → s.vm.findClass y.cls = some m.cls → (∀ w ∈ ws, w.before args s = true) → va_P D vwCl w0 s.heap → va_K D vwCl tys s → Env (adA a N s.heap.size) s s.heap → lv_has ls maxL (lv_args 0 av) →
      W p l e rm s m args below meth c s.heap [] 0 0 (mqR below D N a args s w1 r) (F0 m 0 ls [])) : CtR l D tys N a Env y ws rm av w0 w1 r := by
  intro sz
  refine Met.ofW (cc := cc) (maxL := maxL) (ret := ret) hy hw ?_
  intro p e s m args below meth c s₁ B hml hv
  obtain ⟨he, hsz, hP, hK, hE⟩ := hv
  subst hsz
  subst he
  have hl := lv_entry av (n := maxL) hlen
  rw [lg_entry_eq]
  exact body p e s m _ below meth c _ B.exec B.bytes B.returns B.notSynchronized hml (findClass_of_methodNamed B.named) (atoms_spec (ws := ws) B.pre) hP hK hE hl
theorem rtI {p : Program} {l : Launch} {e : Jvm.Env} {R : Room} {s : State} {m : MethodId} {args : Array Value} {below : List Frame} {meth : Method} {c : Code} {H : Heap} {locs : List Loc} {cc : ByteArray} {pc : Nat} {ls : Array Slot} {D : va_G} {N : Nat} {a : Nat → Nat} {w w1 : va_W} {r : Int32} {v : Int32} (hx : p.tables.exec = Jvm.exec) (hb : c.code = cc) (hr : meth.sig.returnType = some .int) (hlk : meth.locks = false) (hP : va_P D vwCl w H) (hS : va_S (adA a N s.heap.size) s.heap H locs) (hv : v = r) (hw : w = w1) (hdg : decode cc pc = .ok (.ireturn, 1)) : W p l e R s m args below meth c H locs 0 0 (mqI below D N a args s w1 r) (F0 m pc ls [.int v]) := by
  subst hv; subst hw
  exact W.iret hx hb hr (fun t ht hW => ⟨⟨v, (), rfl, rfl, by show va_P D vwCl w t.heap; rw [ht]; exact hP⟩, hS.F ht⟩) hS.2.2 hdg hlk
theorem rtL {p : Program} {l : Launch} {e : Jvm.Env} {R : Room} {s : State} {m : MethodId} {args : Array Value} {below : List Frame} {meth : Method} {c : Code} {H : Heap} {locs : List Loc} {cc : ByteArray} {pc : Nat} {ls : Array Slot} {D : va_G} {N : Nat} {a : Nat → Nat} {w w1 : va_W} {r : Int64} {v : Int64} (hx : p.tables.exec = Jvm.exec) (hb : c.code = cc) (hr : meth.sig.returnType = some .long) (hlk : meth.locks = false) (hP : va_P D vwCl w H) (hS : va_S (adA a N s.heap.size) s.heap H locs) (hv : v = r) (hw : w = w1) (hdg : decode cc pc = .ok (.lreturn, 1)) : W p l e R s m args below meth c H locs 0 0 (mqL below D N a args s w1 r) (F0 m pc ls [.long v]) := by
  subst hv; subst hw
  exact W.lret hx hb hr (fun t ht hW => ⟨⟨v, (), rfl, rfl, by show va_P D vwCl w t.heap; rw [ht]; exact hP⟩, hS.F ht⟩) hS.2.2 hdg hlk
theorem rtV {p : Program} {l : Launch} {e : Jvm.Env} {R : Room} {s : State} {m : MethodId} {args : Array Value} {below : List Frame} {meth : Method} {c : Code} {H : Heap} {locs : List Loc} {cc : ByteArray} {pc : Nat} {ls : Array Slot} {D : va_G} {N : Nat} {a : Nat → Nat} {w w1 : va_W} (hx : p.tables.exec = Jvm.exec) (hb : c.code = cc) (hr : meth.sig.returnType = none) (hlk : meth.locks = false) (hP : va_P D vwCl w H) (hS : va_S (adA a N s.heap.size) s.heap H locs) (hw : w = w1) (hdg : decode cc pc = .ok (.return_, 1)) : W p l e R s m args below meth c H locs 0 0 (mqV below D N a args s w1) (F0 m pc ls []) := by
  subst hw
  exact W.vret hx hb hr (fun t ht hW => ⟨⟨(), rfl, trivial, by show va_P D vwCl w t.heap; rw [ht]; exact hP⟩, hS.F ht⟩) hS.2.2 hdg hlk
theorem rtZ {p : Program} {l : Launch} {e : Jvm.Env} {R : Room} {s : State} {m : MethodId} {args : Array Value} {below : List Frame} {meth : Method} {c : Code} {H : Heap} {locs : List Loc} {cc : ByteArray} {pc : Nat} {ls : Array Slot} {D : va_G} {N : Nat} {a : Nat → Nat} {w w1 : va_W} {r v : Bool} (hx : p.tables.exec = Jvm.exec) (hb : c.code = cc) (hr : meth.sig.returnType = some .boolean) (hlk : meth.locks = false) (hP : va_P D vwCl w H) (hS : va_S (adA a N s.heap.size) s.heap H locs) (hv : v = r) (hw : w = w1) (hdg : decode cc pc = .ok (.ireturn, 1)) : W p l e R s m args below meth c H locs 0 0 (mqI below D N a args s w1 (bI r)) (F0 m pc ls [.int (bI v)]) := by
  subst hv; subst hw
  exact W.zret hx hb hr (bI_nar v) (fun t ht hW => ⟨⟨bI v, (), rfl, rfl, by show va_P D vwCl w t.heap; rw [ht]; exact hP⟩, hS.F ht⟩) hS.2.2 hdg hlk
theorem rtR {p : Program} {l : Launch} {e : Jvm.Env} {R : Room} {s : State} {m : MethodId} {args : Array Value} {below : List Frame} {meth : Method} {c : Code} {H : Heap} {locs : List Loc} {cc : ByteArray} {pc : Nat} {ls : Array Slot} {D : va_G} {N : Nat} {a : Nat → Nat} {w w1 : va_W} {r v : Nat} {n : String} (hx : p.tables.exec = Jvm.exec) (hb : c.code = cc) (hr : meth.sig.returnType = some (.object n)) (hlk : meth.locks = false) (hP : va_P D vwCl w H) (hS : va_S (adA a N s.heap.size) s.heap H locs) (hv : v = r) (hw : w = w1) (hdg : decode cc pc = .ok (.areturn, 1)) : W p l e R s m args below meth c H locs 0 0 (mqR below D N a args s w1 r) (F0 m pc ls [.ref v]) := by
  subst hv; subst hw
  exact W.aret hx hb hr (Or.inl ⟨_, rfl⟩) (Or.inr ⟨_, rfl⟩) (fun t ht hW => ⟨⟨(), v, rfl, trivial, rfl, by show va_P D vwCl w t.heap; rw [ht]; exact hP⟩, hS.F ht⟩) hS.2.2 hdg hlk
theorem cvI {p : Program} {l : Launch} {e : Jvm.Env} {R : Room} {s : State} {m : MethodId} {args : Array Value} {below : List Frame} {meth : Method} {c : Code} {H : Heap} {locs : List Loc} {cells slots : Nat} {Q : State → Prop} {cc : ByteArray} {pc : Nat} {ls : Array Slot} {D : va_G} {tys : List (ClassId × FieldType)} {N : Nat} {a : Nat → Nat} {Env : (Nat → Prop) → State → Heap → Prop} {nL index maxL n : Nat} {own : String} {Ts wsy ws' : List Cond} {y : MethodName} {bytes : ByteArray} {ret : Option FieldType} {rm : Room} {As rest st : List Value} {w0 w1 : va_W} {r : Int32} {C : String} {b ci q0 : Nat} {fs : List Value} {qq : vw_C}
    (hx : p.tables.exec = Jvm.exec) (hb : c.code = cc) (hml : c.maxLocals = nL) (hown : s.vm.findClass own = some m.cls) (hts : ∀ w ∈ Ts, w.before args s = true) (hEo : envOK Env) (hE : Env (adA a N s.heap.size) s s.heap) (hK : va_K D vwCl tys s) (hP : va_P D vwCl w0 H) (hS : va_S (adA a N s.heap.size) s.heap H locs)
    (ct : CtI l D tys N a Env y wsy rm (.ref b :: As) w0 w1 r) (hg : GoodIn Ts (wsV own index C y wsy)) (hc : wsy = Cond.code y bytes maxL ret :: ws') (hdsc : y.cls = C ∧ y.cls ≠ "java/lang/invoke/MethodHandle" ∧ y.cls ≠ "java/lang/invoke/VarHandle" ∧ (parseMethodDescriptor y.desc).map (fun d => d.parameters.length) = some n) (hcl : vwCl[ci]? = some qq) (hqC : qq.1 = C) (he : w0[q0]? = some (b, .inr (ci, fs))) (hz : rm.cells = 0 ∧ rm.slots = 0) (hR : rm.frames + 1 ≤ R.frames ∧ 8 + (maxL + 11) + rm.locals ≤ R.locals) (hcs : cells ≤ R.cells ∧ slots ≤ R.slots)
    (hn : As.length = n) (hsz : ls.size = nL) (hst : st = As.reverse ++ .ref b :: rest) (hW : (rest.map fun v => v.category).sum ≤ 8) (hdg : decode cc pc = .ok (.invokevirtual index, 3))
    (kk : ∀ (H1 : Heap) (locs1 : List Loc), va_P D vwCl w1 H1 → va_S (adA a N s.heap.size) s.heap H1 locs1 → W p l e R s m args below meth c H1 locs1 cells slots Q (F0 m (pc + 3) ls (.int r :: rest))) : W p l e R s m args below meth c H locs cells slots Q (F0 m pc ls st) := by
  have hF : ∀ q, adA a N H.size q → adA a N s.heap.size q := adA_mono hS.1
  refine va_calli (S := Unit) (va_runV (As := As) (rest := rest) ⟨hx, hb, hml, hown, hts⟩ (ct H.size) (cwV n hts hg hc hz.1 hz.2 hdsc hR) ⟨fun a' U g mk q => ⟨q.1, q.2.1, q.2.2.1, va_K.moved (u := U) (U := U.calling g mk a') (Vm.Alike.refl U.vm) q.2.2.2.1, hEo.1 _ U _ g mk a' q.2.2.2.2⟩, by have hh := va_recv hK hP hcl he; rw [hqC] at hh; exact hh, fun U hU hW => ⟨rfl, by rw [hU], by rw [hU]; exact hP, va_K.moved hW.alike hK, by rw [hU]; exact hEo.2.2.2 _ _ _ _ (hEo.2.2.1 _ _ _ _ (hEo.2.1 _ _ _ _ hW hE) hS.2.1) hF⟩⟩ rfl hn hsz hst (lv_room hW) hdg hcs) hS (fun q _ h => hF q h) hF (fun r' u t H1 locs1 ht hvm hw hB hz1 hk1 hS1 => ?_)
  subst hw
  rw [ht] at hB
  exact kk H1 locs1 hB hS1
theorem csI {p : Program} {l : Launch} {e : Jvm.Env} {R : Room} {s : State} {m : MethodId} {args : Array Value} {below : List Frame} {meth : Method} {c : Code} {H : Heap} {locs : List Loc} {cells slots : Nat} {Q : State → Prop} {cc : ByteArray} {pc : Nat} {ls : Array Slot} {D : va_G} {tys : List (ClassId × FieldType)} {N : Nat} {a : Nat → Nat} {Env : (Nat → Prop) → State → Heap → Prop} {nL index maxL n : Nat} {own : String} {Ts wsy ws' : List Cond} {y : MethodName} {bytes : ByteArray} {ret : Option FieldType} {rm : Room} {As rest st : List Value} {w0 w1 : va_W} {r : Int32} 
    (hx : p.tables.exec = Jvm.exec) (hb : c.code = cc) (hml : c.maxLocals = nL) (hown : s.vm.findClass own = some m.cls) (hts : ∀ w ∈ Ts, w.before args s = true) (hEo : envOK Env) (hE : Env (adA a N s.heap.size) s s.heap) (hK : va_K D vwCl tys s) (hP : va_P D vwCl w0 H) (hS : va_S (adA a N s.heap.size) s.heap H locs)
    (ct : CtI l D tys N a Env y wsy rm As w0 w1 r) (hg : GoodIn Ts (va_wsS own index y wsy)) (hc : wsy = Cond.code y bytes maxL ret :: ws') (hdsc : y.cls ≠ "java/lang/invoke/MethodHandle" ∧ y.cls ≠ "java/lang/invoke/VarHandle" ∧ (parseMethodDescriptor y.desc).map (fun d => d.parameters.length) = some n) (hz : rm.cells = 0 ∧ rm.slots = 0) (hR : rm.frames + 1 ≤ R.frames ∧ 8 + (maxL + 11) + rm.locals ≤ R.locals) (hcs : cells ≤ R.cells ∧ slots ≤ R.slots)
    (hn : As.length = n) (hsz : ls.size = nL) (hst : st = As.reverse ++ rest) (hW : (rest.map fun v => v.category).sum ≤ 8) (hdg : decode cc pc = .ok (.invokestatic index, 3))
    (kk : ∀ (H1 : Heap) (locs1 : List Loc), va_P D vwCl w1 H1 → va_S (adA a N s.heap.size) s.heap H1 locs1 → W p l e R s m args below meth c H1 locs1 cells slots Q (F0 m (pc + 3) ls (.int r :: rest))) : W p l e R s m args below meth c H locs cells slots Q (F0 m pc ls st) := by
  have hF : ∀ q, adA a N H.size q → adA a N s.heap.size q := adA_mono hS.1
  refine va_calli (S := Unit) (va_runS (As := As) (rest := rest) ⟨hx, hb, hml, hown, hts⟩ (ct H.size) (va_cwS n hts hg hc hz.1 hz.2 hdsc hR) ⟨fun a' U g mk q => ⟨q.1, q.2.1, q.2.2.1, va_K.moved (u := U) (U := U.calling g mk a') (Vm.Alike.refl U.vm) q.2.2.2.1, hEo.1 _ U _ g mk a' q.2.2.2.2⟩, fun U hU hW => ⟨rfl, by rw [hU], by rw [hU]; exact hP, va_K.moved hW.alike hK, by rw [hU]; exact hEo.2.2.2 _ _ _ _ (hEo.2.2.1 _ _ _ _ (hEo.2.1 _ _ _ _ hW hE) hS.2.1) hF⟩⟩ rfl hn hsz hst (lv_room hW) hdg hcs) hS (fun q _ h => hF q h) hF (fun r' u t H1 locs1 ht hvm hw hB hz1 hk1 hS1 => ?_)
  subst hw
  rw [ht] at hB
  exact kk H1 locs1 hB hS1
theorem cvL {p : Program} {l : Launch} {e : Jvm.Env} {R : Room} {s : State} {m : MethodId} {args : Array Value} {below : List Frame} {meth : Method} {c : Code} {H : Heap} {locs : List Loc} {cells slots : Nat} {Q : State → Prop} {cc : ByteArray} {pc : Nat} {ls : Array Slot} {D : va_G} {tys : List (ClassId × FieldType)} {N : Nat} {a : Nat → Nat} {Env : (Nat → Prop) → State → Heap → Prop} {nL index maxL n : Nat} {own : String} {Ts wsy ws' : List Cond} {y : MethodName} {bytes : ByteArray} {ret : Option FieldType} {rm : Room} {As rest st : List Value} {w0 w1 : va_W} {r : Int64} {C : String} {b ci q0 : Nat} {fs : List Value} {qq : vw_C}
    (hx : p.tables.exec = Jvm.exec) (hb : c.code = cc) (hml : c.maxLocals = nL) (hown : s.vm.findClass own = some m.cls) (hts : ∀ w ∈ Ts, w.before args s = true) (hEo : envOK Env) (hE : Env (adA a N s.heap.size) s s.heap) (hK : va_K D vwCl tys s) (hP : va_P D vwCl w0 H) (hS : va_S (adA a N s.heap.size) s.heap H locs)
    (ct : CtL l D tys N a Env y wsy rm (.ref b :: As) w0 w1 r) (hg : GoodIn Ts (wsV own index C y wsy)) (hc : wsy = Cond.code y bytes maxL ret :: ws') (hdsc : y.cls = C ∧ y.cls ≠ "java/lang/invoke/MethodHandle" ∧ y.cls ≠ "java/lang/invoke/VarHandle" ∧ (parseMethodDescriptor y.desc).map (fun d => d.parameters.length) = some n) (hcl : vwCl[ci]? = some qq) (hqC : qq.1 = C) (he : w0[q0]? = some (b, .inr (ci, fs))) (hz : rm.cells = 0 ∧ rm.slots = 0) (hR : rm.frames + 1 ≤ R.frames ∧ 8 + (maxL + 11) + rm.locals ≤ R.locals) (hcs : cells ≤ R.cells ∧ slots ≤ R.slots)
    (hn : As.length = n) (hsz : ls.size = nL) (hst : st = As.reverse ++ .ref b :: rest) (hW : (rest.map fun v => v.category).sum ≤ 8) (hdg : decode cc pc = .ok (.invokevirtual index, 3))
    (kk : ∀ (H1 : Heap) (locs1 : List Loc), va_P D vwCl w1 H1 → va_S (adA a N s.heap.size) s.heap H1 locs1 → W p l e R s m args below meth c H1 locs1 cells slots Q (F0 m (pc + 3) ls (.long r :: rest))) : W p l e R s m args below meth c H locs cells slots Q (F0 m pc ls st) := by
  have hF : ∀ q, adA a N H.size q → adA a N s.heap.size q := adA_mono hS.1
  refine va_calll (S := Unit) (va_runV (As := As) (rest := rest) ⟨hx, hb, hml, hown, hts⟩ (ct H.size) (cwV n hts hg hc hz.1 hz.2 hdsc hR) ⟨fun a' U g mk q => ⟨q.1, q.2.1, q.2.2.1, va_K.moved (u := U) (U := U.calling g mk a') (Vm.Alike.refl U.vm) q.2.2.2.1, hEo.1 _ U _ g mk a' q.2.2.2.2⟩, by have hh := va_recv hK hP hcl he; rw [hqC] at hh; exact hh, fun U hU hW => ⟨rfl, by rw [hU], by rw [hU]; exact hP, va_K.moved hW.alike hK, by rw [hU]; exact hEo.2.2.2 _ _ _ _ (hEo.2.2.1 _ _ _ _ (hEo.2.1 _ _ _ _ hW hE) hS.2.1) hF⟩⟩ rfl hn hsz hst (lv_room hW) hdg hcs) hS (fun q _ h => hF q h) hF (fun r' u t H1 locs1 ht hvm hw hB hz1 hk1 hS1 => ?_)
  subst hw
  rw [ht] at hB
  exact kk H1 locs1 hB hS1
theorem csL {p : Program} {l : Launch} {e : Jvm.Env} {R : Room} {s : State} {m : MethodId} {args : Array Value} {below : List Frame} {meth : Method} {c : Code} {H : Heap} {locs : List Loc} {cells slots : Nat} {Q : State → Prop} {cc : ByteArray} {pc : Nat} {ls : Array Slot} {D : va_G} {tys : List (ClassId × FieldType)} {N : Nat} {a : Nat → Nat} {Env : (Nat → Prop) → State → Heap → Prop} {nL index maxL n : Nat} {own : String} {Ts wsy ws' : List Cond} {y : MethodName} {bytes : ByteArray} {ret : Option FieldType} {rm : Room} {As rest st : List Value} {w0 w1 : va_W} {r : Int64} 
    (hx : p.tables.exec = Jvm.exec) (hb : c.code = cc) (hml : c.maxLocals = nL) (hown : s.vm.findClass own = some m.cls) (hts : ∀ w ∈ Ts, w.before args s = true) (hEo : envOK Env) (hE : Env (adA a N s.heap.size) s s.heap) (hK : va_K D vwCl tys s) (hP : va_P D vwCl w0 H) (hS : va_S (adA a N s.heap.size) s.heap H locs)
    (ct : CtL l D tys N a Env y wsy rm As w0 w1 r) (hg : GoodIn Ts (va_wsS own index y wsy)) (hc : wsy = Cond.code y bytes maxL ret :: ws') (hdsc : y.cls ≠ "java/lang/invoke/MethodHandle" ∧ y.cls ≠ "java/lang/invoke/VarHandle" ∧ (parseMethodDescriptor y.desc).map (fun d => d.parameters.length) = some n) (hz : rm.cells = 0 ∧ rm.slots = 0) (hR : rm.frames + 1 ≤ R.frames ∧ 8 + (maxL + 11) + rm.locals ≤ R.locals) (hcs : cells ≤ R.cells ∧ slots ≤ R.slots)
    (hn : As.length = n) (hsz : ls.size = nL) (hst : st = As.reverse ++ rest) (hW : (rest.map fun v => v.category).sum ≤ 8) (hdg : decode cc pc = .ok (.invokestatic index, 3))
    (kk : ∀ (H1 : Heap) (locs1 : List Loc), va_P D vwCl w1 H1 → va_S (adA a N s.heap.size) s.heap H1 locs1 → W p l e R s m args below meth c H1 locs1 cells slots Q (F0 m (pc + 3) ls (.long r :: rest))) : W p l e R s m args below meth c H locs cells slots Q (F0 m pc ls st) := by
  have hF : ∀ q, adA a N H.size q → adA a N s.heap.size q := adA_mono hS.1
  refine va_calll (S := Unit) (va_runS (As := As) (rest := rest) ⟨hx, hb, hml, hown, hts⟩ (ct H.size) (va_cwS n hts hg hc hz.1 hz.2 hdsc hR) ⟨fun a' U g mk q => ⟨q.1, q.2.1, q.2.2.1, va_K.moved (u := U) (U := U.calling g mk a') (Vm.Alike.refl U.vm) q.2.2.2.1, hEo.1 _ U _ g mk a' q.2.2.2.2⟩, fun U hU hW => ⟨rfl, by rw [hU], by rw [hU]; exact hP, va_K.moved hW.alike hK, by rw [hU]; exact hEo.2.2.2 _ _ _ _ (hEo.2.2.1 _ _ _ _ (hEo.2.1 _ _ _ _ hW hE) hS.2.1) hF⟩⟩ rfl hn hsz hst (lv_room hW) hdg hcs) hS (fun q _ h => hF q h) hF (fun r' u t H1 locs1 ht hvm hw hB hz1 hk1 hS1 => ?_)
  subst hw
  rw [ht] at hB
  exact kk H1 locs1 hB hS1
theorem cvV {p : Program} {l : Launch} {e : Jvm.Env} {R : Room} {s : State} {m : MethodId} {args : Array Value} {below : List Frame} {meth : Method} {c : Code} {H : Heap} {locs : List Loc} {cells slots : Nat} {Q : State → Prop} {cc : ByteArray} {pc : Nat} {ls : Array Slot} {D : va_G} {tys : List (ClassId × FieldType)} {N : Nat} {a : Nat → Nat} {Env : (Nat → Prop) → State → Heap → Prop} {nL index maxL n : Nat} {own : String} {Ts wsy ws' : List Cond} {y : MethodName} {bytes : ByteArray} {ret : Option FieldType} {rm : Room} {As rest st : List Value} {w0 w1 : va_W} {C : String} {b ci q0 : Nat} {fs : List Value} {qq : vw_C}
    (hx : p.tables.exec = Jvm.exec) (hb : c.code = cc) (hml : c.maxLocals = nL) (hown : s.vm.findClass own = some m.cls) (hts : ∀ w ∈ Ts, w.before args s = true) (hEo : envOK Env) (hE : Env (adA a N s.heap.size) s s.heap) (hK : va_K D vwCl tys s) (hP : va_P D vwCl w0 H) (hS : va_S (adA a N s.heap.size) s.heap H locs)
    (ct : CtV l D tys N a Env y wsy rm (.ref b :: As) w0 w1) (hg : GoodIn Ts (wsV own index C y wsy)) (hc : wsy = Cond.code y bytes maxL ret :: ws') (hdsc : y.cls = C ∧ y.cls ≠ "java/lang/invoke/MethodHandle" ∧ y.cls ≠ "java/lang/invoke/VarHandle" ∧ (parseMethodDescriptor y.desc).map (fun d => d.parameters.length) = some n) (hcl : vwCl[ci]? = some qq) (hqC : qq.1 = C) (he : w0[q0]? = some (b, .inr (ci, fs))) (hz : rm.cells = 0 ∧ rm.slots = 0) (hR : rm.frames + 1 ≤ R.frames ∧ 8 + (maxL + 11) + rm.locals ≤ R.locals) (hcs : cells ≤ R.cells ∧ slots ≤ R.slots)
    (hn : As.length = n) (hsz : ls.size = nL) (hst : st = As.reverse ++ .ref b :: rest) (hW : (rest.map fun v => v.category).sum ≤ 8) (hdg : decode cc pc = .ok (.invokevirtual index, 3))
    (kk : ∀ (H1 : Heap) (locs1 : List Loc), va_P D vwCl w1 H1 → va_S (adA a N s.heap.size) s.heap H1 locs1 → W p l e R s m args below meth c H1 locs1 cells slots Q (F0 m (pc + 3) ls rest)) : W p l e R s m args below meth c H locs cells slots Q (F0 m pc ls st) := by
  have hF : ∀ q, adA a N H.size q → adA a N s.heap.size q := adA_mono hS.1
  refine va_callv (S := Unit) (va_runV (As := As) (rest := rest) ⟨hx, hb, hml, hown, hts⟩ (ct H.size) (cwV n hts hg hc hz.1 hz.2 hdsc hR) ⟨fun a' U g mk q => ⟨q.1, q.2.1, q.2.2.1, va_K.moved (u := U) (U := U.calling g mk a') (Vm.Alike.refl U.vm) q.2.2.2.1, hEo.1 _ U _ g mk a' q.2.2.2.2⟩, by have hh := va_recv hK hP hcl he; rw [hqC] at hh; exact hh, fun U hU hW => ⟨rfl, by rw [hU], by rw [hU]; exact hP, va_K.moved hW.alike hK, by rw [hU]; exact hEo.2.2.2 _ _ _ _ (hEo.2.2.1 _ _ _ _ (hEo.2.1 _ _ _ _ hW hE) hS.2.1) hF⟩⟩ rfl hn hsz hst (lv_room hW) hdg hcs) hS (fun q _ h => hF q h) hF (fun u t H1 locs1 ht hvm hw hB hz1 hk1 hS1 => ?_)
  rw [ht] at hB
  exact kk H1 locs1 hB hS1
theorem csV {p : Program} {l : Launch} {e : Jvm.Env} {R : Room} {s : State} {m : MethodId} {args : Array Value} {below : List Frame} {meth : Method} {c : Code} {H : Heap} {locs : List Loc} {cells slots : Nat} {Q : State → Prop} {cc : ByteArray} {pc : Nat} {ls : Array Slot} {D : va_G} {tys : List (ClassId × FieldType)} {N : Nat} {a : Nat → Nat} {Env : (Nat → Prop) → State → Heap → Prop} {nL index maxL n : Nat} {own : String} {Ts wsy ws' : List Cond} {y : MethodName} {bytes : ByteArray} {ret : Option FieldType} {rm : Room} {As rest st : List Value} {w0 w1 : va_W} 
    (hx : p.tables.exec = Jvm.exec) (hb : c.code = cc) (hml : c.maxLocals = nL) (hown : s.vm.findClass own = some m.cls) (hts : ∀ w ∈ Ts, w.before args s = true) (hEo : envOK Env) (hE : Env (adA a N s.heap.size) s s.heap) (hK : va_K D vwCl tys s) (hP : va_P D vwCl w0 H) (hS : va_S (adA a N s.heap.size) s.heap H locs)
    (ct : CtV l D tys N a Env y wsy rm As w0 w1) (hg : GoodIn Ts (va_wsS own index y wsy)) (hc : wsy = Cond.code y bytes maxL ret :: ws') (hdsc : y.cls ≠ "java/lang/invoke/MethodHandle" ∧ y.cls ≠ "java/lang/invoke/VarHandle" ∧ (parseMethodDescriptor y.desc).map (fun d => d.parameters.length) = some n) (hz : rm.cells = 0 ∧ rm.slots = 0) (hR : rm.frames + 1 ≤ R.frames ∧ 8 + (maxL + 11) + rm.locals ≤ R.locals) (hcs : cells ≤ R.cells ∧ slots ≤ R.slots)
    (hn : As.length = n) (hsz : ls.size = nL) (hst : st = As.reverse ++ rest) (hW : (rest.map fun v => v.category).sum ≤ 8) (hdg : decode cc pc = .ok (.invokestatic index, 3))
    (kk : ∀ (H1 : Heap) (locs1 : List Loc), va_P D vwCl w1 H1 → va_S (adA a N s.heap.size) s.heap H1 locs1 → W p l e R s m args below meth c H1 locs1 cells slots Q (F0 m (pc + 3) ls rest)) : W p l e R s m args below meth c H locs cells slots Q (F0 m pc ls st) := by
  have hF : ∀ q, adA a N H.size q → adA a N s.heap.size q := adA_mono hS.1
  refine va_callv (S := Unit) (va_runS (As := As) (rest := rest) ⟨hx, hb, hml, hown, hts⟩ (ct H.size) (va_cwS n hts hg hc hz.1 hz.2 hdsc hR) ⟨fun a' U g mk q => ⟨q.1, q.2.1, q.2.2.1, va_K.moved (u := U) (U := U.calling g mk a') (Vm.Alike.refl U.vm) q.2.2.2.1, hEo.1 _ U _ g mk a' q.2.2.2.2⟩, fun U hU hW => ⟨rfl, by rw [hU], by rw [hU]; exact hP, va_K.moved hW.alike hK, by rw [hU]; exact hEo.2.2.2 _ _ _ _ (hEo.2.2.1 _ _ _ _ (hEo.2.1 _ _ _ _ hW hE) hS.2.1) hF⟩⟩ rfl hn hsz hst (lv_room hW) hdg hcs) hS (fun q _ h => hF q h) hF (fun u t H1 locs1 ht hvm hw hB hz1 hk1 hS1 => ?_)
  rw [ht] at hB
  exact kk H1 locs1 hB hS1
theorem cvR {p : Program} {l : Launch} {e : Jvm.Env} {R : Room} {s : State} {m : MethodId} {args : Array Value} {below : List Frame} {meth : Method} {c : Code} {H : Heap} {locs : List Loc} {cells slots : Nat} {Q : State → Prop} {cc : ByteArray} {pc : Nat} {ls : Array Slot} {D : va_G} {tys : List (ClassId × FieldType)} {N : Nat} {a : Nat → Nat} {Env : (Nat → Prop) → State → Heap → Prop} {nL index maxL n : Nat} {own : String} {Ts wsy ws' : List Cond} {y : MethodName} {bytes : ByteArray} {ret : Option FieldType} {rm : Room} {As rest st : List Value} {w0 w1 : va_W} {r : Nat} {C : String} {b ci q0 : Nat} {fs : List Value} {qq : vw_C}
    (hx : p.tables.exec = Jvm.exec) (hb : c.code = cc) (hml : c.maxLocals = nL) (hown : s.vm.findClass own = some m.cls) (hts : ∀ w ∈ Ts, w.before args s = true) (hEo : envOK Env) (hE : Env (adA a N s.heap.size) s s.heap) (hK : va_K D vwCl tys s) (hP : va_P D vwCl w0 H) (hS : va_S (adA a N s.heap.size) s.heap H locs)
    (ct : CtR l D tys N a Env y wsy rm (.ref b :: As) w0 w1 r) (hg : GoodIn Ts (wsV own index C y wsy)) (hc : wsy = Cond.code y bytes maxL ret :: ws') (hdsc : y.cls = C ∧ y.cls ≠ "java/lang/invoke/MethodHandle" ∧ y.cls ≠ "java/lang/invoke/VarHandle" ∧ (parseMethodDescriptor y.desc).map (fun d => d.parameters.length) = some n) (hcl : vwCl[ci]? = some qq) (hqC : qq.1 = C) (he : w0[q0]? = some (b, .inr (ci, fs))) (hz : rm.cells = 0 ∧ rm.slots = 0) (hR : rm.frames + 1 ≤ R.frames ∧ 8 + (maxL + 11) + rm.locals ≤ R.locals) (hcs : cells ≤ R.cells ∧ slots ≤ R.slots)
    (hn : As.length = n) (hsz : ls.size = nL) (hst : st = As.reverse ++ .ref b :: rest) (hW : (rest.map fun v => v.category).sum ≤ 8) (hdg : decode cc pc = .ok (.invokevirtual index, 3))
    (kk : ∀ (H1 : Heap) (locs1 : List Loc), va_P D vwCl w1 H1 → va_S (adA a N s.heap.size) s.heap H1 locs1 → W p l e R s m args below meth c H1 locs1 cells slots Q (F0 m (pc + 3) ls (.ref r :: rest))) : W p l e R s m args below meth c H locs cells slots Q (F0 m pc ls st) := by
  have hF : ∀ q, adA a N H.size q → adA a N s.heap.size q := adA_mono hS.1
  refine va_callr (S := Unit) (va_runV (As := As) (rest := rest) ⟨hx, hb, hml, hown, hts⟩ (ct H.size) (cwV n hts hg hc hz.1 hz.2 hdsc hR) ⟨fun a' U g mk q => ⟨q.1, q.2.1, q.2.2.1, va_K.moved (u := U) (U := U.calling g mk a') (Vm.Alike.refl U.vm) q.2.2.2.1, hEo.1 _ U _ g mk a' q.2.2.2.2⟩, by have hh := va_recv hK hP hcl he; rw [hqC] at hh; exact hh, fun U hU hW => ⟨rfl, by rw [hU], by rw [hU]; exact hP, va_K.moved hW.alike hK, by rw [hU]; exact hEo.2.2.2 _ _ _ _ (hEo.2.2.1 _ _ _ _ (hEo.2.1 _ _ _ _ hW hE) hS.2.1) hF⟩⟩ rfl hn hsz hst (lv_room hW) hdg hcs) hS (fun q _ h => hF q h) hF (fun u r' t H1 locs1 ht hvm hw hB hz1 hk1 hS1 => ?_)
  obtain ⟨hB0, hB⟩ := hB
  subst hB0
  rw [ht] at hB
  exact kk H1 locs1 hB hS1
theorem csR {p : Program} {l : Launch} {e : Jvm.Env} {R : Room} {s : State} {m : MethodId} {args : Array Value} {below : List Frame} {meth : Method} {c : Code} {H : Heap} {locs : List Loc} {cells slots : Nat} {Q : State → Prop} {cc : ByteArray} {pc : Nat} {ls : Array Slot} {D : va_G} {tys : List (ClassId × FieldType)} {N : Nat} {a : Nat → Nat} {Env : (Nat → Prop) → State → Heap → Prop} {nL index maxL n : Nat} {own : String} {Ts wsy ws' : List Cond} {y : MethodName} {bytes : ByteArray} {ret : Option FieldType} {rm : Room} {As rest st : List Value} {w0 w1 : va_W} {r : Nat} 
    (hx : p.tables.exec = Jvm.exec) (hb : c.code = cc) (hml : c.maxLocals = nL) (hown : s.vm.findClass own = some m.cls) (hts : ∀ w ∈ Ts, w.before args s = true) (hEo : envOK Env) (hE : Env (adA a N s.heap.size) s s.heap) (hK : va_K D vwCl tys s) (hP : va_P D vwCl w0 H) (hS : va_S (adA a N s.heap.size) s.heap H locs)
    (ct : CtR l D tys N a Env y wsy rm As w0 w1 r) (hg : GoodIn Ts (va_wsS own index y wsy)) (hc : wsy = Cond.code y bytes maxL ret :: ws') (hdsc : y.cls ≠ "java/lang/invoke/MethodHandle" ∧ y.cls ≠ "java/lang/invoke/VarHandle" ∧ (parseMethodDescriptor y.desc).map (fun d => d.parameters.length) = some n) (hz : rm.cells = 0 ∧ rm.slots = 0) (hR : rm.frames + 1 ≤ R.frames ∧ 8 + (maxL + 11) + rm.locals ≤ R.locals) (hcs : cells ≤ R.cells ∧ slots ≤ R.slots)
    (hn : As.length = n) (hsz : ls.size = nL) (hst : st = As.reverse ++ rest) (hW : (rest.map fun v => v.category).sum ≤ 8) (hdg : decode cc pc = .ok (.invokestatic index, 3))
    (kk : ∀ (H1 : Heap) (locs1 : List Loc), va_P D vwCl w1 H1 → va_S (adA a N s.heap.size) s.heap H1 locs1 → W p l e R s m args below meth c H1 locs1 cells slots Q (F0 m (pc + 3) ls (.ref r :: rest))) : W p l e R s m args below meth c H locs cells slots Q (F0 m pc ls st) := by
  have hF : ∀ q, adA a N H.size q → adA a N s.heap.size q := adA_mono hS.1
  refine va_callr (S := Unit) (va_runS (As := As) (rest := rest) ⟨hx, hb, hml, hown, hts⟩ (ct H.size) (va_cwS n hts hg hc hz.1 hz.2 hdsc hR) ⟨fun a' U g mk q => ⟨q.1, q.2.1, q.2.2.1, va_K.moved (u := U) (U := U.calling g mk a') (Vm.Alike.refl U.vm) q.2.2.2.1, hEo.1 _ U _ g mk a' q.2.2.2.2⟩, fun U hU hW => ⟨rfl, by rw [hU], by rw [hU]; exact hP, va_K.moved hW.alike hK, by rw [hU]; exact hEo.2.2.2 _ _ _ _ (hEo.2.2.1 _ _ _ _ (hEo.2.1 _ _ _ _ hW hE) hS.2.1) hF⟩⟩ rfl hn hsz hst (lv_room hW) hdg hcs) hS (fun q _ h => hF q h) hF (fun u r' t H1 locs1 ht hvm hw hB hz1 hk1 hS1 => ?_)
  obtain ⟨hB0, hB⟩ := hB
  subst hB0
  rw [ht] at hB
  exact kk H1 locs1 hB hS1
theorem cwI_ {p : Program} {l : Launch} {e : Jvm.Env} {R : Room} {s : State} {m : MethodId} {args : Array Value} {below : List Frame} {meth : Method} {c : Code} {H : Heap} {locs : List Loc} {cells slots : Nat} {Q : State → Prop} {cc : ByteArray} {pc : Nat} {ls : Array Slot} {D : va_G} {tys : List (ClassId × FieldType)} {N : Nat} {a : Nat → Nat} {Env : (Nat → Prop) → State → Heap → Prop} {nL index maxL n : Nat} {own : String} {Ts wsy ws' : List Cond} {y : MethodName} {bytes : ByteArray} {ret : Option FieldType} {rm : Room} {As rest st : List Value} {w0 w1 : va_W} {r : Int32} {C : String} {b : Nat} (hrec : ∃ cellB : Cell, H[b]? = some cellB ∧ cellB.vm.isStatics = false ∧ s.vm.findClass C = some cellB.cls)
    (hx : p.tables.exec = Jvm.exec) (hb : c.code = cc) (hml : c.maxLocals = nL) (hown : s.vm.findClass own = some m.cls) (hts : ∀ w ∈ Ts, w.before args s = true) (hEo : envOK Env) (hE : Env (adA a N s.heap.size) s s.heap) (hK : va_K D vwCl tys s) (hP : va_P D vwCl w0 H) (hS : va_S (adA a N s.heap.size) s.heap H locs)
    (ct : CtI l D tys N a Env y wsy rm (.ref b :: As) w0 w1 r) (hg : GoodIn Ts (wsV own index C y wsy)) (hc : wsy = Cond.code y bytes maxL ret :: ws') (hdsc : y.cls = C ∧ y.cls ≠ "java/lang/invoke/MethodHandle" ∧ y.cls ≠ "java/lang/invoke/VarHandle" ∧ (parseMethodDescriptor y.desc).map (fun d => d.parameters.length) = some n) (hz : rm.cells = 0 ∧ rm.slots = 0) (hR : rm.frames + 1 ≤ R.frames ∧ 8 + (maxL + 11) + rm.locals ≤ R.locals) (hcs : cells ≤ R.cells ∧ slots ≤ R.slots)
    (hn : As.length = n) (hsz : ls.size = nL) (hst : st = As.reverse ++ .ref b :: rest) (hW : (rest.map fun v => v.category).sum ≤ 8) (hdg : decode cc pc = .ok (.invokevirtual index, 3))
    (kk : ∀ (H1 : Heap) (locs1 : List Loc), va_P D vwCl w1 H1 → va_S (adA a N s.heap.size) s.heap H1 locs1 → W p l e R s m args below meth c H1 locs1 cells slots Q (F0 m (pc + 3) ls (.int r :: rest))) : W p l e R s m args below meth c H locs cells slots Q (F0 m pc ls st) := by
  have hF : ∀ q, adA a N H.size q → adA a N s.heap.size q := adA_mono hS.1
  refine va_calli (S := Unit) (va_runV (As := As) (rest := rest) ⟨hx, hb, hml, hown, hts⟩ (ct H.size) (cwV n hts hg hc hz.1 hz.2 hdsc hR) ⟨fun a' U g mk q => ⟨q.1, q.2.1, q.2.2.1, va_K.moved (u := U) (U := U.calling g mk a') (Vm.Alike.refl U.vm) q.2.2.2.1, hEo.1 _ U _ g mk a' q.2.2.2.2⟩, hrec, fun U hU hW => ⟨rfl, by rw [hU], by rw [hU]; exact hP, va_K.moved hW.alike hK, by rw [hU]; exact hEo.2.2.2 _ _ _ _ (hEo.2.2.1 _ _ _ _ (hEo.2.1 _ _ _ _ hW hE) hS.2.1) hF⟩⟩ rfl hn hsz hst (lv_room hW) hdg hcs) hS (fun q _ h => hF q h) hF (fun r' u t H1 locs1 ht hvm hw hB hz1 hk1 hS1 => ?_)
  subst hw
  rw [ht] at hB
  exact kk H1 locs1 hB hS1
theorem csnI {p : Program} {l : Launch} {e : Jvm.Env} {R : Room} {s : State} {m : MethodId} {args : Array Value} {below : List Frame} {meth : Method} {c : Code} {H : Heap} {locs : List Loc} {cells slots : Nat} {Q : State → Prop} {cc : ByteArray} {pc : Nat} {ls : Array Slot} {D : va_G} {tys : List (ClassId × FieldType)} {N : Nat} {a : Nat → Nat} {Env : (Nat → Prop) → State → Heap → Prop} {nL index maxL n : Nat} {own : String} {Ts wsy ws' : List Cond} {y : MethodName} {bytes : ByteArray} {ret : Option FieldType} {rm : Room} {As rest st : List Value} {w0 w1 : va_W} {r : Int32} 
    (hx : p.tables.exec = Jvm.exec) (hb : c.code = cc) (hml : c.maxLocals = nL) (hown : s.vm.findClass own = some m.cls) (hts : ∀ w ∈ Ts, w.before args s = true) (hEo : envOK Env) (hE : Env (adA a N s.heap.size) s s.heap) (hK : va_K D vwCl tys s) (hP : va_P D vwCl w0 H) (hS : va_S (adA a N s.heap.size) s.heap H locs)
    (ct : CtI l D tys N a Env y wsy rm As w0 w1 r) (hg : GoodIn Ts wsy) (hc : wsy = Cond.code y bytes maxL ret :: ws') (hdsc : y.cls ≠ "java/lang/invoke/MethodHandle" ∧ y.cls ≠ "java/lang/invoke/VarHandle" ∧ (parseMethodDescriptor y.desc).map (fun d => d.parameters.length) = some n) {host : String} (hnw : va_Nw (.methodLinkNest own index y host) s) (hini : (Cond.initialized y.cls).before args s = true) (hsta : (Cond.static y).before args s = true) (hz : rm.cells = 0 ∧ rm.slots = 0) (hR : rm.frames + 1 ≤ R.frames ∧ 8 + (maxL + 11) + rm.locals ≤ R.locals) (hcs : cells ≤ R.cells ∧ slots ≤ R.slots)
    (hn : As.length = n) (hsz : ls.size = nL) (hst : st = As.reverse ++ rest) (hW : (rest.map fun v => v.category).sum ≤ 8) (hdg : decode cc pc = .ok (.invokestatic index, 3))
    (kk : ∀ (H1 : Heap) (locs1 : List Loc), va_P D vwCl w1 H1 → va_S (adA a N s.heap.size) s.heap H1 locs1 → W p l e R s m args below meth c H1 locs1 cells slots Q (F0 m (pc + 3) ls (.int r :: rest))) : W p l e R s m args below meth c H locs cells slots Q (F0 m pc ls st) := by
  have hF : ∀ q, adA a N H.size q → adA a N s.heap.size q := adA_mono hS.1
  refine va_calli (S := Unit) (va_runSN (As := As) (rest := rest) ⟨hx, hb, hml, hown, hts⟩ (ct H.size) (⟨va_cnB n hts hg hc hz.1 hz.2 hnw hini hdsc hR, hsta, trivial⟩) ⟨fun a' U g mk q => ⟨q.1, q.2.1, q.2.2.1, va_K.moved (u := U) (U := U.calling g mk a') (Vm.Alike.refl U.vm) q.2.2.2.1, hEo.1 _ U _ g mk a' q.2.2.2.2⟩, fun U hU hW => ⟨rfl, by rw [hU], by rw [hU]; exact hP, va_K.moved hW.alike hK, by rw [hU]; exact hEo.2.2.2 _ _ _ _ (hEo.2.2.1 _ _ _ _ (hEo.2.1 _ _ _ _ hW hE) hS.2.1) hF⟩⟩ rfl hn hsz hst (lv_room hW) hdg hcs) hS (fun q _ h => hF q h) hF (fun r' u t H1 locs1 ht hvm hw hB hz1 hk1 hS1 => ?_)
  subst hw
  rw [ht] at hB
  exact kk H1 locs1 hB hS1
theorem sw04 {x : Int32} (h0 : ¬ x = 0) (h1 : ¬ x = 1) (h2 : ¬ x = 2) (h3 : ¬ x = 3) (h4 : ¬ x = 4) : x.toInt < 0 ∨ 4 < x.toInt := by
  have := ine h0; have := ine h1; have := ine h2; have := ine h3; have := ine h4
  simp only [show (0 : Int32).toInt = 0 from rfl, show (1 : Int32).toInt = 1 from rfl, show (2 : Int32).toInt = 2 from rfl, show (3 : Int32).toInt = 3 from rfl, show (4 : Int32).toInt = 4 from rfl] at *
  omega
theorem sw13 {x : Int32} (h1 : ¬ x = 1) (h2 : ¬ x = 2) (h3 : ¬ x = 3) : x.toInt < 1 ∨ 3 < x.toInt := by
  have := ine h1; have := ine h2; have := ine h3
  simp only [show (1 : Int32).toInt = 1 from rfl, show (2 : Int32).toInt = 2 from rfl, show (3 : Int32).toInt = 3 from rfl] at *
  omega
theorem sw02 {x : Int32} (h0 : ¬ x = 0) (h1 : ¬ x = 1) (h2 : ¬ x = 2) : x.toInt < 0 ∨ 2 < x.toInt := by
  have := ine h0; have := ine h1; have := ine h2
  simp only [show (0 : Int32).toInt = 0 from rfl, show (1 : Int32).toInt = 1 from rfl, show (2 : Int32).toInt = 2 from rfl] at *
  omega
