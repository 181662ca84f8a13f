section
/-! ===== pure words: a method's answer as an Option (none: an index out of its row, a loop that has not come to its end) ===== -/
def k_ix {α : Type} (i : Int32) (n : Nat) (k : Option α) : Option α := if i < 0 ∨ n ≤ i.toNatClampNeg then none else k
theorem k_ix_some {α : Type} {i : Int32} {n : Nat} {k : Option α} {y : α} (h : k_ix i n k = some y) : vp_in i n ∧ k = some y := by
  unfold k_ix at h
  by_cases c : i < 0 ∨ n ≤ i.toNatClampNeg
  · rw [if_pos c] at h; cases h
  · rw [if_neg c] at h; exact ⟨c, h⟩
def k_ck {α : Type} (c : Prop) [Decidable c] (k : Option α) : Option α := if c then k else none
theorem k_ck_some {α : Type} {c : Prop} [Decidable c] {k : Option α} {y : α} (h : k_ck c k = some y) : c ∧ k = some y := by
  unfold k_ck at h
  by_cases hc : c
  · rw [if_pos hc] at h; exact ⟨hc, h⟩
  · rw [if_neg hc] at h; cases h
theorem k_pos {α : Type} {c : Prop} [Decidable c] {a b y : α} (h : (if c then a else b) = y) (hc : c) : a = y := by rw [if_pos hc] at h; exact h
theorem k_neg {α : Type} {c : Prop} [Decidable c] {a b y : α} (h : (if c then a else b) = y) (hc : ¬ c) : b = y := by rw [if_neg hc] at h; exact h
def k_lp {σ ε : Type} (body : σ → Option (σ ⊕ ε)) : Nat → σ → Option ε
  | 0, _ => none
  | n + 1, s => match body s with
    | none => none
    | some (.inl s') => k_lp body n s'
    | some (.inr e) => some e
theorem k_lp_ind {σ ε : Type} {body : σ → Option (σ ⊕ ε)} {e : ε} (Wf : σ → Prop) (step : ∀ s X, body s = some X → (∀ s', X = .inl s' → Wf s') → (∀ e', X = .inr e' → e' = e) → Wf s) : ∀ (n : Nat) (s : σ), k_lp body n s = some e → Wf s := by
  intro n
  induction n with
  | zero => intro s h; cases h
  | succ n ih =>
    intro s h
    unfold k_lp at h
    cases hb : body s with
    | none => rw [hb] at h; cases h
    | some X =>
      rw [hb] at h
      refine step s X hb (fun s' hs => ?_) (fun e' he => ?_)
      · subst hs; exact ih s' h
      · subst he; exact Option.some.inj h
def k_fuel : Nat := 100000

def k_b0 {α : Type} (x : Option Unit) (f : Option α) : Option α := match x with | none => none | some _ => f
theorem k_b0_some {α : Type} {x : Option Unit} {f : Option α} {y : α} (h : k_b0 x f = some y) : x = some () ∧ f = some y := by
  unfold k_b0 at h; cases x with
  | none => cases h
  | some u => exact ⟨rfl, h⟩
def k_b1 {T0 α : Type} (x : Option (T0)) (f : T0 → Option α) : Option α := match x with | none => none | some (v0) => f v0
theorem k_b1_some {T0 α : Type} {x : Option (T0)} {f : T0 → Option α} {y : α} (h : k_b1 x f = some y) : ∃ (v0 : T0), x = some (v0) ∧ f v0 = some y := by
  unfold k_b1 at h; cases x with
  | none => cases h
  | some u => exact ⟨u, rfl, h⟩
def k_b2 {T0 T1 α : Type} (x : Option (T0 × T1)) (f : T0 → T1 → Option α) : Option α := match x with | none => none | some (v0, v1) => f v0 v1
theorem k_b2_some {T0 T1 α : Type} {x : Option (T0 × T1)} {f : T0 → T1 → Option α} {y : α} (h : k_b2 x f = some y) : ∃ (v0 : T0) (v1 : T1), x = some (v0, v1) ∧ f v0 v1 = some y := by
  unfold k_b2 at h; cases x with
  | none => cases h
  | some u => obtain ⟨v0, v1⟩ := u; exact ⟨v0, v1, rfl, h⟩
def k_b3 {T0 T1 T2 α : Type} (x : Option (T0 × T1 × T2)) (f : T0 → T1 → T2 → Option α) : Option α := match x with | none => none | some (v0, v1, v2) => f v0 v1 v2
theorem k_b3_some {T0 T1 T2 α : Type} {x : Option (T0 × T1 × T2)} {f : T0 → T1 → T2 → Option α} {y : α} (h : k_b3 x f = some y) : ∃ (v0 : T0) (v1 : T1) (v2 : T2), x = some (v0, v1, v2) ∧ f v0 v1 v2 = some y := by
  unfold k_b3 at h; cases x with
  | none => cases h
  | some u => obtain ⟨v0, v1, v2⟩ := u; exact ⟨v0, v1, v2, rfl, h⟩
def k_b4 {T0 T1 T2 T3 α : Type} (x : Option (T0 × T1 × T2 × T3)) (f : T0 → T1 → T2 → T3 → Option α) : Option α := match x with | none => none | some (v0, v1, v2, v3) => f v0 v1 v2 v3
theorem k_b4_some {T0 T1 T2 T3 α : Type} {x : Option (T0 × T1 × T2 × T3)} {f : T0 → T1 → T2 → T3 → Option α} {y : α} (h : k_b4 x f = some y) : ∃ (v0 : T0) (v1 : T1) (v2 : T2) (v3 : T3), x = some (v0, v1, v2, v3) ∧ f v0 v1 v2 v3 = some y := by
  unfold k_b4 at h; cases x with
  | none => cases h
  | some u => obtain ⟨v0, v1, v2, v3⟩ := u; exact ⟨v0, v1, v2, v3, rfl, h⟩
def k_b5 {T0 T1 T2 T3 T4 α : Type} (x : Option (T0 × T1 × T2 × T3 × T4)) (f : T0 → T1 → T2 → T3 → T4 → Option α) : Option α := match x with | none => none | some (v0, v1, v2, v3, v4) => f v0 v1 v2 v3 v4
theorem k_b5_some {T0 T1 T2 T3 T4 α : Type} {x : Option (T0 × T1 × T2 × T3 × T4)} {f : T0 → T1 → T2 → T3 → T4 → Option α} {y : α} (h : k_b5 x f = some y) : ∃ (v0 : T0) (v1 : T1) (v2 : T2) (v3 : T3) (v4 : T4), x = some (v0, v1, v2, v3, v4) ∧ f v0 v1 v2 v3 v4 = some y := by
  unfold k_b5 at h; cases x with
  | none => cases h
  | some u => obtain ⟨v0, v1, v2, v3, v4⟩ := u; exact ⟨v0, v1, v2, v3, v4, rfl, h⟩
def k_b6 {T0 T1 T2 T3 T4 T5 α : Type} (x : Option (T0 × T1 × T2 × T3 × T4 × T5)) (f : T0 → T1 → T2 → T3 → T4 → T5 → Option α) : Option α := match x with | none => none | some (v0, v1, v2, v3, v4, v5) => f v0 v1 v2 v3 v4 v5
theorem k_b6_some {T0 T1 T2 T3 T4 T5 α : Type} {x : Option (T0 × T1 × T2 × T3 × T4 × T5)} {f : T0 → T1 → T2 → T3 → T4 → T5 → Option α} {y : α} (h : k_b6 x f = some y) : ∃ (v0 : T0) (v1 : T1) (v2 : T2) (v3 : T3) (v4 : T4) (v5 : T5), x = some (v0, v1, v2, v3, v4, v5) ∧ f v0 v1 v2 v3 v4 v5 = some y := by
  unfold k_b6 at h; cases x with
  | none => cases h
  | some u => obtain ⟨v0, v1, v2, v3, v4, v5⟩ := u; exact ⟨v0, v1, v2, v3, v4, v5, rfl, h⟩
def k_b7 {T0 T1 T2 T3 T4 T5 T6 α : Type} (x : Option (T0 × T1 × T2 × T3 × T4 × T5 × T6)) (f : T0 → T1 → T2 → T3 → T4 → T5 → T6 → Option α) : Option α := match x with | none => none | some (v0, v1, v2, v3, v4, v5, v6) => f v0 v1 v2 v3 v4 v5 v6
theorem k_b7_some {T0 T1 T2 T3 T4 T5 T6 α : Type} {x : Option (T0 × T1 × T2 × T3 × T4 × T5 × T6)} {f : T0 → T1 → T2 → T3 → T4 → T5 → T6 → Option α} {y : α} (h : k_b7 x f = some y) : ∃ (v0 : T0) (v1 : T1) (v2 : T2) (v3 : T3) (v4 : T4) (v5 : T5) (v6 : T6), x = some (v0, v1, v2, v3, v4, v5, v6) ∧ f v0 v1 v2 v3 v4 v5 v6 = some y := by
  unfold k_b7 at h; cases x with
  | none => cases h
  | some u => obtain ⟨v0, v1, v2, v3, v4, v5, v6⟩ := u; exact ⟨v0, v1, v2, v3, v4, v5, v6, rfl, h⟩
def k_b8 {T0 T1 T2 T3 T4 T5 T6 T7 α : Type} (x : Option (T0 × T1 × T2 × T3 × T4 × T5 × T6 × T7)) (f : T0 → T1 → T2 → T3 → T4 → T5 → T6 → T7 → Option α) : Option α := match x with | none => none | some (v0, v1, v2, v3, v4, v5, v6, v7) => f v0 v1 v2 v3 v4 v5 v6 v7
theorem k_b8_some {T0 T1 T2 T3 T4 T5 T6 T7 α : Type} {x : Option (T0 × T1 × T2 × T3 × T4 × T5 × T6 × T7)} {f : T0 → T1 → T2 → T3 → T4 → T5 → T6 → T7 → Option α} {y : α} (h : k_b8 x f = some y) : ∃ (v0 : T0) (v1 : T1) (v2 : T2) (v3 : T3) (v4 : T4) (v5 : T5) (v6 : T6) (v7 : T7), x = some (v0, v1, v2, v3, v4, v5, v6, v7) ∧ f v0 v1 v2 v3 v4 v5 v6 v7 = some y := by
  unfold k_b8 at h; cases x with
  | none => cases h
  | some u => obtain ⟨v0, v1, v2, v3, v4, v5, v6, v7⟩ := u; exact ⟨v0, v1, v2, v3, v4, v5, v6, v7, rfl, h⟩
def k_b9 {T0 T1 T2 T3 T4 T5 T6 T7 T8 α : Type} (x : Option (T0 × T1 × T2 × T3 × T4 × T5 × T6 × T7 × T8)) (f : T0 → T1 → T2 → T3 → T4 → T5 → T6 → T7 → T8 → Option α) : Option α := match x with | none => none | some (v0, v1, v2, v3, v4, v5, v6, v7, v8) => f v0 v1 v2 v3 v4 v5 v6 v7 v8
theorem k_b9_some {T0 T1 T2 T3 T4 T5 T6 T7 T8 α : Type} {x : Option (T0 × T1 × T2 × T3 × T4 × T5 × T6 × T7 × T8)} {f : T0 → T1 → T2 → T3 → T4 → T5 → T6 → T7 → T8 → Option α} {y : α} (h : k_b9 x f = some y) : ∃ (v0 : T0) (v1 : T1) (v2 : T2) (v3 : T3) (v4 : T4) (v5 : T5) (v6 : T6) (v7 : T7) (v8 : T8), x = some (v0, v1, v2, v3, v4, v5, v6, v7, v8) ∧ f v0 v1 v2 v3 v4 v5 v6 v7 v8 = some y := by
  unfold k_b9 at h; cases x with
  | none => cases h
  | some u => obtain ⟨v0, v1, v2, v3, v4, v5, v6, v7, v8⟩ := u; exact ⟨v0, v1, v2, v3, v4, v5, v6, v7, v8, rfl, h⟩
def k_b10 {T0 T1 T2 T3 T4 T5 T6 T7 T8 T9 α : Type} (x : Option (T0 × T1 × T2 × T3 × T4 × T5 × T6 × T7 × T8 × T9)) (f : T0 → T1 → T2 → T3 → T4 → T5 → T6 → T7 → T8 → T9 → Option α) : Option α := match x with | none => none | some (v0, v1, v2, v3, v4, v5, v6, v7, v8, v9) => f v0 v1 v2 v3 v4 v5 v6 v7 v8 v9
theorem k_b10_some {T0 T1 T2 T3 T4 T5 T6 T7 T8 T9 α : Type} {x : Option (T0 × T1 × T2 × T3 × T4 × T5 × T6 × T7 × T8 × T9)} {f : T0 → T1 → T2 → T3 → T4 → T5 → T6 → T7 → T8 → T9 → Option α} {y : α} (h : k_b10 x f = some y) : ∃ (v0 : T0) (v1 : T1) (v2 : T2) (v3 : T3) (v4 : T4) (v5 : T5) (v6 : T6) (v7 : T7) (v8 : T8) (v9 : T9), x = some (v0, v1, v2, v3, v4, v5, v6, v7, v8, v9) ∧ f v0 v1 v2 v3 v4 v5 v6 v7 v8 v9 = some y := by
  unfold k_b10 at h; cases x with
  | none => cases h
  | some u => obtain ⟨v0, v1, v2, v3, v4, v5, v6, v7, v8, v9⟩ := u; exact ⟨v0, v1, v2, v3, v4, v5, v6, v7, v8, v9, rfl, h⟩
def k_b11 {T0 T1 T2 T3 T4 T5 T6 T7 T8 T9 T10 α : Type} (x : Option (T0 × T1 × T2 × T3 × T4 × T5 × T6 × T7 × T8 × T9 × T10)) (f : T0 → T1 → T2 → T3 → T4 → T5 → T6 → T7 → T8 → T9 → T10 → Option α) : Option α := match x with | none => none | some (v0, v1, v2, v3, v4, v5, v6, v7, v8, v9, v10) => f v0 v1 v2 v3 v4 v5 v6 v7 v8 v9 v10
theorem k_b11_some {T0 T1 T2 T3 T4 T5 T6 T7 T8 T9 T10 α : Type} {x : Option (T0 × T1 × T2 × T3 × T4 × T5 × T6 × T7 × T8 × T9 × T10)} {f : T0 → T1 → T2 → T3 → T4 → T5 → T6 → T7 → T8 → T9 → T10 → Option α} {y : α} (h : k_b11 x f = some y) : ∃ (v0 : T0) (v1 : T1) (v2 : T2) (v3 : T3) (v4 : T4) (v5 : T5) (v6 : T6) (v7 : T7) (v8 : T8) (v9 : T9) (v10 : T10), x = some (v0, v1, v2, v3, v4, v5, v6, v7, v8, v9, v10) ∧ f v0 v1 v2 v3 v4 v5 v6 v7 v8 v9 v10 = some y := by
  unfold k_b11 at h; cases x with
  | none => cases h
  | some u => obtain ⟨v0, v1, v2, v3, v4, v5, v6, v7, v8, v9, v10⟩ := u; exact ⟨v0, v1, v2, v3, v4, v5, v6, v7, v8, v9, v10, rfl, h⟩
def k_b12 {T0 T1 T2 T3 T4 T5 T6 T7 T8 T9 T10 T11 α : Type} (x : Option (T0 × T1 × T2 × T3 × T4 × T5 × T6 × T7 × T8 × T9 × T10 × T11)) (f : T0 → T1 → T2 → T3 → T4 → T5 → T6 → T7 → T8 → T9 → T10 → T11 → Option α) : Option α := match x with | none => none | some (v0, v1, v2, v3, v4, v5, v6, v7, v8, v9, v10, v11) => f v0 v1 v2 v3 v4 v5 v6 v7 v8 v9 v10 v11
theorem k_b12_some {T0 T1 T2 T3 T4 T5 T6 T7 T8 T9 T10 T11 α : Type} {x : Option (T0 × T1 × T2 × T3 × T4 × T5 × T6 × T7 × T8 × T9 × T10 × T11)} {f : T0 → T1 → T2 → T3 → T4 → T5 → T6 → T7 → T8 → T9 → T10 → T11 → Option α} {y : α} (h : k_b12 x f = some y) : ∃ (v0 : T0) (v1 : T1) (v2 : T2) (v3 : T3) (v4 : T4) (v5 : T5) (v6 : T6) (v7 : T7) (v8 : T8) (v9 : T9) (v10 : T10) (v11 : T11), x = some (v0, v1, v2, v3, v4, v5, v6, v7, v8, v9, v10, v11) ∧ f v0 v1 v2 v3 v4 v5 v6 v7 v8 v9 v10 v11 = some y := by
  unfold k_b12 at h; cases x with
  | none => cases h
  | some u => obtain ⟨v0, v1, v2, v3, v4, v5, v6, v7, v8, v9, v10, v11⟩ := u; exact ⟨v0, v1, v2, v3, v4, v5, v6, v7, v8, v9, v10, v11, rfl, h⟩
def k_b13 {T0 T1 T2 T3 T4 T5 T6 T7 T8 T9 T10 T11 T12 α : Type} (x : Option (T0 × T1 × T2 × T3 × T4 × T5 × T6 × T7 × T8 × T9 × T10 × T11 × T12)) (f : T0 → T1 → T2 → T3 → T4 → T5 → T6 → T7 → T8 → T9 → T10 → T11 → T12 → Option α) : Option α := match x with | none => none | some (v0, v1, v2, v3, v4, v5, v6, v7, v8, v9, v10, v11, v12) => f v0 v1 v2 v3 v4 v5 v6 v7 v8 v9 v10 v11 v12
theorem k_b13_some {T0 T1 T2 T3 T4 T5 T6 T7 T8 T9 T10 T11 T12 α : Type} {x : Option (T0 × T1 × T2 × T3 × T4 × T5 × T6 × T7 × T8 × T9 × T10 × T11 × T12)} {f : T0 → T1 → T2 → T3 → T4 → T5 → T6 → T7 → T8 → T9 → T10 → T11 → T12 → Option α} {y : α} (h : k_b13 x f = some y) : ∃ (v0 : T0) (v1 : T1) (v2 : T2) (v3 : T3) (v4 : T4) (v5 : T5) (v6 : T6) (v7 : T7) (v8 : T8) (v9 : T9) (v10 : T10) (v11 : T11) (v12 : T12), x = some (v0, v1, v2, v3, v4, v5, v6, v7, v8, v9, v10, v11, v12) ∧ f v0 v1 v2 v3 v4 v5 v6 v7 v8 v9 v10 v11 v12 = some y := by
  unfold k_b13 at h; cases x with
  | none => cases h
  | some u => obtain ⟨v0, v1, v2, v3, v4, v5, v6, v7, v8, v9, v10, v11, v12⟩ := u; exact ⟨v0, v1, v2, v3, v4, v5, v6, v7, v8, v9, v10, v11, v12, rfl, h⟩
def k_b14 {T0 T1 T2 T3 T4 T5 T6 T7 T8 T9 T10 T11 T12 T13 α : Type} (x : Option (T0 × T1 × T2 × T3 × T4 × T5 × T6 × T7 × T8 × T9 × T10 × T11 × T12 × T13)) (f : T0 → T1 → T2 → T3 → T4 → T5 → T6 → T7 → T8 → T9 → T10 → T11 → T12 → T13 → Option α) : Option α := match x with | none => none | some (v0, v1, v2, v3, v4, v5, v6, v7, v8, v9, v10, v11, v12, v13) => f v0 v1 v2 v3 v4 v5 v6 v7 v8 v9 v10 v11 v12 v13
theorem k_b14_some {T0 T1 T2 T3 T4 T5 T6 T7 T8 T9 T10 T11 T12 T13 α : Type} {x : Option (T0 × T1 × T2 × T3 × T4 × T5 × T6 × T7 × T8 × T9 × T10 × T11 × T12 × T13)} {f : T0 → T1 → T2 → T3 → T4 → T5 → T6 → T7 → T8 → T9 → T10 → T11 → T12 → T13 → Option α} {y : α} (h : k_b14 x f = some y) : ∃ (v0 : T0) (v1 : T1) (v2 : T2) (v3 : T3) (v4 : T4) (v5 : T5) (v6 : T6) (v7 : T7) (v8 : T8) (v9 : T9) (v10 : T10) (v11 : T11) (v12 : T12) (v13 : T13), x = some (v0, v1, v2, v3, v4, v5, v6, v7, v8, v9, v10, v11, v12, v13) ∧ f v0 v1 v2 v3 v4 v5 v6 v7 v8 v9 v10 v11 v12 v13 = some y := by
  unfold k_b14 at h; cases x with
  | none => cases h
  | some u => obtain ⟨v0, v1, v2, v3, v4, v5, v6, v7, v8, v9, v10, v11, v12, v13⟩ := u; exact ⟨v0, v1, v2, v3, v4, v5, v6, v7, v8, v9, v10, v11, v12, v13, rfl, h⟩
def k_b15 {T0 T1 T2 T3 T4 T5 T6 T7 T8 T9 T10 T11 T12 T13 T14 α : Type} (x : Option (T0 × T1 × T2 × T3 × T4 × T5 × T6 × T7 × T8 × T9 × T10 × T11 × T12 × T13 × T14)) (f : T0 → T1 → T2 → T3 → T4 → T5 → T6 → T7 → T8 → T9 → T10 → T11 → T12 → T13 → T14 → Option α) : Option α := match x with | none => none | some (v0, v1, v2, v3, v4, v5, v6, v7, v8, v9, v10, v11, v12, v13, v14) => f v0 v1 v2 v3 v4 v5 v6 v7 v8 v9 v10 v11 v12 v13 v14
theorem k_b15_some {T0 T1 T2 T3 T4 T5 T6 T7 T8 T9 T10 T11 T12 T13 T14 α : Type} {x : Option (T0 × T1 × T2 × T3 × T4 × T5 × T6 × T7 × T8 × T9 × T10 × T11 × T12 × T13 × T14)} {f : T0 → T1 → T2 → T3 → T4 → T5 → T6 → T7 → T8 → T9 → T10 → T11 → T12 → T13 → T14 → Option α} {y : α} (h : k_b15 x f = some y) : ∃ (v0 : T0) (v1 : T1) (v2 : T2) (v3 : T3) (v4 : T4) (v5 : T5) (v6 : T6) (v7 : T7) (v8 : T8) (v9 : T9) (v10 : T10) (v11 : T11) (v12 : T12) (v13 : T13) (v14 : T14), x = some (v0, v1, v2, v3, v4, v5, v6, v7, v8, v9, v10, v11, v12, v13, v14) ∧ f v0 v1 v2 v3 v4 v5 v6 v7 v8 v9 v10 v11 v12 v13 v14 = some y := by
  unfold k_b15 at h; cases x with
  | none => cases h
  | some u => obtain ⟨v0, v1, v2, v3, v4, v5, v6, v7, v8, v9, v10, v11, v12, v13, v14⟩ := u; exact ⟨v0, v1, v2, v3, v4, v5, v6, v7, v8, v9, v10, v11, v12, v13, v14, rfl, h⟩
def k_b16 {T0 T1 T2 T3 T4 T5 T6 T7 T8 T9 T10 T11 T12 T13 T14 T15 α : Type} (x : Option (T0 × T1 × T2 × T3 × T4 × T5 × T6 × T7 × T8 × T9 × T10 × T11 × T12 × T13 × T14 × T15)) (f : T0 → T1 → T2 → T3 → T4 → T5 → T6 → T7 → T8 → T9 → T10 → T11 → T12 → T13 → T14 → T15 → Option α) : Option α := match x with | none => none | some (v0, v1, v2, v3, v4, v5, v6, v7, v8, v9, v10, v11, v12, v13, v14, v15) => f v0 v1 v2 v3 v4 v5 v6 v7 v8 v9 v10 v11 v12 v13 v14 v15
theorem k_b16_some {T0 T1 T2 T3 T4 T5 T6 T7 T8 T9 T10 T11 T12 T13 T14 T15 α : Type} {x : Option (T0 × T1 × T2 × T3 × T4 × T5 × T6 × T7 × T8 × T9 × T10 × T11 × T12 × T13 × T14 × T15)} {f : T0 → T1 → T2 → T3 → T4 → T5 → T6 → T7 → T8 → T9 → T10 → T11 → T12 → T13 → T14 → T15 → Option α} {y : α} (h : k_b16 x f = some y) : ∃ (v0 : T0) (v1 : T1) (v2 : T2) (v3 : T3) (v4 : T4) (v5 : T5) (v6 : T6) (v7 : T7) (v8 : T8) (v9 : T9) (v10 : T10) (v11 : T11) (v12 : T12) (v13 : T13) (v14 : T14) (v15 : T15), x = some (v0, v1, v2, v3, v4, v5, v6, v7, v8, v9, v10, v11, v12, v13, v14, v15) ∧ f v0 v1 v2 v3 v4 v5 v6 v7 v8 v9 v10 v11 v12 v13 v14 v15 = some y := by
  unfold k_b16 at h; cases x with
  | none => cases h
  | some u => obtain ⟨v0, v1, v2, v3, v4, v5, v6, v7, v8, v9, v10, v11, v12, v13, v14, v15⟩ := u; exact ⟨v0, v1, v2, v3, v4, v5, v6, v7, v8, v9, v10, v11, v12, v13, v14, v15, rfl, h⟩
def k_b17 {T0 T1 T2 T3 T4 T5 T6 T7 T8 T9 T10 T11 T12 T13 T14 T15 T16 α : Type} (x : Option (T0 × T1 × T2 × T3 × T4 × T5 × T6 × T7 × T8 × T9 × T10 × T11 × T12 × T13 × T14 × T15 × T16)) (f : T0 → T1 → T2 → T3 → T4 → T5 → T6 → T7 → T8 → T9 → T10 → T11 → T12 → T13 → T14 → T15 → T16 → Option α) : Option α := match x with | none => none | some (v0, v1, v2, v3, v4, v5, v6, v7, v8, v9, v10, v11, v12, v13, v14, v15, v16) => f v0 v1 v2 v3 v4 v5 v6 v7 v8 v9 v10 v11 v12 v13 v14 v15 v16
theorem k_b17_some {T0 T1 T2 T3 T4 T5 T6 T7 T8 T9 T10 T11 T12 T13 T14 T15 T16 α : Type} {x : Option (T0 × T1 × T2 × T3 × T4 × T5 × T6 × T7 × T8 × T9 × T10 × T11 × T12 × T13 × T14 × T15 × T16)} {f : T0 → T1 → T2 → T3 → T4 → T5 → T6 → T7 → T8 → T9 → T10 → T11 → T12 → T13 → T14 → T15 → T16 → Option α} {y : α} (h : k_b17 x f = some y) : ∃ (v0 : T0) (v1 : T1) (v2 : T2) (v3 : T3) (v4 : T4) (v5 : T5) (v6 : T6) (v7 : T7) (v8 : T8) (v9 : T9) (v10 : T10) (v11 : T11) (v12 : T12) (v13 : T13) (v14 : T14) (v15 : T15) (v16 : T16), x = some (v0, v1, v2, v3, v4, v5, v6, v7, v8, v9, v10, v11, v12, v13, v14, v15, v16) ∧ f v0 v1 v2 v3 v4 v5 v6 v7 v8 v9 v10 v11 v12 v13 v14 v15 v16 = some y := by
  unfold k_b17 at h; cases x with
  | none => cases h
  | some u => obtain ⟨v0, v1, v2, v3, v4, v5, v6, v7, v8, v9, v10, v11, v12, v13, v14, v15, v16⟩ := u; exact ⟨v0, v1, v2, v3, v4, v5, v6, v7, v8, v9, v10, v11, v12, v13, v14, v15, v16, rfl, h⟩
def k_b18 {T0 T1 T2 T3 T4 T5 T6 T7 T8 T9 T10 T11 T12 T13 T14 T15 T16 T17 α : Type} (x : Option (T0 × T1 × T2 × T3 × T4 × T5 × T6 × T7 × T8 × T9 × T10 × T11 × T12 × T13 × T14 × T15 × T16 × T17)) (f : T0 → T1 → T2 → T3 → T4 → T5 → T6 → T7 → T8 → T9 → T10 → T11 → T12 → T13 → T14 → T15 → T16 → T17 → Option α) : Option α := match x with | none => none | some (v0, v1, v2, v3, v4, v5, v6, v7, v8, v9, v10, v11, v12, v13, v14, v15, v16, v17) => f v0 v1 v2 v3 v4 v5 v6 v7 v8 v9 v10 v11 v12 v13 v14 v15 v16 v17
theorem k_b18_some {T0 T1 T2 T3 T4 T5 T6 T7 T8 T9 T10 T11 T12 T13 T14 T15 T16 T17 α : Type} {x : Option (T0 × T1 × T2 × T3 × T4 × T5 × T6 × T7 × T8 × T9 × T10 × T11 × T12 × T13 × T14 × T15 × T16 × T17)} {f : T0 → T1 → T2 → T3 → T4 → T5 → T6 → T7 → T8 → T9 → T10 → T11 → T12 → T13 → T14 → T15 → T16 → T17 → Option α} {y : α} (h : k_b18 x f = some y) : ∃ (v0 : T0) (v1 : T1) (v2 : T2) (v3 : T3) (v4 : T4) (v5 : T5) (v6 : T6) (v7 : T7) (v8 : T8) (v9 : T9) (v10 : T10) (v11 : T11) (v12 : T12) (v13 : T13) (v14 : T14) (v15 : T15) (v16 : T16) (v17 : T17), x = some (v0, v1, v2, v3, v4, v5, v6, v7, v8, v9, v10, v11, v12, v13, v14, v15, v16, v17) ∧ f v0 v1 v2 v3 v4 v5 v6 v7 v8 v9 v10 v11 v12 v13 v14 v15 v16 v17 = some y := by
  unfold k_b18 at h; cases x with
  | none => cases h
  | some u => obtain ⟨v0, v1, v2, v3, v4, v5, v6, v7, v8, v9, v10, v11, v12, v13, v14, v15, v16, v17⟩ := u; exact ⟨v0, v1, v2, v3, v4, v5, v6, v7, v8, v9, v10, v11, v12, v13, v14, v15, v16, v17, rfl, h⟩
def k_b19 {T0 T1 T2 T3 T4 T5 T6 T7 T8 T9 T10 T11 T12 T13 T14 T15 T16 T17 T18 α : Type} (x : Option (T0 × T1 × T2 × T3 × T4 × T5 × T6 × T7 × T8 × T9 × T10 × T11 × T12 × T13 × T14 × T15 × T16 × T17 × T18)) (f : T0 → T1 → T2 → T3 → T4 → T5 → T6 → T7 → T8 → T9 → T10 → T11 → T12 → T13 → T14 → T15 → T16 → T17 → T18 → Option α) : Option α := match x with | none => none | some (v0, v1, v2, v3, v4, v5, v6, v7, v8, v9, v10, v11, v12, v13, v14, v15, v16, v17, v18) => f v0 v1 v2 v3 v4 v5 v6 v7 v8 v9 v10 v11 v12 v13 v14 v15 v16 v17 v18
theorem k_b19_some {T0 T1 T2 T3 T4 T5 T6 T7 T8 T9 T10 T11 T12 T13 T14 T15 T16 T17 T18 α : Type} {x : Option (T0 × T1 × T2 × T3 × T4 × T5 × T6 × T7 × T8 × T9 × T10 × T11 × T12 × T13 × T14 × T15 × T16 × T17 × T18)} {f : T0 → T1 → T2 → T3 → T4 → T5 → T6 → T7 → T8 → T9 → T10 → T11 → T12 → T13 → T14 → T15 → T16 → T17 → T18 → Option α} {y : α} (h : k_b19 x f = some y) : ∃ (v0 : T0) (v1 : T1) (v2 : T2) (v3 : T3) (v4 : T4) (v5 : T5) (v6 : T6) (v7 : T7) (v8 : T8) (v9 : T9) (v10 : T10) (v11 : T11) (v12 : T12) (v13 : T13) (v14 : T14) (v15 : T15) (v16 : T16) (v17 : T17) (v18 : T18), x = some (v0, v1, v2, v3, v4, v5, v6, v7, v8, v9, v10, v11, v12, v13, v14, v15, v16, v17, v18) ∧ f v0 v1 v2 v3 v4 v5 v6 v7 v8 v9 v10 v11 v12 v13 v14 v15 v16 v17 v18 = some y := by
  unfold k_b19 at h; cases x with
  | none => cases h
  | some u => obtain ⟨v0, v1, v2, v3, v4, v5, v6, v7, v8, v9, v10, v11, v12, v13, v14, v15, v16, v17, v18⟩ := u; exact ⟨v0, v1, v2, v3, v4, v5, v6, v7, v8, v9, v10, v11, v12, v13, v14, v15, v16, v17, v18, rfl, h⟩
def k_b20 {T0 T1 T2 T3 T4 T5 T6 T7 T8 T9 T10 T11 T12 T13 T14 T15 T16 T17 T18 T19 α : Type} (x : Option (T0 × T1 × T2 × T3 × T4 × T5 × T6 × T7 × T8 × T9 × T10 × T11 × T12 × T13 × T14 × T15 × T16 × T17 × T18 × T19)) (f : T0 → T1 → T2 → T3 → T4 → T5 → T6 → T7 → T8 → T9 → T10 → T11 → T12 → T13 → T14 → T15 → T16 → T17 → T18 → T19 → Option α) : Option α := match x with | none => none | some (v0, v1, v2, v3, v4, v5, v6, v7, v8, v9, v10, v11, v12, v13, v14, v15, v16, v17, v18, v19) => f v0 v1 v2 v3 v4 v5 v6 v7 v8 v9 v10 v11 v12 v13 v14 v15 v16 v17 v18 v19
theorem k_b20_some {T0 T1 T2 T3 T4 T5 T6 T7 T8 T9 T10 T11 T12 T13 T14 T15 T16 T17 T18 T19 α : Type} {x : Option (T0 × T1 × T2 × T3 × T4 × T5 × T6 × T7 × T8 × T9 × T10 × T11 × T12 × T13 × T14 × T15 × T16 × T17 × T18 × T19)} {f : T0 → T1 → T2 → T3 → T4 → T5 → T6 → T7 → T8 → T9 → T10 → T11 → T12 → T13 → T14 → T15 → T16 → T17 → T18 → T19 → Option α} {y : α} (h : k_b20 x f = some y) : ∃ (v0 : T0) (v1 : T1) (v2 : T2) (v3 : T3) (v4 : T4) (v5 : T5) (v6 : T6) (v7 : T7) (v8 : T8) (v9 : T9) (v10 : T10) (v11 : T11) (v12 : T12) (v13 : T13) (v14 : T14) (v15 : T15) (v16 : T16) (v17 : T17) (v18 : T18) (v19 : T19), x = some (v0, v1, v2, v3, v4, v5, v6, v7, v8, v9, v10, v11, v12, v13, v14, v15, v16, v17, v18, v19) ∧ f v0 v1 v2 v3 v4 v5 v6 v7 v8 v9 v10 v11 v12 v13 v14 v15 v16 v17 v18 v19 = some y := by
  unfold k_b20 at h; cases x with
  | none => cases h
  | some u => obtain ⟨v0, v1, v2, v3, v4, v5, v6, v7, v8, v9, v10, v11, v12, v13, v14, v15, v16, v17, v18, v19⟩ := u; exact ⟨v0, v1, v2, v3, v4, v5, v6, v7, v8, v9, v10, v11, v12, v13, v14, v15, v16, v17, v18, v19, rfl, h⟩
def k_b21 {T0 T1 T2 T3 T4 T5 T6 T7 T8 T9 T10 T11 T12 T13 T14 T15 T16 T17 T18 T19 T20 α : Type} (x : Option (T0 × T1 × T2 × T3 × T4 × T5 × T6 × T7 × T8 × T9 × T10 × T11 × T12 × T13 × T14 × T15 × T16 × T17 × T18 × T19 × T20)) (f : T0 → T1 → T2 → T3 → T4 → T5 → T6 → T7 → T8 → T9 → T10 → T11 → T12 → T13 → T14 → T15 → T16 → T17 → T18 → T19 → T20 → Option α) : Option α := match x with | none => none | some (v0, v1, v2, v3, v4, v5, v6, v7, v8, v9, v10, v11, v12, v13, v14, v15, v16, v17, v18, v19, v20) => f v0 v1 v2 v3 v4 v5 v6 v7 v8 v9 v10 v11 v12 v13 v14 v15 v16 v17 v18 v19 v20
theorem k_b21_some {T0 T1 T2 T3 T4 T5 T6 T7 T8 T9 T10 T11 T12 T13 T14 T15 T16 T17 T18 T19 T20 α : Type} {x : Option (T0 × T1 × T2 × T3 × T4 × T5 × T6 × T7 × T8 × T9 × T10 × T11 × T12 × T13 × T14 × T15 × T16 × T17 × T18 × T19 × T20)} {f : T0 → T1 → T2 → T3 → T4 → T5 → T6 → T7 → T8 → T9 → T10 → T11 → T12 → T13 → T14 → T15 → T16 → T17 → T18 → T19 → T20 → Option α} {y : α} (h : k_b21 x f = some y) : ∃ (v0 : T0) (v1 : T1) (v2 : T2) (v3 : T3) (v4 : T4) (v5 : T5) (v6 : T6) (v7 : T7) (v8 : T8) (v9 : T9) (v10 : T10) (v11 : T11) (v12 : T12) (v13 : T13) (v14 : T14) (v15 : T15) (v16 : T16) (v17 : T17) (v18 : T18) (v19 : T19) (v20 : T20), x = some (v0, v1, v2, v3, v4, v5, v6, v7, v8, v9, v10, v11, v12, v13, v14, v15, v16, v17, v18, v19, v20) ∧ f v0 v1 v2 v3 v4 v5 v6 v7 v8 v9 v10 v11 v12 v13 v14 v15 v16 v17 v18 v19 v20 = some y := by
  unfold k_b21 at h; cases x with
  | none => cases h
  | some u => obtain ⟨v0, v1, v2, v3, v4, v5, v6, v7, v8, v9, v10, v11, v12, v13, v14, v15, v16, v17, v18, v19, v20⟩ := u; exact ⟨v0, v1, v2, v3, v4, v5, v6, v7, v8, v9, v10, v11, v12, v13, v14, v15, v16, v17, v18, v19, v20, rfl, h⟩
def k_b22 {T0 T1 T2 T3 T4 T5 T6 T7 T8 T9 T10 T11 T12 T13 T14 T15 T16 T17 T18 T19 T20 T21 α : Type} (x : Option (T0 × T1 × T2 × T3 × T4 × T5 × T6 × T7 × T8 × T9 × T10 × T11 × T12 × T13 × T14 × T15 × T16 × T17 × T18 × T19 × T20 × T21)) (f : T0 → T1 → T2 → T3 → T4 → T5 → T6 → T7 → T8 → T9 → T10 → T11 → T12 → T13 → T14 → T15 → T16 → T17 → T18 → T19 → T20 → T21 → Option α) : Option α := match x with | none => none | some (v0, v1, v2, v3, v4, v5, v6, v7, v8, v9, v10, v11, v12, v13, v14, v15, v16, v17, v18, v19, v20, v21) => f v0 v1 v2 v3 v4 v5 v6 v7 v8 v9 v10 v11 v12 v13 v14 v15 v16 v17 v18 v19 v20 v21
theorem k_b22_some {T0 T1 T2 T3 T4 T5 T6 T7 T8 T9 T10 T11 T12 T13 T14 T15 T16 T17 T18 T19 T20 T21 α : Type} {x : Option (T0 × T1 × T2 × T3 × T4 × T5 × T6 × T7 × T8 × T9 × T10 × T11 × T12 × T13 × T14 × T15 × T16 × T17 × T18 × T19 × T20 × T21)} {f : T0 → T1 → T2 → T3 → T4 → T5 → T6 → T7 → T8 → T9 → T10 → T11 → T12 → T13 → T14 → T15 → T16 → T17 → T18 → T19 → T20 → T21 → Option α} {y : α} (h : k_b22 x f = some y) : ∃ (v0 : T0) (v1 : T1) (v2 : T2) (v3 : T3) (v4 : T4) (v5 : T5) (v6 : T6) (v7 : T7) (v8 : T8) (v9 : T9) (v10 : T10) (v11 : T11) (v12 : T12) (v13 : T13) (v14 : T14) (v15 : T15) (v16 : T16) (v17 : T17) (v18 : T18) (v19 : T19) (v20 : T20) (v21 : T21), x = some (v0, v1, v2, v3, v4, v5, v6, v7, v8, v9, v10, v11, v12, v13, v14, v15, v16, v17, v18, v19, v20, v21) ∧ f v0 v1 v2 v3 v4 v5 v6 v7 v8 v9 v10 v11 v12 v13 v14 v15 v16 v17 v18 v19 v20 v21 = some y := by
  unfold k_b22 at h; cases x with
  | none => cases h
  | some u => obtain ⟨v0, v1, v2, v3, v4, v5, v6, v7, v8, v9, v10, v11, v12, v13, v14, v15, v16, v17, v18, v19, v20, v21⟩ := u; exact ⟨v0, v1, v2, v3, v4, v5, v6, v7, v8, v9, v10, v11, v12, v13, v14, v15, v16, v17, v18, v19, v20, v21, rfl, h⟩
def k_b23 {T0 T1 T2 T3 T4 T5 T6 T7 T8 T9 T10 T11 T12 T13 T14 T15 T16 T17 T18 T19 T20 T21 T22 α : Type} (x : Option (T0 × T1 × T2 × T3 × T4 × T5 × T6 × T7 × T8 × T9 × T10 × T11 × T12 × T13 × T14 × T15 × T16 × T17 × T18 × T19 × T20 × T21 × T22)) (f : T0 → T1 → T2 → T3 → T4 → T5 → T6 → T7 → T8 → T9 → T10 → T11 → T12 → T13 → T14 → T15 → T16 → T17 → T18 → T19 → T20 → T21 → T22 → Option α) : Option α := match x with | none => none | some (v0, v1, v2, v3, v4, v5, v6, v7, v8, v9, v10, v11, v12, v13, v14, v15, v16, v17, v18, v19, v20, v21, v22) => f v0 v1 v2 v3 v4 v5 v6 v7 v8 v9 v10 v11 v12 v13 v14 v15 v16 v17 v18 v19 v20 v21 v22
theorem k_b23_some {T0 T1 T2 T3 T4 T5 T6 T7 T8 T9 T10 T11 T12 T13 T14 T15 T16 T17 T18 T19 T20 T21 T22 α : Type} {x : Option (T0 × T1 × T2 × T3 × T4 × T5 × T6 × T7 × T8 × T9 × T10 × T11 × T12 × T13 × T14 × T15 × T16 × T17 × T18 × T19 × T20 × T21 × T22)} {f : T0 → T1 → T2 → T3 → T4 → T5 → T6 → T7 → T8 → T9 → T10 → T11 → T12 → T13 → T14 → T15 → T16 → T17 → T18 → T19 → T20 → T21 → T22 → Option α} {y : α} (h : k_b23 x f = some y) : ∃ (v0 : T0) (v1 : T1) (v2 : T2) (v3 : T3) (v4 : T4) (v5 : T5) (v6 : T6) (v7 : T7) (v8 : T8) (v9 : T9) (v10 : T10) (v11 : T11) (v12 : T12) (v13 : T13) (v14 : T14) (v15 : T15) (v16 : T16) (v17 : T17) (v18 : T18) (v19 : T19) (v20 : T20) (v21 : T21) (v22 : T22), x = some (v0, v1, v2, v3, v4, v5, v6, v7, v8, v9, v10, v11, v12, v13, v14, v15, v16, v17, v18, v19, v20, v21, v22) ∧ f v0 v1 v2 v3 v4 v5 v6 v7 v8 v9 v10 v11 v12 v13 v14 v15 v16 v17 v18 v19 v20 v21 v22 = some y := by
  unfold k_b23 at h; cases x with
  | none => cases h
  | some u => obtain ⟨v0, v1, v2, v3, v4, v5, v6, v7, v8, v9, v10, v11, v12, v13, v14, v15, v16, v17, v18, v19, v20, v21, v22⟩ := u; exact ⟨v0, v1, v2, v3, v4, v5, v6, v7, v8, v9, v10, v11, v12, v13, v14, v15, v16, v17, v18, v19, v20, v21, v22, rfl, h⟩
def k_b24 {T0 T1 T2 T3 T4 T5 T6 T7 T8 T9 T10 T11 T12 T13 T14 T15 T16 T17 T18 T19 T20 T21 T22 T23 α : Type} (x : Option (T0 × T1 × T2 × T3 × T4 × T5 × T6 × T7 × T8 × T9 × T10 × T11 × T12 × T13 × T14 × T15 × T16 × T17 × T18 × T19 × T20 × T21 × T22 × T23)) (f : T0 → T1 → T2 → T3 → T4 → T5 → T6 → T7 → T8 → T9 → T10 → T11 → T12 → T13 → T14 → T15 → T16 → T17 → T18 → T19 → T20 → T21 → T22 → T23 → Option α) : Option α := match x with | none => none | some (v0, v1, v2, v3, v4, v5, v6, v7, v8, v9, v10, v11, v12, v13, v14, v15, v16, v17, v18, v19, v20, v21, v22, v23) => f v0 v1 v2 v3 v4 v5 v6 v7 v8 v9 v10 v11 v12 v13 v14 v15 v16 v17 v18 v19 v20 v21 v22 v23
theorem k_b24_some {T0 T1 T2 T3 T4 T5 T6 T7 T8 T9 T10 T11 T12 T13 T14 T15 T16 T17 T18 T19 T20 T21 T22 T23 α : Type} {x : Option (T0 × T1 × T2 × T3 × T4 × T5 × T6 × T7 × T8 × T9 × T10 × T11 × T12 × T13 × T14 × T15 × T16 × T17 × T18 × T19 × T20 × T21 × T22 × T23)} {f : T0 → T1 → T2 → T3 → T4 → T5 → T6 → T7 → T8 → T9 → T10 → T11 → T12 → T13 → T14 → T15 → T16 → T17 → T18 → T19 → T20 → T21 → T22 → T23 → Option α} {y : α} (h : k_b24 x f = some y) : ∃ (v0 : T0) (v1 : T1) (v2 : T2) (v3 : T3) (v4 : T4) (v5 : T5) (v6 : T6) (v7 : T7) (v8 : T8) (v9 : T9) (v10 : T10) (v11 : T11) (v12 : T12) (v13 : T13) (v14 : T14) (v15 : T15) (v16 : T16) (v17 : T17) (v18 : T18) (v19 : T19) (v20 : T20) (v21 : T21) (v22 : T22) (v23 : T23), x = some (v0, v1, v2, v3, v4, v5, v6, v7, v8, v9, v10, v11, v12, v13, v14, v15, v16, v17, v18, v19, v20, v21, v22, v23) ∧ f v0 v1 v2 v3 v4 v5 v6 v7 v8 v9 v10 v11 v12 v13 v14 v15 v16 v17 v18 v19 v20 v21 v22 v23 = some y := by
  unfold k_b24 at h; cases x with
  | none => cases h
  | some u => obtain ⟨v0, v1, v2, v3, v4, v5, v6, v7, v8, v9, v10, v11, v12, v13, v14, v15, v16, v17, v18, v19, v20, v21, v22, v23⟩ := u; exact ⟨v0, v1, v2, v3, v4, v5, v6, v7, v8, v9, v10, v11, v12, v13, v14, v15, v16, v17, v18, v19, v20, v21, v22, v23, rfl, h⟩
def k_b25 {T0 T1 T2 T3 T4 T5 T6 T7 T8 T9 T10 T11 T12 T13 T14 T15 T16 T17 T18 T19 T20 T21 T22 T23 T24 α : Type} (x : Option (T0 × T1 × T2 × T3 × T4 × T5 × T6 × T7 × T8 × T9 × T10 × T11 × T12 × T13 × T14 × T15 × T16 × T17 × T18 × T19 × T20 × T21 × T22 × T23 × T24)) (f : T0 → T1 → T2 → T3 → T4 → T5 → T6 → T7 → T8 → T9 → T10 → T11 → T12 → T13 → T14 → T15 → T16 → T17 → T18 → T19 → T20 → T21 → T22 → T23 → T24 → Option α) : Option α := match x with | none => none | some (v0, v1, v2, v3, v4, v5, v6, v7, v8, v9, v10, v11, v12, v13, v14, v15, v16, v17, v18, v19, v20, v21, v22, v23, v24) => f v0 v1 v2 v3 v4 v5 v6 v7 v8 v9 v10 v11 v12 v13 v14 v15 v16 v17 v18 v19 v20 v21 v22 v23 v24
theorem k_b25_some {T0 T1 T2 T3 T4 T5 T6 T7 T8 T9 T10 T11 T12 T13 T14 T15 T16 T17 T18 T19 T20 T21 T22 T23 T24 α : Type} {x : Option (T0 × T1 × T2 × T3 × T4 × T5 × T6 × T7 × T8 × T9 × T10 × T11 × T12 × T13 × T14 × T15 × T16 × T17 × T18 × T19 × T20 × T21 × T22 × T23 × T24)} {f : T0 → T1 → T2 → T3 → T4 → T5 → T6 → T7 → T8 → T9 → T10 → T11 → T12 → T13 → T14 → T15 → T16 → T17 → T18 → T19 → T20 → T21 → T22 → T23 → T24 → Option α} {y : α} (h : k_b25 x f = some y) : ∃ (v0 : T0) (v1 : T1) (v2 : T2) (v3 : T3) (v4 : T4) (v5 : T5) (v6 : T6) (v7 : T7) (v8 : T8) (v9 : T9) (v10 : T10) (v11 : T11) (v12 : T12) (v13 : T13) (v14 : T14) (v15 : T15) (v16 : T16) (v17 : T17) (v18 : T18) (v19 : T19) (v20 : T20) (v21 : T21) (v22 : T22) (v23 : T23) (v24 : T24), x = some (v0, v1, v2, v3, v4, v5, v6, v7, v8, v9, v10, v11, v12, v13, v14, v15, v16, v17, v18, v19, v20, v21, v22, v23, v24) ∧ f v0 v1 v2 v3 v4 v5 v6 v7 v8 v9 v10 v11 v12 v13 v14 v15 v16 v17 v18 v19 v20 v21 v22 v23 v24 = some y := by
  unfold k_b25 at h; cases x with
  | none => cases h
  | some u => obtain ⟨v0, v1, v2, v3, v4, v5, v6, v7, v8, v9, v10, v11, v12, v13, v14, v15, v16, v17, v18, v19, v20, v21, v22, v23, v24⟩ := u; exact ⟨v0, v1, v2, v3, v4, v5, v6, v7, v8, v9, v10, v11, v12, v13, v14, v15, v16, v17, v18, v19, v20, v21, v22, v23, v24, rfl, h⟩
def k_b26 {T0 T1 T2 T3 T4 T5 T6 T7 T8 T9 T10 T11 T12 T13 T14 T15 T16 T17 T18 T19 T20 T21 T22 T23 T24 T25 α : Type} (x : Option (T0 × T1 × T2 × T3 × T4 × T5 × T6 × T7 × T8 × T9 × T10 × T11 × T12 × T13 × T14 × T15 × T16 × T17 × T18 × T19 × T20 × T21 × T22 × T23 × T24 × T25)) (f : T0 → T1 → T2 → T3 → T4 → T5 → T6 → T7 → T8 → T9 → T10 → T11 → T12 → T13 → T14 → T15 → T16 → T17 → T18 → T19 → T20 → T21 → T22 → T23 → T24 → T25 → Option α) : Option α := match x with | none => none | some (v0, v1, v2, v3, v4, v5, v6, v7, v8, v9, v10, v11, v12, v13, v14, v15, v16, v17, v18, v19, v20, v21, v22, v23, v24, v25) => f v0 v1 v2 v3 v4 v5 v6 v7 v8 v9 v10 v11 v12 v13 v14 v15 v16 v17 v18 v19 v20 v21 v22 v23 v24 v25
theorem k_b26_some {T0 T1 T2 T3 T4 T5 T6 T7 T8 T9 T10 T11 T12 T13 T14 T15 T16 T17 T18 T19 T20 T21 T22 T23 T24 T25 α : Type} {x : Option (T0 × T1 × T2 × T3 × T4 × T5 × T6 × T7 × T8 × T9 × T10 × T11 × T12 × T13 × T14 × T15 × T16 × T17 × T18 × T19 × T20 × T21 × T22 × T23 × T24 × T25)} {f : T0 → T1 → T2 → T3 → T4 → T5 → T6 → T7 → T8 → T9 → T10 → T11 → T12 → T13 → T14 → T15 → T16 → T17 → T18 → T19 → T20 → T21 → T22 → T23 → T24 → T25 → Option α} {y : α} (h : k_b26 x f = some y) : ∃ (v0 : T0) (v1 : T1) (v2 : T2) (v3 : T3) (v4 : T4) (v5 : T5) (v6 : T6) (v7 : T7) (v8 : T8) (v9 : T9) (v10 : T10) (v11 : T11) (v12 : T12) (v13 : T13) (v14 : T14) (v15 : T15) (v16 : T16) (v17 : T17) (v18 : T18) (v19 : T19) (v20 : T20) (v21 : T21) (v22 : T22) (v23 : T23) (v24 : T24) (v25 : T25), x = some (v0, v1, v2, v3, v4, v5, v6, v7, v8, v9, v10, v11, v12, v13, v14, v15, v16, v17, v18, v19, v20, v21, v22, v23, v24, v25) ∧ f v0 v1 v2 v3 v4 v5 v6 v7 v8 v9 v10 v11 v12 v13 v14 v15 v16 v17 v18 v19 v20 v21 v22 v23 v24 v25 = some y := by
  unfold k_b26 at h; cases x with
  | none => cases h
  | some u => obtain ⟨v0, v1, v2, v3, v4, v5, v6, v7, v8, v9, v10, v11, v12, v13, v14, v15, v16, v17, v18, v19, v20, v21, v22, v23, v24, v25⟩ := u; exact ⟨v0, v1, v2, v3, v4, v5, v6, v7, v8, v9, v10, v11, v12, v13, v14, v15, v16, v17, v18, v19, v20, v21, v22, v23, v24, v25, rfl, h⟩
def k_b27 {T0 T1 T2 T3 T4 T5 T6 T7 T8 T9 T10 T11 T12 T13 T14 T15 T16 T17 T18 T19 T20 T21 T22 T23 T24 T25 T26 α : Type} (x : Option (T0 × T1 × T2 × T3 × T4 × T5 × T6 × T7 × T8 × T9 × T10 × T11 × T12 × T13 × T14 × T15 × T16 × T17 × T18 × T19 × T20 × T21 × T22 × T23 × T24 × T25 × T26)) (f : T0 → T1 → T2 → T3 → T4 → T5 → T6 → T7 → T8 → T9 → T10 → T11 → T12 → T13 → T14 → T15 → T16 → T17 → T18 → T19 → T20 → T21 → T22 → T23 → T24 → T25 → T26 → Option α) : Option α := match x with | none => none | some (v0, v1, v2, v3, v4, v5, v6, v7, v8, v9, v10, v11, v12, v13, v14, v15, v16, v17, v18, v19, v20, v21, v22, v23, v24, v25, v26) => f v0 v1 v2 v3 v4 v5 v6 v7 v8 v9 v10 v11 v12 v13 v14 v15 v16 v17 v18 v19 v20 v21 v22 v23 v24 v25 v26
theorem k_b27_some {T0 T1 T2 T3 T4 T5 T6 T7 T8 T9 T10 T11 T12 T13 T14 T15 T16 T17 T18 T19 T20 T21 T22 T23 T24 T25 T26 α : Type} {x : Option (T0 × T1 × T2 × T3 × T4 × T5 × T6 × T7 × T8 × T9 × T10 × T11 × T12 × T13 × T14 × T15 × T16 × T17 × T18 × T19 × T20 × T21 × T22 × T23 × T24 × T25 × T26)} {f : T0 → T1 → T2 → T3 → T4 → T5 → T6 → T7 → T8 → T9 → T10 → T11 → T12 → T13 → T14 → T15 → T16 → T17 → T18 → T19 → T20 → T21 → T22 → T23 → T24 → T25 → T26 → Option α} {y : α} (h : k_b27 x f = some y) : ∃ (v0 : T0) (v1 : T1) (v2 : T2) (v3 : T3) (v4 : T4) (v5 : T5) (v6 : T6) (v7 : T7) (v8 : T8) (v9 : T9) (v10 : T10) (v11 : T11) (v12 : T12) (v13 : T13) (v14 : T14) (v15 : T15) (v16 : T16) (v17 : T17) (v18 : T18) (v19 : T19) (v20 : T20) (v21 : T21) (v22 : T22) (v23 : T23) (v24 : T24) (v25 : T25) (v26 : T26), x = some (v0, v1, v2, v3, v4, v5, v6, v7, v8, v9, v10, v11, v12, v13, v14, v15, v16, v17, v18, v19, v20, v21, v22, v23, v24, v25, v26) ∧ f v0 v1 v2 v3 v4 v5 v6 v7 v8 v9 v10 v11 v12 v13 v14 v15 v16 v17 v18 v19 v20 v21 v22 v23 v24 v25 v26 = some y := by
  unfold k_b27 at h; cases x with
  | none => cases h
  | some u => obtain ⟨v0, v1, v2, v3, v4, v5, v6, v7, v8, v9, v10, v11, v12, v13, v14, v15, v16, v17, v18, v19, v20, v21, v22, v23, v24, v25, v26⟩ := u; exact ⟨v0, v1, v2, v3, v4, v5, v6, v7, v8, v9, v10, v11, v12, v13, v14, v15, v16, v17, v18, v19, v20, v21, v22, v23, v24, v25, v26, rfl, h⟩
def k_b28 {T0 T1 T2 T3 T4 T5 T6 T7 T8 T9 T10 T11 T12 T13 T14 T15 T16 T17 T18 T19 T20 T21 T22 T23 T24 T25 T26 T27 α : Type} (x : Option (T0 × T1 × T2 × T3 × T4 × T5 × T6 × T7 × T8 × T9 × T10 × T11 × T12 × T13 × T14 × T15 × T16 × T17 × T18 × T19 × T20 × T21 × T22 × T23 × T24 × T25 × T26 × T27)) (f : T0 → T1 → T2 → T3 → T4 → T5 → T6 → T7 → T8 → T9 → T10 → T11 → T12 → T13 → T14 → T15 → T16 → T17 → T18 → T19 → T20 → T21 → T22 → T23 → T24 → T25 → T26 → T27 → Option α) : Option α := match x with | none => none | some (v0, v1, v2, v3, v4, v5, v6, v7, v8, v9, v10, v11, v12, v13, v14, v15, v16, v17, v18, v19, v20, v21, v22, v23, v24, v25, v26, v27) => f v0 v1 v2 v3 v4 v5 v6 v7 v8 v9 v10 v11 v12 v13 v14 v15 v16 v17 v18 v19 v20 v21 v22 v23 v24 v25 v26 v27
theorem k_b28_some {T0 T1 T2 T3 T4 T5 T6 T7 T8 T9 T10 T11 T12 T13 T14 T15 T16 T17 T18 T19 T20 T21 T22 T23 T24 T25 T26 T27 α : Type} {x : Option (T0 × T1 × T2 × T3 × T4 × T5 × T6 × T7 × T8 × T9 × T10 × T11 × T12 × T13 × T14 × T15 × T16 × T17 × T18 × T19 × T20 × T21 × T22 × T23 × T24 × T25 × T26 × T27)} {f : T0 → T1 → T2 → T3 → T4 → T5 → T6 → T7 → T8 → T9 → T10 → T11 → T12 → T13 → T14 → T15 → T16 → T17 → T18 → T19 → T20 → T21 → T22 → T23 → T24 → T25 → T26 → T27 → Option α} {y : α} (h : k_b28 x f = some y) : ∃ (v0 : T0) (v1 : T1) (v2 : T2) (v3 : T3) (v4 : T4) (v5 : T5) (v6 : T6) (v7 : T7) (v8 : T8) (v9 : T9) (v10 : T10) (v11 : T11) (v12 : T12) (v13 : T13) (v14 : T14) (v15 : T15) (v16 : T16) (v17 : T17) (v18 : T18) (v19 : T19) (v20 : T20) (v21 : T21) (v22 : T22) (v23 : T23) (v24 : T24) (v25 : T25) (v26 : T26) (v27 : T27), x = some (v0, v1, v2, v3, v4, v5, v6, v7, v8, v9, v10, v11, v12, v13, v14, v15, v16, v17, v18, v19, v20, v21, v22, v23, v24, v25, v26, v27) ∧ f v0 v1 v2 v3 v4 v5 v6 v7 v8 v9 v10 v11 v12 v13 v14 v15 v16 v17 v18 v19 v20 v21 v22 v23 v24 v25 v26 v27 = some y := by
  unfold k_b28 at h; cases x with
  | none => cases h
  | some u => obtain ⟨v0, v1, v2, v3, v4, v5, v6, v7, v8, v9, v10, v11, v12, v13, v14, v15, v16, v17, v18, v19, v20, v21, v22, v23, v24, v25, v26, v27⟩ := u; exact ⟨v0, v1, v2, v3, v4, v5, v6, v7, v8, v9, v10, v11, v12, v13, v14, v15, v16, v17, v18, v19, v20, v21, v22, v23, v24, v25, v26, v27, rfl, h⟩
def k_b29 {T0 T1 T2 T3 T4 T5 T6 T7 T8 T9 T10 T11 T12 T13 T14 T15 T16 T17 T18 T19 T20 T21 T22 T23 T24 T25 T26 T27 T28 α : Type} (x : Option (T0 × T1 × T2 × T3 × T4 × T5 × T6 × T7 × T8 × T9 × T10 × T11 × T12 × T13 × T14 × T15 × T16 × T17 × T18 × T19 × T20 × T21 × T22 × T23 × T24 × T25 × T26 × T27 × T28)) (f : T0 → T1 → T2 → T3 → T4 → T5 → T6 → T7 → T8 → T9 → T10 → T11 → T12 → T13 → T14 → T15 → T16 → T17 → T18 → T19 → T20 → T21 → T22 → T23 → T24 → T25 → T26 → T27 → T28 → Option α) : Option α := match x with | none => none | some (v0, v1, v2, v3, v4, v5, v6, v7, v8, v9, v10, v11, v12, v13, v14, v15, v16, v17, v18, v19, v20, v21, v22, v23, v24, v25, v26, v27, v28) => f v0 v1 v2 v3 v4 v5 v6 v7 v8 v9 v10 v11 v12 v13 v14 v15 v16 v17 v18 v19 v20 v21 v22 v23 v24 v25 v26 v27 v28
theorem k_b29_some {T0 T1 T2 T3 T4 T5 T6 T7 T8 T9 T10 T11 T12 T13 T14 T15 T16 T17 T18 T19 T20 T21 T22 T23 T24 T25 T26 T27 T28 α : Type} {x : Option (T0 × T1 × T2 × T3 × T4 × T5 × T6 × T7 × T8 × T9 × T10 × T11 × T12 × T13 × T14 × T15 × T16 × T17 × T18 × T19 × T20 × T21 × T22 × T23 × T24 × T25 × T26 × T27 × T28)} {f : T0 → T1 → T2 → T3 → T4 → T5 → T6 → T7 → T8 → T9 → T10 → T11 → T12 → T13 → T14 → T15 → T16 → T17 → T18 → T19 → T20 → T21 → T22 → T23 → T24 → T25 → T26 → T27 → T28 → Option α} {y : α} (h : k_b29 x f = some y) : ∃ (v0 : T0) (v1 : T1) (v2 : T2) (v3 : T3) (v4 : T4) (v5 : T5) (v6 : T6) (v7 : T7) (v8 : T8) (v9 : T9) (v10 : T10) (v11 : T11) (v12 : T12) (v13 : T13) (v14 : T14) (v15 : T15) (v16 : T16) (v17 : T17) (v18 : T18) (v19 : T19) (v20 : T20) (v21 : T21) (v22 : T22) (v23 : T23) (v24 : T24) (v25 : T25) (v26 : T26) (v27 : T27) (v28 : T28), x = some (v0, v1, v2, v3, v4, v5, v6, v7, v8, v9, v10, v11, v12, v13, v14, v15, v16, v17, v18, v19, v20, v21, v22, v23, v24, v25, v26, v27, v28) ∧ f v0 v1 v2 v3 v4 v5 v6 v7 v8 v9 v10 v11 v12 v13 v14 v15 v16 v17 v18 v19 v20 v21 v22 v23 v24 v25 v26 v27 v28 = some y := by
  unfold k_b29 at h; cases x with
  | none => cases h
  | some u => obtain ⟨v0, v1, v2, v3, v4, v5, v6, v7, v8, v9, v10, v11, v12, v13, v14, v15, v16, v17, v18, v19, v20, v21, v22, v23, v24, v25, v26, v27, v28⟩ := u; exact ⟨v0, v1, v2, v3, v4, v5, v6, v7, v8, v9, v10, v11, v12, v13, v14, v15, v16, v17, v18, v19, v20, v21, v22, v23, v24, v25, v26, v27, v28, rfl, h⟩
def k_b30 {T0 T1 T2 T3 T4 T5 T6 T7 T8 T9 T10 T11 T12 T13 T14 T15 T16 T17 T18 T19 T20 T21 T22 T23 T24 T25 T26 T27 T28 T29 α : Type} (x : Option (T0 × T1 × T2 × T3 × T4 × T5 × T6 × T7 × T8 × T9 × T10 × T11 × T12 × T13 × T14 × T15 × T16 × T17 × T18 × T19 × T20 × T21 × T22 × T23 × T24 × T25 × T26 × T27 × T28 × T29)) (f : T0 → T1 → T2 → T3 → T4 → T5 → T6 → T7 → T8 → T9 → T10 → T11 → T12 → T13 → T14 → T15 → T16 → T17 → T18 → T19 → T20 → T21 → T22 → T23 → T24 → T25 → T26 → T27 → T28 → T29 → Option α) : Option α := match x with | none => none | some (v0, v1, v2, v3, v4, v5, v6, v7, v8, v9, v10, v11, v12, v13, v14, v15, v16, v17, v18, v19, v20, v21, v22, v23, v24, v25, v26, v27, v28, v29) => f v0 v1 v2 v3 v4 v5 v6 v7 v8 v9 v10 v11 v12 v13 v14 v15 v16 v17 v18 v19 v20 v21 v22 v23 v24 v25 v26 v27 v28 v29
theorem k_b30_some {T0 T1 T2 T3 T4 T5 T6 T7 T8 T9 T10 T11 T12 T13 T14 T15 T16 T17 T18 T19 T20 T21 T22 T23 T24 T25 T26 T27 T28 T29 α : Type} {x : Option (T0 × T1 × T2 × T3 × T4 × T5 × T6 × T7 × T8 × T9 × T10 × T11 × T12 × T13 × T14 × T15 × T16 × T17 × T18 × T19 × T20 × T21 × T22 × T23 × T24 × T25 × T26 × T27 × T28 × T29)} {f : T0 → T1 → T2 → T3 → T4 → T5 → T6 → T7 → T8 → T9 → T10 → T11 → T12 → T13 → T14 → T15 → T16 → T17 → T18 → T19 → T20 → T21 → T22 → T23 → T24 → T25 → T26 → T27 → T28 → T29 → Option α} {y : α} (h : k_b30 x f = some y) : ∃ (v0 : T0) (v1 : T1) (v2 : T2) (v3 : T3) (v4 : T4) (v5 : T5) (v6 : T6) (v7 : T7) (v8 : T8) (v9 : T9) (v10 : T10) (v11 : T11) (v12 : T12) (v13 : T13) (v14 : T14) (v15 : T15) (v16 : T16) (v17 : T17) (v18 : T18) (v19 : T19) (v20 : T20) (v21 : T21) (v22 : T22) (v23 : T23) (v24 : T24) (v25 : T25) (v26 : T26) (v27 : T27) (v28 : T28) (v29 : T29), x = some (v0, v1, v2, v3, v4, v5, v6, v7, v8, v9, v10, v11, v12, v13, v14, v15, v16, v17, v18, v19, v20, v21, v22, v23, v24, v25, v26, v27, v28, v29) ∧ f v0 v1 v2 v3 v4 v5 v6 v7 v8 v9 v10 v11 v12 v13 v14 v15 v16 v17 v18 v19 v20 v21 v22 v23 v24 v25 v26 v27 v28 v29 = some y := by
  unfold k_b30 at h; cases x with
  | none => cases h
  | some u => obtain ⟨v0, v1, v2, v3, v4, v5, v6, v7, v8, v9, v10, v11, v12, v13, v14, v15, v16, v17, v18, v19, v20, v21, v22, v23, v24, v25, v26, v27, v28, v29⟩ := u; exact ⟨v0, v1, v2, v3, v4, v5, v6, v7, v8, v9, v10, v11, v12, v13, v14, v15, v16, v17, v18, v19, v20, v21, v22, v23, v24, v25, v26, v27, v28, v29, rfl, h⟩
def k_b31 {T0 T1 T2 T3 T4 T5 T6 T7 T8 T9 T10 T11 T12 T13 T14 T15 T16 T17 T18 T19 T20 T21 T22 T23 T24 T25 T26 T27 T28 T29 T30 α : Type} (x : Option (T0 × T1 × T2 × T3 × T4 × T5 × T6 × T7 × T8 × T9 × T10 × T11 × T12 × T13 × T14 × T15 × T16 × T17 × T18 × T19 × T20 × T21 × T22 × T23 × T24 × T25 × T26 × T27 × T28 × T29 × T30)) (f : T0 → T1 → T2 → T3 → T4 → T5 → T6 → T7 → T8 → T9 → T10 → T11 → T12 → T13 → T14 → T15 → T16 → T17 → T18 → T19 → T20 → T21 → T22 → T23 → T24 → T25 → T26 → T27 → T28 → T29 → T30 → Option α) : Option α := match x with | none => none | some (v0, v1, v2, v3, v4, v5, v6, v7, v8, v9, v10, v11, v12, v13, v14, v15, v16, v17, v18, v19, v20, v21, v22, v23, v24, v25, v26, v27, v28, v29, v30) => f v0 v1 v2 v3 v4 v5 v6 v7 v8 v9 v10 v11 v12 v13 v14 v15 v16 v17 v18 v19 v20 v21 v22 v23 v24 v25 v26 v27 v28 v29 v30
theorem k_b31_some {T0 T1 T2 T3 T4 T5 T6 T7 T8 T9 T10 T11 T12 T13 T14 T15 T16 T17 T18 T19 T20 T21 T22 T23 T24 T25 T26 T27 T28 T29 T30 α : Type} {x : Option (T0 × T1 × T2 × T3 × T4 × T5 × T6 × T7 × T8 × T9 × T10 × T11 × T12 × T13 × T14 × T15 × T16 × T17 × T18 × T19 × T20 × T21 × T22 × T23 × T24 × T25 × T26 × T27 × T28 × T29 × T30)} {f : T0 → T1 → T2 → T3 → T4 → T5 → T6 → T7 → T8 → T9 → T10 → T11 → T12 → T13 → T14 → T15 → T16 → T17 → T18 → T19 → T20 → T21 → T22 → T23 → T24 → T25 → T26 → T27 → T28 → T29 → T30 → Option α} {y : α} (h : k_b31 x f = some y) : ∃ (v0 : T0) (v1 : T1) (v2 : T2) (v3 : T3) (v4 : T4) (v5 : T5) (v6 : T6) (v7 : T7) (v8 : T8) (v9 : T9) (v10 : T10) (v11 : T11) (v12 : T12) (v13 : T13) (v14 : T14) (v15 : T15) (v16 : T16) (v17 : T17) (v18 : T18) (v19 : T19) (v20 : T20) (v21 : T21) (v22 : T22) (v23 : T23) (v24 : T24) (v25 : T25) (v26 : T26) (v27 : T27) (v28 : T28) (v29 : T29) (v30 : T30), x = some (v0, v1, v2, v3, v4, v5, v6, v7, v8, v9, v10, v11, v12, v13, v14, v15, v16, v17, v18, v19, v20, v21, v22, v23, v24, v25, v26, v27, v28, v29, v30) ∧ f v0 v1 v2 v3 v4 v5 v6 v7 v8 v9 v10 v11 v12 v13 v14 v15 v16 v17 v18 v19 v20 v21 v22 v23 v24 v25 v26 v27 v28 v29 v30 = some y := by
  unfold k_b31 at h; cases x with
  | none => cases h
  | some u => obtain ⟨v0, v1, v2, v3, v4, v5, v6, v7, v8, v9, v10, v11, v12, v13, v14, v15, v16, v17, v18, v19, v20, v21, v22, v23, v24, v25, v26, v27, v28, v29, v30⟩ := u; exact ⟨v0, v1, v2, v3, v4, v5, v6, v7, v8, v9, v10, v11, v12, v13, v14, v15, v16, v17, v18, v19, v20, v21, v22, v23, v24, v25, v26, v27, v28, v29, v30, rfl, h⟩
def k_b32 {T0 T1 T2 T3 T4 T5 T6 T7 T8 T9 T10 T11 T12 T13 T14 T15 T16 T17 T18 T19 T20 T21 T22 T23 T24 T25 T26 T27 T28 T29 T30 T31 α : Type} (x : Option (T0 × T1 × T2 × T3 × T4 × T5 × T6 × T7 × T8 × T9 × T10 × T11 × T12 × T13 × T14 × T15 × T16 × T17 × T18 × T19 × T20 × T21 × T22 × T23 × T24 × T25 × T26 × T27 × T28 × T29 × T30 × T31)) (f : T0 → T1 → T2 → T3 → T4 → T5 → T6 → T7 → T8 → T9 → T10 → T11 → T12 → T13 → T14 → T15 → T16 → T17 → T18 → T19 → T20 → T21 → T22 → T23 → T24 → T25 → T26 → T27 → T28 → T29 → T30 → T31 → Option α) : Option α := match x with | none => none | some (v0, v1, v2, v3, v4, v5, v6, v7, v8, v9, v10, v11, v12, v13, v14, v15, v16, v17, v18, v19, v20, v21, v22, v23, v24, v25, v26, v27, v28, v29, v30, v31) => f v0 v1 v2 v3 v4 v5 v6 v7 v8 v9 v10 v11 v12 v13 v14 v15 v16 v17 v18 v19 v20 v21 v22 v23 v24 v25 v26 v27 v28 v29 v30 v31
theorem k_b32_some {T0 T1 T2 T3 T4 T5 T6 T7 T8 T9 T10 T11 T12 T13 T14 T15 T16 T17 T18 T19 T20 T21 T22 T23 T24 T25 T26 T27 T28 T29 T30 T31 α : Type} {x : Option (T0 × T1 × T2 × T3 × T4 × T5 × T6 × T7 × T8 × T9 × T10 × T11 × T12 × T13 × T14 × T15 × T16 × T17 × T18 × T19 × T20 × T21 × T22 × T23 × T24 × T25 × T26 × T27 × T28 × T29 × T30 × T31)} {f : T0 → T1 → T2 → T3 → T4 → T5 → T6 → T7 → T8 → T9 → T10 → T11 → T12 → T13 → T14 → T15 → T16 → T17 → T18 → T19 → T20 → T21 → T22 → T23 → T24 → T25 → T26 → T27 → T28 → T29 → T30 → T31 → Option α} {y : α} (h : k_b32 x f = some y) : ∃ (v0 : T0) (v1 : T1) (v2 : T2) (v3 : T3) (v4 : T4) (v5 : T5) (v6 : T6) (v7 : T7) (v8 : T8) (v9 : T9) (v10 : T10) (v11 : T11) (v12 : T12) (v13 : T13) (v14 : T14) (v15 : T15) (v16 : T16) (v17 : T17) (v18 : T18) (v19 : T19) (v20 : T20) (v21 : T21) (v22 : T22) (v23 : T23) (v24 : T24) (v25 : T25) (v26 : T26) (v27 : T27) (v28 : T28) (v29 : T29) (v30 : T30) (v31 : T31), x = some (v0, v1, v2, v3, v4, v5, v6, v7, v8, v9, v10, v11, v12, v13, v14, v15, v16, v17, v18, v19, v20, v21, v22, v23, v24, v25, v26, v27, v28, v29, v30, v31) ∧ f v0 v1 v2 v3 v4 v5 v6 v7 v8 v9 v10 v11 v12 v13 v14 v15 v16 v17 v18 v19 v20 v21 v22 v23 v24 v25 v26 v27 v28 v29 v30 v31 = some y := by
  unfold k_b32 at h; cases x with
  | none => cases h
  | some u => obtain ⟨v0, v1, v2, v3, v4, v5, v6, v7, v8, v9, v10, v11, v12, v13, v14, v15, v16, v17, v18, v19, v20, v21, v22, v23, v24, v25, v26, v27, v28, v29, v30, v31⟩ := u; exact ⟨v0, v1, v2, v3, v4, v5, v6, v7, v8, v9, v10, v11, v12, v13, v14, v15, v16, v17, v18, v19, v20, v21, v22, v23, v24, v25, v26, v27, v28, v29, v30, v31, rfl, h⟩
def k_b33 {T0 T1 T2 T3 T4 T5 T6 T7 T8 T9 T10 T11 T12 T13 T14 T15 T16 T17 T18 T19 T20 T21 T22 T23 T24 T25 T26 T27 T28 T29 T30 T31 T32 α : Type} (x : Option (T0 × T1 × T2 × T3 × T4 × T5 × T6 × T7 × T8 × T9 × T10 × T11 × T12 × T13 × T14 × T15 × T16 × T17 × T18 × T19 × T20 × T21 × T22 × T23 × T24 × T25 × T26 × T27 × T28 × T29 × T30 × T31 × T32)) (f : T0 → T1 → T2 → T3 → T4 → T5 → T6 → T7 → T8 → T9 → T10 → T11 → T12 → T13 → T14 → T15 → T16 → T17 → T18 → T19 → T20 → T21 → T22 → T23 → T24 → T25 → T26 → T27 → T28 → T29 → T30 → T31 → T32 → Option α) : Option α := match x with | none => none | some (v0, v1, v2, v3, v4, v5, v6, v7, v8, v9, v10, v11, v12, v13, v14, v15, v16, v17, v18, v19, v20, v21, v22, v23, v24, v25, v26, v27, v28, v29, v30, v31, v32) => f v0 v1 v2 v3 v4 v5 v6 v7 v8 v9 v10 v11 v12 v13 v14 v15 v16 v17 v18 v19 v20 v21 v22 v23 v24 v25 v26 v27 v28 v29 v30 v31 v32
theorem k_b33_some {T0 T1 T2 T3 T4 T5 T6 T7 T8 T9 T10 T11 T12 T13 T14 T15 T16 T17 T18 T19 T20 T21 T22 T23 T24 T25 T26 T27 T28 T29 T30 T31 T32 α : Type} {x : Option (T0 × T1 × T2 × T3 × T4 × T5 × T6 × T7 × T8 × T9 × T10 × T11 × T12 × T13 × T14 × T15 × T16 × T17 × T18 × T19 × T20 × T21 × T22 × T23 × T24 × T25 × T26 × T27 × T28 × T29 × T30 × T31 × T32)} {f : T0 → T1 → T2 → T3 → T4 → T5 → T6 → T7 → T8 → T9 → T10 → T11 → T12 → T13 → T14 → T15 → T16 → T17 → T18 → T19 → T20 → T21 → T22 → T23 → T24 → T25 → T26 → T27 → T28 → T29 → T30 → T31 → T32 → Option α} {y : α} (h : k_b33 x f = some y) : ∃ (v0 : T0) (v1 : T1) (v2 : T2) (v3 : T3) (v4 : T4) (v5 : T5) (v6 : T6) (v7 : T7) (v8 : T8) (v9 : T9) (v10 : T10) (v11 : T11) (v12 : T12) (v13 : T13) (v14 : T14) (v15 : T15) (v16 : T16) (v17 : T17) (v18 : T18) (v19 : T19) (v20 : T20) (v21 : T21) (v22 : T22) (v23 : T23) (v24 : T24) (v25 : T25) (v26 : T26) (v27 : T27) (v28 : T28) (v29 : T29) (v30 : T30) (v31 : T31) (v32 : T32), x = some (v0, v1, v2, v3, v4, v5, v6, v7, v8, v9, v10, v11, v12, v13, v14, v15, v16, v17, v18, v19, v20, v21, v22, v23, v24, v25, v26, v27, v28, v29, v30, v31, v32) ∧ f v0 v1 v2 v3 v4 v5 v6 v7 v8 v9 v10 v11 v12 v13 v14 v15 v16 v17 v18 v19 v20 v21 v22 v23 v24 v25 v26 v27 v28 v29 v30 v31 v32 = some y := by
  unfold k_b33 at h; cases x with
  | none => cases h
  | some u => obtain ⟨v0, v1, v2, v3, v4, v5, v6, v7, v8, v9, v10, v11, v12, v13, v14, v15, v16, v17, v18, v19, v20, v21, v22, v23, v24, v25, v26, v27, v28, v29, v30, v31, v32⟩ := u; exact ⟨v0, v1, v2, v3, v4, v5, v6, v7, v8, v9, v10, v11, v12, v13, v14, v15, v16, v17, v18, v19, v20, v21, v22, v23, v24, v25, v26, v27, v28, v29, v30, v31, v32, rfl, h⟩
def k_b34 {T0 T1 T2 T3 T4 T5 T6 T7 T8 T9 T10 T11 T12 T13 T14 T15 T16 T17 T18 T19 T20 T21 T22 T23 T24 T25 T26 T27 T28 T29 T30 T31 T32 T33 α : Type} (x : Option (T0 × T1 × T2 × T3 × T4 × T5 × T6 × T7 × T8 × T9 × T10 × T11 × T12 × T13 × T14 × T15 × T16 × T17 × T18 × T19 × T20 × T21 × T22 × T23 × T24 × T25 × T26 × T27 × T28 × T29 × T30 × T31 × T32 × T33)) (f : T0 → T1 → T2 → T3 → T4 → T5 → T6 → T7 → T8 → T9 → T10 → T11 → T12 → T13 → T14 → T15 → T16 → T17 → T18 → T19 → T20 → T21 → T22 → T23 → T24 → T25 → T26 → T27 → T28 → T29 → T30 → T31 → T32 → T33 → Option α) : Option α := match x with | none => none | some (v0, v1, v2, v3, v4, v5, v6, v7, v8, v9, v10, v11, v12, v13, v14, v15, v16, v17, v18, v19, v20, v21, v22, v23, v24, v25, v26, v27, v28, v29, v30, v31, v32, v33) => f v0 v1 v2 v3 v4 v5 v6 v7 v8 v9 v10 v11 v12 v13 v14 v15 v16 v17 v18 v19 v20 v21 v22 v23 v24 v25 v26 v27 v28 v29 v30 v31 v32 v33
theorem k_b34_some {T0 T1 T2 T3 T4 T5 T6 T7 T8 T9 T10 T11 T12 T13 T14 T15 T16 T17 T18 T19 T20 T21 T22 T23 T24 T25 T26 T27 T28 T29 T30 T31 T32 T33 α : Type} {x : Option (T0 × T1 × T2 × T3 × T4 × T5 × T6 × T7 × T8 × T9 × T10 × T11 × T12 × T13 × T14 × T15 × T16 × T17 × T18 × T19 × T20 × T21 × T22 × T23 × T24 × T25 × T26 × T27 × T28 × T29 × T30 × T31 × T32 × T33)} {f : T0 → T1 → T2 → T3 → T4 → T5 → T6 → T7 → T8 → T9 → T10 → T11 → T12 → T13 → T14 → T15 → T16 → T17 → T18 → T19 → T20 → T21 → T22 → T23 → T24 → T25 → T26 → T27 → T28 → T29 → T30 → T31 → T32 → T33 → Option α} {y : α} (h : k_b34 x f = some y) : ∃ (v0 : T0) (v1 : T1) (v2 : T2) (v3 : T3) (v4 : T4) (v5 : T5) (v6 : T6) (v7 : T7) (v8 : T8) (v9 : T9) (v10 : T10) (v11 : T11) (v12 : T12) (v13 : T13) (v14 : T14) (v15 : T15) (v16 : T16) (v17 : T17) (v18 : T18) (v19 : T19) (v20 : T20) (v21 : T21) (v22 : T22) (v23 : T23) (v24 : T24) (v25 : T25) (v26 : T26) (v27 : T27) (v28 : T28) (v29 : T29) (v30 : T30) (v31 : T31) (v32 : T32) (v33 : T33), x = some (v0, v1, v2, v3, v4, v5, v6, v7, v8, v9, v10, v11, v12, v13, v14, v15, v16, v17, v18, v19, v20, v21, v22, v23, v24, v25, v26, v27, v28, v29, v30, v31, v32, v33) ∧ f v0 v1 v2 v3 v4 v5 v6 v7 v8 v9 v10 v11 v12 v13 v14 v15 v16 v17 v18 v19 v20 v21 v22 v23 v24 v25 v26 v27 v28 v29 v30 v31 v32 v33 = some y := by
  unfold k_b34 at h; cases x with
  | none => cases h
  | some u => obtain ⟨v0, v1, v2, v3, v4, v5, v6, v7, v8, v9, v10, v11, v12, v13, v14, v15, v16, v17, v18, v19, v20, v21, v22, v23, v24, v25, v26, v27, v28, v29, v30, v31, v32, v33⟩ := u; exact ⟨v0, v1, v2, v3, v4, v5, v6, v7, v8, v9, v10, v11, v12, v13, v14, v15, v16, v17, v18, v19, v20, v21, v22, v23, v24, v25, v26, v27, v28, v29, v30, v31, v32, v33, rfl, h⟩
def k_bx0 {ρ α : Type} (x : Option (ρ ⊕ (Unit))) (g : ρ → Option α) (f : Option α) : Option α := match x with | none => none | some (.inl a) => g a | some (.inr ()) => f 
theorem k_bx0_some {ρ α : Type} {x : Option (ρ ⊕ (Unit))} {g : ρ → Option α} {f : Option α} {y : α} (h : k_bx0 x g f = some y) : ∃ e, x = some e ∧ (∀ q, e = .inl q → g q = some y) ∧ (e = .inr () → f  = some y) := by
  unfold k_bx0 at h; cases x with
  | none => cases h
  | some u => cases u with
    | inl a => exact ⟨_, rfl, fun q hq => (by cases hq; exact h), fun hq => (by cases hq)⟩
    | inr b => exact ⟨_, rfl, fun q hq => (by cases hq), fun hq => h⟩
def k_bx1 {T0 ρ α : Type} (x : Option (ρ ⊕ (T0))) (g : ρ → Option α) (f : T0 → Option α) : Option α := match x with | none => none | some (.inl a) => g a | some (.inr v0) => f v0
theorem k_bx1_some {T0 ρ α : Type} {x : Option (ρ ⊕ (T0))} {g : ρ → Option α} {f : T0 → Option α} {y : α} (h : k_bx1 x g f = some y) : ∃ e, x = some e ∧ (∀ q, e = .inl q → g q = some y) ∧ (∀ (v0 : T0), e = .inr v0 → f v0 = some y) := by
  unfold k_bx1 at h; cases x with
  | none => cases h
  | some u => cases u with
    | inl a => exact ⟨_, rfl, fun q hq => (by cases hq; exact h), fun v0 hq => (by cases hq)⟩
    | inr b => exact ⟨_, rfl, fun q hq => (by cases hq), fun _ hq => (by cases hq; exact h)⟩
def k_bx2 {T0 T1 ρ α : Type} (x : Option (ρ ⊕ (T0 × T1))) (g : ρ → Option α) (f : T0 → T1 → Option α) : Option α := match x with | none => none | some (.inl a) => g a | some (.inr (v0, v1)) => f v0 v1
theorem k_bx2_some {T0 T1 ρ α : Type} {x : Option (ρ ⊕ (T0 × T1))} {g : ρ → Option α} {f : T0 → T1 → Option α} {y : α} (h : k_bx2 x g f = some y) : ∃ e, x = some e ∧ (∀ q, e = .inl q → g q = some y) ∧ (∀ (v0 : T0) (v1 : T1), e = .inr (v0, v1) → f v0 v1 = some y) := by
  unfold k_bx2 at h; cases x with
  | none => cases h
  | some u => cases u with
    | inl a => exact ⟨_, rfl, fun q hq => (by cases hq; exact h), fun v0 v1 hq => (by cases hq)⟩
    | inr b => obtain ⟨v0, v1⟩ := b; exact ⟨_, rfl, fun q hq => (by cases hq), fun _ _ hq => (by cases hq; exact h)⟩
def k_bx3 {T0 T1 T2 ρ α : Type} (x : Option (ρ ⊕ (T0 × T1 × T2))) (g : ρ → Option α) (f : T0 → T1 → T2 → Option α) : Option α := match x with | none => none | some (.inl a) => g a | some (.inr (v0, v1, v2)) => f v0 v1 v2
theorem k_bx3_some {T0 T1 T2 ρ α : Type} {x : Option (ρ ⊕ (T0 × T1 × T2))} {g : ρ → Option α} {f : T0 → T1 → T2 → Option α} {y : α} (h : k_bx3 x g f = some y) : ∃ e, x = some e ∧ (∀ q, e = .inl q → g q = some y) ∧ (∀ (v0 : T0) (v1 : T1) (v2 : T2), e = .inr (v0, v1, v2) → f v0 v1 v2 = some y) := by
  unfold k_bx3 at h; cases x with
  | none => cases h
  | some u => cases u with
    | inl a => exact ⟨_, rfl, fun q hq => (by cases hq; exact h), fun v0 v1 v2 hq => (by cases hq)⟩
    | inr b => obtain ⟨v0, v1, v2⟩ := b; exact ⟨_, rfl, fun q hq => (by cases hq), fun _ _ _ hq => (by cases hq; exact h)⟩
def k_bx4 {T0 T1 T2 T3 ρ α : Type} (x : Option (ρ ⊕ (T0 × T1 × T2 × T3))) (g : ρ → Option α) (f : T0 → T1 → T2 → T3 → Option α) : Option α := match x with | none => none | some (.inl a) => g a | some (.inr (v0, v1, v2, v3)) => f v0 v1 v2 v3
theorem k_bx4_some {T0 T1 T2 T3 ρ α : Type} {x : Option (ρ ⊕ (T0 × T1 × T2 × T3))} {g : ρ → Option α} {f : T0 → T1 → T2 → T3 → Option α} {y : α} (h : k_bx4 x g f = some y) : ∃ e, x = some e ∧ (∀ q, e = .inl q → g q = some y) ∧ (∀ (v0 : T0) (v1 : T1) (v2 : T2) (v3 : T3), e = .inr (v0, v1, v2, v3) → f v0 v1 v2 v3 = some y) := by
  unfold k_bx4 at h; cases x with
  | none => cases h
  | some u => cases u with
    | inl a => exact ⟨_, rfl, fun q hq => (by cases hq; exact h), fun v0 v1 v2 v3 hq => (by cases hq)⟩
    | inr b => obtain ⟨v0, v1, v2, v3⟩ := b; exact ⟨_, rfl, fun q hq => (by cases hq), fun _ _ _ _ hq => (by cases hq; exact h)⟩
def k_bx5 {T0 T1 T2 T3 T4 ρ α : Type} (x : Option (ρ ⊕ (T0 × T1 × T2 × T3 × T4))) (g : ρ → Option α) (f : T0 → T1 → T2 → T3 → T4 → Option α) : Option α := match x with | none => none | some (.inl a) => g a | some (.inr (v0, v1, v2, v3, v4)) => f v0 v1 v2 v3 v4
theorem k_bx5_some {T0 T1 T2 T3 T4 ρ α : Type} {x : Option (ρ ⊕ (T0 × T1 × T2 × T3 × T4))} {g : ρ → Option α} {f : T0 → T1 → T2 → T3 → T4 → Option α} {y : α} (h : k_bx5 x g f = some y) : ∃ e, x = some e ∧ (∀ q, e = .inl q → g q = some y) ∧ (∀ (v0 : T0) (v1 : T1) (v2 : T2) (v3 : T3) (v4 : T4), e = .inr (v0, v1, v2, v3, v4) → f v0 v1 v2 v3 v4 = some y) := by
  unfold k_bx5 at h; cases x with
  | none => cases h
  | some u => cases u with
    | inl a => exact ⟨_, rfl, fun q hq => (by cases hq; exact h), fun v0 v1 v2 v3 v4 hq => (by cases hq)⟩
    | inr b => obtain ⟨v0, v1, v2, v3, v4⟩ := b; exact ⟨_, rfl, fun q hq => (by cases hq), fun _ _ _ _ _ hq => (by cases hq; exact h)⟩
def k_bx6 {T0 T1 T2 T3 T4 T5 ρ α : Type} (x : Option (ρ ⊕ (T0 × T1 × T2 × T3 × T4 × T5))) (g : ρ → Option α) (f : T0 → T1 → T2 → T3 → T4 → T5 → Option α) : Option α := match x with | none => none | some (.inl a) => g a | some (.inr (v0, v1, v2, v3, v4, v5)) => f v0 v1 v2 v3 v4 v5
theorem k_bx6_some {T0 T1 T2 T3 T4 T5 ρ α : Type} {x : Option (ρ ⊕ (T0 × T1 × T2 × T3 × T4 × T5))} {g : ρ → Option α} {f : T0 → T1 → T2 → T3 → T4 → T5 → Option α} {y : α} (h : k_bx6 x g f = some y) : ∃ e, x = some e ∧ (∀ q, e = .inl q → g q = some y) ∧ (∀ (v0 : T0) (v1 : T1) (v2 : T2) (v3 : T3) (v4 : T4) (v5 : T5), e = .inr (v0, v1, v2, v3, v4, v5) → f v0 v1 v2 v3 v4 v5 = some y) := by
  unfold k_bx6 at h; cases x with
  | none => cases h
  | some u => cases u with
    | inl a => exact ⟨_, rfl, fun q hq => (by cases hq; exact h), fun v0 v1 v2 v3 v4 v5 hq => (by cases hq)⟩
    | inr b => obtain ⟨v0, v1, v2, v3, v4, v5⟩ := b; exact ⟨_, rfl, fun q hq => (by cases hq), fun _ _ _ _ _ _ hq => (by cases hq; exact h)⟩
def k_bx7 {T0 T1 T2 T3 T4 T5 T6 ρ α : Type} (x : Option (ρ ⊕ (T0 × T1 × T2 × T3 × T4 × T5 × T6))) (g : ρ → Option α) (f : T0 → T1 → T2 → T3 → T4 → T5 → T6 → Option α) : Option α := match x with | none => none | some (.inl a) => g a | some (.inr (v0, v1, v2, v3, v4, v5, v6)) => f v0 v1 v2 v3 v4 v5 v6
theorem k_bx7_some {T0 T1 T2 T3 T4 T5 T6 ρ α : Type} {x : Option (ρ ⊕ (T0 × T1 × T2 × T3 × T4 × T5 × T6))} {g : ρ → Option α} {f : T0 → T1 → T2 → T3 → T4 → T5 → T6 → Option α} {y : α} (h : k_bx7 x g f = some y) : ∃ e, x = some e ∧ (∀ q, e = .inl q → g q = some y) ∧ (∀ (v0 : T0) (v1 : T1) (v2 : T2) (v3 : T3) (v4 : T4) (v5 : T5) (v6 : T6), e = .inr (v0, v1, v2, v3, v4, v5, v6) → f v0 v1 v2 v3 v4 v5 v6 = some y) := by
  unfold k_bx7 at h; cases x with
  | none => cases h
  | some u => cases u with
    | inl a => exact ⟨_, rfl, fun q hq => (by cases hq; exact h), fun v0 v1 v2 v3 v4 v5 v6 hq => (by cases hq)⟩
    | inr b => obtain ⟨v0, v1, v2, v3, v4, v5, v6⟩ := b; exact ⟨_, rfl, fun q hq => (by cases hq), fun _ _ _ _ _ _ _ hq => (by cases hq; exact h)⟩
def k_bx8 {T0 T1 T2 T3 T4 T5 T6 T7 ρ α : Type} (x : Option (ρ ⊕ (T0 × T1 × T2 × T3 × T4 × T5 × T6 × T7))) (g : ρ → Option α) (f : T0 → T1 → T2 → T3 → T4 → T5 → T6 → T7 → Option α) : Option α := match x with | none => none | some (.inl a) => g a | some (.inr (v0, v1, v2, v3, v4, v5, v6, v7)) => f v0 v1 v2 v3 v4 v5 v6 v7
theorem k_bx8_some {T0 T1 T2 T3 T4 T5 T6 T7 ρ α : Type} {x : Option (ρ ⊕ (T0 × T1 × T2 × T3 × T4 × T5 × T6 × T7))} {g : ρ → Option α} {f : T0 → T1 → T2 → T3 → T4 → T5 → T6 → T7 → Option α} {y : α} (h : k_bx8 x g f = some y) : ∃ e, x = some e ∧ (∀ q, e = .inl q → g q = some y) ∧ (∀ (v0 : T0) (v1 : T1) (v2 : T2) (v3 : T3) (v4 : T4) (v5 : T5) (v6 : T6) (v7 : T7), e = .inr (v0, v1, v2, v3, v4, v5, v6, v7) → f v0 v1 v2 v3 v4 v5 v6 v7 = some y) := by
  unfold k_bx8 at h; cases x with
  | none => cases h
  | some u => cases u with
    | inl a => exact ⟨_, rfl, fun q hq => (by cases hq; exact h), fun v0 v1 v2 v3 v4 v5 v6 v7 hq => (by cases hq)⟩
    | inr b => obtain ⟨v0, v1, v2, v3, v4, v5, v6, v7⟩ := b; exact ⟨_, rfl, fun q hq => (by cases hq), fun _ _ _ _ _ _ _ _ hq => (by cases hq; exact h)⟩
def k_bx9 {T0 T1 T2 T3 T4 T5 T6 T7 T8 ρ α : Type} (x : Option (ρ ⊕ (T0 × T1 × T2 × T3 × T4 × T5 × T6 × T7 × T8))) (g : ρ → Option α) (f : T0 → T1 → T2 → T3 → T4 → T5 → T6 → T7 → T8 → Option α) : Option α := match x with | none => none | some (.inl a) => g a | some (.inr (v0, v1, v2, v3, v4, v5, v6, v7, v8)) => f v0 v1 v2 v3 v4 v5 v6 v7 v8
theorem k_bx9_some {T0 T1 T2 T3 T4 T5 T6 T7 T8 ρ α : Type} {x : Option (ρ ⊕ (T0 × T1 × T2 × T3 × T4 × T5 × T6 × T7 × T8))} {g : ρ → Option α} {f : T0 → T1 → T2 → T3 → T4 → T5 → T6 → T7 → T8 → Option α} {y : α} (h : k_bx9 x g f = some y) : ∃ e, x = some e ∧ (∀ q, e = .inl q → g q = some y) ∧ (∀ (v0 : T0) (v1 : T1) (v2 : T2) (v3 : T3) (v4 : T4) (v5 : T5) (v6 : T6) (v7 : T7) (v8 : T8), e = .inr (v0, v1, v2, v3, v4, v5, v6, v7, v8) → f v0 v1 v2 v3 v4 v5 v6 v7 v8 = some y) := by
  unfold k_bx9 at h; cases x with
  | none => cases h
  | some u => cases u with
    | inl a => exact ⟨_, rfl, fun q hq => (by cases hq; exact h), fun v0 v1 v2 v3 v4 v5 v6 v7 v8 hq => (by cases hq)⟩
    | inr b => obtain ⟨v0, v1, v2, v3, v4, v5, v6, v7, v8⟩ := b; exact ⟨_, rfl, fun q hq => (by cases hq), fun _ _ _ _ _ _ _ _ _ hq => (by cases hq; exact h)⟩
def k_bx10 {T0 T1 T2 T3 T4 T5 T6 T7 T8 T9 ρ α : Type} (x : Option (ρ ⊕ (T0 × T1 × T2 × T3 × T4 × T5 × T6 × T7 × T8 × T9))) (g : ρ → Option α) (f : T0 → T1 → T2 → T3 → T4 → T5 → T6 → T7 → T8 → T9 → Option α) : Option α := match x with | none => none | some (.inl a) => g a | some (.inr (v0, v1, v2, v3, v4, v5, v6, v7, v8, v9)) => f v0 v1 v2 v3 v4 v5 v6 v7 v8 v9
theorem k_bx10_some {T0 T1 T2 T3 T4 T5 T6 T7 T8 T9 ρ α : Type} {x : Option (ρ ⊕ (T0 × T1 × T2 × T3 × T4 × T5 × T6 × T7 × T8 × T9))} {g : ρ → Option α} {f : T0 → T1 → T2 → T3 → T4 → T5 → T6 → T7 → T8 → T9 → Option α} {y : α} (h : k_bx10 x g f = some y) : ∃ e, x = some e ∧ (∀ q, e = .inl q → g q = some y) ∧ (∀ (v0 : T0) (v1 : T1) (v2 : T2) (v3 : T3) (v4 : T4) (v5 : T5) (v6 : T6) (v7 : T7) (v8 : T8) (v9 : T9), e = .inr (v0, v1, v2, v3, v4, v5, v6, v7, v8, v9) → f v0 v1 v2 v3 v4 v5 v6 v7 v8 v9 = some y) := by
  unfold k_bx10 at h; cases x with
  | none => cases h
  | some u => cases u with
    | inl a => exact ⟨_, rfl, fun q hq => (by cases hq; exact h), fun v0 v1 v2 v3 v4 v5 v6 v7 v8 v9 hq => (by cases hq)⟩
    | inr b => obtain ⟨v0, v1, v2, v3, v4, v5, v6, v7, v8, v9⟩ := b; exact ⟨_, rfl, fun q hq => (by cases hq), fun _ _ _ _ _ _ _ _ _ _ hq => (by cases hq; exact h)⟩
def k_bx11 {T0 T1 T2 T3 T4 T5 T6 T7 T8 T9 T10 ρ α : Type} (x : Option (ρ ⊕ (T0 × T1 × T2 × T3 × T4 × T5 × T6 × T7 × T8 × T9 × T10))) (g : ρ → Option α) (f : T0 → T1 → T2 → T3 → T4 → T5 → T6 → T7 → T8 → T9 → T10 → Option α) : Option α := match x with | none => none | some (.inl a) => g a | some (.inr (v0, v1, v2, v3, v4, v5, v6, v7, v8, v9, v10)) => f v0 v1 v2 v3 v4 v5 v6 v7 v8 v9 v10
theorem k_bx11_some {T0 T1 T2 T3 T4 T5 T6 T7 T8 T9 T10 ρ α : Type} {x : Option (ρ ⊕ (T0 × T1 × T2 × T3 × T4 × T5 × T6 × T7 × T8 × T9 × T10))} {g : ρ → Option α} {f : T0 → T1 → T2 → T3 → T4 → T5 → T6 → T7 → T8 → T9 → T10 → Option α} {y : α} (h : k_bx11 x g f = some y) : ∃ e, x = some e ∧ (∀ q, e = .inl q → g q = some y) ∧ (∀ (v0 : T0) (v1 : T1) (v2 : T2) (v3 : T3) (v4 : T4) (v5 : T5) (v6 : T6) (v7 : T7) (v8 : T8) (v9 : T9) (v10 : T10), e = .inr (v0, v1, v2, v3, v4, v5, v6, v7, v8, v9, v10) → f v0 v1 v2 v3 v4 v5 v6 v7 v8 v9 v10 = some y) := by
  unfold k_bx11 at h; cases x with
  | none => cases h
  | some u => cases u with
    | inl a => exact ⟨_, rfl, fun q hq => (by cases hq; exact h), fun v0 v1 v2 v3 v4 v5 v6 v7 v8 v9 v10 hq => (by cases hq)⟩
    | inr b => obtain ⟨v0, v1, v2, v3, v4, v5, v6, v7, v8, v9, v10⟩ := b; exact ⟨_, rfl, fun q hq => (by cases hq), fun _ _ _ _ _ _ _ _ _ _ _ hq => (by cases hq; exact h)⟩
def k_lt {α β : Type} (e : α) (f : α → Option β) : Option β := f e
theorem k_lt_some {α β : Type} {e : α} {f : α → Option β} {y : β} (h : k_lt e f = some y) : ∃ x, x = e ∧ f x = some y := ⟨e, rfl, h⟩
/-! ===== contract words ===== -/
def k_cpy (n : Nat) (f g : Nat → Int32) : Nat → Int32 := fun j => if j < n then f j else g j
def k_r0 : Nat → Int32 := fun j => match j with | 0 => 10 | 1 => 400 | 2 => 0 | 3 => 10 | 4 => 100 | _ => 200
def k_r1 : Nat → Int32 := fun j => match j with | 0 => 0 | 1 => 100 | 2 => 0 | 3 => 1 | _ => 0
def k_r2 : Nat → Int32 := fun j => match j with | 0 => 40 | 1 => 1000 | 2 => 2000 | 3 => 20 | _ => 1000
def k_su {α : Type} (S : Nat → Nat → α) (i : Nat) (f : Nat → α) : Nat → Nat → α := fun k => bif Nat.beq k i then f else S k
theorem k_su_eq {α : Type} (S : Nat → Nat → α) (i : Nat) (f : Nat → α) : k_su S i f i = f := by simp [k_su]
theorem k_su_ne {α : Type} (S : Nat → Nat → α) {i k : Nat} (f : Nat → α) (h : k ≠ i) : k_su S i f k = S k := by
  show (bif Nat.beq k i then f else S k) = S k
  cases hb : Nat.beq k i
  · rfl
  · exact absurd (Nat.eq_of_beq_eq_true hb) h
end
section
def p_J6_bitCount_0f7a4 (a0 : Int32) : Option (Int32) :=
  k_lt (a0 - ((((a0).toUInt32 >>> ((1 : Int32).toUInt32 &&& Int32.toUInt32 31)).toInt32) &&& 1431655765)) fun y1 =>
  k_lt ((y1 &&& 858993459) + ((((y1).toUInt32 >>> ((2 : Int32).toUInt32 &&& Int32.toUInt32 31)).toInt32) &&& 858993459)) fun y2 =>
  k_lt ((y2 + (((y2).toUInt32 >>> ((4 : Int32).toUInt32 &&& Int32.toUInt32 31)).toInt32)) &&& 252645135) fun y3 =>
  k_lt (y3 + (((y3).toUInt32 >>> ((8 : Int32).toUInt32 &&& Int32.toUInt32 31)).toInt32)) fun y4 =>
  k_lt (y4 + (((y4).toUInt32 >>> ((16 : Int32).toUInt32 &&& Int32.toUInt32 31)).toInt32)) fun y5 =>
  some (y5 &&& 63)
def p_X8_draught (a0 : Int32) : Option (Int32) :=
  some (a0 / 20)
def p_X8_hasBit (a0 : Int32) (a1 : Int32) : Option (Int32) :=
  if ((a0 >>> (a1 &&& 31)) &&& 1) = 0 then
    some 0
  else
    some 1
def p_X8_roundedUp (a0 : Int32) (a1 : Int32) : Option (Int32) :=
  if 0 < a1 then
    k_ck (¬ a1 = 0) (
      some (((a0 + a1) - 1) / a1))
  else
    some 0
def p_X8_within (a0 : Int32) (a1 : Int32) (a2 : Int32) : Option (Int32) :=
  if a0 < a1 then
    some 0
  else
    if a2 < a0 then
      some 0
    else
      some 1
def p_X8_eightBits (a0 : Int64) (a2 : Int32) : Option (Int32) :=
  some (((((a0).toUInt64 >>> ((8 * a2).toInt64.toUInt64 &&& Int64.toUInt64 63)).toInt64).toInt32) &&& 255)
def lb_X8_areTides_2 (a1 : Int64) (a0 : Int32) (x3_12 : Int32) : Option ((Int32) ⊕ ((Int32) ⊕ (Unit))) :=
  if 8 ≤ x3_12 then
    some (.inr (.inr ()))
  else
    k_b1 (p_X8_eightBits a1 x3_12) fun r14 =>
    if a0 ≤ x3_12 then
      if r14 ≤ 0 then
        some (.inl (x3_12 + 1))
      else
        some (.inr (.inl 0))
    else
      if r14 ≤ 60 then
        some (.inl (x3_12 + 1))
      else
        some (.inr (.inl 0))
def p_X8_areTides (a0 : Int32) (a1 : Int64) : Option (Int32) :=
  k_bx0 (k_lp (fun s => lb_X8_areTides_2 a1 a0 s) k_fuel 0) (fun q => some q) (
    some 1)
def p_X8_asNumber (a0 : Int32) : Option (Int32) :=
  if a0 = 0 then
    some 0
  else
    some 1
def p_X5_tideIn (f_h_tide : Nat → Int32) (a1 : Int32) : Option (Int32) :=
  k_ix (if 0 < (if 95 < a1 then 95 else a1) then (if 95 < a1 then 95 else a1) else 0) 96 (
    some (f_h_tide (if 0 < (if 95 < a1 then 95 else a1) then (if 95 < a1 then 95 else a1) else 0).toNatClampNeg))
def p_X5_tideNeeded (f_h_rules : Nat → Int32) (a1 : Int32) : Option (Int32) :=
  k_b1 (p_X8_draught a1) fun r1 =>
  some (r1 + (f_h_rules 0))
def lb_X7_weightOf_4 (v_h_size : Int32) (a1 : Int32) (f_h_weight : Nat → Int32) (x2_12 : Int32) (x3_13 : Int32) : Option ((Int32 × Int32) ⊕ (Int32)) :=
  if v_h_size ≤ x3_13 then
    some (.inr x2_12)
  else
    k_b1 (p_X8_hasBit a1 x3_13) fun r15 =>
    if r15 = 0 then
      some (.inl (x2_12 + 0, x3_13 + 1))
    else
      k_ix x3_13 12 (
        some (.inl (x2_12 + (f_h_weight x3_13.toNatClampNeg), x3_13 + 1)))
def p_X7_weightOf (v_h_size : Int32) (f_h_weight : Nat → Int32) (a1 : Int32) : Option (Int32) :=
  k_b1 (k_lp (fun s => lb_X7_weightOf_4 v_h_size a1 f_h_weight s.1 s.2) k_fuel (0, 0)) fun x2_11 =>
  some x2_11
def lb_X7_mayComeIn_11 (v_h_size : Int32) (a1 : Int32) (f_h_under : Nat → Int32) (v_h_out : Int32) (x3_17 : Int32) : Option ((Int32) ⊕ ((Int32) ⊕ (Unit))) :=
  if v_h_size ≤ x3_17 then
    some (.inr (.inr ()))
  else
    k_b1 (p_X8_hasBit a1 x3_17) fun r19 =>
    if r19 = 0 then
      some (.inl (x3_17 + 1))
    else
      k_ix x3_17 12 (
        if (f_h_under x3_17.toNatClampNeg) < 0 then
          some (.inl (x3_17 + 1))
        else
          k_ix x3_17 12 (
            k_b1 (p_X8_hasBit (v_h_out &&& (a1 ^^^ (-1))) (f_h_under x3_17.toNatClampNeg)) fun r24 =>
            if r24 = 0 then
              some (.inl (x3_17 + 1))
            else
              some (.inr (.inl 0))))
def p_X7_mayComeIn (v_h_out : Int32) (v_h_size : Int32) (f_h_under : Nat → Int32) (a1 : Int32) : Option (Int32) :=
  k_bx0 (k_lp (fun s => lb_X7_mayComeIn_11 v_h_size a1 f_h_under v_h_out s) k_fuel 0) (fun q => some q) (
    some 1)
def lb_X3_bitsOf_4 (v_h_size : Int32) (f_h_state : Nat → Int32) (a1 : Int32) (x2_10 : Int32) (x3_11 : Int32) : Option ((Int32 × Int32) ⊕ (Int32)) :=
  if v_h_size ≤ x3_11 then
    some (.inr x2_10)
  else
    k_ix x3_11 12 (
      if (f_h_state x3_11.toNatClampNeg) = a1 then
        some (.inl (x2_10 ||| (1 <<< (x3_11 &&& 31)), x3_11 + 1))
      else
        some (.inl (x2_10 ||| 0, x3_11 + 1)))
def p_X3_bitsOf (v_h_size : Int32) (f_h_state : Nat → Int32) (a1 : Int32) : Option (Int32) :=
  k_b1 (k_lp (fun s => lb_X3_bitsOf_4 v_h_size f_h_state a1 s.1 s.2) k_fuel (0, 0)) fun x2_9 =>
  some x2_9
def p_X3_copyFrom (v_o1_size : Int32) (f_o1_strake : Nat → Int32) (f_h_strake : Nat → Int32) (f_o1_side : Nat → Int32) (f_h_side : Nat → Int32) (f_o1_hands : Nat → Int32) (f_h_hands : Nat → Int32) (f_o1_hours : Nat → Int32) (f_h_hours : Nat → Int32) (f_o1_pitch : Nat → Int32) (f_h_pitch : Nat → Int32) (f_o1_worth : Nat → Int32) (f_h_worth : Nat → Int32) (f_o1_state : Nat → Int32) (f_h_state : Nat → Int32) (f_o1_done : Nat → Int32) (f_h_done : Nat → Int32) : Option (Int32 × (Nat → Int32) × (Nat → Int32) × (Nat → Int32) × (Nat → Int32) × (Nat → Int32) × (Nat → Int32) × (Nat → Int32) × (Nat → Int32)) :=
  some (v_o1_size, k_cpy 12 f_o1_strake f_h_strake, k_cpy 12 f_o1_side f_h_side, k_cpy 12 f_o1_hands f_h_hands, k_cpy 12 f_o1_hours f_h_hours, k_cpy 12 f_o1_pitch f_h_pitch, k_cpy 12 f_o1_worth f_h_worth, k_cpy 12 f_o1_state f_h_state, k_cpy 12 f_o1_done f_h_done)
def p_X6_copyFrom (v_o1_whole : Int32) (v_o1_size : Int32) (f_o1_mast : Nat → Int32) (f_h_mast : Nat → Int32) (f_o1_parts : Nat → Int32) (f_h_parts : Nat → Int32) (f_o1_strength : Nat → Int32) (f_h_strength : Nat → Int32) : Option (Int32 × Int32 × (Nat → Int32) × (Nat → Int32) × (Nat → Int32)) :=
  some (v_o1_whole, v_o1_size, k_cpy 6 f_o1_mast f_h_mast, k_cpy 6 f_o1_parts f_h_parts, k_cpy 6 f_o1_strength f_h_strength)
def p_X7_copyFrom (v_o1_out : Int32) (v_o1_size : Int32) (f_o1_weight : Nat → Int32) (f_h_weight : Nat → Int32) (f_o1_under : Nat → Int32) (f_h_under : Nat → Int32) : Option (Int32 × Int32 × (Nat → Int32) × (Nat → Int32)) :=
  some (v_o1_out, v_o1_size, k_cpy 12 f_o1_weight f_h_weight, k_cpy 12 f_o1_under f_h_under)
def p_X3_isBare (f_h_strake : Nat → Int32) (f_h_side : Nat → Int32) (a1 : Int32) (a2 : Int32) (a3 : Int32) : Option (Int32) :=
  k_ix a1 12 (
    k_ix a1 12 (
      if (f_h_side a1.toNatClampNeg) = 0 then
        if ((4 * (f_h_strake a1.toNatClampNeg)) + (3 * a3)) ≤ a2 then
          some 0
        else
          some 1
      else
        if ((4 * (f_h_strake a1.toNatClampNeg)) + ((-3) * a3)) ≤ a2 then
          some 0
        else
          some 1))
def p_X5_rainsIn (f_h_rain : Nat → Int32) (a1 : Int32) : Option (Int32) :=
  k_ix (if 0 < (if 95 < a1 then 95 else a1) then (if 95 < a1 then 95 else a1) else 0) 96 (
    k_ck ((f_h_rain (if 0 < (if 95 < a1 then 95 else a1) then (if 95 < a1 then 95 else a1) else 0).toNatClampNeg) = 0 ∨ (f_h_rain (if 0 < (if 95 < a1 then 95 else a1) then (if 95 < a1 then 95 else a1) else 0).toNatClampNeg) = 1) (some (f_h_rain (if 0 < (if 95 < a1 then 95 else a1) then (if 95 < a1 then 95 else a1) else 0).toNatClampNeg)))
def lb_X6_lowestOn_2 (v_h_size : Int32) (v_h_whole : Int32) (f_h_mast : Nat → Int32) (a1 : Int32) (x2_12 : Int32) : Option ((Int32) ⊕ ((Int32) ⊕ (Unit))) :=
  if v_h_size ≤ x2_12 then
    some (.inr (.inr ()))
  else
    k_b1 (p_X8_hasBit v_h_whole x2_12) fun r14 =>
    if r14 = 0 then
      some (.inl (x2_12 + 1))
    else
      k_ix x2_12 6 (
        if (f_h_mast x2_12.toNatClampNeg) = a1 then
          some (.inr (.inl x2_12))
        else
          some (.inl (x2_12 + 1)))
def p_X6_lowestOn (v_h_whole : Int32) (v_h_size : Int32) (f_h_mast : Nat → Int32) (a1 : Int32) : Option (Int32) :=
  k_bx0 (k_lp (fun s => lb_X6_lowestOn_2 v_h_size v_h_whole f_h_mast a1 s) k_fuel 0) (fun q => some q) (
    some (-1))
def lb_X6_onMast_4 (v_h_size : Int32) (v_h_whole : Int32) (f_h_mast : Nat → Int32) (a1 : Int32) (x2_14 : Int32) (x3_15 : Int32) : Option ((Int32 × Int32) ⊕ (Int32)) :=
  if v_h_size ≤ x3_15 then
    some (.inr x2_14)
  else
    k_b1 (p_X8_hasBit v_h_whole x3_15) fun r17 =>
    if r17 = 0 then
      some (.inl (x2_14 + 0, x3_15 + 1))
    else
      k_ix x3_15 6 (
        if (f_h_mast x3_15.toNatClampNeg) = a1 then
          some (.inl (x2_14 + 1, x3_15 + 1))
        else
          some (.inl (x2_14 + 0, x3_15 + 1)))
def p_X6_onMast (v_h_whole : Int32) (v_h_size : Int32) (f_h_mast : Nat → Int32) (a1 : Int32) : Option (Int32) :=
  k_b1 (k_lp (fun s => lb_X6_onMast_4 v_h_size v_h_whole f_h_mast a1 s.1 s.2) k_fuel (0, 0)) fun x2_13 =>
  some x2_13
def p_X6_ropeMay (f_h_strength : Nat → Int32) (a1 : Int32) (a2 : Int32) : Option (Int32) :=
  if a2 = 0 then
    k_ix a1 6 (
      some (f_h_strength a1.toNatClampNeg))
  else
    k_ix a1 6 (
      some (((f_h_strength a1.toNatClampNeg) * 3) / 4))
def p_X6_ropeTakes (f_h_parts : Nat → Int32) (a1 : Int32) (a2 : Int32) : Option (Int32) :=
  k_ix a1 6 (
    k_b1 (p_X8_roundedUp a2 (f_h_parts a1.toNatClampNeg)) fun r2 =>
    some r2)
def lb_X6_ropeMostOver_8 (v_h_size : Int32) (f_h_parts : Nat → Int32) (a1 : Int32) (f_h_strength : Nat → Int32) (a2 : Int32) (v_h_whole : Int32) (x3_18 : Int32) (x4_19 : Int32) (x5_20 : Int32) : Option ((Int32 × Int32 × Int32) ⊕ (Int32)) :=
  if v_h_size ≤ x5_20 then
    some (.inr x4_19)
  else
    k_b1 (p_X6_ropeTakes f_h_parts x5_20 a1) fun r22 =>
    k_b1 (p_X6_ropeMay f_h_strength x5_20 a2) fun r23 =>
    k_b1 (p_X8_hasBit v_h_whole x5_20) fun r24 =>
    if r24 = 0 then
      some (.inl (x3_18, x4_19, x5_20 + 1))
    else
      if (r22 - r23) ≤ x3_18 then
        some (.inl (x3_18, x4_19, x5_20 + 1))
      else
        some (.inl (r22 - r23, x5_20, x5_20 + 1))
def p_X6_ropeMostOver (v_h_whole : Int32) (v_h_size : Int32) (f_h_parts : Nat → Int32) (f_h_strength : Nat → Int32) (a1 : Int32) (a2 : Int32) : Option (Int32) :=
  k_b1 (k_lp (fun s => lb_X6_ropeMostOver_8 v_h_size f_h_parts a1 f_h_strength a2 v_h_whole s.1 s.2.1 s.2.2) k_fuel (0, (-1), 0)) fun x4_17 =>
  some x4_17
def p_X6_share (v_h_whole : Int32) (a1 : Int32) : Option (Int32) :=
  k_b1 (p_J6_bitCount_0f7a4 v_h_whole) fun r1 =>
  k_b1 (p_X8_roundedUp a1 r1) fun r2 =>
  some r2
def p_X3_hoursLacking (f_h_state : Nat → Int32) (f_h_hours : Nat → Int32) (f_h_done : Nat → Int32) (a1 : Int32) : Option (Int32) :=
  k_ix a1 12 (
    if (f_h_state a1.toNatClampNeg) = 0 then
      k_ix a1 12 (
        k_ix a1 12 (
          some ((1 + (f_h_hours a1.toNatClampNeg)) - (f_h_done a1.toNatClampNeg))))
    else
      k_ix a1 12 (
        k_ix a1 12 (
          some ((0 + (f_h_hours a1.toNatClampNeg)) - (f_h_done a1.toNatClampNeg)))))
def p_X3_pitchLacking (f_h_done : Nat → Int32) (f_h_pitch : Nat → Int32) (a1 : Int32) : Option (Int32) :=
  k_ix a1 12 (
    if (f_h_done a1.toNatClampNeg) ≤ 0 then
      k_ix a1 12 (
        some (f_h_pitch a1.toNatClampNeg))
    else
      some 0)
def p_X3_add (v_h_size : Int32) (f_h_strake : Nat → Int32) (f_h_side : Nat → Int32) (f_h_hands : Nat → Int32) (f_h_hours : Nat → Int32) (f_h_pitch : Nat → Int32) (f_h_worth : Nat → Int32) (f_h_state : Nat → Int32) (f_h_done : Nat → Int32) (a1 : Int32) (a2 : Int32) (a3 : Int32) (a4 : Int32) (a5 : Int32) (a6 : Int32) : Option (Int32 × Int32 × (Nat → Int32) × (Nat → Int32) × (Nat → Int32) × (Nat → Int32) × (Nat → Int32) × (Nat → Int32) × (Nat → Int32) × (Nat → Int32)) :=
  k_ix v_h_size 12 (
    k_ix v_h_size 12 (
      k_ix v_h_size 12 (
        k_ix v_h_size 12 (
          k_ix v_h_size 12 (
            k_ix v_h_size 12 (
              k_ix v_h_size 12 (
                k_ix v_h_size 12 (
                  some ((v_h_size + 1) - 1, v_h_size + 1, upd f_h_strake v_h_size.toNatClampNeg a1, upd f_h_side v_h_size.toNatClampNeg a2, upd f_h_hands v_h_size.toNatClampNeg a3, upd f_h_hours v_h_size.toNatClampNeg a4, upd f_h_pitch v_h_size.toNatClampNeg a5, upd f_h_worth v_h_size.toNatClampNeg a6, upd f_h_state v_h_size.toNatClampNeg 0, upd f_h_done v_h_size.toNatClampNeg 0)))))))))
def lb_X3_worthTight_4 (v_h_size : Int32) (f_h_state : Nat → Int32) (f_h_worth : Nat → Int32) (x1_11 : Int32) (x2_12 : Int32) : Option ((Int32 × Int32) ⊕ (Int32)) :=
  if v_h_size ≤ x2_12 then
    some (.inr x1_11)
  else
    k_ix x2_12 12 (
      if (f_h_state x2_12.toNatClampNeg) = 2 then
        k_ix x2_12 12 (
          some (.inl (x1_11 + (f_h_worth x2_12.toNatClampNeg), x2_12 + 1)))
      else
        some (.inl (x1_11 + 0, x2_12 + 1)))
def p_X3_worthTight (v_h_size : Int32) (f_h_state : Nat → Int32) (f_h_worth : Nat → Int32) : Option (Int32) :=
  k_b1 (k_lp (fun s => lb_X3_worthTight_4 v_h_size f_h_state f_h_worth s.1 s.2) k_fuel (0, 0)) fun x1_10 =>
  some x1_10
def p_X6_add (v_h_whole : Int32) (v_h_size : Int32) (f_h_mast : Nat → Int32) (f_h_parts : Nat → Int32) (f_h_strength : Nat → Int32) (a1 : Int32) (a2 : Int32) (a3 : Int32) : Option (Int32 × Int32 × Int32 × (Nat → Int32) × (Nat → Int32) × (Nat → Int32)) :=
  k_ix v_h_size 6 (
    k_ix v_h_size 6 (
      k_ix v_h_size 6 (
        some ((v_h_size + 1) - 1, v_h_whole ||| (1 <<< (v_h_size &&& 31)), v_h_size + 1, upd f_h_mast v_h_size.toNatClampNeg a1, upd f_h_parts v_h_size.toNatClampNeg a2, upd f_h_strength v_h_size.toNatClampNeg a3))))
def p_X7_add (v_h_size : Int32) (f_h_weight : Nat → Int32) (f_h_under : Nat → Int32) (a1 : Int32) (a2 : Int32) : Option (Int32 × Int32 × (Nat → Int32) × (Nat → Int32)) :=
  k_ix v_h_size 12 (
    k_ix v_h_size 12 (
      some ((v_h_size + 1) - 1, v_h_size + 1, upd f_h_weight v_h_size.toNatClampNeg a1, upd f_h_under v_h_size.toNatClampNeg a2)))
def lb_X7_bearsAny_2 (v_h_size : Int32) (v_h_out : Int32) (f_h_under : Nat → Int32) (a1 : Int32) (x2_12 : Int32) : Option ((Int32) ⊕ ((Int32) ⊕ (Unit))) :=
  if v_h_size ≤ x2_12 then
    some (.inr (.inr ()))
  else
    k_b1 (p_X8_hasBit v_h_out x2_12) fun r14 =>
    if r14 = 0 then
      k_ix x2_12 12 (
        if (f_h_under x2_12.toNatClampNeg) = a1 then
          some (.inr (.inl 1))
        else
          some (.inl (x2_12 + 1)))
    else
      some (.inl (x2_12 + 1))
def p_X7_bearsAny (v_h_out : Int32) (v_h_size : Int32) (f_h_under : Nat → Int32) (a1 : Int32) : Option (Int32) :=
  k_bx0 (k_lp (fun s => lb_X7_bearsAny_2 v_h_size v_h_out f_h_under a1 s) k_fuel 0) (fun q => some q) (
    some 0)
def p_X7_mayMove (v_h_out : Int32) (v_h_size : Int32) (f_h_under : Nat → Int32) (a1 : Int32) : Option (Int32) :=
  k_b1 (p_X8_hasBit v_h_out a1) fun r1 =>
  if r1 = 0 then
    k_b1 (p_X7_bearsAny v_h_out v_h_size f_h_under a1) fun r3 =>
    if r3 = 0 then
      some 1
    else
      some 0
  else
    k_b1 (p_X7_mayComeIn v_h_out v_h_size f_h_under (1 <<< (a1 &&& 31))) fun r5 =>
    k_ck (r5 = 0 ∨ r5 = 1) (some r5)
def lb_X6_firstToPart_19 (v_h_whole : Int32) (v_h_size : Int32) (f_h_mast : Nat → Int32) (r1 : Int32) (f_o3 : Nat → Int32) (x5_18 : Int32) (x6_19 : Int32) : Option ((Int32 × Int32) ⊕ (Int32)) :=
  if 3 ≤ x6_19 then
    some (.inr x5_18)
  else
    if 0 ≤ x5_18 then
      some (.inr x5_18)
    else
      k_b1 (p_X6_onMast v_h_whole v_h_size f_h_mast x6_19) fun r22 =>
      k_ix (5 + x6_19) 8 (
        if (r22 * r1) ≤ (f_o3 (5 + x6_19).toNatClampNeg) then
          some (.inl (x5_18, x6_19 + 1))
        else
          k_b1 (p_X6_lowestOn v_h_whole v_h_size f_h_mast x6_19) fun r25 =>
          some (.inl (r25, x6_19 + 1)))
def p_X6_firstToPart (v_h_whole : Int32) (v_h_size : Int32) (f_h_parts : Nat → Int32) (f_h_strength : Nat → Int32) (f_h_mast : Nat → Int32) (f_o3 : Nat → Int32) (a1 : Int32) (a2 : Int32) : Option (Int32) :=
  k_b1 (p_X6_share v_h_whole a1) fun r1 =>
  k_b1 (p_X6_ropeMostOver v_h_whole v_h_size f_h_parts f_h_strength r1 a2) fun r2 =>
  k_b1 (k_lp (fun s => lb_X6_firstToPart_19 v_h_whole v_h_size f_h_mast r1 f_o3 s.1 s.2) k_fuel (r2, 0)) fun x5_17 =>
  some x5_17
def p_X4_total (f_sr_rules : Nat → Int32) (v_h_th_out : Int32) (v_h_th_size : Int32) (f_h_th_weight : Nat → Int32) : Option (Int32) :=
  k_b1 (p_X7_weightOf v_h_th_size f_h_th_weight (v_h_th_out ^^^ (-1))) fun r1 =>
  some ((f_sr_rules 1) + r1)
def p_X4_copyFrom (v_o1_hour : Int32) (v_o1_heel : Int32) (v_o1_water : Int32) (v_o1_pitch : Int32) (v_o1_boatUsed : Int32) (v_o1_heelWent : Int32) (v_o1_pitchTaken : Int32) (v_o1_hoursOfMen : Int32) (v_o1_parted : Int32) (v_o1_moved : Int32) (v_o1_th_out : Int32) (v_o1_th_size : Int32) (f_o1_th_weight : Nat → Int32) (f_h_th_weight : Nat → Int32) (f_o1_th_under : Nat → Int32) (f_h_th_under : Nat → Int32) (v_o1_ta_whole : Int32) (v_o1_ta_size : Int32) (f_o1_ta_mast : Nat → Int32) (f_h_ta_mast : Nat → Int32) (f_o1_ta_parts : Nat → Int32) (f_h_ta_parts : Nat → Int32) (f_o1_ta_strength : Nat → Int32) (f_h_ta_strength : Nat → Int32) (v_o1_se_size : Int32) (f_o1_se_strake : Nat → Int32) (f_h_se_strake : Nat → Int32) (f_o1_se_side : Nat → Int32) (f_h_se_side : Nat → Int32) (f_o1_se_hands : Nat → Int32) (f_h_se_hands : Nat → Int32) (f_o1_se_hours : Nat → Int32) (f_h_se_hours : Nat → Int32) (f_o1_se_pitch : Nat → Int32) (f_h_se_pitch : Nat → Int32) (f_o1_se_worth : Nat → Int32) (f_h_se_worth : Nat → Int32) (f_o1_se_state : Nat → Int32) (f_h_se_state : Nat → Int32) (f_o1_se_done : Nat → Int32) (f_h_se_done : Nat → Int32) : Option (Int32 × Int32 × Int32 × Int32 × Int32 × Int32 × Int32 × Int32 × Int32 × Int32 × Int32 × Int32 × (Nat → Int32) × (Nat → Int32) × Int32 × Int32 × (Nat → Int32) × (Nat → Int32) × (Nat → Int32) × Int32 × (Nat → Int32) × (Nat → Int32) × (Nat → Int32) × (Nat → Int32) × (Nat → Int32) × (Nat → Int32) × (Nat → Int32) × (Nat → Int32)) :=
  k_b4 (p_X7_copyFrom v_o1_th_out v_o1_th_size f_o1_th_weight f_h_th_weight f_o1_th_under f_h_th_under) fun w_h_th_out_1 w_h_th_size_2 w_h_th_weight_3 w_h_th_under_4 =>
  k_b5 (p_X6_copyFrom v_o1_ta_whole v_o1_ta_size f_o1_ta_mast f_h_ta_mast f_o1_ta_parts f_h_ta_parts f_o1_ta_strength f_h_ta_strength) fun w_h_ta_whole_5 w_h_ta_size_6 w_h_ta_mast_7 w_h_ta_parts_8 w_h_ta_strength_9 =>
  k_b9 (p_X3_copyFrom v_o1_se_size f_o1_se_strake f_h_se_strake f_o1_se_side f_h_se_side f_o1_se_hands f_h_se_hands f_o1_se_hours f_h_se_hours f_o1_se_pitch f_h_se_pitch f_o1_se_worth f_h_se_worth f_o1_se_state f_h_se_state f_o1_se_done f_h_se_done) fun w_h_se_size_10 w_h_se_strake_11 w_h_se_side_12 w_h_se_hands_13 w_h_se_hours_14 w_h_se_pitch_15 w_h_se_worth_16 w_h_se_state_17 w_h_se_done_18 =>
  k_ck (v_o1_boatUsed = 0 ∨ v_o1_boatUsed = 1) (
    k_ck (v_o1_heelWent = 0 ∨ v_o1_heelWent = 1) (
      some (v_o1_hour, v_o1_heel, v_o1_water, v_o1_pitch, v_o1_boatUsed, v_o1_heelWent, v_o1_pitchTaken, v_o1_hoursOfMen, v_o1_parted, v_o1_moved, w_h_th_out_1, w_h_th_size_2, w_h_th_weight_3, w_h_th_under_4, w_h_ta_whole_5, w_h_ta_size_6, w_h_ta_mast_7, w_h_ta_parts_8, w_h_ta_strength_9, w_h_se_size_10, w_h_se_strake_11, w_h_se_side_12, w_h_se_hands_13, w_h_se_hours_14, w_h_se_pitch_15, w_h_se_worth_16, w_h_se_state_17, w_h_se_done_18)))
def p_X4_isLost (v_h_water : Int32) : Option (Int32) :=
  if v_h_water ≤ 100 then
    some 0
  else
    some 1
def p_X4_isBare (v_h_heel : Int32) (f_sr_tide : Nat → Int32) (f_h_se_strake : Nat → Int32) (f_h_se_side : Nat → Int32) (a1 : Int32) (a2 : Int32) : Option (Int32) :=
  k_b1 (p_X5_tideIn f_sr_tide a2) fun r1 =>
  k_b1 (p_X3_isBare f_h_se_strake f_h_se_side a1 r1 v_h_heel) fun r2 =>
  k_ck (r2 = 0 ∨ r2 = 1) (some r2)
def lb_X4_flood_4 (v_h_se_size : Int32) (f_h_se_state : Nat → Int32) (v_h_heel : Int32) (f_sr_tide : Nat → Int32) (f_h_se_strake : Nat → Int32) (f_h_se_side : Nat → Int32) (v_h_hour : Int32) (x1_15 : Int32) (x2_16 : Int32) : Option ((Int32 × Int32) ⊕ (Int32)) :=
  if v_h_se_size ≤ x2_16 then
    some (.inr x1_15)
  else
    k_ix x2_16 12 (
      if (f_h_se_state x2_16.toNatClampNeg) = 1 then
        k_b1 (p_X4_isBare v_h_heel f_sr_tide f_h_se_strake f_h_se_side x2_16 v_h_hour) fun r20 =>
        if r20 = 0 then
          some (.inl (x1_15 + 1, x2_16 + 1))
        else
          some (.inl (x1_15 + 0, x2_16 + 1))
      else
        some (.inl (x1_15 + 0, x2_16 + 1)))
def p_X4_flood (v_h_hour : Int32) (v_h_heel : Int32) (v_h_water : Int32) (v_h_se_size : Int32) (f_h_se_state : Nat → Int32) (f_sr_tide : Nat → Int32) (f_h_se_strake : Nat → Int32) (f_h_se_side : Nat → Int32) : Option (Int32) :=
  k_b1 (k_lp (fun s => lb_X4_flood_4 v_h_se_size f_h_se_state v_h_heel f_sr_tide f_h_se_strake f_h_se_side v_h_hour s.1 s.2) k_fuel (0, 0)) fun x1_13 =>
  if x1_13 ≤ 0 then
    some (if 0 < (v_h_water - 5) then (v_h_water - 5) else 0)
  else
    some (v_h_water + (10 * x1_13))
def p_X4_force (f_sr_rules : Nat → Int32) (v_h_th_out : Int32) (v_h_th_size : Int32) (f_h_th_weight : Nat → Int32) (a1 : Int32) : Option (Int32) :=
  k_b1 (p_X4_total f_sr_rules v_h_th_out v_h_th_size f_h_th_weight) fun r1 =>
  some ((r1 * (if 0 ≤ a1 then a1 else 0 - a1)) / 10)
def lb_X4_partTackles_14 (f_sr_rules : Nat → Int32) (v_h_th_out : Int32) (v_h_th_size : Int32) (f_h_th_weight : Nat → Int32) (v_h_heel : Int32) (v_h_ta_size : Int32) (f_h_ta_parts : Nat → Int32) (f_h_ta_strength : Nat → Int32) (f_h_ta_mast : Nat → Int32) (r1 : Int32) (x2_16 : Int32) (c_h_ta_whole_17 : Int32) (c_h_parted_18 : Int32) : Option ((Int32 × Int32 × Int32) ⊕ (Int32 × Int32)) :=
  if 6 ≤ x2_16 then
    some (.inr (c_h_ta_whole_17, c_h_parted_18))
  else
    k_b1 (p_X4_force f_sr_rules v_h_th_out v_h_th_size f_h_th_weight v_h_heel) fun r20 =>
    k_b1 (p_X6_firstToPart c_h_ta_whole_17 v_h_ta_size f_h_ta_parts f_h_ta_strength f_h_ta_mast f_sr_rules r20 r1) fun r21 =>
    if 0 ≤ r21 then
      some (.inl (x2_16 + 1, c_h_ta_whole_17 &&& ((1 <<< (r21 &&& 31)) ^^^ (-1)), c_h_parted_18 + 1))
    else
      some (.inr (c_h_ta_whole_17, c_h_parted_18))
def p_X4_partTackles (v_h_hour : Int32) (v_h_heel : Int32) (v_h_parted : Int32) (f_sr_rain : Nat → Int32) (f_sr_rules : Nat → Int32) (v_h_th_out : Int32) (v_h_th_size : Int32) (f_h_th_weight : Nat → Int32) (v_h_ta_whole : Int32) (v_h_ta_size : Int32) (f_h_ta_parts : Nat → Int32) (f_h_ta_strength : Nat → Int32) (f_h_ta_mast : Nat → Int32) : Option (Int32 × Int32 × Int32) :=
  k_b1 (p_X5_rainsIn f_sr_rain v_h_hour) fun r1 =>
  k_b2 (k_lp (fun s => lb_X4_partTackles_14 f_sr_rules v_h_th_out v_h_th_size f_h_th_weight v_h_heel v_h_ta_size f_h_ta_parts f_h_ta_strength f_h_ta_mast r1 s.1 s.2.1 s.2.2) k_fuel (0, v_h_ta_whole, v_h_parted)) fun c_h_ta_whole_13 c_h_parted_14 =>
  if c_h_ta_whole_13 = 0 then
    some (0, c_h_parted_14, c_h_ta_whole_13)
  else
    some (v_h_heel, c_h_parted_14, c_h_ta_whole_13)
def p_X4_isWorkDone (v_h_pitch : Int32) (v_h_pitchTaken : Int32) (f_h_se_state : Nat → Int32) (f_h_se_done : Nat → Int32) (f_h_se_pitch : Nat → Int32) (f_h_se_hours : Nat → Int32) (a1 : Int32) : Option (Int32 × Int32 × Int32 × (Nat → Int32) × (Nat → Int32)) :=
  k_ix a1 12 (
    if (f_h_se_state a1.toNatClampNeg) = 0 then
      k_ix a1 12 (
        some (1, v_h_pitch, v_h_pitchTaken, upd f_h_se_state a1.toNatClampNeg 1, f_h_se_done))
    else
      k_b1 (p_X3_pitchLacking f_h_se_done f_h_se_pitch a1) fun r3 =>
      k_ix a1 12 (
        if (f_h_se_state a1.toNatClampNeg) = 1 then
          if r3 ≤ v_h_pitch then
            k_ix a1 12 (
              k_ix a1 12 (
                k_b1 (p_X3_hoursLacking f_h_se_state f_h_se_hours (upd f_h_se_done a1.toNatClampNeg ((f_h_se_done a1.toNatClampNeg) + 1)) a1) fun r9 =>
                if r9 = 0 then
                  k_ix a1 12 (
                    some (1, v_h_pitch - r3, v_h_pitchTaken + r3, upd f_h_se_state a1.toNatClampNeg 2, upd f_h_se_done a1.toNatClampNeg ((f_h_se_done a1.toNatClampNeg) + 1)))
                else
                  some (1, v_h_pitch - r3, v_h_pitchTaken + r3, f_h_se_state, upd f_h_se_done a1.toNatClampNeg ((f_h_se_done a1.toNatClampNeg) + 1))))
          else
            some (0, v_h_pitch, v_h_pitchTaken, f_h_se_state, f_h_se_done)
        else
          some (0, v_h_pitch, v_h_pitchTaken, f_h_se_state, f_h_se_done)))
def lb_X4_work_12 (v_h_se_size : Int32) (a1 : Int32) (v_h_heel : Int32) (f_sr_tide : Nat → Int32) (f_h_se_strake : Nat → Int32) (f_h_se_side : Nat → Int32) (v_h_hour : Int32) (f_h_se_hands : Nat → Int32) (f_h_se_pitch : Nat → Int32) (f_h_se_hours : Nat → Int32) (x2_39 : Int32) (x3_40 : Int32) (c_h_se_done_41 : Nat → Int32) (c_h_se_state_42 : Nat → Int32) (c_h_hoursOfMen_43 : Int32) (c_h_pitch_44 : Int32) (c_h_pitchTaken_45 : Int32) : Option ((Int32 × Int32 × (Nat → Int32) × (Nat → Int32) × Int32 × Int32 × Int32) ⊕ ((Nat → Int32) × (Nat → Int32) × Int32 × Int32 × Int32)) :=
  if v_h_se_size ≤ x3_40 then
    some (.inr (c_h_se_done_41, c_h_se_state_42, c_h_hoursOfMen_43, c_h_pitch_44, c_h_pitchTaken_45))
  else
    k_ix x3_40 12 (
      k_b1 (p_X8_hasBit a1 x3_40) fun r48 =>
      if r48 = 0 then
        some (.inl (x2_39, x3_40 + 1, c_h_se_done_41, c_h_se_state_42, c_h_hoursOfMen_43, c_h_pitch_44, c_h_pitchTaken_45))
      else
        k_b1 (p_X4_isBare v_h_heel f_sr_tide f_h_se_strake f_h_se_side x3_40 v_h_hour) fun r50 =>
        if r50 = 0 then
          some (.inl (x2_39, x3_40 + 1, c_h_se_done_41, c_h_se_state_42, c_h_hoursOfMen_43, c_h_pitch_44, c_h_pitchTaken_45))
        else
          if x2_39 < (f_h_se_hands x3_40.toNatClampNeg) then
            some (.inl (x2_39, x3_40 + 1, c_h_se_done_41, c_h_se_state_42, c_h_hoursOfMen_43, c_h_pitch_44, c_h_pitchTaken_45))
          else
            k_b5 (p_X4_isWorkDone c_h_pitch_44 c_h_pitchTaken_45 c_h_se_state_42 c_h_se_done_41 f_h_se_pitch f_h_se_hours x3_40) fun r53 w_h_pitch_54 w_h_pitchTaken_55 w_h_se_state_56 w_h_se_done_57 =>
            if r53 = 0 then
              some (.inl (x2_39, x3_40 + 1, w_h_se_done_57, w_h_se_state_56, c_h_hoursOfMen_43, w_h_pitch_54, w_h_pitchTaken_55))
            else
              some (.inl (x2_39 - (f_h_se_hands x3_40.toNatClampNeg), x3_40 + 1, w_h_se_done_57, w_h_se_state_56, c_h_hoursOfMen_43 + (f_h_se_hands x3_40.toNatClampNeg), w_h_pitch_54, w_h_pitchTaken_55)))
def p_X4_work (v_h_hour : Int32) (v_h_heel : Int32) (v_h_pitch : Int32) (v_h_pitchTaken : Int32) (v_h_hoursOfMen : Int32) (f_sr_rules : Nat → Int32) (v_h_se_size : Int32) (f_h_se_hands : Nat → Int32) (f_sr_tide : Nat → Int32) (f_h_se_strake : Nat → Int32) (f_h_se_side : Nat → Int32) (f_h_se_state : Nat → Int32) (f_h_se_done : Nat → Int32) (f_h_se_pitch : Nat → Int32) (f_h_se_hours : Nat → Int32) (a1 : Int32) : Option (Int32 × Int32 × Int32 × (Nat → Int32) × (Nat → Int32)) :=
  k_b5 (k_lp (fun s => lb_X4_work_12 v_h_se_size a1 v_h_heel f_sr_tide f_h_se_strake f_h_se_side v_h_hour f_h_se_hands f_h_se_pitch f_h_se_hours s.1 s.2.1 s.2.2.1 s.2.2.2.1 s.2.2.2.2.1 s.2.2.2.2.2.1 s.2.2.2.2.2.2) k_fuel (f_sr_rules 3, 0, f_h_se_done, f_h_se_state, v_h_hoursOfMen, v_h_pitch, v_h_pitchTaken)) fun c_h_se_done_34 c_h_se_state_35 c_h_hoursOfMen_36 c_h_pitch_37 c_h_pitchTaken_38 =>
  some (c_h_pitch_37, c_h_pitchTaken_38, c_h_hoursOfMen_36, c_h_se_state_35, c_h_se_done_34)
def p_X4_passHour (v_h_hour : Int32) (v_h_heel : Int32) (v_h_water : Int32) (v_h_pitch : Int32) (v_h_pitchTaken : Int32) (v_h_hoursOfMen : Int32) (v_h_parted : Int32) (f_sr_rain : Nat → Int32) (v_h_se_size : Int32) (f_h_se_state : Nat → Int32) (f_sr_tide : Nat → Int32) (f_h_se_strake : Nat → Int32) (f_h_se_side : Nat → Int32) (f_sr_rules : Nat → Int32) (v_h_th_out : Int32) (v_h_th_size : Int32) (f_h_th_weight : Nat → Int32) (v_h_ta_whole : Int32) (v_h_ta_size : Int32) (f_h_ta_parts : Nat → Int32) (f_h_ta_strength : Nat → Int32) (f_h_ta_mast : Nat → Int32) (f_h_se_hands : Nat → Int32) (f_h_se_done : Nat → Int32) (f_h_se_pitch : Nat → Int32) (f_h_se_hours : Nat → Int32) (a1 : Int32) : Option (Int32 × Int32 × Int32 × Int32 × Int32 × Int32 × Int32 × Int32 × Int32 × (Nat → Int32) × Int32 × (Nat → Int32)) :=
  k_b1 (p_X5_rainsIn f_sr_rain v_h_hour) fun r1 =>
  if r1 = 0 then
    k_b5 (p_X4_work v_h_hour v_h_heel v_h_pitch v_h_pitchTaken v_h_hoursOfMen f_sr_rules v_h_se_size f_h_se_hands f_sr_tide f_h_se_strake f_h_se_side f_h_se_state f_h_se_done f_h_se_pitch f_h_se_hours a1) fun w_h_pitch_7 w_h_pitchTaken_8 w_h_hoursOfMen_9 w_h_se_state_10 w_h_se_done_11 =>
    k_b1 (p_X4_flood v_h_hour v_h_heel v_h_water v_h_se_size w_h_se_state_10 f_sr_tide f_h_se_strake f_h_se_side) fun w_h_water_12 =>
    k_b3 (p_X4_partTackles v_h_hour v_h_heel v_h_parted f_sr_rain f_sr_rules v_h_th_out v_h_th_size f_h_th_weight v_h_ta_whole v_h_ta_size f_h_ta_parts f_h_ta_strength f_h_ta_mast) fun w_h_heel_13 w_h_parted_14 w_h_ta_whole_15 =>
    some (v_h_hour + 1, w_h_heel_13, w_h_water_12, w_h_pitch_7, 0, 0, w_h_pitchTaken_8, w_h_hoursOfMen_9, w_h_parted_14, w_h_se_state_10, w_h_ta_whole_15, w_h_se_done_11)
  else
    k_b1 (p_X4_flood v_h_hour v_h_heel v_h_water v_h_se_size f_h_se_state f_sr_tide f_h_se_strake f_h_se_side) fun w_h_water_3 =>
    k_b3 (p_X4_partTackles v_h_hour v_h_heel v_h_parted f_sr_rain f_sr_rules v_h_th_out v_h_th_size f_h_th_weight v_h_ta_whole v_h_ta_size f_h_ta_parts f_h_ta_strength f_h_ta_mast) fun w_h_heel_4 w_h_parted_5 w_h_ta_whole_6 =>
    some (v_h_hour + 1, w_h_heel_4, w_h_water_3, v_h_pitch, 0, 0, v_h_pitchTaken, v_h_hoursOfMen, w_h_parted_5, f_h_se_state, w_h_ta_whole_6, f_h_se_done)
def p_X4_holds (f_sr_rules : Nat → Int32) (v_h_th_out : Int32) (v_h_th_size : Int32) (f_h_th_weight : Nat → Int32) (v_h_ta_whole : Int32) (v_h_ta_size : Int32) (f_h_ta_parts : Nat → Int32) (f_h_ta_strength : Nat → Int32) (f_h_ta_mast : Nat → Int32) (a1 : Int32) (a2 : Int32) : Option (Int32) :=
  k_b1 (p_X4_force f_sr_rules v_h_th_out v_h_th_size f_h_th_weight a1) fun r1 =>
  if r1 = 0 then
    some 1
  else
    if v_h_ta_whole = 0 then
      some 0
    else
      k_b1 (p_X6_firstToPart v_h_ta_whole v_h_ta_size f_h_ta_parts f_h_ta_strength f_h_ta_mast f_sr_rules r1 a2) fun r4 =>
      if 0 ≤ r4 then
        some 0
      else
        some 1
def p_X4_floats (v_h_hour : Int32) (v_h_heel : Int32) (f_sr_rules : Nat → Int32) (v_h_th_out : Int32) (v_h_th_size : Int32) (f_h_th_weight : Nat → Int32) (f_sr_tide : Nat → Int32) (v_h_se_size : Int32) (f_h_se_state : Nat → Int32) : Option (Int32) :=
  k_b1 (p_X4_total f_sr_rules v_h_th_out v_h_th_size f_h_th_weight) fun r1 =>
  if r1 < (f_sr_rules 2) then
    some 0
  else
    k_b1 (p_X5_tideIn f_sr_tide v_h_hour) fun r3 =>
    k_b1 (p_X5_tideNeeded f_sr_rules r1) fun r4 =>
    if r3 < r4 then
      some 0
    else
      if v_h_heel = 0 then
        k_b1 (p_X3_bitsOf v_h_se_size f_h_se_state 1) fun r7 =>
        if r7 = 0 then
          some 1
        else
          some 0
      else
        some 0
def lb_X4_hoursBare_5 (v_h_heel : Int32) (f_sr_tide : Nat → Int32) (f_h_se_strake : Nat → Int32) (f_h_se_side : Nat → Int32) (a1 : Int32) (x2_10 : Int32) : Option ((Int32) ⊕ (Int32)) :=
  if 96 ≤ x2_10 then
    some (.inr x2_10)
  else
    k_b1 (p_X4_isBare v_h_heel f_sr_tide f_h_se_strake f_h_se_side a1 x2_10) fun r12 =>
    if r12 = 0 then
      some (.inr x2_10)
    else
      some (.inl (x2_10 + 1))
def p_X4_hoursBare (v_h_hour : Int32) (v_h_heel : Int32) (f_sr_tide : Nat → Int32) (f_h_se_strake : Nat → Int32) (f_h_se_side : Nat → Int32) (a1 : Int32) : Option (Int32) :=
  k_b1 (k_lp (fun s => lb_X4_hoursBare_5 v_h_heel f_sr_tide f_h_se_strake f_h_se_side a1 s) k_fuel v_h_hour) fun x2_9 =>
  some (x2_9 - v_h_hour)
def p_X4_moveByBoat (v_h_moved : Int32) (v_h_th_out : Int32) (a1 : Int32) : Option (Int32 × Int32 × Int32) :=
  some (1, v_h_moved + 1, v_h_th_out ^^^ (1 <<< (a1 &&& 31)))
def lb_X0_firstHour_23 (v_h_hour : Int32) (f_sr_tide : Nat → Int32) (r2 : Int32) (x5_12 : Int32) : Option ((Int32) ⊕ (Int32)) :=
  if v_h_hour ≤ x5_12 then
    some (.inr x5_12)
  else
    k_b1 (p_X5_tideIn f_sr_tide x5_12) fun r14 =>
    if r2 ≤ r14 then
      some (.inr x5_12)
    else
      some (.inl (x5_12 + 1))
def p_X0_firstHour (v_h_hour : Int32) (f_sr_rules : Nat → Int32) (f_sr_tide : Nat → Int32) (a2 : Int32) (a3 : Int32) : Option (Int32) :=
  if (f_sr_rules 2) ≤ a2 then
    k_b1 (p_X5_tideNeeded f_sr_rules a2) fun r2 =>
    k_b1 (k_lp (fun s => lb_X0_firstHour_23 v_h_hour f_sr_tide r2 s) k_fuel a3) fun x5_11 =>
    some x5_11
  else
    some 96
def p_X0_takeIfSooner (v_h_hour : Int32) (v_h_things : Int32) (a1 : Int32) (a2 : Int32) : Option (Int32 × Int32) :=
  if v_h_hour ≤ a2 then
    some (v_h_hour, v_h_things)
  else
    some (a2, a1)
def lb_X0_findLeast_40 (r2 : Int32) (v_o1_th_out : Int32) (v_o1_th_size : Int32) (f_o1_th_under : Nat → Int32) (f_o1_th_weight : Nat → Int32) (f_sr_rules : Nat → Int32) (f_sr_tide : Nat → Int32) (r1 : Int32) (a2 : Int32) (v_o1_hour : Int32) (x6_26 : Int32) (x7_27 : Int32) (c_h_hour_28 : Int32) (c_h_things_29 : Int32) : Option ((Int32 × Int32 × Int32 × Int32) ⊕ (Int32 × Int32)) :=
  if (1 <<< ((if 8 < r2 then 8 else r2) &&& 31)) ≤ x7_27 then
    some (.inr (c_h_hour_28, c_h_things_29))
  else
    k_b1 (p_X7_mayComeIn v_o1_th_out v_o1_th_size f_o1_th_under x6_26) fun r31 =>
    if r31 = 0 then
      some (.inl ((x6_26 - v_o1_th_out) &&& v_o1_th_out, x7_27 + 1, c_h_hour_28, c_h_things_29))
    else
      k_b1 (p_J6_bitCount_0f7a4 x6_26) fun r33 =>
      k_b1 (p_X7_weightOf v_o1_th_size f_o1_th_weight x6_26) fun r34 =>
      k_b1 (p_X0_firstHour c_h_hour_28 f_sr_rules f_sr_tide (r1 + r34) (if a2 < (v_o1_hour + r33) then (v_o1_hour + r33) else a2)) fun r35 =>
      k_b2 (p_X0_takeIfSooner c_h_hour_28 c_h_things_29 x6_26 r35) fun w_h_hour_36 w_h_things_37 =>
      some (.inl ((x6_26 - v_o1_th_out) &&& v_o1_th_out, x7_27 + 1, w_h_hour_36, w_h_things_37))
def p_X0_findLeast (v_h_things : Int32) (v_o1_hour : Int32) (f_sr_rules : Nat → Int32) (v_o1_th_out : Int32) (v_o1_th_size : Int32) (f_o1_th_weight : Nat → Int32) (f_o1_th_under : Nat → Int32) (f_sr_tide : Nat → Int32) (a2 : Int32) : Option (Int32 × Int32) :=
  k_b1 (p_X4_total f_sr_rules v_o1_th_out v_o1_th_size f_o1_th_weight) fun r1 =>
  k_b1 (p_J6_bitCount_0f7a4 v_o1_th_out) fun r2 =>
  k_b2 (k_lp (fun s => lb_X0_findLeast_40 r2 v_o1_th_out v_o1_th_size f_o1_th_under f_o1_th_weight f_sr_rules f_sr_tide r1 a2 v_o1_hour s.1 s.2.1 s.2.2.1 s.2.2.2) k_fuel (0, 0, 96, v_h_things)) fun c_h_hour_24 c_h_things_25 =>
  some (c_h_hour_24, c_h_things_25)
def lb_X1_least_4 (a1 : Int32) (f_h_tapped : Nat → Int32) (x2_10 : Int32) (x3_11 : Int32) : Option ((Int32 × Int32) ⊕ (Int32)) :=
  if a1 ≤ x3_11 then
    some (.inr x2_10)
  else
    k_ix x3_11 30 (
      if (f_h_tapped x3_11.toNatClampNeg) = 1 then
        some (.inl (x2_10 + 1, x3_11 + 1))
      else
        some (.inl (x2_10 + 0, x3_11 + 1)))
def p_X1_least (f_h_tapped : Nat → Int32) (a1 : Int32) : Option (Int32) :=
  k_b1 (k_lp (fun s => lb_X1_least_4 a1 f_h_tapped s.1 s.2) k_fuel (0, 0)) fun x2_9 =>
  some x2_9
def lb_X1_most_4 (a1 : Int32) (f_h_tapped : Nat → Int32) (x2_10 : Int32) (x3_11 : Int32) : Option ((Int32 × Int32) ⊕ (Int32)) :=
  if a1 ≤ x3_11 then
    some (.inr x2_10)
  else
    k_ix x3_11 30 (
      if (f_h_tapped x3_11.toNatClampNeg) = 0 then
        some (.inl (x2_10 + 0, x3_11 + 1))
      else
        some (.inl (x2_10 + 1, x3_11 + 1)))
def p_X1_most (f_h_tapped : Nat → Int32) (a1 : Int32) : Option (Int32) :=
  k_b1 (k_lp (fun s => lb_X1_most_4 a1 f_h_tapped s.1 s.2) k_fuel (0, 0)) fun x2_9 =>
  some x2_9
def lb_X1_leastRuns_7 (a1 : Int32) (f_h_tapped : Nat → Int32) (x2_31 : Int32) (x3_32 : Int32) (x4_33 : Int32) : Option ((Int32 × Int32 × Int32) ⊕ (Int32)) :=
  if a1 ≤ x4_33 then
    some (.inr x2_31)
  else
    k_ix x4_33 30 (
      if (f_h_tapped x4_33.toNatClampNeg) = 1 then
        if x3_32 = 0 then
          k_ix x4_33 30 (
            if (f_h_tapped x4_33.toNatClampNeg) = 1 then
              some (.inl (x2_31 + 1, 1, x4_33 + 1))
            else
              k_ix x4_33 30 (
                if (f_h_tapped x4_33.toNatClampNeg) = 0 then
                  some (.inl (x2_31 + 1, 0, x4_33 + 1))
                else
                  if x3_32 = 0 then
                    some (.inl (x2_31 + 1, 0, x4_33 + 1))
                  else
                    some (.inl (x2_31 + 1, 1, x4_33 + 1))))
        else
          k_ix x4_33 30 (
            if (f_h_tapped x4_33.toNatClampNeg) = 1 then
              some (.inl (x2_31, 1, x4_33 + 1))
            else
              k_ix x4_33 30 (
                if (f_h_tapped x4_33.toNatClampNeg) = 0 then
                  some (.inl (x2_31, 0, x4_33 + 1))
                else
                  if x3_32 = 0 then
                    some (.inl (x2_31, 0, x4_33 + 1))
                  else
                    some (.inl (x2_31, 1, x4_33 + 1))))
      else
        k_ix x4_33 30 (
          if (f_h_tapped x4_33.toNatClampNeg) = 1 then
            some (.inl (x2_31, 1, x4_33 + 1))
          else
            k_ix x4_33 30 (
              if (f_h_tapped x4_33.toNatClampNeg) = 0 then
                some (.inl (x2_31, 0, x4_33 + 1))
              else
                if x3_32 = 0 then
                  some (.inl (x2_31, 0, x4_33 + 1))
                else
                  some (.inl (x2_31, 1, x4_33 + 1)))))
def p_X1_leastRuns (f_h_tapped : Nat → Int32) (a1 : Int32) : Option (Int32) :=
  k_b1 (k_lp (fun s => lb_X1_leastRuns_7 a1 f_h_tapped s.1 s.2.1 s.2.2) k_fuel (0, 0, 0)) fun x2_30 =>
  some x2_30
def lb_X1_mostRuns_11 (a1 : Int32) (f_h_tapped : Nat → Int32) (x3_18 : Int32) (x4_19 : Int32) (x5_20 : Int32) : Option ((Int32 × Int32 × Int32) ⊕ (Int32 × Int32)) :=
  if a1 ≤ x5_20 then
    some (.inr (x3_18, x4_19))
  else
    k_ix x5_20 30 (
      if (f_h_tapped x5_20.toNatClampNeg) = 0 then
        k_ix x5_20 30 (
          if (f_h_tapped x5_20.toNatClampNeg) = 1 then
            some (.inl ((-31), (-31), x5_20 + 1))
          else
            some (.inl ((-31), if x3_18 < x4_19 then x4_19 else x3_18, x5_20 + 1)))
      else
        k_ix x5_20 30 (
          if (f_h_tapped x5_20.toNatClampNeg) = 1 then
            some (.inl (if x3_18 < (x4_19 + 1) then (x4_19 + 1) else x3_18, (-31), x5_20 + 1))
          else
            some (.inl (if x3_18 < (x4_19 + 1) then (x4_19 + 1) else x3_18, if x3_18 < x4_19 then x4_19 else x3_18, x5_20 + 1))))
def p_X1_mostRuns (f_h_tapped : Nat → Int32) (a1 : Int32) : Option (Int32) :=
  k_b2 (k_lp (fun s => lb_X1_mostRuns_11 a1 f_h_tapped s.1 s.2.1 s.2.2) k_fuel ((-31), 0, 0)) fun x3_16 x4_17 =>
  some (if x3_16 < x4_17 then x4_17 else x3_16)
def lb_X2_beginnings_18 (a2 : Int32) (f_sr_rain : Nat → Int32) (v_o0_hour : Int32) (v_o0_heel : Int32) (f_sr_tide : Nat → Int32) (f_o0_se_strake : Nat → Int32) (f_o0_se_side : Nat → Int32) (a1 : Int32) (r1 : Int32) (x4_23 : Int32) (x5_24 : Int32) (x6_25 : Int32) : Option ((Int32 × Int32 × Int32) ⊕ (Int32)) :=
  if a2 ≤ x6_25 then
    some (.inr x4_23)
  else
    k_b1 (p_X5_rainsIn f_sr_rain (v_o0_hour + x6_25)) fun r27 =>
    if r27 = 0 then
      k_b1 (p_X4_isBare v_o0_heel f_sr_tide f_o0_se_strake f_o0_se_side a1 (v_o0_hour + x6_25)) fun r30 =>
      if r30 = 0 then
        if 0 < r1 then
          some (.inl (x4_23, 0, x6_25 + 1))
        else
          some (.inl (x4_23 ||| (1 <<< (((x6_25 - r1) + 1) &&& 31)), 0, x6_25 + 1))
      else
        if (x5_24 + 1) < r1 then
          some (.inl (x4_23, x5_24 + 1, x6_25 + 1))
        else
          some (.inl (x4_23 ||| (1 <<< (((x6_25 - r1) + 1) &&& 31)), x5_24 + 1, x6_25 + 1))
    else
      if 0 < r1 then
        some (.inl (x4_23, 0, x6_25 + 1))
      else
        some (.inl (x4_23 ||| (1 <<< (((x6_25 - r1) + 1) &&& 31)), 0, x6_25 + 1))
def p_X2_beginnings (v_o0_hour : Int32) (v_o0_heel : Int32) (f_o0_se_state : Nat → Int32) (f_o0_se_hours : Nat → Int32) (f_o0_se_done : Nat → Int32) (f_sr_rain : Nat → Int32) (f_sr_tide : Nat → Int32) (f_o0_se_strake : Nat → Int32) (f_o0_se_side : Nat → Int32) (a1 : Int32) (a2 : Int32) : Option (Int32) :=
  k_b1 (p_X3_hoursLacking f_o0_se_state f_o0_se_hours f_o0_se_done a1) fun r1 =>
  k_b1 (k_lp (fun s => lb_X2_beginnings_18 a2 f_sr_rain v_o0_hour v_o0_heel f_sr_tide f_o0_se_strake f_o0_se_side a1 r1 s.1 s.2.1 s.2.2) k_fuel (0, 0, 0)) fun x4_22 =>
  some x4_22
def lb_X2_gather_94 (c_h_size_62 : Int32) (c_h_hours_59 : Nat → Int32) (r68 : Int32) (x3_57 : Int32) (f_o1_se_hands : Nat → Int32) (x4_87 : Int32) (c_h_hands_88 : Nat → Int64) : Option ((Int32 × (Nat → Int64)) ⊕ ((Nat → Int64))) :=
  k_ix c_h_size_62 5 (
    if ((upd c_h_hours_59 c_h_size_62.toNatClampNeg r68) c_h_size_62.toNatClampNeg) ≤ x4_87 then
      some (.inr c_h_hands_88)
    else
      k_ix c_h_size_62 5 (
        k_ix x3_57 12 (
          k_ix c_h_size_62 5 (
            some (.inl (x4_87 + 1, vp_updL c_h_hands_88 c_h_size_62.toNatClampNeg ((c_h_hands_88 c_h_size_62.toNatClampNeg) ||| (((f_o1_se_hands x3_57.toNatClampNeg).toInt64) <<< ((8 * x4_87).toInt64 &&& 63)))))))))
def lb_X2_gather_7 (v_o1_se_size : Int32) (f_o1_se_state : Nat → Int32) (f_o1_se_hours : Nat → Int32) (f_o1_se_done : Nat → Int32) (v_o1_hour : Int32) (v_o1_heel : Int32) (f_sr_rain : Nat → Int32) (f_sr_tide : Nat → Int32) (f_o1_se_strake : Nat → Int32) (f_o1_se_side : Nat → Int32) (a2 : Int32) (f_o1_se_hands : Nat → Int32) (x3_57 : Int32) (c_h_hands_58 : Nat → Int64) (c_h_hours_59 : Nat → Int32) (c_h_mayBegin_60 : Nat → Int32) (c_h_seam_61 : Nat → Int32) (c_h_size_62 : Int32) : Option ((Int32 × (Nat → Int64) × (Nat → Int32) × (Nat → Int32) × (Nat → Int32) × Int32) ⊕ ((Nat → Int64) × (Nat → Int32) × (Nat → Int32) × (Nat → Int32) × Int32)) :=
  if v_o1_se_size ≤ x3_57 then
    some (.inr (c_h_hands_58, c_h_hours_59, c_h_mayBegin_60, c_h_seam_61, c_h_size_62))
  else
    if 5 ≤ c_h_size_62 then
      some (.inr (c_h_hands_58, c_h_hours_59, c_h_mayBegin_60, c_h_seam_61, c_h_size_62))
    else
      k_ix x3_57 12 (
        if (f_o1_se_state x3_57.toNatClampNeg) = 2 then
          some (.inl (x3_57 + 1, c_h_hands_58, c_h_hours_59, c_h_mayBegin_60, c_h_seam_61, c_h_size_62))
        else
          k_ix c_h_size_62 5 (
            k_b1 (p_X3_hoursLacking f_o1_se_state f_o1_se_hours f_o1_se_done x3_57) fun r68 =>
            k_ix c_h_size_62 5 (
              k_b1 (p_X2_beginnings v_o1_hour v_o1_heel f_o1_se_state f_o1_se_hours f_o1_se_done f_sr_rain f_sr_tide f_o1_se_strake f_o1_se_side x3_57 a2) fun r70 =>
              k_ix c_h_size_62 5 (
                k_ix c_h_size_62 5 (
                  k_b1 (k_lp (fun s => lb_X2_gather_94 c_h_size_62 c_h_hours_59 r68 x3_57 f_o1_se_hands s.1 s.2) k_fuel (0, vp_updL c_h_hands_58 c_h_size_62.toNatClampNeg 0)) fun c_h_hands_86 =>
                  some (.inl (x3_57 + 1, c_h_hands_86, upd c_h_hours_59 c_h_size_62.toNatClampNeg r68, upd c_h_mayBegin_60 c_h_size_62.toNatClampNeg r70, upd c_h_seam_61 c_h_size_62.toNatClampNeg x3_57, c_h_size_62 + 1)))))))
def p_X2_gather (v_o1_hour : Int32) (v_o1_heel : Int32) (v_o1_se_size : Int32) (f_o1_se_state : Nat → Int32) (f_h_seam : Nat → Int32) (f_o1_se_hours : Nat → Int32) (f_o1_se_done : Nat → Int32) (f_h_hours : Nat → Int32) (f_sr_rain : Nat → Int32) (f_sr_tide : Nat → Int32) (f_o1_se_strake : Nat → Int32) (f_o1_se_side : Nat → Int32) (f_h_mayBegin : Nat → Int32) (f_h_hands : Nat → Int64) (f_o1_se_hands : Nat → Int32) (a2 : Int32) : Option (Int32 × (Nat → Int32) × (Nat → Int32) × (Nat → Int32) × (Nat → Int64)) :=
  k_b5 (k_lp (fun s => lb_X2_gather_7 v_o1_se_size f_o1_se_state f_o1_se_hours f_o1_se_done v_o1_hour v_o1_heel f_sr_rain f_sr_tide f_o1_se_strake f_o1_se_side a2 f_o1_se_hands s.1 s.2.1 s.2.2.1 s.2.2.2.1 s.2.2.2.2.1 s.2.2.2.2.2) k_fuel (0, f_h_hands, f_h_hours, f_h_mayBegin, f_h_seam, 0)) fun c_h_hands_52 c_h_hours_53 c_h_mayBegin_54 c_h_seam_55 c_h_size_56 =>
  some (c_h_size_56, c_h_seam_55, c_h_hours_53, c_h_mayBegin_54, c_h_hands_52)
def p_X2_areMenEnough (v_h_menShort : Int64) (a1 : Int64) : Option (Int32) :=
  if (lg_cmp ((a1 + v_h_menShort) &&& (-9187201950435737472)) 0) = 0 then
    some 1
  else
    some 0
def lb_X2_isPlaced_36 (a2 : Int32) (f_o0_mayBegin : Nat → Int32) (v_o0_menShort : Int64) (a3 : Int64) (f_o0_hands : Nat → Int64) (self : Int64 → Int32 → Int32 → Int32 → Int32 → (Nat → Int32) → (Nat → Int32) → (Nat → Int64) → Int32 → Int32 → Int64 → Option (Int32 × (Nat → Int32))) (v_o0_size : Int32) (v_o0_planned : Int32) (v_o0_worth : Int32) (v_o0_pitch : Int32) (a1 : Int32) (x5_30 : Int32) (c_o0_tried_31 : Nat → Int32) : Option ((Int32 × (Nat → Int32)) ⊕ ((Int32 × (Nat → Int32)) ⊕ ((Nat → Int32)))) :=
  if 6 ≤ x5_30 then
    some (.inr (.inr c_o0_tried_31))
  else
    k_ix a2 5 (
      k_ix a2 5 (
        k_b1 (p_X8_hasBit (f_o0_mayBegin a2.toNatClampNeg) x5_30) fun r35 =>
        if r35 = 0 then
          some (.inl (x5_30 + 1, c_o0_tried_31))
        else
          k_b1 (p_X2_areMenEnough v_o0_menShort (a3 + ((f_o0_hands a2.toNatClampNeg) <<< ((8 * x5_30).toInt64 &&& 63)))) fun r37 =>
          if r37 = 0 then
            some (.inl (x5_30 + 1, c_o0_tried_31))
          else
            k_ix a2 5 (
              k_b2 (self v_o0_menShort v_o0_size v_o0_planned v_o0_worth v_o0_pitch (upd c_o0_tried_31 a2.toNatClampNeg x5_30) f_o0_mayBegin f_o0_hands a1 (a2 + 1) (a3 + ((f_o0_hands a2.toNatClampNeg) <<< ((8 * x5_30).toInt64 &&& 63)))) fun r40 w_o0_tried_41 =>
              if r40 = 0 then
                some (.inl (x5_30 + 1, w_o0_tried_41))
              else
                some (.inr (.inl (1, w_o0_tried_41))))))
def pb_X2_isPlaced (self : Int64 → Int32 → Int32 → Int32 → Int32 → (Nat → Int32) → (Nat → Int32) → (Nat → Int64) → Int32 → Int32 → Int64 → Option (Int32 × (Nat → Int32))) (v_o0_menShort : Int64) (v_o0_size : Int32) (v_o0_planned : Int32) (v_o0_worth : Int32) (v_o0_pitch : Int32) (f_o0_tried : Nat → Int32) (f_o0_mayBegin : Nat → Int32) (f_o0_hands : Nat → Int64) (a1 : Int32) (a2 : Int32) (a3 : Int64) : Option (Int32 × (Nat → Int32)) :=
  if v_o0_size ≤ a2 then
    some (1, f_o0_tried)
  else
    if a2 < 5 then
      k_b1 (p_X8_hasBit a1 a2) fun r3 =>
      if r3 = 0 then
        k_b2 (self v_o0_menShort v_o0_size v_o0_planned v_o0_worth v_o0_pitch f_o0_tried f_o0_mayBegin f_o0_hands a1 (a2 + 1) a3) fun r43 w_o0_tried_44 =>
        k_ck (r43 = 0 ∨ r43 = 1) (some (r43, w_o0_tried_44))
      else
        k_bx1 (k_lp (fun s => lb_X2_isPlaced_36 a2 f_o0_mayBegin v_o0_menShort a3 f_o0_hands self v_o0_size v_o0_planned v_o0_worth v_o0_pitch a1 s.1 s.2) k_fuel (0, f_o0_tried)) (fun q => some q) fun c_o0_tried_29 =>
        some (0, c_o0_tried_29)
    else
      some (1, f_o0_tried)
noncomputable def p_X2_isPlaced (d : Nat) : Int64 → Int32 → Int32 → Int32 → Int32 → (Nat → Int32) → (Nat → Int32) → (Nat → Int64) → Int32 → Int32 → Int64 → Option (Int32 × (Nat → Int32)) := Nat.rec (motive := fun _ => Int64 → Int32 → Int32 → Int32 → Int32 → (Nat → Int32) → (Nat → Int32) → (Nat → Int64) → Int32 → Int32 → Int64 → Option (Int32 × (Nat → Int32))) (fun _ _ _ _ _ _ _ _ _ _ _ => none) (fun _ self => pb_X2_isPlaced self) d
noncomputable def lb_X2_tryOut_8 (v_h_size : Int32) (a1 : Int32) (f_o2_se_done : Nat → Int32) (f_o2_se_pitch : Nat → Int32) (f_h_seam : Nat → Int32) (f_o2_se_worth : Nat → Int32) (x3_41 : Int32) (x4_42 : Int32) (x5_43 : Int32) : Option ((Int32 × Int32 × Int32) ⊕ (Int32 × Int32)) :=
  if v_h_size ≤ x5_43 then
    some (.inr (x3_41, x4_42))
  else
    k_b1 (p_X8_hasBit a1 x5_43) fun r45 =>
    if r45 = 0 then
      k_b1 (p_X8_hasBit a1 x5_43) fun r47 =>
      if r47 = 0 then
        some (.inl (x3_41 + 0, x4_42 + 0, x5_43 + 1))
      else
        k_ix x5_43 5 (
          k_b1 (p_X3_pitchLacking f_o2_se_done f_o2_se_pitch (f_h_seam x5_43.toNatClampNeg)) fun r50 =>
          some (.inl (x3_41 + 0, x4_42 + r50, x5_43 + 1)))
    else
      k_ix x5_43 5 (
        k_ix (f_h_seam x5_43.toNatClampNeg) 12 (
          k_b1 (p_X8_hasBit a1 x5_43) fun r53 =>
          if r53 = 0 then
            some (.inl (x3_41 + (f_o2_se_worth (f_h_seam x5_43.toNatClampNeg).toNatClampNeg), x4_42 + 0, x5_43 + 1))
          else
            k_ix x5_43 5 (
              k_b1 (p_X3_pitchLacking f_o2_se_done f_o2_se_pitch (f_h_seam x5_43.toNatClampNeg)) fun r56 =>
              some (.inl (x3_41 + (f_o2_se_worth (f_h_seam x5_43.toNatClampNeg).toNatClampNeg), x4_42 + r56, x5_43 + 1)))))
noncomputable def p_X2_tryOut (v_h_menShort : Int64) (v_h_size : Int32) (v_h_planned : Int32) (v_h_worth : Int32) (v_h_pitch : Int32) (v_o2_pitch : Int32) (f_h_seam : Nat → Int32) (f_o2_se_done : Nat → Int32) (f_o2_se_pitch : Nat → Int32) (f_o2_se_worth : Nat → Int32) (f_h_tried : Nat → Int32) (f_h_mayBegin : Nat → Int32) (f_h_hands : Nat → Int64) (f_h_begins : Nat → Int32) (a1 : Int32) : Option (Int32 × Int32 × Int32 × (Nat → Int32) × (Nat → Int32)) :=
  k_b2 (k_lp (fun s => lb_X2_tryOut_8 v_h_size a1 f_o2_se_done f_o2_se_pitch f_h_seam f_o2_se_worth s.1 s.2.1 s.2.2) k_fuel (0, 0, 0)) fun x3_28 x4_29 =>
  if v_h_worth < x3_28 then
    if v_o2_pitch < x4_29 then
      some (v_h_planned, v_h_worth, v_h_pitch, f_h_tried, f_h_begins)
    else
      k_b2 (p_X2_isPlaced 7 v_h_menShort v_h_size v_h_planned v_h_worth v_h_pitch f_h_tried f_h_mayBegin f_h_hands a1 0 0) fun r32 w_h_tried_33 =>
      if r32 = 0 then
        some (v_h_planned, v_h_worth, v_h_pitch, w_h_tried_33, f_h_begins)
      else
        some (a1, x3_28, x4_29, w_h_tried_33, k_cpy 5 w_h_tried_33 f_h_begins)
  else
    if x3_28 = v_h_worth then
      if v_h_pitch ≤ x4_29 then
        some (v_h_planned, v_h_worth, v_h_pitch, f_h_tried, f_h_begins)
      else
        if v_o2_pitch < x4_29 then
          some (v_h_planned, v_h_worth, v_h_pitch, f_h_tried, f_h_begins)
        else
          k_b2 (p_X2_isPlaced 7 v_h_menShort v_h_size v_h_planned v_h_worth v_h_pitch f_h_tried f_h_mayBegin f_h_hands a1 0 0) fun r38 w_h_tried_39 =>
          if r38 = 0 then
            some (v_h_planned, v_h_worth, v_h_pitch, w_h_tried_39, f_h_begins)
          else
            some (a1, x3_28, x4_29, w_h_tried_39, k_cpy 5 w_h_tried_39 f_h_begins)
    else
      some (v_h_planned, v_h_worth, v_h_pitch, f_h_tried, f_h_begins)
noncomputable def lb_X2_make_44 (w_h_size_1 : Int32) (f_sr_rules : Nat → Int32) (v_o1_pitch : Int32) (w_h_seam_2 : Nat → Int32) (f_o1_se_done : Nat → Int32) (f_o1_se_pitch : Nat → Int32) (f_o1_se_worth : Nat → Int32) (w_h_mayBegin_4 : Nat → Int32) (w_h_hands_5 : Nat → Int64) (x3_30 : Int32) (c_h_begins_31 : Nat → Int32) (c_h_tried_32 : Nat → Int32) (c_h_pitch_33 : Int32) (c_h_planned_34 : Int32) (c_h_worth_35 : Int32) : Option ((Int32 × (Nat → Int32) × (Nat → Int32) × Int32 × Int32 × Int32) ⊕ ((Nat → Int32) × (Nat → Int32) × Int32 × Int32 × Int32)) :=
  if (1 <<< (w_h_size_1 &&& 31)) ≤ x3_30 then
    some (.inr (c_h_begins_31, c_h_tried_32, c_h_pitch_33, c_h_planned_34, c_h_worth_35))
  else
    k_b5 (p_X2_tryOut (((127 - (f_sr_rules 3)).toInt64) * 72340172838076673) w_h_size_1 c_h_planned_34 c_h_worth_35 c_h_pitch_33 v_o1_pitch w_h_seam_2 f_o1_se_done f_o1_se_pitch f_o1_se_worth c_h_tried_32 w_h_mayBegin_4 w_h_hands_5 c_h_begins_31 x3_30) fun w_h_planned_37 w_h_worth_38 w_h_pitch_39 w_h_tried_40 w_h_begins_41 =>
    some (.inl (x3_30 + 1, w_h_begins_41, w_h_tried_40, w_h_pitch_39, w_h_planned_37, w_h_worth_38))
noncomputable def p_X2_make (v_o1_hour : Int32) (v_o1_heel : Int32) (v_o1_pitch : Int32) (v_o1_se_size : Int32) (f_o1_se_state : Nat → Int32) (f_h_seam : Nat → Int32) (f_o1_se_hours : Nat → Int32) (f_o1_se_done : Nat → Int32) (f_h_hours : Nat → Int32) (f_sr_rain : Nat → Int32) (f_sr_tide : Nat → Int32) (f_o1_se_strake : Nat → Int32) (f_o1_se_side : Nat → Int32) (f_h_mayBegin : Nat → Int32) (f_h_hands : Nat → Int64) (f_o1_se_hands : Nat → Int32) (f_sr_rules : Nat → Int32) (f_o1_se_pitch : Nat → Int32) (f_o1_se_worth : Nat → Int32) (f_h_tried : Nat → Int32) (f_h_begins : Nat → Int32) (a2 : Int32) : Option (Int64 × Int32 × Int32 × Int32 × Int32 × (Nat → Int32) × (Nat → Int32) × (Nat → Int32) × (Nat → Int64) × (Nat → Int32) × (Nat → Int32)) :=
  k_b5 (p_X2_gather v_o1_hour v_o1_heel v_o1_se_size f_o1_se_state f_h_seam f_o1_se_hours f_o1_se_done f_h_hours f_sr_rain f_sr_tide f_o1_se_strake f_o1_se_side f_h_mayBegin f_h_hands f_o1_se_hands a2) fun w_h_size_1 w_h_seam_2 w_h_hours_3 w_h_mayBegin_4 w_h_hands_5 =>
  k_b5 (k_lp (fun s => lb_X2_make_44 w_h_size_1 f_sr_rules v_o1_pitch w_h_seam_2 f_o1_se_done f_o1_se_pitch f_o1_se_worth w_h_mayBegin_4 w_h_hands_5 s.1 s.2.1 s.2.2.1 s.2.2.2.1 s.2.2.2.2.1 s.2.2.2.2.2) k_fuel (1, f_h_begins, f_h_tried, 0, 0, 0)) fun c_h_begins_25 c_h_tried_26 c_h_pitch_27 c_h_planned_28 c_h_worth_29 =>
  some (((127 - (f_sr_rules 3)).toInt64) * 72340172838076673, w_h_size_1, c_h_planned_28, c_h_worth_29, c_h_pitch_27, w_h_seam_2, w_h_hours_3, w_h_mayBegin_4, w_h_hands_5, c_h_tried_26, c_h_begins_25)
def lb_X2_seamBits_4 (v_h_size : Int32) (v_h_planned : Int32) (f_h_seam : Nat → Int32) (x1_12 : Int32) (x2_13 : Int32) : Option ((Int32 × Int32) ⊕ (Int32)) :=
  if v_h_size ≤ x2_13 then
    some (.inr x1_12)
  else
    k_b1 (p_X8_hasBit v_h_planned x2_13) fun r15 =>
    if r15 = 0 then
      some (.inl (x1_12 ||| 0, x2_13 + 1))
    else
      k_ix x2_13 5 (
        some (.inl (x1_12 ||| (1 <<< ((f_h_seam x2_13.toNatClampNeg) &&& 31)), x2_13 + 1)))
def p_X2_seamBits (v_h_size : Int32) (v_h_planned : Int32) (f_h_seam : Nat → Int32) : Option (Int32) :=
  k_b1 (k_lp (fun s => lb_X2_seamBits_4 v_h_size v_h_planned f_h_seam s.1 s.2) k_fuel (0, 0)) fun x1_11 =>
  some x1_11
def lb_X2_beginningOf_2 (v_h_size : Int32) (v_h_planned : Int32) (f_h_seam : Nat → Int32) (a1 : Int32) (f_h_begins : Nat → Int32) (x2_13 : Int32) : Option ((Int32) ⊕ ((Int32) ⊕ (Unit))) :=
  if v_h_size ≤ x2_13 then
    some (.inr (.inr ()))
  else
    k_b1 (p_X8_hasBit v_h_planned x2_13) fun r15 =>
    if r15 = 0 then
      some (.inl (x2_13 + 1))
    else
      k_ix x2_13 5 (
        if (f_h_seam x2_13.toNatClampNeg) = a1 then
          k_ix x2_13 5 (
            some (.inr (.inl (f_h_begins x2_13.toNatClampNeg))))
        else
          some (.inl (x2_13 + 1)))
def p_X2_beginningOf (v_h_size : Int32) (v_h_planned : Int32) (f_h_seam : Nat → Int32) (f_h_begins : Nat → Int32) (a1 : Int32) : Option (Int32) :=
  k_bx0 (k_lp (fun s => lb_X2_beginningOf_2 v_h_size v_h_planned f_h_seam a1 f_h_begins s) k_fuel 0) (fun q => some q) (
    some (-4))
def lb_X2_ordersOf_4 (v_h_size : Int32) (v_h_planned : Int32) (a1 : Int32) (f_h_begins : Nat → Int32) (f_h_hours : Nat → Int32) (f_h_seam : Nat → Int32) (x2_19 : Int32) (x3_20 : Int32) : Option ((Int32 × Int32) ⊕ (Int32)) :=
  if v_h_size ≤ x3_20 then
    some (.inr x2_19)
  else
    k_b1 (p_X8_hasBit v_h_planned x3_20) fun r22 =>
    if r22 = 0 then
      some (.inl (x2_19 ||| 0, x3_20 + 1))
    else
      k_ix x3_20 5 (
        if a1 < (f_h_begins x3_20.toNatClampNeg) then
          some (.inl (x2_19 ||| 0, x3_20 + 1))
        else
          k_ix x3_20 5 (
            k_ix x3_20 5 (
              if ((f_h_begins x3_20.toNatClampNeg) + (f_h_hours x3_20.toNatClampNeg)) ≤ a1 then
                some (.inl (x2_19 ||| 0, x3_20 + 1))
              else
                k_ix x3_20 5 (
                  some (.inl (x2_19 ||| (1 <<< ((f_h_seam x3_20.toNatClampNeg) &&& 31)), x3_20 + 1))))))
def p_X2_ordersOf (v_h_size : Int32) (v_h_planned : Int32) (f_h_begins : Nat → Int32) (f_h_hours : Nat → Int32) (f_h_seam : Nat → Int32) (a1 : Int32) : Option (Int32) :=
  k_b1 (k_lp (fun s => lb_X2_ordersOf_4 v_h_size v_h_planned a1 f_h_begins f_h_hours f_h_seam s.1 s.2) k_fuel (0, 0)) fun x2_18 =>
  some x2_18
def lb_X0_isFound_13 (w_h_trial_se_size_20 : Int32) (f_sr_rain : Nat → Int32) (f_sr_tide : Nat → Int32) (w_h_trial_se_strake_21 : Nat → Int32) (w_h_trial_se_side_22 : Nat → Int32) (f_sr_rules : Nat → Int32) (w_h_trial_th_out_11 : Int32) (w_h_trial_th_size_12 : Int32) (w_h_trial_th_weight_13 : Nat → Int32) (w_h_trial_ta_size_16 : Int32) (w_h_trial_ta_parts_18 : Nat → Int32) (w_h_trial_ta_strength_19 : Nat → Int32) (w_h_trial_ta_mast_17 : Nat → Int32) (w_h_trial_se_hands_23 : Nat → Int32) (w_h_trial_se_pitch_25 : Nat → Int32) (w_h_trial_se_hours_24 : Nat → Int32) (x2_98 : Int32) (c_h_trial_se_done_99 : Nat → Int32) (c_h_trial_se_state_100 : Nat → Int32) (c_h_trial_boatUsed_101 : Int32) (c_h_trial_heel_102 : Int32) (c_h_trial_heelWent_103 : Int32) (c_h_trial_hour_104 : Int32) (c_h_trial_hoursOfMen_105 : Int32) (c_h_trial_parted_106 : Int32) (c_h_trial_pitch_107 : Int32) (c_h_trial_pitchTaken_108 : Int32) (c_h_trial_water_109 : Int32) (c_h_trial_ta_whole_110 : Int32) : Option ((Int32 × (Nat → Int32) × (Nat → Int32) × Int32 × Int32 × Int32 × Int32 × Int32 × Int32 × Int32 × Int32 × Int32 × Int32) ⊕ ((Nat → Int32) × (Nat → Int32) × Int32 × Int32 × Int32 × Int32 × Int32 × Int32 × Int32 × Int32 × Int32 × Int32)) :=
  if 96 ≤ x2_98 then
    some (.inr (c_h_trial_se_done_99, c_h_trial_se_state_100, c_h_trial_boatUsed_101, c_h_trial_heel_102, c_h_trial_heelWent_103, c_h_trial_hour_104, c_h_trial_hoursOfMen_105, c_h_trial_parted_106, c_h_trial_pitch_107, c_h_trial_pitchTaken_108, c_h_trial_water_109, c_h_trial_ta_whole_110))
  else
    k_b1 (p_X4_isLost c_h_trial_water_109) fun r112 =>
    if r112 = 0 then
      k_b1 (p_X3_bitsOf w_h_trial_se_size_20 c_h_trial_se_state_100 1) fun r114 =>
      if r114 = 0 then
        some (.inr (c_h_trial_se_done_99, c_h_trial_se_state_100, c_h_trial_boatUsed_101, c_h_trial_heel_102, c_h_trial_heelWent_103, c_h_trial_hour_104, c_h_trial_hoursOfMen_105, c_h_trial_parted_106, c_h_trial_pitch_107, c_h_trial_pitchTaken_108, c_h_trial_water_109, c_h_trial_ta_whole_110))
      else
        k_b1 (p_X3_bitsOf w_h_trial_se_size_20 c_h_trial_se_state_100 1) fun r116 =>
        k_b12 (p_X4_passHour c_h_trial_hour_104 c_h_trial_heel_102 c_h_trial_water_109 c_h_trial_pitch_107 c_h_trial_pitchTaken_108 c_h_trial_hoursOfMen_105 c_h_trial_parted_106 f_sr_rain w_h_trial_se_size_20 c_h_trial_se_state_100 f_sr_tide w_h_trial_se_strake_21 w_h_trial_se_side_22 f_sr_rules w_h_trial_th_out_11 w_h_trial_th_size_12 w_h_trial_th_weight_13 c_h_trial_ta_whole_110 w_h_trial_ta_size_16 w_h_trial_ta_parts_18 w_h_trial_ta_strength_19 w_h_trial_ta_mast_17 w_h_trial_se_hands_23 c_h_trial_se_done_99 w_h_trial_se_pitch_25 w_h_trial_se_hours_24 r116) fun w_h_trial_hour_117 w_h_trial_heel_118 w_h_trial_water_119 w_h_trial_pitch_120 w_h_trial_boatUsed_121 w_h_trial_heelWent_122 w_h_trial_pitchTaken_123 w_h_trial_hoursOfMen_124 w_h_trial_parted_125 w_h_trial_se_state_126 w_h_trial_ta_whole_127 w_h_trial_se_done_128 =>
        some (.inl (x2_98 + 1, w_h_trial_se_done_128, w_h_trial_se_state_126, w_h_trial_boatUsed_121, w_h_trial_heel_118, w_h_trial_heelWent_122, w_h_trial_hour_117, w_h_trial_hoursOfMen_124, w_h_trial_parted_125, w_h_trial_pitch_120, w_h_trial_pitchTaken_123, w_h_trial_water_119, w_h_trial_ta_whole_127))
    else
      some (.inr (c_h_trial_se_done_99, c_h_trial_se_state_100, c_h_trial_boatUsed_101, c_h_trial_heel_102, c_h_trial_heelWent_103, c_h_trial_hour_104, c_h_trial_hoursOfMen_105, c_h_trial_parted_106, c_h_trial_pitch_107, c_h_trial_pitchTaken_108, c_h_trial_water_109, c_h_trial_ta_whole_110))
def p_X0_isFound (v_h_hour : Int32) (v_h_things : Int32) (v_h_shut : Int32) (v_o1_hour : Int32) (v_o1_heel : Int32) (v_o1_water : Int32) (v_o1_pitch : Int32) (v_o1_boatUsed : Int32) (v_o1_heelWent : Int32) (v_o1_pitchTaken : Int32) (v_o1_hoursOfMen : Int32) (v_o1_parted : Int32) (v_o1_moved : Int32) (v_o1_th_out : Int32) (v_o1_th_size : Int32) (f_o1_th_weight : Nat → Int32) (f_h_trial_th_weight : Nat → Int32) (f_o1_th_under : Nat → Int32) (f_h_trial_th_under : Nat → Int32) (v_o1_ta_whole : Int32) (v_o1_ta_size : Int32) (f_o1_ta_mast : Nat → Int32) (f_h_trial_ta_mast : Nat → Int32) (f_o1_ta_parts : Nat → Int32) (f_h_trial_ta_parts : Nat → Int32) (f_o1_ta_strength : Nat → Int32) (f_h_trial_ta_strength : Nat → Int32) (v_o1_se_size : Int32) (f_o1_se_strake : Nat → Int32) (f_h_trial_se_strake : Nat → Int32) (f_o1_se_side : Nat → Int32) (f_h_trial_se_side : Nat → Int32) (f_o1_se_hands : Nat → Int32) (f_h_trial_se_hands : Nat → Int32) (f_o1_se_hours : Nat → Int32) (f_h_trial_se_hours : Nat → Int32) (f_o1_se_pitch : Nat → Int32) (f_h_trial_se_pitch : Nat → Int32) (f_o1_se_worth : Nat → Int32) (f_h_trial_se_worth : Nat → Int32) (f_o1_se_state : Nat → Int32) (f_h_trial_se_state : Nat → Int32) (f_o1_se_done : Nat → Int32) (f_h_trial_se_done : Nat → Int32) (f_sr_rain : Nat → Int32) (f_sr_tide : Nat → Int32) (f_sr_rules : Nat → Int32) : Option (Int32 × Int32 × Int32 × Int32 × Int32 × Int32 × Int32 × Int32 × Int32 × Int32 × Int32 × Int32 × Int32 × Int32 × Int32 × Int32 × (Nat → Int32) × (Nat → Int32) × Int32 × Int32 × (Nat → Int32) × (Nat → Int32) × (Nat → Int32) × Int32 × (Nat → Int32) × (Nat → Int32) × (Nat → Int32) × (Nat → Int32) × (Nat → Int32) × (Nat → Int32) × (Nat → Int32) × (Nat → Int32)) :=
  k_b28 (p_X4_copyFrom v_o1_hour v_o1_heel v_o1_water v_o1_pitch v_o1_boatUsed v_o1_heelWent v_o1_pitchTaken v_o1_hoursOfMen v_o1_parted v_o1_moved v_o1_th_out v_o1_th_size f_o1_th_weight f_h_trial_th_weight f_o1_th_under f_h_trial_th_under v_o1_ta_whole v_o1_ta_size f_o1_ta_mast f_h_trial_ta_mast f_o1_ta_parts f_h_trial_ta_parts f_o1_ta_strength f_h_trial_ta_strength v_o1_se_size f_o1_se_strake f_h_trial_se_strake f_o1_se_side f_h_trial_se_side f_o1_se_hands f_h_trial_se_hands f_o1_se_hours f_h_trial_se_hours f_o1_se_pitch f_h_trial_se_pitch f_o1_se_worth f_h_trial_se_worth f_o1_se_state f_h_trial_se_state f_o1_se_done f_h_trial_se_done) fun w_h_trial_hour_1 w_h_trial_heel_2 w_h_trial_water_3 w_h_trial_pitch_4 w_h_trial_boatUsed_5 w_h_trial_heelWent_6 w_h_trial_pitchTaken_7 w_h_trial_hoursOfMen_8 w_h_trial_parted_9 w_h_trial_moved_10 w_h_trial_th_out_11 w_h_trial_th_size_12 w_h_trial_th_weight_13 w_h_trial_th_under_14 w_h_trial_ta_whole_15 w_h_trial_ta_size_16 w_h_trial_ta_mast_17 w_h_trial_ta_parts_18 w_h_trial_ta_strength_19 w_h_trial_se_size_20 w_h_trial_se_strake_21 w_h_trial_se_side_22 w_h_trial_se_hands_23 w_h_trial_se_hours_24 w_h_trial_se_pitch_25 w_h_trial_se_worth_26 w_h_trial_se_state_27 w_h_trial_se_done_28 =>
  k_b12 (k_lp (fun s => lb_X0_isFound_13 w_h_trial_se_size_20 f_sr_rain f_sr_tide w_h_trial_se_strake_21 w_h_trial_se_side_22 f_sr_rules w_h_trial_th_out_11 w_h_trial_th_size_12 w_h_trial_th_weight_13 w_h_trial_ta_size_16 w_h_trial_ta_parts_18 w_h_trial_ta_strength_19 w_h_trial_ta_mast_17 w_h_trial_se_hands_23 w_h_trial_se_pitch_25 w_h_trial_se_hours_24 s.1 s.2.1 s.2.2.1 s.2.2.2.1 s.2.2.2.2.1 s.2.2.2.2.2.1 s.2.2.2.2.2.2.1 s.2.2.2.2.2.2.2.1 s.2.2.2.2.2.2.2.2.1 s.2.2.2.2.2.2.2.2.2.1 s.2.2.2.2.2.2.2.2.2.2.1 s.2.2.2.2.2.2.2.2.2.2.2.1 s.2.2.2.2.2.2.2.2.2.2.2.2) k_fuel (v_o1_hour, w_h_trial_se_done_28, w_h_trial_se_state_27, w_h_trial_boatUsed_5, w_h_trial_heel_2, w_h_trial_heelWent_6, w_h_trial_hour_1, w_h_trial_hoursOfMen_8, w_h_trial_parted_9, w_h_trial_pitch_4, w_h_trial_pitchTaken_7, w_h_trial_water_3, w_h_trial_ta_whole_15)) fun c_h_trial_se_done_79 c_h_trial_se_state_80 c_h_trial_boatUsed_81 c_h_trial_heel_82 c_h_trial_heelWent_83 c_h_trial_hour_84 c_h_trial_hoursOfMen_85 c_h_trial_parted_86 c_h_trial_pitch_87 c_h_trial_pitchTaken_88 c_h_trial_water_89 c_h_trial_ta_whole_90 =>
  k_b1 (p_X4_isLost c_h_trial_water_89) fun r91 =>
  if r91 = 0 then
    k_b1 (p_X3_bitsOf w_h_trial_se_size_20 c_h_trial_se_state_80 1) fun r93 =>
    if r93 = 0 then
      k_b2 (p_X0_findLeast v_h_things v_o1_hour f_sr_rules v_o1_th_out v_o1_th_size f_o1_th_weight f_o1_th_under f_sr_tide (c_h_trial_hour_84 + (if 0 ≤ c_h_trial_heel_82 then c_h_trial_heel_82 else 0 - c_h_trial_heel_82))) fun w_h_hour_95 w_h_things_96 =>
      if 96 ≤ w_h_hour_95 then
        some (0, w_h_hour_95, w_h_things_96, c_h_trial_hour_84, c_h_trial_hour_84, c_h_trial_heel_82, c_h_trial_water_89, c_h_trial_pitch_87, c_h_trial_boatUsed_81, c_h_trial_heelWent_83, c_h_trial_pitchTaken_88, c_h_trial_hoursOfMen_85, c_h_trial_parted_86, w_h_trial_moved_10, w_h_trial_th_out_11, w_h_trial_th_size_12, w_h_trial_th_weight_13, w_h_trial_th_under_14, c_h_trial_ta_whole_90, w_h_trial_ta_size_16, w_h_trial_ta_mast_17, w_h_trial_ta_parts_18, w_h_trial_ta_strength_19, w_h_trial_se_size_20, w_h_trial_se_strake_21, w_h_trial_se_side_22, w_h_trial_se_hands_23, w_h_trial_se_hours_24, w_h_trial_se_pitch_25, w_h_trial_se_worth_26, c_h_trial_se_state_80, c_h_trial_se_done_79)
      else
        some (1, w_h_hour_95, w_h_things_96, c_h_trial_hour_84, c_h_trial_hour_84, c_h_trial_heel_82, c_h_trial_water_89, c_h_trial_pitch_87, c_h_trial_boatUsed_81, c_h_trial_heelWent_83, c_h_trial_pitchTaken_88, c_h_trial_hoursOfMen_85, c_h_trial_parted_86, w_h_trial_moved_10, w_h_trial_th_out_11, w_h_trial_th_size_12, w_h_trial_th_weight_13, w_h_trial_th_under_14, c_h_trial_ta_whole_90, w_h_trial_ta_size_16, w_h_trial_ta_mast_17, w_h_trial_ta_parts_18, w_h_trial_ta_strength_19, w_h_trial_se_size_20, w_h_trial_se_strake_21, w_h_trial_se_side_22, w_h_trial_se_hands_23, w_h_trial_se_hours_24, w_h_trial_se_pitch_25, w_h_trial_se_worth_26, c_h_trial_se_state_80, c_h_trial_se_done_79)
    else
      some (0, v_h_hour, v_h_things, v_h_shut, c_h_trial_hour_84, c_h_trial_heel_82, c_h_trial_water_89, c_h_trial_pitch_87, c_h_trial_boatUsed_81, c_h_trial_heelWent_83, c_h_trial_pitchTaken_88, c_h_trial_hoursOfMen_85, c_h_trial_parted_86, w_h_trial_moved_10, w_h_trial_th_out_11, w_h_trial_th_size_12, w_h_trial_th_weight_13, w_h_trial_th_under_14, c_h_trial_ta_whole_90, w_h_trial_ta_size_16, w_h_trial_ta_mast_17, w_h_trial_ta_parts_18, w_h_trial_ta_strength_19, w_h_trial_se_size_20, w_h_trial_se_strake_21, w_h_trial_se_side_22, w_h_trial_se_hands_23, w_h_trial_se_hours_24, w_h_trial_se_pitch_25, w_h_trial_se_worth_26, c_h_trial_se_state_80, c_h_trial_se_done_79)
  else
    some (0, v_h_hour, v_h_things, v_h_shut, c_h_trial_hour_84, c_h_trial_heel_82, c_h_trial_water_89, c_h_trial_pitch_87, c_h_trial_boatUsed_81, c_h_trial_heelWent_83, c_h_trial_pitchTaken_88, c_h_trial_hoursOfMen_85, c_h_trial_parted_86, w_h_trial_moved_10, w_h_trial_th_out_11, w_h_trial_th_size_12, w_h_trial_th_weight_13, w_h_trial_th_under_14, c_h_trial_ta_whole_90, w_h_trial_ta_size_16, w_h_trial_ta_mast_17, w_h_trial_ta_parts_18, w_h_trial_ta_strength_19, w_h_trial_se_size_20, w_h_trial_se_strake_21, w_h_trial_se_side_22, w_h_trial_se_hands_23, w_h_trial_se_hours_24, w_h_trial_se_pitch_25, w_h_trial_se_worth_26, c_h_trial_se_state_80, c_h_trial_se_done_79)
def p_X8_tide (f_sr_tide : Nat → Int32) (a1 : Int32) (a2 : Int32) : Option (Int32 × (Nat → Int32)) :=
  k_b1 (p_X8_within a1 0 95) fun r1 =>
  if r1 = 0 then
    some ((-1), f_sr_tide)
  else
    k_b1 (p_X8_within a2 0 60) fun r3 =>
    if r3 = 0 then
      some ((-1), f_sr_tide)
    else
      k_ix a1 96 (
        k_ix a1 96 (
          some (f_sr_tide a1.toNatClampNeg, upd f_sr_tide a1.toNatClampNeg a2)))
def lb_X8_tides_41 (a2 : Int32) (a3 : Int64) (a1 : Int32) (x5_18 : Int32) (c_sr_tide_19 : Nat → Int32) : Option ((Int32 × (Nat → Int32)) ⊕ ((Nat → Int32))) :=
  if a2 ≤ x5_18 then
    some (.inr c_sr_tide_19)
  else
    k_b1 (p_X8_eightBits a3 x5_18) fun r21 =>
    k_ix (a1 + x5_18) 96 (
      some (.inl (x5_18 + 1, upd c_sr_tide_19 (a1 + x5_18).toNatClampNeg r21)))
def p_X8_tides (f_sr_tide : Nat → Int32) (a1 : Int32) (a2 : Int32) (a3 : Int64) : Option (Int32 × (Nat → Int32)) :=
  k_b1 (p_X8_within a1 0 95) fun r1 =>
  if r1 = 0 then
    some ((-1), f_sr_tide)
  else
    k_b1 (p_X8_within a2 1 8) fun r3 =>
    if r3 = 0 then
      some ((-1), f_sr_tide)
    else
      if 96 < (a1 + a2) then
        some ((-1), f_sr_tide)
      else
        k_b1 (p_X8_areTides a2 a3) fun r6 =>
        if r6 = 0 then
          some ((-1), f_sr_tide)
        else
          k_b1 (k_lp (fun s => lb_X8_tides_41 a2 a3 a1 s.1 s.2) k_fuel (0, f_sr_tide)) fun c_sr_tide_17 =>
          some (a2, c_sr_tide_17)
def p_X8_rain (f_sr_rain : Nat → Int32) (a1 : Int32) (a2 : Int32) : Option (Int32 × (Nat → Int32)) :=
  k_b1 (p_X8_within a1 0 95) fun r1 =>
  if r1 = 0 then
    some ((-1), f_sr_rain)
  else
    k_ix a1 96 (
      k_ix a1 96 (
        k_b1 (p_X8_asNumber (f_sr_rain a1.toNatClampNeg)) fun r5 =>
        some (r5, upd f_sr_rain a1.toNatClampNeg (vp_nar .boolean a2))))
def p_X8_thing (v_h_now_th_out : Int32) (v_h_now_th_size : Int32) (f_h_now_th_weight : Nat → Int32) (f_h_now_th_under : Nat → Int32) (a1 : Int32) (a2 : Int32) : Option (Int32 × Int32 × (Nat → Int32) × (Nat → Int32)) :=
  k_b1 (p_X8_within a1 1 100) fun r1 =>
  if r1 = 0 then
    some ((-1), v_h_now_th_size, f_h_now_th_weight, f_h_now_th_under)
  else
    k_b1 (p_X8_within a2 (-1) (v_h_now_th_size - 1)) fun r3 =>
    if r3 = 0 then
      some ((-1), v_h_now_th_size, f_h_now_th_weight, f_h_now_th_under)
    else
      if a2 < 0 then
        if v_h_now_th_size < 12 then
          k_b4 (p_X7_add v_h_now_th_size f_h_now_th_weight f_h_now_th_under a1 a2) fun r7 w_h_now_th_size_8 w_h_now_th_weight_9 w_h_now_th_under_10 =>
          some (r7, w_h_now_th_size_8, w_h_now_th_weight_9, w_h_now_th_under_10)
        else
          some ((-3), v_h_now_th_size, f_h_now_th_weight, f_h_now_th_under)
      else
        k_b1 (p_X8_hasBit v_h_now_th_out a2) fun r11 =>
        if r11 = 0 then
          if v_h_now_th_size < 12 then
            k_b4 (p_X7_add v_h_now_th_size f_h_now_th_weight f_h_now_th_under a1 a2) fun r14 w_h_now_th_size_15 w_h_now_th_weight_16 w_h_now_th_under_17 =>
            some (r14, w_h_now_th_size_15, w_h_now_th_weight_16, w_h_now_th_under_17)
          else
            some ((-3), v_h_now_th_size, f_h_now_th_weight, f_h_now_th_under)
        else
          some ((-2), v_h_now_th_size, f_h_now_th_weight, f_h_now_th_under)
def p_X8_tackle (v_h_now_ta_whole : Int32) (v_h_now_ta_size : Int32) (f_h_now_ta_mast : Nat → Int32) (f_h_now_ta_parts : Nat → Int32) (f_h_now_ta_strength : Nat → Int32) (a1 : Int32) (a2 : Int32) (a3 : Int32) : Option (Int32 × Int32 × Int32 × (Nat → Int32) × (Nat → Int32) × (Nat → Int32)) :=
  k_b1 (p_X8_within a1 0 2) fun r1 =>
  if r1 = 0 then
    some ((-1), v_h_now_ta_whole, v_h_now_ta_size, f_h_now_ta_mast, f_h_now_ta_parts, f_h_now_ta_strength)
  else
    k_b1 (p_X8_within a2 1 6) fun r3 =>
    if r3 = 0 then
      some ((-1), v_h_now_ta_whole, v_h_now_ta_size, f_h_now_ta_mast, f_h_now_ta_parts, f_h_now_ta_strength)
    else
      k_b1 (p_X8_within a3 1 400) fun r5 =>
      if r5 = 0 then
        some ((-1), v_h_now_ta_whole, v_h_now_ta_size, f_h_now_ta_mast, f_h_now_ta_parts, f_h_now_ta_strength)
      else
        if v_h_now_ta_size < 6 then
          k_b6 (p_X6_add v_h_now_ta_whole v_h_now_ta_size f_h_now_ta_mast f_h_now_ta_parts f_h_now_ta_strength a1 a2 a3) fun r8 w_h_now_ta_whole_9 w_h_now_ta_size_10 w_h_now_ta_mast_11 w_h_now_ta_parts_12 w_h_now_ta_strength_13 =>
          some (r8, w_h_now_ta_whole_9, w_h_now_ta_size_10, w_h_now_ta_mast_11, w_h_now_ta_parts_12, w_h_now_ta_strength_13)
        else
          some ((-3), v_h_now_ta_whole, v_h_now_ta_size, f_h_now_ta_mast, f_h_now_ta_parts, f_h_now_ta_strength)
def p_X8_seam (v_h_now_se_size : Int32) (f_h_now_se_strake : Nat → Int32) (f_h_now_se_side : Nat → Int32) (f_h_now_se_hands : Nat → Int32) (f_h_now_se_hours : Nat → Int32) (f_h_now_se_pitch : Nat → Int32) (f_h_now_se_worth : Nat → Int32) (f_h_now_se_state : Nat → Int32) (f_h_now_se_done : Nat → Int32) (a1 : Int32) (a2 : Int32) (a3 : Int32) (a4 : Int32) (a5 : Int32) (a6 : Int32) : Option (Int32 × Int32 × (Nat → Int32) × (Nat → Int32) × (Nat → Int32) × (Nat → Int32) × (Nat → Int32) × (Nat → Int32) × (Nat → Int32) × (Nat → Int32)) :=
  k_b1 (p_X8_within a1 1 10) fun r1 =>
  if r1 = 0 then
    some ((-1), v_h_now_se_size, f_h_now_se_strake, f_h_now_se_side, f_h_now_se_hands, f_h_now_se_hours, f_h_now_se_pitch, f_h_now_se_worth, f_h_now_se_state, f_h_now_se_done)
  else
    k_b1 (p_X8_within a2 0 1) fun r3 =>
    if r3 = 0 then
      some ((-1), v_h_now_se_size, f_h_now_se_strake, f_h_now_se_side, f_h_now_se_hands, f_h_now_se_hours, f_h_now_se_pitch, f_h_now_se_worth, f_h_now_se_state, f_h_now_se_done)
    else
      k_b1 (p_X8_within a3 1 6) fun r5 =>
      if r5 = 0 then
        some ((-1), v_h_now_se_size, f_h_now_se_strake, f_h_now_se_side, f_h_now_se_hands, f_h_now_se_hours, f_h_now_se_pitch, f_h_now_se_worth, f_h_now_se_state, f_h_now_se_done)
      else
        k_b1 (p_X8_within a4 1 4) fun r7 =>
        if r7 = 0 then
          some ((-1), v_h_now_se_size, f_h_now_se_strake, f_h_now_se_side, f_h_now_se_hands, f_h_now_se_hours, f_h_now_se_pitch, f_h_now_se_worth, f_h_now_se_state, f_h_now_se_done)
        else
          k_b1 (p_X8_within a5 0 50) fun r9 =>
          if r9 = 0 then
            some ((-1), v_h_now_se_size, f_h_now_se_strake, f_h_now_se_side, f_h_now_se_hands, f_h_now_se_hours, f_h_now_se_pitch, f_h_now_se_worth, f_h_now_se_state, f_h_now_se_done)
          else
            k_b1 (p_X8_within a6 1 100) fun r11 =>
            if r11 = 0 then
              some ((-1), v_h_now_se_size, f_h_now_se_strake, f_h_now_se_side, f_h_now_se_hands, f_h_now_se_hours, f_h_now_se_pitch, f_h_now_se_worth, f_h_now_se_state, f_h_now_se_done)
            else
              if v_h_now_se_size < 12 then
                k_b10 (p_X3_add v_h_now_se_size f_h_now_se_strake f_h_now_se_side f_h_now_se_hands f_h_now_se_hours f_h_now_se_pitch f_h_now_se_worth f_h_now_se_state f_h_now_se_done a1 a2 a3 a4 a5 a6) fun r14 w_h_now_se_size_15 w_h_now_se_strake_16 w_h_now_se_side_17 w_h_now_se_hands_18 w_h_now_se_hours_19 w_h_now_se_pitch_20 w_h_now_se_worth_21 w_h_now_se_state_22 w_h_now_se_done_23 =>
                some (r14, w_h_now_se_size_15, w_h_now_se_strake_16, w_h_now_se_side_17, w_h_now_se_hands_18, w_h_now_se_hours_19, w_h_now_se_pitch_20, w_h_now_se_worth_21, w_h_now_se_state_22, w_h_now_se_done_23)
              else
                some ((-3), v_h_now_se_size, f_h_now_se_strake, f_h_now_se_side, f_h_now_se_hands, f_h_now_se_hours, f_h_now_se_pitch, f_h_now_se_worth, f_h_now_se_state, f_h_now_se_done)
def p_X8_ship (v_h_now_hour : Int32) (v_h_now_heel : Int32) (v_h_now_water : Int32) (f_sr_rules : Nat → Int32) (v_h_now_th_out : Int32) (v_h_now_th_size : Int32) (f_h_now_th_weight : Nat → Int32) (f_sr_tide : Nat → Int32) (v_h_now_se_size : Int32) (f_h_now_se_state : Nat → Int32) (f_sr_rain : Nat → Int32) (v_h_now_ta_whole : Int32) (v_h_now_ta_size : Int32) (f_h_now_ta_parts : Nat → Int32) (f_h_now_ta_strength : Nat → Int32) (f_h_now_ta_mast : Nat → Int32) (a1 : Int32) : Option (Int32) :=
  if a1 = 0 then
    k_b1 (p_X4_total f_sr_rules v_h_now_th_out v_h_now_th_size f_h_now_th_weight) fun r2 =>
    some r2
  else
  if a1 = 1 then
    k_b1 (p_X4_total f_sr_rules v_h_now_th_out v_h_now_th_size f_h_now_th_weight) fun r4 =>
    k_b1 (p_X8_draught r4) fun r5 =>
    some r5
  else
  if a1 = 2 then
    some v_h_now_heel
  else
  if a1 = 3 then
    k_b1 (p_X4_force f_sr_rules v_h_now_th_out v_h_now_th_size f_h_now_th_weight v_h_now_heel) fun r8 =>
    some r8
  else
  if a1 = 4 then
    some v_h_now_water
  else
  if a1 = 5 then
    k_b1 (p_X4_floats v_h_now_hour v_h_now_heel f_sr_rules v_h_now_th_out v_h_now_th_size f_h_now_th_weight f_sr_tide v_h_now_se_size f_h_now_se_state) fun r11 =>
    k_b1 (p_X8_asNumber r11) fun r12 =>
    some r12
  else
  if a1 = 6 then
    k_b1 (p_X5_rainsIn f_sr_rain v_h_now_hour) fun r14 =>
    k_b1 (p_X4_holds f_sr_rules v_h_now_th_out v_h_now_th_size f_h_now_th_weight v_h_now_ta_whole v_h_now_ta_size f_h_now_ta_parts f_h_now_ta_strength f_h_now_ta_mast v_h_now_heel r14) fun r15 =>
    k_b1 (p_X8_asNumber r15) fun r16 =>
    some r16
  else
  if a1 = 7 then
    k_b1 (p_X4_isLost v_h_now_water) fun r18 =>
    k_b1 (p_X8_asNumber r18) fun r19 =>
    some r19
  else
    some (-100)
def lb_X8_greatest_3 (f_sr_rules : Nat → Int32) (v_h_now_th_out : Int32) (v_h_now_th_size : Int32) (f_h_now_th_weight : Nat → Int32) (v_h_now_ta_whole : Int32) (v_h_now_ta_size : Int32) (f_h_now_ta_parts : Nat → Int32) (f_h_now_ta_strength : Nat → Int32) (f_h_now_ta_mast : Nat → Int32) (a1 : Int32) (x2_9 : Int32) : Option ((Int32) ⊕ (Int32)) :=
  if x2_9 ≤ 0 then
    some (.inr x2_9)
  else
    k_b1 (p_X4_holds f_sr_rules v_h_now_th_out v_h_now_th_size f_h_now_th_weight v_h_now_ta_whole v_h_now_ta_size f_h_now_ta_parts f_h_now_ta_strength f_h_now_ta_mast x2_9 a1) fun r11 =>
    if r11 = 0 then
      some (.inl (x2_9 + (-1)))
    else
      some (.inr x2_9)
def p_X8_greatest (f_sr_rules : Nat → Int32) (v_h_now_th_out : Int32) (v_h_now_th_size : Int32) (f_h_now_th_weight : Nat → Int32) (v_h_now_ta_whole : Int32) (v_h_now_ta_size : Int32) (f_h_now_ta_parts : Nat → Int32) (f_h_now_ta_strength : Nat → Int32) (f_h_now_ta_mast : Nat → Int32) (a1 : Int32) : Option (Int32) :=
  k_b1 (k_lp (fun s => lb_X8_greatest_3 f_sr_rules v_h_now_th_out v_h_now_th_size f_h_now_th_weight v_h_now_ta_whole v_h_now_ta_size f_h_now_ta_parts f_h_now_ta_strength f_h_now_ta_mast a1 s) k_fuel 9) fun x2_8 =>
  some x2_8
def p_X8_seamTold (v_h_now_hour : Int32) (v_h_now_heel : Int32) (v_h_now_se_size : Int32) (f_h_now_se_state : Nat → Int32) (f_sr_tide : Nat → Int32) (f_h_now_se_strake : Nat → Int32) (f_h_now_se_side : Nat → Int32) (f_h_now_se_done : Nat → Int32) (a1 : Int32) (a2 : Int32) : Option (Int32) :=
  k_b1 (p_X8_within a1 0 (v_h_now_se_size - 1)) fun r1 =>
  if r1 = 0 then
    some (-1)
  else
    if a2 = 0 then
      k_ix a1 12 (
        some (f_h_now_se_state a1.toNatClampNeg))
    else
    if a2 = 1 then
      k_b1 (p_X4_isBare v_h_now_heel f_sr_tide f_h_now_se_strake f_h_now_se_side a1 v_h_now_hour) fun r6 =>
      k_b1 (p_X8_asNumber r6) fun r7 =>
      some r7
    else
    if a2 = 2 then
      k_ix a1 12 (
        some (f_h_now_se_done a1.toNatClampNeg))
    else
    if a2 = 3 then
      k_b1 (p_X4_hoursBare v_h_now_hour v_h_now_heel f_sr_tide f_h_now_se_strake f_h_now_se_side a1) fun r11 =>
      some r11
    else
      some (-1)
def p_X8_tap (f_h_planks_tapped : Nat → Int32) (a1 : Int32) (a2 : Int32) : Option (Int32 × (Nat → Int32)) :=
  k_b1 (p_X8_within a1 0 29) fun r1 =>
  if r1 = 0 then
    some ((-100), f_h_planks_tapped)
  else
    k_b1 (p_X8_within a2 (-1) 1) fun r3 =>
    if r3 = 0 then
      some ((-100), f_h_planks_tapped)
    else
      k_ix a1 30 (
        k_ix a1 30 (
          some (f_h_planks_tapped a1.toNatClampNeg, upd f_h_planks_tapped a1.toNatClampNeg a2)))
def p_X8_worm (f_h_planks_tapped : Nat → Int32) (a1 : Int32) (a2 : Int32) : Option (Int32) :=
  k_b1 (p_X8_within a1 1 30) fun r1 =>
  if r1 = 0 then
    some (-1)
  else
    if a2 = 0 then
      k_b1 (p_X1_least f_h_planks_tapped a1) fun r4 =>
      some r4
    else
    if a2 = 1 then
      k_b1 (p_X1_most f_h_planks_tapped a1) fun r6 =>
      some r6
    else
    if a2 = 2 then
      k_b1 (p_X1_leastRuns f_h_planks_tapped a1) fun r8 =>
      some r8
    else
    if a2 = 3 then
      k_b1 (p_X1_mostRuns f_h_planks_tapped a1) fun r10 =>
      some r10
    else
      some (-1)
def p_X8_book (v_h_now_pitch : Int32) (v_h_now_pitchTaken : Int32) (v_h_now_hoursOfMen : Int32) (v_h_now_parted : Int32) (v_h_now_moved : Int32) (v_h_now_se_size : Int32) (f_h_now_se_state : Nat → Int32) (f_h_now_se_worth : Nat → Int32) (a1 : Int32) : Option (Int32) :=
  if a1 = 0 then
    some v_h_now_pitchTaken
  else
  if a1 = 1 then
    some v_h_now_hoursOfMen
  else
  if a1 = 2 then
    some v_h_now_parted
  else
  if a1 = 3 then
    some v_h_now_moved
  else
  if a1 = 4 then
    k_b1 (p_X3_worthTight v_h_now_se_size f_h_now_se_state f_h_now_se_worth) fun r6 =>
    some r6
  else
  if a1 = 5 then
    some v_h_now_pitch
  else
    some (-1)
def p_X8_count (v_h_keptSize : Int32) (v_h_now_hour : Int32) (v_h_now_th_out : Int32) (v_h_now_th_size : Int32) (v_h_now_ta_whole : Int32) (v_h_now_ta_size : Int32) (v_h_now_se_size : Int32) (f_h_now_se_state : Nat → Int32) (a1 : Int32) : Option (Int32) :=
  if a1 = 0 then
    some v_h_now_th_size
  else
  if a1 = 1 then
    k_b1 (p_J6_bitCount_0f7a4 v_h_now_th_out) fun r3 =>
    some (v_h_now_th_size - r3)
  else
  if a1 = 2 then
    some v_h_now_ta_size
  else
  if a1 = 3 then
    k_b1 (p_J6_bitCount_0f7a4 v_h_now_ta_whole) fun r6 =>
    some r6
  else
  if a1 = 4 then
    some v_h_now_se_size
  else
  if a1 = 5 then
    k_b1 (p_X3_bitsOf v_h_now_se_size f_h_now_se_state 1) fun r9 =>
    k_b1 (p_J6_bitCount_0f7a4 r9) fun r10 =>
    some r10
  else
  if a1 = 6 then
    k_b1 (p_X3_bitsOf v_h_now_se_size f_h_now_se_state 2) fun r12 =>
    k_b1 (p_J6_bitCount_0f7a4 r12) fun r13 =>
    some r13
  else
  if a1 = 7 then
    some v_h_now_hour
  else
  if a1 = 8 then
    some v_h_keptSize
  else
    some (-1)
def p_X8_tackleTold (v_h_now_hour : Int32) (v_h_now_heel : Int32) (v_h_now_ta_whole : Int32) (v_h_now_ta_size : Int32) (f_sr_rules : Nat → Int32) (v_h_now_th_out : Int32) (v_h_now_th_size : Int32) (f_h_now_th_weight : Nat → Int32) (f_h_now_ta_parts : Nat → Int32) (f_sr_rain : Nat → Int32) (f_h_now_ta_strength : Nat → Int32) (a1 : Int32) (a2 : Int32) : Option (Int32) :=
  k_b1 (p_X8_within a1 0 (v_h_now_ta_size - 1)) fun r1 =>
  if r1 = 0 then
    some (-1)
  else
    k_b1 (p_X8_within a2 0 3) fun r3 =>
    if r3 = 0 then
      some (-1)
    else
      k_b1 (p_X8_hasBit v_h_now_ta_whole a1) fun r5 =>
      if r5 = 0 then
        some 0
      else
        k_b1 (p_X4_force f_sr_rules v_h_now_th_out v_h_now_th_size f_h_now_th_weight v_h_now_heel) fun r7 =>
        k_b1 (p_X6_share v_h_now_ta_whole r7) fun r8 =>
        if a2 = 0 then
          some r8
        else
        if a2 = 1 then
          k_b1 (p_X6_ropeTakes f_h_now_ta_parts a1 r8) fun r11 =>
          some r11
        else
        if a2 = 2 then
          k_b1 (p_X5_rainsIn f_sr_rain v_h_now_hour) fun r13 =>
          k_b1 (p_X6_ropeMay f_h_now_ta_strength a1 r13) fun r14 =>
          some r14
        else
          some 1
def p_X8_move (v_h_now_water : Int32) (v_h_now_boatUsed : Int32) (v_h_now_moved : Int32) (v_h_now_th_out : Int32) (v_h_now_th_size : Int32) (f_h_now_th_under : Nat → Int32) (f_sr_rules : Nat → Int32) (f_h_now_th_weight : Nat → Int32) (a1 : Int32) : Option (Int32 × Int32 × Int32 × Int32) :=
  k_b1 (p_X8_within a1 0 (v_h_now_th_size - 1)) fun r1 =>
  if r1 = 0 then
    some ((-1), v_h_now_boatUsed, v_h_now_moved, v_h_now_th_out)
  else
    if v_h_now_boatUsed = 0 then
      k_b1 (p_X4_isLost v_h_now_water) fun r4 =>
      if r4 = 0 then
        k_b1 (p_X7_mayMove v_h_now_th_out v_h_now_th_size f_h_now_th_under a1) fun r6 =>
        if r6 = 0 then
          some ((-2), v_h_now_boatUsed, v_h_now_moved, v_h_now_th_out)
        else
          k_b3 (p_X4_moveByBoat v_h_now_moved v_h_now_th_out a1) fun w_h_now_boatUsed_8 w_h_now_moved_9 w_h_now_th_out_10 =>
          k_b1 (p_X4_total f_sr_rules w_h_now_th_out_10 v_h_now_th_size f_h_now_th_weight) fun r11 =>
          some (r11, w_h_now_boatUsed_8, w_h_now_moved_9, w_h_now_th_out_10)
      else
        some ((-2), v_h_now_boatUsed, v_h_now_moved, v_h_now_th_out)
    else
      some ((-2), v_h_now_boatUsed, v_h_now_moved, v_h_now_th_out)
def p_X8_heel (v_h_now_hour : Int32) (v_h_now_heel : Int32) (v_h_now_water : Int32) (v_h_now_heelWent : Int32) (f_sr_rain : Nat → Int32) (f_sr_rules : Nat → Int32) (v_h_now_th_out : Int32) (v_h_now_th_size : Int32) (f_h_now_th_weight : Nat → Int32) (v_h_now_ta_whole : Int32) (v_h_now_ta_size : Int32) (f_h_now_ta_parts : Nat → Int32) (f_h_now_ta_strength : Nat → Int32) (f_h_now_ta_mast : Nat → Int32) (a1 : Int32) : Option (Int32 × Int32 × Int32) :=
  if a1 = 1 then
    if v_h_now_heelWent = 0 then
      k_b1 (p_X4_isLost v_h_now_water) fun r3 =>
      if r3 = 0 then
        k_b1 (p_X8_within (v_h_now_heel + a1) (-9) 9) fun r5 =>
        if r5 = 0 then
          some ((-102), v_h_now_heel, v_h_now_heelWent)
        else
          k_b1 (p_X5_rainsIn f_sr_rain v_h_now_hour) fun r7 =>
          k_b1 (p_X4_holds f_sr_rules v_h_now_th_out v_h_now_th_size f_h_now_th_weight v_h_now_ta_whole v_h_now_ta_size f_h_now_ta_parts f_h_now_ta_strength f_h_now_ta_mast (v_h_now_heel + a1) r7) fun r8 =>
          if r8 = 0 then
            some ((-102), v_h_now_heel, v_h_now_heelWent)
          else
            some (v_h_now_heel + a1, v_h_now_heel + a1, 1)
      else
        some ((-102), v_h_now_heel, v_h_now_heelWent)
    else
      some ((-102), v_h_now_heel, v_h_now_heelWent)
  else
    if a1 = (-1) then
      if v_h_now_heelWent = 0 then
        k_b1 (p_X4_isLost v_h_now_water) fun r12 =>
        if r12 = 0 then
          k_b1 (p_X8_within (v_h_now_heel + a1) (-9) 9) fun r14 =>
          if r14 = 0 then
            some ((-102), v_h_now_heel, v_h_now_heelWent)
          else
            k_b1 (p_X5_rainsIn f_sr_rain v_h_now_hour) fun r16 =>
            k_b1 (p_X4_holds f_sr_rules v_h_now_th_out v_h_now_th_size f_h_now_th_weight v_h_now_ta_whole v_h_now_ta_size f_h_now_ta_parts f_h_now_ta_strength f_h_now_ta_mast (v_h_now_heel + a1) r16) fun r17 =>
            if r17 = 0 then
              some ((-102), v_h_now_heel, v_h_now_heelWent)
            else
              some (v_h_now_heel + a1, v_h_now_heel + a1, 1)
        else
          some ((-102), v_h_now_heel, v_h_now_heelWent)
      else
        some ((-102), v_h_now_heel, v_h_now_heelWent)
    else
      some ((-100), v_h_now_heel, v_h_now_heelWent)
def p_X8_hour (v_h_now_hour : Int32) (v_h_now_heel : Int32) (v_h_now_water : Int32) (v_h_now_pitch : Int32) (v_h_now_boatUsed : Int32) (v_h_now_heelWent : Int32) (v_h_now_pitchTaken : Int32) (v_h_now_hoursOfMen : Int32) (v_h_now_parted : Int32) (v_h_now_se_size : Int32) (f_sr_rain : Nat → Int32) (f_h_now_se_state : Nat → Int32) (f_sr_tide : Nat → Int32) (f_h_now_se_strake : Nat → Int32) (f_h_now_se_side : Nat → Int32) (f_sr_rules : Nat → Int32) (v_h_now_th_out : Int32) (v_h_now_th_size : Int32) (f_h_now_th_weight : Nat → Int32) (v_h_now_ta_whole : Int32) (v_h_now_ta_size : Int32) (f_h_now_ta_parts : Nat → Int32) (f_h_now_ta_strength : Nat → Int32) (f_h_now_ta_mast : Nat → Int32) (f_h_now_se_hands : Nat → Int32) (f_h_now_se_done : Nat → Int32) (f_h_now_se_pitch : Nat → Int32) (f_h_now_se_hours : Nat → Int32) (a1 : Int32) : Option (Int32 × Int32 × Int32 × Int32 × Int32 × Int32 × Int32 × Int32 × Int32 × Int32 × (Nat → Int32) × Int32 × (Nat → Int32)) :=
  if (((a1).toUInt32 >>> ((v_h_now_se_size).toUInt32 &&& Int32.toUInt32 31)).toInt32) = 0 then
    k_b1 (p_X4_isLost v_h_now_water) fun r2 =>
    if r2 = 0 then
      if v_h_now_hour < 96 then
        k_b12 (p_X4_passHour v_h_now_hour v_h_now_heel v_h_now_water v_h_now_pitch v_h_now_pitchTaken v_h_now_hoursOfMen v_h_now_parted f_sr_rain v_h_now_se_size f_h_now_se_state f_sr_tide f_h_now_se_strake f_h_now_se_side f_sr_rules v_h_now_th_out v_h_now_th_size f_h_now_th_weight v_h_now_ta_whole v_h_now_ta_size f_h_now_ta_parts f_h_now_ta_strength f_h_now_ta_mast f_h_now_se_hands f_h_now_se_done f_h_now_se_pitch f_h_now_se_hours a1) fun w_h_now_hour_5 w_h_now_heel_6 w_h_now_water_7 w_h_now_pitch_8 w_h_now_boatUsed_9 w_h_now_heelWent_10 w_h_now_pitchTaken_11 w_h_now_hoursOfMen_12 w_h_now_parted_13 w_h_now_se_state_14 w_h_now_ta_whole_15 w_h_now_se_done_16 =>
        some (w_h_now_water_7, w_h_now_hour_5, w_h_now_heel_6, w_h_now_water_7, w_h_now_pitch_8, w_h_now_boatUsed_9, w_h_now_heelWent_10, w_h_now_pitchTaken_11, w_h_now_hoursOfMen_12, w_h_now_parted_13, w_h_now_se_state_14, w_h_now_ta_whole_15, w_h_now_se_done_16)
      else
        some ((-2), v_h_now_hour, v_h_now_heel, v_h_now_water, v_h_now_pitch, v_h_now_boatUsed, v_h_now_heelWent, v_h_now_pitchTaken, v_h_now_hoursOfMen, v_h_now_parted, f_h_now_se_state, v_h_now_ta_whole, f_h_now_se_done)
    else
      some ((-2), v_h_now_hour, v_h_now_heel, v_h_now_water, v_h_now_pitch, v_h_now_boatUsed, v_h_now_heelWent, v_h_now_pitchTaken, v_h_now_hoursOfMen, v_h_now_parted, f_h_now_se_state, v_h_now_ta_whole, f_h_now_se_done)
  else
    some ((-1), v_h_now_hour, v_h_now_heel, v_h_now_water, v_h_now_pitch, v_h_now_boatUsed, v_h_now_heelWent, v_h_now_pitchTaken, v_h_now_hoursOfMen, v_h_now_parted, f_h_now_se_state, v_h_now_ta_whole, f_h_now_se_done)
def p_X8_rig (v_h_now_hour : Int32) (v_h_now_heel : Int32) (v_h_now_ta_whole : Int32) (v_h_now_ta_size : Int32) (f_sr_rain : Nat → Int32) (f_sr_rules : Nat → Int32) (v_h_now_th_out : Int32) (v_h_now_th_size : Int32) (f_h_now_th_weight : Nat → Int32) (f_h_now_ta_parts : Nat → Int32) (f_h_now_ta_strength : Nat → Int32) (f_h_now_ta_mast : Nat → Int32) (a1 : Int32) (a2 : Int32) : Option (Int32 × Int32) :=
  k_b1 (p_X8_within a1 0 (v_h_now_ta_size - 1)) fun r1 =>
  if r1 = 0 then
    some ((-1), v_h_now_ta_whole)
  else
    if a2 = 0 then
      k_b1 (p_X5_rainsIn f_sr_rain v_h_now_hour) fun r4 =>
      k_b1 (p_X4_holds f_sr_rules v_h_now_th_out v_h_now_th_size f_h_now_th_weight (v_h_now_ta_whole &&& ((1 <<< (a1 &&& 31)) ^^^ (-1))) v_h_now_ta_size f_h_now_ta_parts f_h_now_ta_strength f_h_now_ta_mast v_h_now_heel r4) fun r5 =>
      if r5 = 0 then
        some ((-2), v_h_now_ta_whole)
      else
        k_b1 (p_X8_hasBit v_h_now_ta_whole a1) fun r7 =>
        k_b1 (p_X8_asNumber r7) fun r8 =>
        some (r8, v_h_now_ta_whole &&& ((1 <<< (a1 &&& 31)) ^^^ (-1)))
    else
      k_b1 (p_X5_rainsIn f_sr_rain v_h_now_hour) fun r9 =>
      k_b1 (p_X4_holds f_sr_rules v_h_now_th_out v_h_now_th_size f_h_now_th_weight (v_h_now_ta_whole ||| (1 <<< (a1 &&& 31))) v_h_now_ta_size f_h_now_ta_parts f_h_now_ta_strength f_h_now_ta_mast v_h_now_heel r9) fun r10 =>
      if r10 = 0 then
        some ((-2), v_h_now_ta_whole)
      else
        k_b1 (p_X8_hasBit v_h_now_ta_whole a1) fun r12 =>
        k_b1 (p_X8_asNumber r12) fun r13 =>
        some (r13, v_h_now_ta_whole ||| (1 <<< (a1 &&& 31)))
def p_X8_mayPlan (v_h_now_hour : Int32) (v_h_now_water : Int32) (a1 : Int32) : Option (Int32) :=
  k_b1 (p_X4_isLost v_h_now_water) fun r1 =>
  if r1 = 0 then
    if 96 < (v_h_now_hour + a1) then
      some 0
    else
      some 1
  else
    some 0
noncomputable def p_X8_plan (v_h_now_hour : Int32) (v_h_now_heel : Int32) (v_h_now_water : Int32) (v_h_now_pitch : Int32) (v_h_now_se_size : Int32) (v_h_planner_menShort : Int64) (v_h_planner_size : Int32) (v_h_planner_planned : Int32) (v_h_planner_worth : Int32) (v_h_planner_pitch : Int32) (f_h_now_se_state : Nat → Int32) (f_h_planner_seam : Nat → Int32) (f_h_now_se_hours : Nat → Int32) (f_h_now_se_done : Nat → Int32) (f_h_planner_hours : Nat → Int32) (f_sr_rain : Nat → Int32) (f_sr_tide : Nat → Int32) (f_h_now_se_strake : Nat → Int32) (f_h_now_se_side : Nat → Int32) (f_h_planner_mayBegin : Nat → Int32) (f_h_planner_hands : Nat → Int64) (f_h_now_se_hands : Nat → Int32) (f_sr_rules : Nat → Int32) (f_h_now_se_pitch : Nat → Int32) (f_h_now_se_worth : Nat → Int32) (f_h_planner_tried : Nat → Int32) (f_h_planner_begins : Nat → Int32) (a1 : Int32) (a2 : Int32) : Option (Int32 × Int64 × Int32 × Int32 × Int32 × Int32 × (Nat → Int32) × (Nat → Int32) × (Nat → Int32) × (Nat → Int64) × (Nat → Int32) × (Nat → Int32)) :=
  k_b1 (p_X8_within a1 1 6) fun r1 =>
  if r1 = 0 then
    some ((-1), v_h_planner_menShort, v_h_planner_size, v_h_planner_planned, v_h_planner_worth, v_h_planner_pitch, f_h_planner_seam, f_h_planner_hours, f_h_planner_mayBegin, f_h_planner_hands, f_h_planner_tried, f_h_planner_begins)
  else
    k_b1 (p_X8_within a2 0 (2 + v_h_now_se_size)) fun r3 =>
    if r3 = 0 then
      some ((-1), v_h_planner_menShort, v_h_planner_size, v_h_planner_planned, v_h_planner_worth, v_h_planner_pitch, f_h_planner_seam, f_h_planner_hours, f_h_planner_mayBegin, f_h_planner_hands, f_h_planner_tried, f_h_planner_begins)
    else
      k_b1 (p_X8_mayPlan v_h_now_hour v_h_now_water a1) fun r5 =>
      if r5 = 0 then
        some ((-2), v_h_planner_menShort, v_h_planner_size, v_h_planner_planned, v_h_planner_worth, v_h_planner_pitch, f_h_planner_seam, f_h_planner_hours, f_h_planner_mayBegin, f_h_planner_hands, f_h_planner_tried, f_h_planner_begins)
      else
        k_b11 (p_X2_make v_h_now_hour v_h_now_heel v_h_now_pitch v_h_now_se_size f_h_now_se_state f_h_planner_seam f_h_now_se_hours f_h_now_se_done f_h_planner_hours f_sr_rain f_sr_tide f_h_now_se_strake f_h_now_se_side f_h_planner_mayBegin f_h_planner_hands f_h_now_se_hands f_sr_rules f_h_now_se_pitch f_h_now_se_worth f_h_planner_tried f_h_planner_begins a1) fun w_h_planner_menShort_7 w_h_planner_size_8 w_h_planner_planned_9 w_h_planner_worth_10 w_h_planner_pitch_11 w_h_planner_seam_12 w_h_planner_hours_13 w_h_planner_mayBegin_14 w_h_planner_hands_15 w_h_planner_tried_16 w_h_planner_begins_17 =>
        if a2 = 0 then
          some (w_h_planner_worth_10, w_h_planner_menShort_7, w_h_planner_size_8, w_h_planner_planned_9, w_h_planner_worth_10, w_h_planner_pitch_11, w_h_planner_seam_12, w_h_planner_hours_13, w_h_planner_mayBegin_14, w_h_planner_hands_15, w_h_planner_tried_16, w_h_planner_begins_17)
        else
        if a2 = 1 then
          some (w_h_planner_pitch_11, w_h_planner_menShort_7, w_h_planner_size_8, w_h_planner_planned_9, w_h_planner_worth_10, w_h_planner_pitch_11, w_h_planner_seam_12, w_h_planner_hours_13, w_h_planner_mayBegin_14, w_h_planner_hands_15, w_h_planner_tried_16, w_h_planner_begins_17)
        else
        if a2 = 2 then
          k_b1 (p_X2_seamBits w_h_planner_size_8 w_h_planner_planned_9 w_h_planner_seam_12) fun r21 =>
          some (r21, w_h_planner_menShort_7, w_h_planner_size_8, w_h_planner_planned_9, w_h_planner_worth_10, w_h_planner_pitch_11, w_h_planner_seam_12, w_h_planner_hours_13, w_h_planner_mayBegin_14, w_h_planner_hands_15, w_h_planner_tried_16, w_h_planner_begins_17)
        else
          k_b1 (p_X2_beginningOf w_h_planner_size_8 w_h_planner_planned_9 w_h_planner_seam_12 w_h_planner_begins_17 (a2 - 3)) fun r22 =>
          some (r22, w_h_planner_menShort_7, w_h_planner_size_8, w_h_planner_planned_9, w_h_planner_worth_10, w_h_planner_pitch_11, w_h_planner_seam_12, w_h_planner_hours_13, w_h_planner_mayBegin_14, w_h_planner_hands_15, w_h_planner_tried_16, w_h_planner_begins_17)
noncomputable def p_X8_orders (v_h_now_hour : Int32) (v_h_now_heel : Int32) (v_h_now_water : Int32) (v_h_now_pitch : Int32) (v_h_planner_menShort : Int64) (v_h_planner_size : Int32) (v_h_planner_planned : Int32) (v_h_planner_worth : Int32) (v_h_planner_pitch : Int32) (v_h_now_se_size : Int32) (f_h_now_se_state : Nat → Int32) (f_h_planner_seam : Nat → Int32) (f_h_now_se_hours : Nat → Int32) (f_h_now_se_done : Nat → Int32) (f_h_planner_hours : Nat → Int32) (f_sr_rain : Nat → Int32) (f_sr_tide : Nat → Int32) (f_h_now_se_strake : Nat → Int32) (f_h_now_se_side : Nat → Int32) (f_h_planner_mayBegin : Nat → Int32) (f_h_planner_hands : Nat → Int64) (f_h_now_se_hands : Nat → Int32) (f_sr_rules : Nat → Int32) (f_h_now_se_pitch : Nat → Int32) (f_h_now_se_worth : Nat → Int32) (f_h_planner_tried : Nat → Int32) (f_h_planner_begins : Nat → Int32) (a1 : Int32) (a2 : Int32) : Option (Int32 × Int64 × Int32 × Int32 × Int32 × Int32 × (Nat → Int32) × (Nat → Int32) × (Nat → Int32) × (Nat → Int64) × (Nat → Int32) × (Nat → Int32)) :=
  k_b1 (p_X8_within a1 1 6) fun r1 =>
  if r1 = 0 then
    some ((-1), v_h_planner_menShort, v_h_planner_size, v_h_planner_planned, v_h_planner_worth, v_h_planner_pitch, f_h_planner_seam, f_h_planner_hours, f_h_planner_mayBegin, f_h_planner_hands, f_h_planner_tried, f_h_planner_begins)
  else
    k_b1 (p_X8_within a2 0 (a1 - 1)) fun r3 =>
    if r3 = 0 then
      some ((-1), v_h_planner_menShort, v_h_planner_size, v_h_planner_planned, v_h_planner_worth, v_h_planner_pitch, f_h_planner_seam, f_h_planner_hours, f_h_planner_mayBegin, f_h_planner_hands, f_h_planner_tried, f_h_planner_begins)
    else
      k_b1 (p_X8_mayPlan v_h_now_hour v_h_now_water a1) fun r5 =>
      if r5 = 0 then
        some ((-2), v_h_planner_menShort, v_h_planner_size, v_h_planner_planned, v_h_planner_worth, v_h_planner_pitch, f_h_planner_seam, f_h_planner_hours, f_h_planner_mayBegin, f_h_planner_hands, f_h_planner_tried, f_h_planner_begins)
      else
        k_b11 (p_X2_make v_h_now_hour v_h_now_heel v_h_now_pitch v_h_now_se_size f_h_now_se_state f_h_planner_seam f_h_now_se_hours f_h_now_se_done f_h_planner_hours f_sr_rain f_sr_tide f_h_now_se_strake f_h_now_se_side f_h_planner_mayBegin f_h_planner_hands f_h_now_se_hands f_sr_rules f_h_now_se_pitch f_h_now_se_worth f_h_planner_tried f_h_planner_begins a1) fun w_h_planner_menShort_7 w_h_planner_size_8 w_h_planner_planned_9 w_h_planner_worth_10 w_h_planner_pitch_11 w_h_planner_seam_12 w_h_planner_hours_13 w_h_planner_mayBegin_14 w_h_planner_hands_15 w_h_planner_tried_16 w_h_planner_begins_17 =>
        k_b1 (p_X2_ordersOf w_h_planner_size_8 w_h_planner_planned_9 w_h_planner_begins_17 w_h_planner_hours_13 w_h_planner_seam_12 a2) fun r18 =>
        some (r18, w_h_planner_menShort_7, w_h_planner_size_8, w_h_planner_planned_9, w_h_planner_worth_10, w_h_planner_pitch_11, w_h_planner_seam_12, w_h_planner_hours_13, w_h_planner_mayBegin_14, w_h_planner_hands_15, w_h_planner_tried_16, w_h_planner_begins_17)
def p_X8_toFloat (v_h_now_hour : Int32) (v_h_now_heel : Int32) (v_h_now_water : Int32) (v_h_now_pitch : Int32) (v_h_now_boatUsed : Int32) (v_h_now_heelWent : Int32) (v_h_now_pitchTaken : Int32) (v_h_now_hoursOfMen : Int32) (v_h_now_parted : Int32) (v_h_now_moved : Int32) (v_h_now_th_out : Int32) (v_h_now_th_size : Int32) (v_h_floating_hour : Int32) (v_h_floating_things : Int32) (v_h_floating_shut : Int32) (v_h_floating_trial_hour : Int32) (v_h_floating_trial_heel : Int32) (v_h_floating_trial_water : Int32) (v_h_floating_trial_pitch : Int32) (v_h_floating_trial_boatUsed : Int32) (v_h_floating_trial_heelWent : Int32) (v_h_floating_trial_pitchTaken : Int32) (v_h_floating_trial_hoursOfMen : Int32) (v_h_floating_trial_parted : Int32) (v_h_floating_trial_moved : Int32) (v_h_floating_trial_th_out : Int32) (v_h_floating_trial_th_size : Int32) (f_h_now_th_weight : Nat → Int32) (f_h_floating_trial_th_weight : Nat → Int32) (f_h_now_th_under : Nat → Int32) (f_h_floating_trial_th_under : Nat → Int32) (v_h_floating_trial_ta_whole : Int32) (v_h_floating_trial_ta_size : Int32) (v_h_now_ta_whole : Int32) (v_h_now_ta_size : Int32) (f_h_now_ta_mast : Nat → Int32) (f_h_floating_trial_ta_mast : Nat → Int32) (f_h_now_ta_parts : Nat → Int32) (f_h_floating_trial_ta_parts : Nat → Int32) (f_h_now_ta_strength : Nat → Int32) (f_h_floating_trial_ta_strength : Nat → Int32) (v_h_floating_trial_se_size : Int32) (v_h_now_se_size : Int32) (f_h_now_se_strake : Nat → Int32) (f_h_floating_trial_se_strake : Nat → Int32) (f_h_now_se_side : Nat → Int32) (f_h_floating_trial_se_side : Nat → Int32) (f_h_now_se_hands : Nat → Int32) (f_h_floating_trial_se_hands : Nat → Int32) (f_h_now_se_hours : Nat → Int32) (f_h_floating_trial_se_hours : Nat → Int32) (f_h_now_se_pitch : Nat → Int32) (f_h_floating_trial_se_pitch : Nat → Int32) (f_h_now_se_worth : Nat → Int32) (f_h_floating_trial_se_worth : Nat → Int32) (f_h_now_se_state : Nat → Int32) (f_h_floating_trial_se_state : Nat → Int32) (f_h_now_se_done : Nat → Int32) (f_h_floating_trial_se_done : Nat → Int32) (f_sr_rain : Nat → Int32) (f_sr_tide : Nat → Int32) (f_sr_rules : Nat → Int32) (a1 : Int32) : Option (Int32 × Int32 × Int32 × Int32 × Int32 × Int32 × Int32 × Int32 × Int32 × Int32 × Int32 × Int32 × Int32 × Int32 × Int32 × Int32 × (Nat → Int32) × (Nat → Int32) × Int32 × Int32 × (Nat → Int32) × (Nat → Int32) × (Nat → Int32) × Int32 × (Nat → Int32) × (Nat → Int32) × (Nat → Int32) × (Nat → Int32) × (Nat → Int32) × (Nat → Int32) × (Nat → Int32) × (Nat → Int32)) :=
  k_b1 (p_X8_within a1 0 2) fun r1 =>
  if r1 = 0 then
    some ((-1), v_h_floating_hour, v_h_floating_things, v_h_floating_shut, v_h_floating_trial_hour, v_h_floating_trial_heel, v_h_floating_trial_water, v_h_floating_trial_pitch, v_h_floating_trial_boatUsed, v_h_floating_trial_heelWent, v_h_floating_trial_pitchTaken, v_h_floating_trial_hoursOfMen, v_h_floating_trial_parted, v_h_floating_trial_moved, v_h_floating_trial_th_out, v_h_floating_trial_th_size, f_h_floating_trial_th_weight, f_h_floating_trial_th_under, v_h_floating_trial_ta_whole, v_h_floating_trial_ta_size, f_h_floating_trial_ta_mast, f_h_floating_trial_ta_parts, f_h_floating_trial_ta_strength, v_h_floating_trial_se_size, f_h_floating_trial_se_strake, f_h_floating_trial_se_side, f_h_floating_trial_se_hands, f_h_floating_trial_se_hours, f_h_floating_trial_se_pitch, f_h_floating_trial_se_worth, f_h_floating_trial_se_state, f_h_floating_trial_se_done)
  else
    k_b1 (p_X4_isLost v_h_now_water) fun r3 =>
    if r3 = 0 then
      k_b1 (p_J6_bitCount_0f7a4 v_h_now_th_out) fun r5 =>
      if r5 ≤ 8 then
        k_b32 (p_X0_isFound v_h_floating_hour v_h_floating_things v_h_floating_shut v_h_now_hour v_h_now_heel v_h_now_water v_h_now_pitch v_h_now_boatUsed v_h_now_heelWent v_h_now_pitchTaken v_h_now_hoursOfMen v_h_now_parted v_h_now_moved v_h_now_th_out v_h_now_th_size f_h_now_th_weight f_h_floating_trial_th_weight f_h_now_th_under f_h_floating_trial_th_under v_h_now_ta_whole v_h_now_ta_size f_h_now_ta_mast f_h_floating_trial_ta_mast f_h_now_ta_parts f_h_floating_trial_ta_parts f_h_now_ta_strength f_h_floating_trial_ta_strength v_h_now_se_size f_h_now_se_strake f_h_floating_trial_se_strake f_h_now_se_side f_h_floating_trial_se_side f_h_now_se_hands f_h_floating_trial_se_hands f_h_now_se_hours f_h_floating_trial_se_hours f_h_now_se_pitch f_h_floating_trial_se_pitch f_h_now_se_worth f_h_floating_trial_se_worth f_h_now_se_state f_h_floating_trial_se_state f_h_now_se_done f_h_floating_trial_se_done f_sr_rain f_sr_tide f_sr_rules) fun r7 w_h_floating_hour_8 w_h_floating_things_9 w_h_floating_shut_10 w_h_floating_trial_hour_11 w_h_floating_trial_heel_12 w_h_floating_trial_water_13 w_h_floating_trial_pitch_14 w_h_floating_trial_boatUsed_15 w_h_floating_trial_heelWent_16 w_h_floating_trial_pitchTaken_17 w_h_floating_trial_hoursOfMen_18 w_h_floating_trial_parted_19 w_h_floating_trial_moved_20 w_h_floating_trial_th_out_21 w_h_floating_trial_th_size_22 w_h_floating_trial_th_weight_23 w_h_floating_trial_th_under_24 w_h_floating_trial_ta_whole_25 w_h_floating_trial_ta_size_26 w_h_floating_trial_ta_mast_27 w_h_floating_trial_ta_parts_28 w_h_floating_trial_ta_strength_29 w_h_floating_trial_se_size_30 w_h_floating_trial_se_strake_31 w_h_floating_trial_se_side_32 w_h_floating_trial_se_hands_33 w_h_floating_trial_se_hours_34 w_h_floating_trial_se_pitch_35 w_h_floating_trial_se_worth_36 w_h_floating_trial_se_state_37 w_h_floating_trial_se_done_38 =>
        if r7 = 0 then
          some ((-4), w_h_floating_hour_8, w_h_floating_things_9, w_h_floating_shut_10, w_h_floating_trial_hour_11, w_h_floating_trial_heel_12, w_h_floating_trial_water_13, w_h_floating_trial_pitch_14, w_h_floating_trial_boatUsed_15, w_h_floating_trial_heelWent_16, w_h_floating_trial_pitchTaken_17, w_h_floating_trial_hoursOfMen_18, w_h_floating_trial_parted_19, w_h_floating_trial_moved_20, w_h_floating_trial_th_out_21, w_h_floating_trial_th_size_22, w_h_floating_trial_th_weight_23, w_h_floating_trial_th_under_24, w_h_floating_trial_ta_whole_25, w_h_floating_trial_ta_size_26, w_h_floating_trial_ta_mast_27, w_h_floating_trial_ta_parts_28, w_h_floating_trial_ta_strength_29, w_h_floating_trial_se_size_30, w_h_floating_trial_se_strake_31, w_h_floating_trial_se_side_32, w_h_floating_trial_se_hands_33, w_h_floating_trial_se_hours_34, w_h_floating_trial_se_pitch_35, w_h_floating_trial_se_worth_36, w_h_floating_trial_se_state_37, w_h_floating_trial_se_done_38)
        else
          if a1 = 0 then
            some (w_h_floating_hour_8, w_h_floating_hour_8, w_h_floating_things_9, w_h_floating_shut_10, w_h_floating_trial_hour_11, w_h_floating_trial_heel_12, w_h_floating_trial_water_13, w_h_floating_trial_pitch_14, w_h_floating_trial_boatUsed_15, w_h_floating_trial_heelWent_16, w_h_floating_trial_pitchTaken_17, w_h_floating_trial_hoursOfMen_18, w_h_floating_trial_parted_19, w_h_floating_trial_moved_20, w_h_floating_trial_th_out_21, w_h_floating_trial_th_size_22, w_h_floating_trial_th_weight_23, w_h_floating_trial_th_under_24, w_h_floating_trial_ta_whole_25, w_h_floating_trial_ta_size_26, w_h_floating_trial_ta_mast_27, w_h_floating_trial_ta_parts_28, w_h_floating_trial_ta_strength_29, w_h_floating_trial_se_size_30, w_h_floating_trial_se_strake_31, w_h_floating_trial_se_side_32, w_h_floating_trial_se_hands_33, w_h_floating_trial_se_hours_34, w_h_floating_trial_se_pitch_35, w_h_floating_trial_se_worth_36, w_h_floating_trial_se_state_37, w_h_floating_trial_se_done_38)
          else
          if a1 = 1 then
            some (w_h_floating_things_9, w_h_floating_hour_8, w_h_floating_things_9, w_h_floating_shut_10, w_h_floating_trial_hour_11, w_h_floating_trial_heel_12, w_h_floating_trial_water_13, w_h_floating_trial_pitch_14, w_h_floating_trial_boatUsed_15, w_h_floating_trial_heelWent_16, w_h_floating_trial_pitchTaken_17, w_h_floating_trial_hoursOfMen_18, w_h_floating_trial_parted_19, w_h_floating_trial_moved_20, w_h_floating_trial_th_out_21, w_h_floating_trial_th_size_22, w_h_floating_trial_th_weight_23, w_h_floating_trial_th_under_24, w_h_floating_trial_ta_whole_25, w_h_floating_trial_ta_size_26, w_h_floating_trial_ta_mast_27, w_h_floating_trial_ta_parts_28, w_h_floating_trial_ta_strength_29, w_h_floating_trial_se_size_30, w_h_floating_trial_se_strake_31, w_h_floating_trial_se_side_32, w_h_floating_trial_se_hands_33, w_h_floating_trial_se_hours_34, w_h_floating_trial_se_pitch_35, w_h_floating_trial_se_worth_36, w_h_floating_trial_se_state_37, w_h_floating_trial_se_done_38)
          else
            some (w_h_floating_shut_10, w_h_floating_hour_8, w_h_floating_things_9, w_h_floating_shut_10, w_h_floating_trial_hour_11, w_h_floating_trial_heel_12, w_h_floating_trial_water_13, w_h_floating_trial_pitch_14, w_h_floating_trial_boatUsed_15, w_h_floating_trial_heelWent_16, w_h_floating_trial_pitchTaken_17, w_h_floating_trial_hoursOfMen_18, w_h_floating_trial_parted_19, w_h_floating_trial_moved_20, w_h_floating_trial_th_out_21, w_h_floating_trial_th_size_22, w_h_floating_trial_th_weight_23, w_h_floating_trial_th_under_24, w_h_floating_trial_ta_whole_25, w_h_floating_trial_ta_size_26, w_h_floating_trial_ta_mast_27, w_h_floating_trial_ta_parts_28, w_h_floating_trial_ta_strength_29, w_h_floating_trial_se_size_30, w_h_floating_trial_se_strake_31, w_h_floating_trial_se_side_32, w_h_floating_trial_se_hands_33, w_h_floating_trial_se_hours_34, w_h_floating_trial_se_pitch_35, w_h_floating_trial_se_worth_36, w_h_floating_trial_se_state_37, w_h_floating_trial_se_done_38)
      else
        some ((-2), v_h_floating_hour, v_h_floating_things, v_h_floating_shut, v_h_floating_trial_hour, v_h_floating_trial_heel, v_h_floating_trial_water, v_h_floating_trial_pitch, v_h_floating_trial_boatUsed, v_h_floating_trial_heelWent, v_h_floating_trial_pitchTaken, v_h_floating_trial_hoursOfMen, v_h_floating_trial_parted, v_h_floating_trial_moved, v_h_floating_trial_th_out, v_h_floating_trial_th_size, f_h_floating_trial_th_weight, f_h_floating_trial_th_under, v_h_floating_trial_ta_whole, v_h_floating_trial_ta_size, f_h_floating_trial_ta_mast, f_h_floating_trial_ta_parts, f_h_floating_trial_ta_strength, v_h_floating_trial_se_size, f_h_floating_trial_se_strake, f_h_floating_trial_se_side, f_h_floating_trial_se_hands, f_h_floating_trial_se_hours, f_h_floating_trial_se_pitch, f_h_floating_trial_se_worth, f_h_floating_trial_se_state, f_h_floating_trial_se_done)
    else
      some ((-2), v_h_floating_hour, v_h_floating_things, v_h_floating_shut, v_h_floating_trial_hour, v_h_floating_trial_heel, v_h_floating_trial_water, v_h_floating_trial_pitch, v_h_floating_trial_boatUsed, v_h_floating_trial_heelWent, v_h_floating_trial_pitchTaken, v_h_floating_trial_hoursOfMen, v_h_floating_trial_parted, v_h_floating_trial_moved, v_h_floating_trial_th_out, v_h_floating_trial_th_size, f_h_floating_trial_th_weight, f_h_floating_trial_th_under, v_h_floating_trial_ta_whole, v_h_floating_trial_ta_size, f_h_floating_trial_ta_mast, f_h_floating_trial_ta_parts, f_h_floating_trial_ta_strength, v_h_floating_trial_se_size, f_h_floating_trial_se_strake, f_h_floating_trial_se_side, f_h_floating_trial_se_hands, f_h_floating_trial_se_hours, f_h_floating_trial_se_pitch, f_h_floating_trial_se_worth, f_h_floating_trial_se_state, f_h_floating_trial_se_done)
def p_X8_keep_0 (v_h_now_hour : Int32) (v_h_now_heel : Int32) (v_h_now_water : Int32) (v_h_now_pitch : Int32) (v_h_now_boatUsed : Int32) (v_h_now_heelWent : Int32) (v_h_now_pitchTaken : Int32) (v_h_now_hoursOfMen : Int32) (v_h_now_parted : Int32) (v_h_now_moved : Int32) (v_h_now_th_out : Int32) (v_h_now_th_size : Int32) (f_h_now_th_weight : Nat → Int32) (f_k0_th_weight : Nat → Int32) (f_h_now_th_under : Nat → Int32) (f_k0_th_under : Nat → Int32) (v_h_now_ta_whole : Int32) (v_h_now_ta_size : Int32) (f_h_now_ta_mast : Nat → Int32) (f_k0_ta_mast : Nat → Int32) (f_h_now_ta_parts : Nat → Int32) (f_k0_ta_parts : Nat → Int32) (f_h_now_ta_strength : Nat → Int32) (f_k0_ta_strength : Nat → Int32) (v_h_now_se_size : Int32) (f_h_now_se_strake : Nat → Int32) (f_k0_se_strake : Nat → Int32) (f_h_now_se_side : Nat → Int32) (f_k0_se_side : Nat → Int32) (f_h_now_se_hands : Nat → Int32) (f_k0_se_hands : Nat → Int32) (f_h_now_se_hours : Nat → Int32) (f_k0_se_hours : Nat → Int32) (f_h_now_se_pitch : Nat → Int32) (f_k0_se_pitch : Nat → Int32) (f_h_now_se_worth : Nat → Int32) (f_k0_se_worth : Nat → Int32) (f_h_now_se_state : Nat → Int32) (f_k0_se_state : Nat → Int32) (f_h_now_se_done : Nat → Int32) (f_k0_se_done : Nat → Int32) : Option (Int32 × Int32 × Int32 × Int32 × Int32 × Int32 × Int32 × Int32 × Int32 × Int32 × Int32 × Int32 × Int32 × Int32 × (Nat → Int32) × (Nat → Int32) × Int32 × Int32 × (Nat → Int32) × (Nat → Int32) × (Nat → Int32) × Int32 × (Nat → Int32) × (Nat → Int32) × (Nat → Int32) × (Nat → Int32) × (Nat → Int32) × (Nat → Int32) × (Nat → Int32) × (Nat → Int32)) :=
  k_b28 (p_X4_copyFrom v_h_now_hour v_h_now_heel v_h_now_water v_h_now_pitch v_h_now_boatUsed v_h_now_heelWent v_h_now_pitchTaken v_h_now_hoursOfMen v_h_now_parted v_h_now_moved v_h_now_th_out v_h_now_th_size f_h_now_th_weight f_k0_th_weight f_h_now_th_under f_k0_th_under v_h_now_ta_whole v_h_now_ta_size f_h_now_ta_mast f_k0_ta_mast f_h_now_ta_parts f_k0_ta_parts f_h_now_ta_strength f_k0_ta_strength v_h_now_se_size f_h_now_se_strake f_k0_se_strake f_h_now_se_side f_k0_se_side f_h_now_se_hands f_k0_se_hands f_h_now_se_hours f_k0_se_hours f_h_now_se_pitch f_k0_se_pitch f_h_now_se_worth f_k0_se_worth f_h_now_se_state f_k0_se_state f_h_now_se_done f_k0_se_done) fun w_k0_hour_1 w_k0_heel_2 w_k0_water_3 w_k0_pitch_4 w_k0_boatUsed_5 w_k0_heelWent_6 w_k0_pitchTaken_7 w_k0_hoursOfMen_8 w_k0_parted_9 w_k0_moved_10 w_k0_th_out_11 w_k0_th_size_12 w_k0_th_weight_13 w_k0_th_under_14 w_k0_ta_whole_15 w_k0_ta_size_16 w_k0_ta_mast_17 w_k0_ta_parts_18 w_k0_ta_strength_19 w_k0_se_size_20 w_k0_se_strake_21 w_k0_se_side_22 w_k0_se_hands_23 w_k0_se_hours_24 w_k0_se_pitch_25 w_k0_se_worth_26 w_k0_se_state_27 w_k0_se_done_28 =>
  some (1, 1, w_k0_hour_1, w_k0_heel_2, w_k0_water_3, w_k0_pitch_4, w_k0_boatUsed_5, w_k0_heelWent_6, w_k0_pitchTaken_7, w_k0_hoursOfMen_8, w_k0_parted_9, w_k0_moved_10, w_k0_th_out_11, w_k0_th_size_12, w_k0_th_weight_13, w_k0_th_under_14, w_k0_ta_whole_15, w_k0_ta_size_16, w_k0_ta_mast_17, w_k0_ta_parts_18, w_k0_ta_strength_19, w_k0_se_size_20, w_k0_se_strake_21, w_k0_se_side_22, w_k0_se_hands_23, w_k0_se_hours_24, w_k0_se_pitch_25, w_k0_se_worth_26, w_k0_se_state_27, w_k0_se_done_28)
def p_X8_back_0  : Option (Int32 × Int32) :=
  some ((-2), 0)
def p_X8_keep_1 (v_h_now_hour : Int32) (v_h_now_heel : Int32) (v_h_now_water : Int32) (v_h_now_pitch : Int32) (v_h_now_boatUsed : Int32) (v_h_now_heelWent : Int32) (v_h_now_pitchTaken : Int32) (v_h_now_hoursOfMen : Int32) (v_h_now_parted : Int32) (v_h_now_moved : Int32) (v_h_now_th_out : Int32) (v_h_now_th_size : Int32) (f_h_now_th_weight : Nat → Int32) (f_k1_th_weight : Nat → Int32) (f_h_now_th_under : Nat → Int32) (f_k1_th_under : Nat → Int32) (v_h_now_ta_whole : Int32) (v_h_now_ta_size : Int32) (f_h_now_ta_mast : Nat → Int32) (f_k1_ta_mast : Nat → Int32) (f_h_now_ta_parts : Nat → Int32) (f_k1_ta_parts : Nat → Int32) (f_h_now_ta_strength : Nat → Int32) (f_k1_ta_strength : Nat → Int32) (v_h_now_se_size : Int32) (f_h_now_se_strake : Nat → Int32) (f_k1_se_strake : Nat → Int32) (f_h_now_se_side : Nat → Int32) (f_k1_se_side : Nat → Int32) (f_h_now_se_hands : Nat → Int32) (f_k1_se_hands : Nat → Int32) (f_h_now_se_hours : Nat → Int32) (f_k1_se_hours : Nat → Int32) (f_h_now_se_pitch : Nat → Int32) (f_k1_se_pitch : Nat → Int32) (f_h_now_se_worth : Nat → Int32) (f_k1_se_worth : Nat → Int32) (f_h_now_se_state : Nat → Int32) (f_k1_se_state : Nat → Int32) (f_h_now_se_done : Nat → Int32) (f_k1_se_done : Nat → Int32) : Option (Int32 × Int32 × Int32 × Int32 × Int32 × Int32 × Int32 × Int32 × Int32 × Int32 × Int32 × Int32 × Int32 × Int32 × (Nat → Int32) × (Nat → Int32) × Int32 × Int32 × (Nat → Int32) × (Nat → Int32) × (Nat → Int32) × Int32 × (Nat → Int32) × (Nat → Int32) × (Nat → Int32) × (Nat → Int32) × (Nat → Int32) × (Nat → Int32) × (Nat → Int32) × (Nat → Int32)) :=
  k_b28 (p_X4_copyFrom v_h_now_hour v_h_now_heel v_h_now_water v_h_now_pitch v_h_now_boatUsed v_h_now_heelWent v_h_now_pitchTaken v_h_now_hoursOfMen v_h_now_parted v_h_now_moved v_h_now_th_out v_h_now_th_size f_h_now_th_weight f_k1_th_weight f_h_now_th_under f_k1_th_under v_h_now_ta_whole v_h_now_ta_size f_h_now_ta_mast f_k1_ta_mast f_h_now_ta_parts f_k1_ta_parts f_h_now_ta_strength f_k1_ta_strength v_h_now_se_size f_h_now_se_strake f_k1_se_strake f_h_now_se_side f_k1_se_side f_h_now_se_hands f_k1_se_hands f_h_now_se_hours f_k1_se_hours f_h_now_se_pitch f_k1_se_pitch f_h_now_se_worth f_k1_se_worth f_h_now_se_state f_k1_se_state f_h_now_se_done f_k1_se_done) fun w_k1_hour_1 w_k1_heel_2 w_k1_water_3 w_k1_pitch_4 w_k1_boatUsed_5 w_k1_heelWent_6 w_k1_pitchTaken_7 w_k1_hoursOfMen_8 w_k1_parted_9 w_k1_moved_10 w_k1_th_out_11 w_k1_th_size_12 w_k1_th_weight_13 w_k1_th_under_14 w_k1_ta_whole_15 w_k1_ta_size_16 w_k1_ta_mast_17 w_k1_ta_parts_18 w_k1_ta_strength_19 w_k1_se_size_20 w_k1_se_strake_21 w_k1_se_side_22 w_k1_se_hands_23 w_k1_se_hours_24 w_k1_se_pitch_25 w_k1_se_worth_26 w_k1_se_state_27 w_k1_se_done_28 =>
  some (2, 2, w_k1_hour_1, w_k1_heel_2, w_k1_water_3, w_k1_pitch_4, w_k1_boatUsed_5, w_k1_heelWent_6, w_k1_pitchTaken_7, w_k1_hoursOfMen_8, w_k1_parted_9, w_k1_moved_10, w_k1_th_out_11, w_k1_th_size_12, w_k1_th_weight_13, w_k1_th_under_14, w_k1_ta_whole_15, w_k1_ta_size_16, w_k1_ta_mast_17, w_k1_ta_parts_18, w_k1_ta_strength_19, w_k1_se_size_20, w_k1_se_strake_21, w_k1_se_side_22, w_k1_se_hands_23, w_k1_se_hours_24, w_k1_se_pitch_25, w_k1_se_worth_26, w_k1_se_state_27, w_k1_se_done_28)
def p_X8_back_1 (v_k0_hour : Int32) (v_k0_heel : Int32) (v_k0_water : Int32) (v_k0_pitch : Int32) (v_k0_boatUsed : Int32) (v_k0_heelWent : Int32) (v_k0_pitchTaken : Int32) (v_k0_hoursOfMen : Int32) (v_k0_parted : Int32) (v_k0_moved : Int32) (v_k0_th_out : Int32) (v_k0_th_size : Int32) (f_k0_th_weight : Nat → Int32) (f_h_now_th_weight : Nat → Int32) (f_k0_th_under : Nat → Int32) (f_h_now_th_under : Nat → Int32) (v_k0_ta_whole : Int32) (v_k0_ta_size : Int32) (f_k0_ta_mast : Nat → Int32) (f_h_now_ta_mast : Nat → Int32) (f_k0_ta_parts : Nat → Int32) (f_h_now_ta_parts : Nat → Int32) (f_k0_ta_strength : Nat → Int32) (f_h_now_ta_strength : Nat → Int32) (v_k0_se_size : Int32) (f_k0_se_strake : Nat → Int32) (f_h_now_se_strake : Nat → Int32) (f_k0_se_side : Nat → Int32) (f_h_now_se_side : Nat → Int32) (f_k0_se_hands : Nat → Int32) (f_h_now_se_hands : Nat → Int32) (f_k0_se_hours : Nat → Int32) (f_h_now_se_hours : Nat → Int32) (f_k0_se_pitch : Nat → Int32) (f_h_now_se_pitch : Nat → Int32) (f_k0_se_worth : Nat → Int32) (f_h_now_se_worth : Nat → Int32) (f_k0_se_state : Nat → Int32) (f_h_now_se_state : Nat → Int32) (f_k0_se_done : Nat → Int32) (f_h_now_se_done : Nat → Int32) : Option (Int32 × Int32 × Int32 × Int32 × Int32 × Int32 × Int32 × Int32 × Int32 × Int32 × Int32 × Int32 × Int32 × Int32 × (Nat → Int32) × (Nat → Int32) × Int32 × Int32 × (Nat → Int32) × (Nat → Int32) × (Nat → Int32) × Int32 × (Nat → Int32) × (Nat → Int32) × (Nat → Int32) × (Nat → Int32) × (Nat → Int32) × (Nat → Int32) × (Nat → Int32) × (Nat → Int32)) :=
  k_b28 (p_X4_copyFrom v_k0_hour v_k0_heel v_k0_water v_k0_pitch v_k0_boatUsed v_k0_heelWent v_k0_pitchTaken v_k0_hoursOfMen v_k0_parted v_k0_moved v_k0_th_out v_k0_th_size f_k0_th_weight f_h_now_th_weight f_k0_th_under f_h_now_th_under v_k0_ta_whole v_k0_ta_size f_k0_ta_mast f_h_now_ta_mast f_k0_ta_parts f_h_now_ta_parts f_k0_ta_strength f_h_now_ta_strength v_k0_se_size f_k0_se_strake f_h_now_se_strake f_k0_se_side f_h_now_se_side f_k0_se_hands f_h_now_se_hands f_k0_se_hours f_h_now_se_hours f_k0_se_pitch f_h_now_se_pitch f_k0_se_worth f_h_now_se_worth f_k0_se_state f_h_now_se_state f_k0_se_done f_h_now_se_done) fun w_h_now_hour_1 w_h_now_heel_2 w_h_now_water_3 w_h_now_pitch_4 w_h_now_boatUsed_5 w_h_now_heelWent_6 w_h_now_pitchTaken_7 w_h_now_hoursOfMen_8 w_h_now_parted_9 w_h_now_moved_10 w_h_now_th_out_11 w_h_now_th_size_12 w_h_now_th_weight_13 w_h_now_th_under_14 w_h_now_ta_whole_15 w_h_now_ta_size_16 w_h_now_ta_mast_17 w_h_now_ta_parts_18 w_h_now_ta_strength_19 w_h_now_se_size_20 w_h_now_se_strake_21 w_h_now_se_side_22 w_h_now_se_hands_23 w_h_now_se_hours_24 w_h_now_se_pitch_25 w_h_now_se_worth_26 w_h_now_se_state_27 w_h_now_se_done_28 =>
  some (0, 0, w_h_now_hour_1, w_h_now_heel_2, w_h_now_water_3, w_h_now_pitch_4, w_h_now_boatUsed_5, w_h_now_heelWent_6, w_h_now_pitchTaken_7, w_h_now_hoursOfMen_8, w_h_now_parted_9, w_h_now_moved_10, w_h_now_th_out_11, w_h_now_th_size_12, w_h_now_th_weight_13, w_h_now_th_under_14, w_h_now_ta_whole_15, w_h_now_ta_size_16, w_h_now_ta_mast_17, w_h_now_ta_parts_18, w_h_now_ta_strength_19, w_h_now_se_size_20, w_h_now_se_strake_21, w_h_now_se_side_22, w_h_now_se_hands_23, w_h_now_se_hours_24, w_h_now_se_pitch_25, w_h_now_se_worth_26, w_h_now_se_state_27, w_h_now_se_done_28)
def p_X8_keep_2 (v_h_now_hour : Int32) (v_h_now_heel : Int32) (v_h_now_water : Int32) (v_h_now_pitch : Int32) (v_h_now_boatUsed : Int32) (v_h_now_heelWent : Int32) (v_h_now_pitchTaken : Int32) (v_h_now_hoursOfMen : Int32) (v_h_now_parted : Int32) (v_h_now_moved : Int32) (v_h_now_th_out : Int32) (v_h_now_th_size : Int32) (f_h_now_th_weight : Nat → Int32) (f_k2_th_weight : Nat → Int32) (f_h_now_th_under : Nat → Int32) (f_k2_th_under : Nat → Int32) (v_h_now_ta_whole : Int32) (v_h_now_ta_size : Int32) (f_h_now_ta_mast : Nat → Int32) (f_k2_ta_mast : Nat → Int32) (f_h_now_ta_parts : Nat → Int32) (f_k2_ta_parts : Nat → Int32) (f_h_now_ta_strength : Nat → Int32) (f_k2_ta_strength : Nat → Int32) (v_h_now_se_size : Int32) (f_h_now_se_strake : Nat → Int32) (f_k2_se_strake : Nat → Int32) (f_h_now_se_side : Nat → Int32) (f_k2_se_side : Nat → Int32) (f_h_now_se_hands : Nat → Int32) (f_k2_se_hands : Nat → Int32) (f_h_now_se_hours : Nat → Int32) (f_k2_se_hours : Nat → Int32) (f_h_now_se_pitch : Nat → Int32) (f_k2_se_pitch : Nat → Int32) (f_h_now_se_worth : Nat → Int32) (f_k2_se_worth : Nat → Int32) (f_h_now_se_state : Nat → Int32) (f_k2_se_state : Nat → Int32) (f_h_now_se_done : Nat → Int32) (f_k2_se_done : Nat → Int32) : Option (Int32 × Int32 × Int32 × Int32 × Int32 × Int32 × Int32 × Int32 × Int32 × Int32 × Int32 × Int32 × Int32 × Int32 × (Nat → Int32) × (Nat → Int32) × Int32 × Int32 × (Nat → Int32) × (Nat → Int32) × (Nat → Int32) × Int32 × (Nat → Int32) × (Nat → Int32) × (Nat → Int32) × (Nat → Int32) × (Nat → Int32) × (Nat → Int32) × (Nat → Int32) × (Nat → Int32)) :=
  k_b28 (p_X4_copyFrom v_h_now_hour v_h_now_heel v_h_now_water v_h_now_pitch v_h_now_boatUsed v_h_now_heelWent v_h_now_pitchTaken v_h_now_hoursOfMen v_h_now_parted v_h_now_moved v_h_now_th_out v_h_now_th_size f_h_now_th_weight f_k2_th_weight f_h_now_th_under f_k2_th_under v_h_now_ta_whole v_h_now_ta_size f_h_now_ta_mast f_k2_ta_mast f_h_now_ta_parts f_k2_ta_parts f_h_now_ta_strength f_k2_ta_strength v_h_now_se_size f_h_now_se_strake f_k2_se_strake f_h_now_se_side f_k2_se_side f_h_now_se_hands f_k2_se_hands f_h_now_se_hours f_k2_se_hours f_h_now_se_pitch f_k2_se_pitch f_h_now_se_worth f_k2_se_worth f_h_now_se_state f_k2_se_state f_h_now_se_done f_k2_se_done) fun w_k2_hour_1 w_k2_heel_2 w_k2_water_3 w_k2_pitch_4 w_k2_boatUsed_5 w_k2_heelWent_6 w_k2_pitchTaken_7 w_k2_hoursOfMen_8 w_k2_parted_9 w_k2_moved_10 w_k2_th_out_11 w_k2_th_size_12 w_k2_th_weight_13 w_k2_th_under_14 w_k2_ta_whole_15 w_k2_ta_size_16 w_k2_ta_mast_17 w_k2_ta_parts_18 w_k2_ta_strength_19 w_k2_se_size_20 w_k2_se_strake_21 w_k2_se_side_22 w_k2_se_hands_23 w_k2_se_hours_24 w_k2_se_pitch_25 w_k2_se_worth_26 w_k2_se_state_27 w_k2_se_done_28 =>
  some (3, 3, w_k2_hour_1, w_k2_heel_2, w_k2_water_3, w_k2_pitch_4, w_k2_boatUsed_5, w_k2_heelWent_6, w_k2_pitchTaken_7, w_k2_hoursOfMen_8, w_k2_parted_9, w_k2_moved_10, w_k2_th_out_11, w_k2_th_size_12, w_k2_th_weight_13, w_k2_th_under_14, w_k2_ta_whole_15, w_k2_ta_size_16, w_k2_ta_mast_17, w_k2_ta_parts_18, w_k2_ta_strength_19, w_k2_se_size_20, w_k2_se_strake_21, w_k2_se_side_22, w_k2_se_hands_23, w_k2_se_hours_24, w_k2_se_pitch_25, w_k2_se_worth_26, w_k2_se_state_27, w_k2_se_done_28)
def p_X8_back_2 (v_k1_hour : Int32) (v_k1_heel : Int32) (v_k1_water : Int32) (v_k1_pitch : Int32) (v_k1_boatUsed : Int32) (v_k1_heelWent : Int32) (v_k1_pitchTaken : Int32) (v_k1_hoursOfMen : Int32) (v_k1_parted : Int32) (v_k1_moved : Int32) (v_k1_th_out : Int32) (v_k1_th_size : Int32) (f_k1_th_weight : Nat → Int32) (f_h_now_th_weight : Nat → Int32) (f_k1_th_under : Nat → Int32) (f_h_now_th_under : Nat → Int32) (v_k1_ta_whole : Int32) (v_k1_ta_size : Int32) (f_k1_ta_mast : Nat → Int32) (f_h_now_ta_mast : Nat → Int32) (f_k1_ta_parts : Nat → Int32) (f_h_now_ta_parts : Nat → Int32) (f_k1_ta_strength : Nat → Int32) (f_h_now_ta_strength : Nat → Int32) (v_k1_se_size : Int32) (f_k1_se_strake : Nat → Int32) (f_h_now_se_strake : Nat → Int32) (f_k1_se_side : Nat → Int32) (f_h_now_se_side : Nat → Int32) (f_k1_se_hands : Nat → Int32) (f_h_now_se_hands : Nat → Int32) (f_k1_se_hours : Nat → Int32) (f_h_now_se_hours : Nat → Int32) (f_k1_se_pitch : Nat → Int32) (f_h_now_se_pitch : Nat → Int32) (f_k1_se_worth : Nat → Int32) (f_h_now_se_worth : Nat → Int32) (f_k1_se_state : Nat → Int32) (f_h_now_se_state : Nat → Int32) (f_k1_se_done : Nat → Int32) (f_h_now_se_done : Nat → Int32) : Option (Int32 × Int32 × Int32 × Int32 × Int32 × Int32 × Int32 × Int32 × Int32 × Int32 × Int32 × Int32 × Int32 × Int32 × (Nat → Int32) × (Nat → Int32) × Int32 × Int32 × (Nat → Int32) × (Nat → Int32) × (Nat → Int32) × Int32 × (Nat → Int32) × (Nat → Int32) × (Nat → Int32) × (Nat → Int32) × (Nat → Int32) × (Nat → Int32) × (Nat → Int32) × (Nat → Int32)) :=
  k_b28 (p_X4_copyFrom v_k1_hour v_k1_heel v_k1_water v_k1_pitch v_k1_boatUsed v_k1_heelWent v_k1_pitchTaken v_k1_hoursOfMen v_k1_parted v_k1_moved v_k1_th_out v_k1_th_size f_k1_th_weight f_h_now_th_weight f_k1_th_under f_h_now_th_under v_k1_ta_whole v_k1_ta_size f_k1_ta_mast f_h_now_ta_mast f_k1_ta_parts f_h_now_ta_parts f_k1_ta_strength f_h_now_ta_strength v_k1_se_size f_k1_se_strake f_h_now_se_strake f_k1_se_side f_h_now_se_side f_k1_se_hands f_h_now_se_hands f_k1_se_hours f_h_now_se_hours f_k1_se_pitch f_h_now_se_pitch f_k1_se_worth f_h_now_se_worth f_k1_se_state f_h_now_se_state f_k1_se_done f_h_now_se_done) fun w_h_now_hour_1 w_h_now_heel_2 w_h_now_water_3 w_h_now_pitch_4 w_h_now_boatUsed_5 w_h_now_heelWent_6 w_h_now_pitchTaken_7 w_h_now_hoursOfMen_8 w_h_now_parted_9 w_h_now_moved_10 w_h_now_th_out_11 w_h_now_th_size_12 w_h_now_th_weight_13 w_h_now_th_under_14 w_h_now_ta_whole_15 w_h_now_ta_size_16 w_h_now_ta_mast_17 w_h_now_ta_parts_18 w_h_now_ta_strength_19 w_h_now_se_size_20 w_h_now_se_strake_21 w_h_now_se_side_22 w_h_now_se_hands_23 w_h_now_se_hours_24 w_h_now_se_pitch_25 w_h_now_se_worth_26 w_h_now_se_state_27 w_h_now_se_done_28 =>
  some (1, 1, w_h_now_hour_1, w_h_now_heel_2, w_h_now_water_3, w_h_now_pitch_4, w_h_now_boatUsed_5, w_h_now_heelWent_6, w_h_now_pitchTaken_7, w_h_now_hoursOfMen_8, w_h_now_parted_9, w_h_now_moved_10, w_h_now_th_out_11, w_h_now_th_size_12, w_h_now_th_weight_13, w_h_now_th_under_14, w_h_now_ta_whole_15, w_h_now_ta_size_16, w_h_now_ta_mast_17, w_h_now_ta_parts_18, w_h_now_ta_strength_19, w_h_now_se_size_20, w_h_now_se_strake_21, w_h_now_se_side_22, w_h_now_se_hands_23, w_h_now_se_hours_24, w_h_now_se_pitch_25, w_h_now_se_worth_26, w_h_now_se_state_27, w_h_now_se_done_28)
def p_X8_keep_3  : Option (Int32 × Int32) :=
  some ((-3), 3)
def p_X8_back_3 (v_k2_hour : Int32) (v_k2_heel : Int32) (v_k2_water : Int32) (v_k2_pitch : Int32) (v_k2_boatUsed : Int32) (v_k2_heelWent : Int32) (v_k2_pitchTaken : Int32) (v_k2_hoursOfMen : Int32) (v_k2_parted : Int32) (v_k2_moved : Int32) (v_k2_th_out : Int32) (v_k2_th_size : Int32) (f_k2_th_weight : Nat → Int32) (f_h_now_th_weight : Nat → Int32) (f_k2_th_under : Nat → Int32) (f_h_now_th_under : Nat → Int32) (v_k2_ta_whole : Int32) (v_k2_ta_size : Int32) (f_k2_ta_mast : Nat → Int32) (f_h_now_ta_mast : Nat → Int32) (f_k2_ta_parts : Nat → Int32) (f_h_now_ta_parts : Nat → Int32) (f_k2_ta_strength : Nat → Int32) (f_h_now_ta_strength : Nat → Int32) (v_k2_se_size : Int32) (f_k2_se_strake : Nat → Int32) (f_h_now_se_strake : Nat → Int32) (f_k2_se_side : Nat → Int32) (f_h_now_se_side : Nat → Int32) (f_k2_se_hands : Nat → Int32) (f_h_now_se_hands : Nat → Int32) (f_k2_se_hours : Nat → Int32) (f_h_now_se_hours : Nat → Int32) (f_k2_se_pitch : Nat → Int32) (f_h_now_se_pitch : Nat → Int32) (f_k2_se_worth : Nat → Int32) (f_h_now_se_worth : Nat → Int32) (f_k2_se_state : Nat → Int32) (f_h_now_se_state : Nat → Int32) (f_k2_se_done : Nat → Int32) (f_h_now_se_done : Nat → Int32) : Option (Int32 × Int32 × Int32 × Int32 × Int32 × Int32 × Int32 × Int32 × Int32 × Int32 × Int32 × Int32 × Int32 × Int32 × (Nat → Int32) × (Nat → Int32) × Int32 × Int32 × (Nat → Int32) × (Nat → Int32) × (Nat → Int32) × Int32 × (Nat → Int32) × (Nat → Int32) × (Nat → Int32) × (Nat → Int32) × (Nat → Int32) × (Nat → Int32) × (Nat → Int32) × (Nat → Int32)) :=
  k_b28 (p_X4_copyFrom v_k2_hour v_k2_heel v_k2_water v_k2_pitch v_k2_boatUsed v_k2_heelWent v_k2_pitchTaken v_k2_hoursOfMen v_k2_parted v_k2_moved v_k2_th_out v_k2_th_size f_k2_th_weight f_h_now_th_weight f_k2_th_under f_h_now_th_under v_k2_ta_whole v_k2_ta_size f_k2_ta_mast f_h_now_ta_mast f_k2_ta_parts f_h_now_ta_parts f_k2_ta_strength f_h_now_ta_strength v_k2_se_size f_k2_se_strake f_h_now_se_strake f_k2_se_side f_h_now_se_side f_k2_se_hands f_h_now_se_hands f_k2_se_hours f_h_now_se_hours f_k2_se_pitch f_h_now_se_pitch f_k2_se_worth f_h_now_se_worth f_k2_se_state f_h_now_se_state f_k2_se_done f_h_now_se_done) fun w_h_now_hour_1 w_h_now_heel_2 w_h_now_water_3 w_h_now_pitch_4 w_h_now_boatUsed_5 w_h_now_heelWent_6 w_h_now_pitchTaken_7 w_h_now_hoursOfMen_8 w_h_now_parted_9 w_h_now_moved_10 w_h_now_th_out_11 w_h_now_th_size_12 w_h_now_th_weight_13 w_h_now_th_under_14 w_h_now_ta_whole_15 w_h_now_ta_size_16 w_h_now_ta_mast_17 w_h_now_ta_parts_18 w_h_now_ta_strength_19 w_h_now_se_size_20 w_h_now_se_strake_21 w_h_now_se_side_22 w_h_now_se_hands_23 w_h_now_se_hours_24 w_h_now_se_pitch_25 w_h_now_se_worth_26 w_h_now_se_state_27 w_h_now_se_done_28 =>
  some (2, 2, w_h_now_hour_1, w_h_now_heel_2, w_h_now_water_3, w_h_now_pitch_4, w_h_now_boatUsed_5, w_h_now_heelWent_6, w_h_now_pitchTaken_7, w_h_now_hoursOfMen_8, w_h_now_parted_9, w_h_now_moved_10, w_h_now_th_out_11, w_h_now_th_size_12, w_h_now_th_weight_13, w_h_now_th_under_14, w_h_now_ta_whole_15, w_h_now_ta_size_16, w_h_now_ta_mast_17, w_h_now_ta_parts_18, w_h_now_ta_strength_19, w_h_now_se_size_20, w_h_now_se_strake_21, w_h_now_se_side_22, w_h_now_se_hands_23, w_h_now_se_hours_24, w_h_now_se_pitch_25, w_h_now_se_worth_26, w_h_now_se_state_27, w_h_now_se_done_28)
def p_X9_in (a0 : Int64) (a2 : Int64) (a4 : Int64) : Option (Int32) :=
  if (lg_cmp a0 a2) < 0 then
    some 0
  else
    if 0 < (lg_cmp a0 a4) then
      some 0
    else
      some 1
def p_X9_isHour (a0 : Int32) : Option (Int32) :=
  k_b1 (p_X9_in ((a0).toInt64) 0 95) fun r1 =>
  k_ck (r1 = 0 ∨ r1 = 1) (some r1)
def p_X9_tideIn (f_h_tide : Nat → Int32) (a1 : Int32) : Option (Int32) :=
  if a1 ≤ 95 then
    k_ix a1 96 (
      some (f_h_tide a1.toNatClampNeg))
  else
    some (f_h_tide 95)
def p_X9_rains (f_h_rain : Nat → Int32) (a1 : Int32) : Option (Int32) :=
  if a1 ≤ 95 then
    k_ix a1 96 (
      if (f_h_rain a1.toNatClampNeg) = 1 then
        some 1
      else
        some 0)
  else
    if (f_h_rain 95) = 1 then
      some 1
    else
      some 0
def p_X9_tide (f_h_tide : Nat → Int32) (a1 : Int32) (a2 : Int32) : Option (Int32 × Int32 × (Nat → Int32)) :=
  k_b1 (p_X9_isHour a1) fun r1 =>
  if r1 = 0 then
    some ((-1), 0, f_h_tide)
  else
    k_b1 (p_X9_in ((a2).toInt64) 0 60) fun r3 =>
    if r3 = 0 then
      some ((-1), 0, f_h_tide)
    else
      k_ix a1 96 (
        k_ix a1 96 (
          some (f_h_tide a1.toNatClampNeg, 0, upd f_h_tide a1.toNatClampNeg a2)))
def lb_X9_tides_89 (a2 : Int32) (a1 : Int32) (a3 : Int64) (x5_23 : Int32) (c_h_tide_24 : Nat → Int32) : Option ((Int32 × (Nat → Int32)) ⊕ ((Nat → Int32))) :=
  if a2 ≤ x5_23 then
    some (.inr c_h_tide_24)
  else
    k_ix (a1 + x5_23) 96 (
      some (.inl (x5_23 + 1, upd c_h_tide_24 (a1 + x5_23).toNatClampNeg (((a3 >>> ((8 * x5_23).toInt64 &&& 63)) &&& 255).toInt32))))
def lb_X9_tides_54 (a2 : Int32) (a3 : Int64) (f_h_tide : Nat → Int32) (x5_27 : Int32) : Option ((Int32) ⊕ ((Int32 × Int32 × (Nat → Int32)) ⊕ (Unit))) :=
  if a2 ≤ x5_27 then
    some (.inr (.inr ()))
  else
    if (lg_cmp ((a3 >>> ((8 * x5_27).toInt64 &&& 63)) &&& 255) 60) ≤ 0 then
      some (.inl (x5_27 + 1))
    else
      some (.inr (.inl ((-1), 0, f_h_tide)))
def lj_X9_tides_51 (a2 : Int32) (a3 : Int64) (f_h_tide : Nat → Int32) (a1 : Int32)  : Option (Int32 × Int32 × (Nat → Int32)) :=
  k_bx0 (k_lp (fun s => lb_X9_tides_54 a2 a3 f_h_tide s) k_fuel 0) (fun q => some q) (
    k_b1 (k_lp (fun s => lb_X9_tides_89 a2 a1 a3 s.1 s.2) k_fuel (0, f_h_tide)) fun c_h_tide_22 =>
    some (a2, 0, c_h_tide_22))
def p_X9_tides (f_h_tide : Nat → Int32) (a1 : Int32) (a2 : Int32) (a3 : Int64) : Option (Int32 × Int32 × (Nat → Int32)) :=
  k_b1 (p_X9_isHour a1) fun r1 =>
  if r1 = 0 then
    some ((-1), 0, f_h_tide)
  else
    k_b1 (p_X9_in ((a2).toInt64) 1 8) fun r3 =>
    if r3 = 0 then
      some ((-1), 0, f_h_tide)
    else
      if 96 < (a1 + a2) then
        some ((-1), 0, f_h_tide)
      else
        if 8 ≤ a2 then
          lj_X9_tides_51 a2 a3 f_h_tide a1
        else
          if (lg_cmp (((a3).toUInt64 >>> ((8 * a2).toInt64.toUInt64 &&& Int64.toUInt64 63)).toInt64) 0) = 0 then
            lj_X9_tides_51 a2 a3 f_h_tide a1
          else
            some ((-1), 0, f_h_tide)
def p_X9_rain (f_h_rain : Nat → Int32) (a1 : Int32) (a2 : Int32) : Option (Int32 × Int32 × (Nat → Int32)) :=
  k_b1 (p_X9_isHour a1) fun r1 =>
  if r1 = 0 then
    some ((-1), 0, f_h_rain)
  else
    k_ix a1 96 (
      if a2 = 0 then
        k_ix a1 96 (
          some (f_h_rain a1.toNatClampNeg, 0, upd f_h_rain a1.toNatClampNeg 0))
      else
        k_ix a1 96 (
          some (f_h_rain a1.toNatClampNeg, 0, upd f_h_rain a1.toNatClampNeg 1)))
def lj_X9_rule_110 (a1 : Int32) (f_h_rule : Nat → Int32) (a2 : Int32) (f_h_now : Nat → Int32) (t16 : Int32) : Option (Int32 × Int32 × (Nat → Int32) × (Nat → Int32)) :=
  k_ix a1 8 (
    if a1 = 4 then
      some (t16, 0, upd f_h_rule a1.toNatClampNeg a2, upd f_h_now 5 a2)
    else
      some (t16, 0, upd f_h_rule a1.toNatClampNeg a2, f_h_now))
def lj_X9_rule_73 (a2 : Int32) (t5 : Int32) (f_h_rule : Nat → Int32) (f_h_now : Nat → Int32) (a1 : Int32) (t10 : Int32) : Option (Int32 × Int32 × (Nat → Int32) × (Nat → Int32)) :=
  k_b1 (p_X9_in ((a2).toInt64) ((t5).toInt64) ((t10).toInt64)) fun r12 =>
  if r12 = 0 then
    some ((-1), 0, f_h_rule, f_h_now)
  else
    if a1 = 4 then
      lj_X9_rule_110 a1 f_h_rule a2 f_h_now (f_h_now 5)
    else
      k_ix a1 8 (
        lj_X9_rule_110 a1 f_h_rule a2 f_h_now (f_h_rule a1.toNatClampNeg))
def lj_X9_rule_39 (a1 : Int32) (a2 : Int32) (f_h_rule : Nat → Int32) (f_h_now : Nat → Int32) (t5 : Int32) : Option (Int32 × Int32 × (Nat → Int32) × (Nat → Int32)) :=
  if a1 = 0 then
    lj_X9_rule_73 a2 t5 f_h_rule f_h_now a1 40
  else
    if a1 = 2 then
      lj_X9_rule_73 a2 t5 f_h_rule f_h_now a1 2000
    else
      if a1 = 3 then
        lj_X9_rule_73 a2 t5 f_h_rule f_h_now a1 20
      else
        lj_X9_rule_73 a2 t5 f_h_rule f_h_now a1 1000
def p_X9_rule (f_h_rule : Nat → Int32) (f_h_now : Nat → Int32) (a1 : Int32) (a2 : Int32) : Option (Int32 × Int32 × (Nat → Int32) × (Nat → Int32)) :=
  k_b1 (p_X9_in ((a1).toInt64) 0 7) fun r1 =>
  if r1 = 0 then
    some ((-1), 0, f_h_rule, f_h_now)
  else
    if a1 = 1 then
      lj_X9_rule_39 a1 a2 f_h_rule f_h_now 100
    else
      if a1 = 3 then
        lj_X9_rule_39 a1 a2 f_h_rule f_h_now 1
      else
        lj_X9_rule_39 a1 a2 f_h_rule f_h_now 0
def p_X9_thing (f_h_now : Nat → Int32) (a1 : Int32) (a2 : Int32) : Option (Int32 × Int32 × (Nat → Int32)) :=
  k_b1 (p_X9_in ((a1).toInt64) 1 100) fun r1 =>
  if r1 = 0 then
    some ((-1), 0, f_h_now)
  else
    k_b1 (p_X9_in ((a2).toInt64) (-1) (((f_h_now 10) - 1).toInt64)) fun r3 =>
    if r3 = 0 then
      some ((-1), 0, f_h_now)
    else
      if a2 < 0 then
        if (f_h_now 10) = 12 then
          some ((-3), 0, f_h_now)
        else
          k_ix (13 + (f_h_now 10)) 169 (
            k_ix (25 + (f_h_now 10)) 169 (
              k_ix (37 + (f_h_now 10)) 169 (
                some (f_h_now 10, 0, upd (upd (upd (upd f_h_now (13 + (f_h_now 10)).toNatClampNeg a1) (25 + (f_h_now 10)).toNatClampNeg a2) (37 + (f_h_now 10)).toNatClampNeg 1) 10 (((upd (upd (upd f_h_now (13 + (f_h_now 10)).toNatClampNeg a1) (25 + (f_h_now 10)).toNatClampNeg a2) (37 + (f_h_now 10)).toNatClampNeg 1) 10) + 1)))))
      else
        k_ix (37 + a2) 169 (
          if (f_h_now (37 + a2).toNatClampNeg) = 0 then
            some ((-2), 0, f_h_now)
          else
            if (f_h_now 10) = 12 then
              some ((-3), 0, f_h_now)
            else
              k_ix (13 + (f_h_now 10)) 169 (
                k_ix (25 + (f_h_now 10)) 169 (
                  k_ix (37 + (f_h_now 10)) 169 (
                    some (f_h_now 10, 0, upd (upd (upd (upd f_h_now (13 + (f_h_now 10)).toNatClampNeg a1) (25 + (f_h_now 10)).toNatClampNeg a2) (37 + (f_h_now 10)).toNatClampNeg 1) 10 (((upd (upd (upd f_h_now (13 + (f_h_now 10)).toNatClampNeg a1) (25 + (f_h_now 10)).toNatClampNeg a2) (37 + (f_h_now 10)).toNatClampNeg 1) 10) + 1))))))
def p_X9_tackle (f_h_now : Nat → Int32) (a1 : Int32) (a2 : Int32) (a3 : Int32) : Option (Int32 × Int32 × (Nat → Int32)) :=
  k_b1 (p_X9_in ((a1).toInt64) 0 2) fun r1 =>
  if r1 = 0 then
    some ((-1), 0, f_h_now)
  else
    k_b1 (p_X9_in ((a2).toInt64) 1 6) fun r3 =>
    if r3 = 0 then
      some ((-1), 0, f_h_now)
    else
      k_b1 (p_X9_in ((a3).toInt64) 1 400) fun r5 =>
      if r5 = 0 then
        some ((-1), 0, f_h_now)
      else
        if (f_h_now 11) = 6 then
          some ((-3), 0, f_h_now)
        else
          k_ix (49 + (f_h_now 11)) 169 (
            k_ix (55 + (f_h_now 11)) 169 (
              k_ix (61 + (f_h_now 11)) 169 (
                k_ix (67 + (f_h_now 11)) 169 (
                  some (f_h_now 11, 0, upd (upd (upd (upd (upd f_h_now (49 + (f_h_now 11)).toNatClampNeg a1) (55 + (f_h_now 11)).toNatClampNeg a2) (61 + (f_h_now 11)).toNatClampNeg a3) (67 + (f_h_now 11)).toNatClampNeg 1) 11 (((upd (upd (upd (upd f_h_now (49 + (f_h_now 11)).toNatClampNeg a1) (55 + (f_h_now 11)).toNatClampNeg a2) (61 + (f_h_now 11)).toNatClampNeg a3) (67 + (f_h_now 11)).toNatClampNeg 1) 11) + 1))))))
def p_X9_seam (f_h_now : Nat → Int32) (a1 : Int32) (a2 : Int32) (a3 : Int32) (a4 : Int32) (a5 : Int32) (a6 : Int32) : Option (Int32 × Int32 × (Nat → Int32)) :=
  k_b1 (p_X9_in ((a1).toInt64) 1 10) fun r1 =>
  if r1 = 0 then
    some ((-1), 0, f_h_now)
  else
    k_b1 (p_X9_in ((a2).toInt64) 0 1) fun r3 =>
    if r3 = 0 then
      some ((-1), 0, f_h_now)
    else
      k_b1 (p_X9_in ((a3).toInt64) 1 6) fun r5 =>
      if r5 = 0 then
        some ((-1), 0, f_h_now)
      else
        k_b1 (p_X9_in ((a4).toInt64) 1 4) fun r7 =>
        if r7 = 0 then
          some ((-1), 0, f_h_now)
        else
          k_b1 (p_X9_in ((a5).toInt64) 0 50) fun r9 =>
          if r9 = 0 then
            some ((-1), 0, f_h_now)
          else
            k_b1 (p_X9_in ((a6).toInt64) 1 100) fun r11 =>
            if r11 = 0 then
              some ((-1), 0, f_h_now)
            else
              if (f_h_now 12) = 12 then
                some ((-3), 0, f_h_now)
              else
                k_ix (73 + (f_h_now 12)) 169 (
                  k_ix (85 + (f_h_now 12)) 169 (
                    k_ix (97 + (f_h_now 12)) 169 (
                      k_ix (109 + (f_h_now 12)) 169 (
                        k_ix (121 + (f_h_now 12)) 169 (
                          k_ix (133 + (f_h_now 12)) 169 (
                            k_ix (145 + (f_h_now 12)) 169 (
                              k_ix (157 + (f_h_now 12)) 169 (
                                some (f_h_now 12, 0, upd (upd (upd (upd (upd (upd (upd (upd (upd f_h_now (73 + (f_h_now 12)).toNatClampNeg a1) (85 + (f_h_now 12)).toNatClampNeg a2) (97 + (f_h_now 12)).toNatClampNeg a3) (109 + (f_h_now 12)).toNatClampNeg a4) (121 + (f_h_now 12)).toNatClampNeg a5) (133 + (f_h_now 12)).toNatClampNeg a6) (145 + (f_h_now 12)).toNatClampNeg 0) (157 + (f_h_now 12)).toNatClampNeg 0) 12 (((upd (upd (upd (upd (upd (upd (upd (upd f_h_now (73 + (f_h_now 12)).toNatClampNeg a1) (85 + (f_h_now 12)).toNatClampNeg a2) (97 + (f_h_now 12)).toNatClampNeg a3) (109 + (f_h_now 12)).toNatClampNeg a4) (121 + (f_h_now 12)).toNatClampNeg a5) (133 + (f_h_now 12)).toNatClampNeg a6) (145 + (f_h_now 12)).toNatClampNeg 0) (157 + (f_h_now 12)).toNatClampNeg 0) 12) + 1))))))))))
def lb_X9_total_9 (f_h_now : Nat → Int32) (x1_13 : Int32) (x2_14 : Int32) : Option ((Int32 × Int32) ⊕ (Int32)) :=
  if (f_h_now 10) ≤ x2_14 then
    some (.inr x1_13)
  else
    k_ix (37 + x2_14) 169 (
      if (f_h_now (37 + x2_14).toNatClampNeg) = 1 then
        k_ix (13 + x2_14) 169 (
          some (.inl (x1_13 + (f_h_now (13 + x2_14).toNatClampNeg), x2_14 + 1)))
      else
        some (.inl (x1_13 + 0, x2_14 + 1)))
def p_X9_total (f_h_rule : Nat → Int32) (f_h_now : Nat → Int32) : Option (Int32) :=
  k_b1 (k_lp (fun s => lb_X9_total_9 f_h_now s.1 s.2) k_fuel (f_h_rule 1, 0)) fun x1_12 =>
  some x1_12
def p_X9_force (f_h_rule : Nat → Int32) (f_h_now : Nat → Int32) (a1 : Int32) : Option (Int32) :=
  k_b1 (p_X9_total f_h_rule f_h_now) fun r1 =>
  if 0 ≤ a1 then
    some ((r1 * a1) / 10)
  else
    some ((r1 * (-a1)) / 10)
def lb_X9_wholes_4 (f_h_now : Nat → Int32) (x1_9 : Int32) (x2_10 : Int32) : Option ((Int32 × Int32) ⊕ (Int32)) :=
  if (f_h_now 11) ≤ x2_10 then
    some (.inr x1_9)
  else
    k_ix (67 + x2_10) 169 (
      some (.inl (x1_9 + (f_h_now (67 + x2_10).toNatClampNeg), x2_10 + 1)))
def p_X9_wholes (f_h_now : Nat → Int32) : Option (Int32) :=
  k_b1 (k_lp (fun s => lb_X9_wholes_4 f_h_now s.1 s.2) k_fuel (0, 0)) fun x1_8 =>
  some x1_8
def p_X9_up (a0 : Int32) (a1 : Int32) : Option (Int32) :=
  k_ck (¬ a1 = 0) (
    some (((a0 + a1) - 1) / a1))
def p_X9_takes (f_h_now : Nat → Int32) (f_h_rule : Nat → Int32) (a1 : Int32) : Option (Int32) :=
  k_b1 (p_X9_wholes f_h_now) fun r1 =>
  if r1 = 0 then
    some 0
  else
    k_b1 (p_X9_force f_h_rule f_h_now a1) fun r3 =>
    k_b1 (p_X9_up r3 r1) fun r4 =>
    some r4
def p_X9_ropeOf (f_h_now : Nat → Int32) (f_h_rule : Nat → Int32) (a1 : Int32) (a2 : Int32) : Option (Int32) :=
  k_b1 (p_X9_takes f_h_now f_h_rule a2) fun r1 =>
  k_ix (55 + a1) 169 (
    k_b1 (p_X9_up r1 (f_h_now (55 + a1).toNatClampNeg)) fun r3 =>
    some r3)
def p_X9_may (f_h_now : Nat → Int32) (a1 : Int32) (a2 : Int32) : Option (Int32) :=
  if a2 = 0 then
    k_ix (61 + a1) 169 (
      some (f_h_now (61 + a1).toNatClampNeg))
  else
    k_ix (61 + a1) 169 (
      some (((f_h_now (61 + a1).toNatClampNeg) * 3) / 4))
def lb_X9_mastOf_5 (f_h_now : Nat → Int32) (a1 : Int32) (f_h_rule : Nat → Int32) (a2 : Int32) (x3_17 : Int32) (x4_18 : Int32) : Option ((Int32 × Int32) ⊕ (Int32)) :=
  if (f_h_now 11) ≤ x4_18 then
    some (.inr x3_17)
  else
    k_ix (67 + x4_18) 169 (
      if (f_h_now (67 + x4_18).toNatClampNeg) = 1 then
        k_ix (49 + x4_18) 169 (
          if (f_h_now (49 + x4_18).toNatClampNeg) = a1 then
            k_b1 (p_X9_takes f_h_now f_h_rule a2) fun r24 =>
            some (.inl (x3_17 + r24, x4_18 + 1))
          else
            some (.inl (x3_17 + 0, x4_18 + 1)))
      else
        some (.inl (x3_17 + 0, x4_18 + 1)))
def p_X9_mastOf (f_h_now : Nat → Int32) (f_h_rule : Nat → Int32) (a1 : Int32) (a2 : Int32) : Option (Int32) :=
  k_b1 (k_lp (fun s => lb_X9_mastOf_5 f_h_now a1 f_h_rule a2 s.1 s.2) k_fuel (0, 0)) fun x3_16 =>
  some x3_16
def lb_X9_holds_85 (f_h_now : Nat → Int32) (f_h_rule : Nat → Int32) (a1 : Int32) (x3_39 : Int32) (x4_40 : Int32) : Option ((Int32 × Int32) ⊕ (Int32)) :=
  if 3 ≤ x4_40 then
    some (.inr x3_39)
  else
    if x3_39 = 0 then
      some (.inl (0, x4_40 + 1))
    else
      k_b1 (p_X9_mastOf f_h_now f_h_rule x4_40 a1) fun r43 =>
      k_ix (5 + x4_40) 8 (
        if (f_h_rule (5 + x4_40).toNatClampNeg) < r43 then
          some (.inl (0, x4_40 + 1))
        else
          some (.inl (1, x4_40 + 1)))
def lb_X9_holds_24 (f_h_now : Nat → Int32) (f_h_rule : Nat → Int32) (a1 : Int32) (a2 : Int32) (x3_46 : Int32) (x4_47 : Int32) : Option ((Int32 × Int32) ⊕ (Int32)) :=
  if (f_h_now 11) ≤ x4_47 then
    some (.inr x3_46)
  else
    if x3_46 = 0 then
      some (.inl (0, x4_47 + 1))
    else
      k_ix (67 + x4_47) 169 (
        if (f_h_now (67 + x4_47).toNatClampNeg) = 0 then
          some (.inl (1, x4_47 + 1))
        else
          k_b1 (p_X9_ropeOf f_h_now f_h_rule x4_47 a1) fun r52 =>
          k_b1 (p_X9_may f_h_now x4_47 a2) fun r53 =>
          if r53 < r52 then
            some (.inl (0, x4_47 + 1))
          else
            some (.inl (1, x4_47 + 1)))
def lj_X9_holds_20 (f_h_now : Nat → Int32) (f_h_rule : Nat → Int32) (a1 : Int32) (a2 : Int32) (t5 : Int32) : Option (Int32) :=
  k_b1 (k_lp (fun s => lb_X9_holds_24 f_h_now f_h_rule a1 a2 s.1 s.2) k_fuel (t5, 0)) fun x3_24 =>
  k_b1 (k_lp (fun s => lb_X9_holds_85 f_h_now f_h_rule a1 s.1 s.2) k_fuel (x3_24, 0)) fun x3_37 =>
  k_ck (x3_37 = 0 ∨ x3_37 = 1) (some x3_37)
def p_X9_holds (f_h_now : Nat → Int32) (f_h_rule : Nat → Int32) (a1 : Int32) (a2 : Int32) : Option (Int32) :=
  k_b1 (p_X9_wholes f_h_now) fun r55 =>
  if 0 < r55 then
    lj_X9_holds_20 f_h_now f_h_rule a1 a2 1
  else
    k_b1 (p_X9_force f_h_rule f_h_now a1) fun r57 =>
    if r57 = 0 then
      lj_X9_holds_20 f_h_now f_h_rule a1 a2 1
    else
      lj_X9_holds_20 f_h_now f_h_rule a1 a2 0
def p_X9_isLost (f_h_now : Nat → Int32) : Option (Int32) :=
  if (f_h_now 2) ≤ 100 then
    some 0
  else
    some 1
def lb_X9_states_4 (f_h_now : Nat → Int32) (a1 : Int32) (x2_11 : Int32) (x3_12 : Int32) : Option ((Int32 × Int32) ⊕ (Int32)) :=
  if (f_h_now 12) ≤ x3_12 then
    some (.inr x2_11)
  else
    k_ix (145 + x3_12) 169 (
      if (f_h_now (145 + x3_12).toNatClampNeg) = a1 then
        some (.inl (x2_11 + 1, x3_12 + 1))
      else
        some (.inl (x2_11 + 0, x3_12 + 1)))
def p_X9_states (f_h_now : Nat → Int32) (a1 : Int32) : Option (Int32) :=
  k_b1 (k_lp (fun s => lb_X9_states_4 f_h_now a1 s.1 s.2) k_fuel (0, 0)) fun x2_10 =>
  some x2_10
def p_X9_floats (f_h_rule : Nat → Int32) (f_h_tide : Nat → Int32) (a1 : Int32) (a2 : Int32) : Option (Int32) :=
  if a2 < (f_h_rule 2) then
    some 0
  else
    k_b1 (p_X9_tideIn f_h_tide a1) fun r2 =>
    if r2 < ((a2 / 20) + (f_h_rule 0)) then
      some 0
    else
      some 1
def p_X9_ship (f_h_rule : Nat → Int32) (f_h_now : Nat → Int32) (f_h_tide : Nat → Int32) (f_h_rain : Nat → Int32) (a1 : Int32) : Option (Int32 × Int32) :=
  if a1 = 0 then
    k_b1 (p_X9_total f_h_rule f_h_now) fun r2 =>
    some (r2, 0)
  else
  if a1 = 1 then
    k_b1 (p_X9_total f_h_rule f_h_now) fun r4 =>
    some (r4 / 20, 0)
  else
  if a1 = 2 then
    some (f_h_now 1, 0)
  else
  if a1 = 3 then
    k_b1 (p_X9_force f_h_rule f_h_now (f_h_now 1)) fun r7 =>
    some (r7, 0)
  else
  if a1 = 4 then
    some (f_h_now 2, 0)
  else
  if a1 = 5 then
    if (f_h_now 1) = 0 then
      k_b1 (p_X9_states f_h_now 1) fun r11 =>
      if r11 = 0 then
        k_b1 (p_X9_total f_h_rule f_h_now) fun r13 =>
        k_b1 (p_X9_floats f_h_rule f_h_tide (f_h_now 0) r13) fun r14 =>
        if r14 = 0 then
          some (0, 0)
        else
          some (1, 0)
      else
        some (0, 0)
    else
      some (0, 0)
  else
  if a1 = 6 then
    k_b1 (p_X9_rains f_h_rain (f_h_now 0)) fun r17 =>
    k_b1 (p_X9_holds f_h_now f_h_rule (f_h_now 1) r17) fun r18 =>
    if r18 = 0 then
      some (0, 0)
    else
      some (1, 0)
  else
  if a1 = 7 then
    k_b1 (p_X9_isLost f_h_now) fun r21 =>
    if r21 = 0 then
      some (0, 0)
    else
      some (1, 0)
  else
    some ((-100), 0)
def p_X9_tackleTold (f_h_now : Nat → Int32) (f_h_rain : Nat → Int32) (f_h_rule : Nat → Int32) (a1 : Int32) (a2 : Int32) : Option (Int32 × Int32) :=
  k_b1 (p_X9_in ((a1).toInt64) 0 (((f_h_now 11) - 1).toInt64)) fun r1 =>
  if r1 = 0 then
    some ((-1), 0)
  else
    k_b1 (p_X9_in ((a2).toInt64) 0 3) fun r3 =>
    if r3 = 0 then
      some ((-1), 0)
    else
      k_ix (67 + a1) 169 (
        if (f_h_now (67 + a1).toNatClampNeg) = 0 then
          some (0, 0)
        else
          if a2 = 0 then
            k_b1 (p_X9_takes f_h_now f_h_rule (f_h_now 1)) fun r13 =>
            some (r13, 0)
          else
            if a2 = 1 then
              k_b1 (p_X9_ropeOf f_h_now f_h_rule a1 (f_h_now 1)) fun r12 =>
              some (r12, 0)
            else
              if a2 = 2 then
                k_b1 (p_X9_rains f_h_rain (f_h_now 0)) fun r10 =>
                k_b1 (p_X9_may f_h_now a1 r10) fun r11 =>
                some (r11, 0)
              else
                some (1, 0))
def lb_X9_greatest_8 (f_h_now : Nat → Int32) (f_h_rule : Nat → Int32) (a1 : Int32) (x2_8 : Int32) : Option ((Int32) ⊕ (Int32)) :=
  k_b1 (p_X9_holds f_h_now f_h_rule x2_8 a1) fun r9 =>
  if r9 = 0 then
    some (.inl (x2_8 + (-1)))
  else
    some (.inr x2_8)
def p_X9_greatest (f_h_now : Nat → Int32) (f_h_rule : Nat → Int32) (a1 : Int32) : Option (Int32 × Int32) :=
  k_b1 (k_lp (fun s => lb_X9_greatest_8 f_h_now f_h_rule a1 s) k_fuel 9) fun x2_7 =>
  some (x2_7, 0)
def p_X9_isBare (f_h_now : Nat → Int32) (f_h_tide : Nat → Int32) (a1 : Int32) (a2 : Int32) : Option (Int32) :=
  k_ix (73 + a1) 169 (
    k_ix (85 + a1) 169 (
      if (f_h_now (85 + a1).toNatClampNeg) = 0 then
        k_b1 (p_X9_tideIn f_h_tide a2) fun r6 =>
        if ((4 * (f_h_now (73 + a1).toNatClampNeg)) + (3 * (f_h_now 1))) ≤ r6 then
          some 0
        else
          some 1
      else
        k_b1 (p_X9_tideIn f_h_tide a2) fun r4 =>
        if ((4 * (f_h_now (73 + a1).toNatClampNeg)) + ((-3) * (f_h_now 1))) ≤ r4 then
          some 0
        else
          some 1))
def lb_X9_seamTold_100 (f_h_now : Nat → Int32) (f_h_tide : Nat → Int32) (a1 : Int32) (x3_15 : Int32) : Option ((Int32) ⊕ (Int32)) :=
  if 96 ≤ ((f_h_now 0) + x3_15) then
    some (.inr x3_15)
  else
    k_b1 (p_X9_isBare f_h_now f_h_tide a1 ((f_h_now 0) + x3_15)) fun r17 =>
    if r17 = 0 then
      some (.inr x3_15)
    else
      some (.inl (x3_15 + 1))
def p_X9_seamTold (f_h_now : Nat → Int32) (f_h_tide : Nat → Int32) (a1 : Int32) (a2 : Int32) : Option (Int32 × Int32) :=
  k_b1 (p_X9_in ((a1).toInt64) 0 (((f_h_now 12) - 1).toInt64)) fun r1 =>
  if r1 = 0 then
    some ((-1), 0)
  else
    k_b1 (p_X9_in ((a2).toInt64) 0 3) fun r3 =>
    if r3 = 0 then
      some ((-1), 0)
    else
      if 3 ≤ a2 then
        k_b1 (k_lp (fun s => lb_X9_seamTold_100 f_h_now f_h_tide a1 s) k_fuel 0) fun x3_14 =>
        some (x3_14, 0)
      else
        if a2 = 0 then
          k_ix (145 + a1) 169 (
            some (f_h_now (145 + a1).toNatClampNeg, 0))
        else
          if a2 = 1 then
            k_b1 (p_X9_isBare f_h_now f_h_tide a1 (f_h_now 0)) fun r22 =>
            if r22 = 0 then
              some (0, 0)
            else
              some (1, 0)
          else
            k_ix (157 + a1) 169 (
              some (f_h_now (157 + a1).toNatClampNeg, 0))
def lb_X9_move_61 (f_h_now : Nat → Int32) (a1 : Int32) (x2_34 : Int32) : Option ((Int32) ⊕ ((Int32 × Int32 × (Nat → Int32)) ⊕ (Unit))) :=
  if (f_h_now 10) ≤ x2_34 then
    some (.inr (.inr ()))
  else
    k_ix (25 + x2_34) 169 (
      if (f_h_now (25 + x2_34).toNatClampNeg) = a1 then
        k_ix (37 + x2_34) 169 (
          if (f_h_now (37 + x2_34).toNatClampNeg) = 1 then
            some (.inr (.inl ((-2), 0, f_h_now)))
          else
            some (.inl (x2_34 + 1)))
      else
        some (.inl (x2_34 + 1)))
def p_X9_move (f_h_now : Nat → Int32) (f_h_rule : Nat → Int32) (a1 : Int32) : Option (Int32 × Int32 × (Nat → Int32)) :=
  k_b1 (p_X9_in ((a1).toInt64) 0 (((f_h_now 10) - 1).toInt64)) fun r1 =>
  if r1 = 0 then
    some ((-1), 0, f_h_now)
  else
    if (f_h_now 3) = 1 then
      some ((-2), 0, f_h_now)
    else
      k_b1 (p_X9_isLost f_h_now) fun r4 =>
      if r4 = 0 then
        k_ix (37 + a1) 169 (
          if (f_h_now (37 + a1).toNatClampNeg) = 1 then
            k_bx0 (k_lp (fun s => lb_X9_move_61 f_h_now a1 s) k_fuel 0) (fun q => some q) (
              k_ix (37 + a1) 169 (
                k_ix (37 + a1) 169 (
                  k_b1 (p_X9_total f_h_rule (upd (upd (upd f_h_now (37 + a1).toNatClampNeg (1 - (f_h_now (37 + a1).toNatClampNeg))) 3 1) 9 (((upd (upd f_h_now (37 + a1).toNatClampNeg (1 - (f_h_now (37 + a1).toNatClampNeg))) 3 1) 9) + 1))) fun r33 =>
                  some (r33, 0, upd (upd (upd f_h_now (37 + a1).toNatClampNeg (1 - (f_h_now (37 + a1).toNatClampNeg))) 3 1) 9 (((upd (upd f_h_now (37 + a1).toNatClampNeg (1 - (f_h_now (37 + a1).toNatClampNeg))) 3 1) 9) + 1)))))
          else
            k_ix (25 + a1) 169 (
              if (f_h_now (25 + a1).toNatClampNeg) < 0 then
                k_ix (37 + a1) 169 (
                  k_ix (37 + a1) 169 (
                    k_b1 (p_X9_total f_h_rule (upd (upd (upd f_h_now (37 + a1).toNatClampNeg (1 - (f_h_now (37 + a1).toNatClampNeg))) 3 1) 9 (((upd (upd f_h_now (37 + a1).toNatClampNeg (1 - (f_h_now (37 + a1).toNatClampNeg))) 3 1) 9) + 1))) fun r12 =>
                    some (r12, 0, upd (upd (upd f_h_now (37 + a1).toNatClampNeg (1 - (f_h_now (37 + a1).toNatClampNeg))) 3 1) 9 (((upd (upd f_h_now (37 + a1).toNatClampNeg (1 - (f_h_now (37 + a1).toNatClampNeg))) 3 1) 9) + 1))))
              else
                k_ix (25 + a1) 169 (
                  k_ix (37 + (f_h_now (25 + a1).toNatClampNeg)) 169 (
                    if (f_h_now (37 + (f_h_now (25 + a1).toNatClampNeg)).toNatClampNeg) = 0 then
                      some ((-2), 0, f_h_now)
                    else
                      k_ix (37 + a1) 169 (
                        k_ix (37 + a1) 169 (
                          k_b1 (p_X9_total f_h_rule (upd (upd (upd f_h_now (37 + a1).toNatClampNeg (1 - (f_h_now (37 + a1).toNatClampNeg))) 3 1) 9 (((upd (upd f_h_now (37 + a1).toNatClampNeg (1 - (f_h_now (37 + a1).toNatClampNeg))) 3 1) 9) + 1))) fun r18 =>
                          some (r18, 0, upd (upd (upd f_h_now (37 + a1).toNatClampNeg (1 - (f_h_now (37 + a1).toNatClampNeg))) 3 1) 9 (((upd (upd f_h_now (37 + a1).toNatClampNeg (1 - (f_h_now (37 + a1).toNatClampNeg))) 3 1) 9) + 1))))))))
      else
        some ((-2), 0, f_h_now)
def p_X9_heel (f_h_now : Nat → Int32) (f_h_rain : Nat → Int32) (f_h_rule : Nat → Int32) (a1 : Int32) : Option (Int32 × Int32 × (Nat → Int32)) :=
  if a1 = 1 then
    k_b1 (p_X9_isLost f_h_now) fun r2 =>
    if r2 = 0 then
      if (f_h_now 4) = 1 then
        some ((-102), 0, f_h_now)
      else
        k_b1 (p_X9_in (((f_h_now 1) + a1).toInt64) (-9) 9) fun r5 =>
        if r5 = 0 then
          some ((-102), 0, f_h_now)
        else
          k_b1 (p_X9_rains f_h_rain (f_h_now 0)) fun r7 =>
          k_b1 (p_X9_holds f_h_now f_h_rule ((f_h_now 1) + a1) r7) fun r8 =>
          if r8 = 0 then
            some ((-102), 0, f_h_now)
          else
            some ((f_h_now 1) + a1, 0, upd (upd f_h_now 1 ((f_h_now 1) + a1)) 4 1)
    else
      some ((-102), 0, f_h_now)
  else
    if a1 = (-1) then
      k_b1 (p_X9_isLost f_h_now) fun r11 =>
      if r11 = 0 then
        if (f_h_now 4) = 1 then
          some ((-102), 0, f_h_now)
        else
          k_b1 (p_X9_in (((f_h_now 1) + a1).toInt64) (-9) 9) fun r14 =>
          if r14 = 0 then
            some ((-102), 0, f_h_now)
          else
            k_b1 (p_X9_rains f_h_rain (f_h_now 0)) fun r16 =>
            k_b1 (p_X9_holds f_h_now f_h_rule ((f_h_now 1) + a1) r16) fun r17 =>
            if r17 = 0 then
              some ((-102), 0, f_h_now)
            else
              some ((f_h_now 1) + a1, 0, upd (upd f_h_now 1 ((f_h_now 1) + a1)) 4 1)
      else
        some ((-102), 0, f_h_now)
    else
      some ((-100), 0, f_h_now)
def lb_X9_part_101 (f_h_now : Nat → Int32) (f_h_rule : Nat → Int32) (x4_94 : Int32) (x3_117 : Int32) (x5_118 : Int32) : Option ((Int32 × Int32) ⊕ (Int32)) :=
  if x5_118 < 0 then
    some (.inr x3_117)
  else
    k_b1 (p_X9_mastOf f_h_now f_h_rule x4_94 (f_h_now 1)) fun r120 =>
    k_ix (5 + x4_94) 8 (
      if r120 ≤ (f_h_rule (5 + x4_94).toNatClampNeg) then
        some (.inl (x3_117, x5_118 + (-1)))
      else
        k_ix (67 + x5_118) 169 (
          if (f_h_now (67 + x5_118).toNatClampNeg) = 1 then
            k_ix (49 + x5_118) 169 (
              if (f_h_now (49 + x5_118).toNatClampNeg) = x4_94 then
                some (.inl (x5_118, x5_118 + (-1)))
              else
                some (.inl (x3_117, x5_118 + (-1))))
          else
            some (.inl (x3_117, x5_118 + (-1)))))
def lb_X9_part_81 (x2_18 : Int32) (f_h_now : Nat → Int32) (f_h_rule : Nat → Int32) (x3_93 : Int32) (x4_94 : Int32) : Option ((Int32 × Int32) ⊕ (Int32)) :=
  if x4_94 < 0 then
    some (.inr x3_93)
  else
    if x2_18 = 0 then
      k_b1 (k_lp (fun s => lb_X9_part_101 f_h_now f_h_rule x4_94 s.1 s.2) k_fuel (x3_93, (f_h_now 11) - 1)) fun x3_116 =>
      some (.inl (x3_116, x4_94 + (-1)))
    else
      some (.inr x3_93)
def lb_X9_part_8 (f_h_now : Nat → Int32) (f_h_rule : Nat → Int32) (a1 : Int32) (x2_127 : Int32) (x3_128 : Int32) (x4_129 : Int32) : Option ((Int32 × Int32 × Int32) ⊕ (Int32 × Int32)) :=
  if (f_h_now 11) ≤ x4_129 then
    some (.inr (x2_127, x3_128))
  else
    k_ix (67 + x4_129) 169 (
      if (f_h_now (67 + x4_129).toNatClampNeg) = 1 then
        k_b1 (p_X9_ropeOf f_h_now f_h_rule x4_129 (f_h_now 1)) fun r134 =>
        k_b1 (p_X9_may f_h_now x4_129 a1) fun r135 =>
        if (r134 - r135) ≤ x2_127 then
          some (.inl (x2_127, x3_128, x4_129 + 1))
        else
          some (.inl (r134 - r135, x4_129, x4_129 + 1))
      else
        if 0 ≤ x2_127 then
          some (.inl (x2_127, x3_128, x4_129 + 1))
        else
          some (.inl (0, x4_129, x4_129 + 1)))
def p_X9_part (f_h_now : Nat → Int32) (f_h_rule : Nat → Int32) (a1 : Int32) : Option ((Nat → Int32)) :=
  k_b2 (k_lp (fun s => lb_X9_part_8 f_h_now f_h_rule a1 s.1 s.2.1 s.2.2) k_fuel (0, (-4), 0)) fun x2_18 x3_19 =>
  k_b1 (k_lp (fun s => lb_X9_part_81 x2_18 f_h_now f_h_rule s.1 s.2) k_fuel (x3_19, 2)) fun x3_86 =>
  if x3_86 = (-4) then
    k_b1 (p_X9_wholes f_h_now) fun r88 =>
    if r88 = 0 then
      some (upd f_h_now 1 0)
    else
      some f_h_now
  else
    k_ix (67 + x3_86) 169 (
      k_b1 (p_X9_wholes (upd (upd f_h_now (67 + x3_86).toNatClampNeg 0) 8 (((upd f_h_now (67 + x3_86).toNatClampNeg 0) 8) + 1))) fun r91 =>
      if r91 = 0 then
        some (upd (upd (upd f_h_now (67 + x3_86).toNatClampNeg 0) 8 (((upd f_h_now (67 + x3_86).toNatClampNeg 0) 8) + 1)) 1 0)
      else
        some (upd (upd f_h_now (67 + x3_86).toNatClampNeg 0) 8 (((upd f_h_now (67 + x3_86).toNatClampNeg 0) 8) + 1)))
def lb_X9_pass_434 (f_h_rule : Nat → Int32) (r1 : Int32) (c_h_now_163 : Nat → Int32) : Option (((Nat → Int32)) ⊕ ((Nat → Int32))) :=
  k_b1 (p_X9_holds c_h_now_163 f_h_rule (c_h_now_163 1) r1) fun r164 =>
  if r164 = 0 then
    k_b1 (p_X9_part c_h_now_163 f_h_rule r1) fun w_h_now_166 =>
    some (.inl w_h_now_166)
  else
    some (.inr c_h_now_163)
def lj_X9_pass_432 (f_h_rule : Nat → Int32) (r1 : Int32) (c_h_now_135 : Nat → Int32) (x3_134 : Int32) (t152 : Int32) : Option ((Nat → Int32)) :=
  k_b1 (k_lp (fun s => lb_X9_pass_434 f_h_rule r1 s) k_fuel (upd (upd c_h_now_135 7 ((c_h_now_135 7) + ((f_h_rule 3) - x3_134))) 2 (((upd c_h_now_135 7 ((c_h_now_135 7) + ((f_h_rule 3) - x3_134))) 2) + t152))) fun c_h_now_162 =>
  some (upd (upd (upd c_h_now_162 0 ((c_h_now_162 0) + 1)) 3 0) 4 0)
def lb_X9_pass_334 (c_h_now_135 : Nat → Int32) (f_h_rule : Nat → Int32) (x3_134 : Int32) (f_h_tide : Nat → Int32) (x4_169 : Int32) (x5_170 : Int32) : Option ((Int32 × Int32) ⊕ (Int32)) :=
  if ((upd c_h_now_135 7 ((c_h_now_135 7) + ((f_h_rule 3) - x3_134))) 12) ≤ x5_170 then
    some (.inr x4_169)
  else
    k_ix (145 + x5_170) 169 (
      if ((upd c_h_now_135 7 ((c_h_now_135 7) + ((f_h_rule 3) - x3_134))) (145 + x5_170).toNatClampNeg) = 1 then
        k_b1 (p_X9_isBare (upd c_h_now_135 7 ((c_h_now_135 7) + ((f_h_rule 3) - x3_134))) f_h_tide x5_170 ((upd c_h_now_135 7 ((c_h_now_135 7) + ((f_h_rule 3) - x3_134))) 0)) fun r174 =>
        if r174 = 0 then
          some (.inl (x4_169 + 10, x5_170 + 1))
        else
          some (.inl (x4_169 + 0, x5_170 + 1))
      else
        some (.inl (x4_169 + 0, x5_170 + 1)))
def lj_X9_pass_290 (x4_177 : Int32) (x3_176 : Int32) (c_h_now_196 : Nat → Int32) (t203 : Int32) : Option ((Int32 × Int32 × (Nat → Int32)) ⊕ (Int32 × (Nat → Int32))) :=
  k_ix (145 + x4_177) 169 (
    k_ix (97 + x4_177) 169 (
      k_lt (x3_176 - ((upd (upd c_h_now_196 (157 + x4_177).toNatClampNeg ((c_h_now_196 (157 + x4_177).toNatClampNeg) + 1)) (145 + x4_177).toNatClampNeg t203) (97 + x4_177).toNatClampNeg)) fun y207 =>
      some (.inl (y207, x4_177 + 1, upd (upd c_h_now_196 (157 + x4_177).toNatClampNeg ((c_h_now_196 (157 + x4_177).toNatClampNeg) + 1)) (145 + x4_177).toNatClampNeg t203))))
def lj_X9_pass_236 (x4_177 : Int32) (x3_176 : Int32) (c_h_now_196 : Nat → Int32) : Option ((Int32 × Int32 × (Nat → Int32)) ⊕ (Int32 × (Nat → Int32))) :=
  k_ix (157 + x4_177) 169 (
    k_ix (157 + x4_177) 169 (
      k_ix (157 + x4_177) 169 (
        k_ix (109 + x4_177) 169 (
          if ((upd c_h_now_196 (157 + x4_177).toNatClampNeg ((c_h_now_196 (157 + x4_177).toNatClampNeg) + 1)) (157 + x4_177).toNatClampNeg) = ((upd c_h_now_196 (157 + x4_177).toNatClampNeg ((c_h_now_196 (157 + x4_177).toNatClampNeg) + 1)) (109 + x4_177).toNatClampNeg) then
            lj_X9_pass_290 x4_177 x3_176 c_h_now_196 2
          else
            lj_X9_pass_290 x4_177 x3_176 c_h_now_196 1))))
def lj_X9_pass_290_1 (x4_177 : Int32) (x3_176 : Int32) (c_h_now_221 : Nat → Int32) (t228 : Int32) : Option ((Int32 × Int32 × (Nat → Int32)) ⊕ (Int32 × (Nat → Int32))) :=
  k_ix (145 + x4_177) 169 (
    k_ix (97 + x4_177) 169 (
      k_lt (x3_176 - ((upd (upd c_h_now_221 (157 + x4_177).toNatClampNeg ((c_h_now_221 (157 + x4_177).toNatClampNeg) + 1)) (145 + x4_177).toNatClampNeg t228) (97 + x4_177).toNatClampNeg)) fun y232 =>
      some (.inl (y232, x4_177 + 1, upd (upd c_h_now_221 (157 + x4_177).toNatClampNeg ((c_h_now_221 (157 + x4_177).toNatClampNeg) + 1)) (145 + x4_177).toNatClampNeg t228))))
def lj_X9_pass_236_1 (x4_177 : Int32) (x3_176 : Int32) (c_h_now_221 : Nat → Int32) : Option ((Int32 × Int32 × (Nat → Int32)) ⊕ (Int32 × (Nat → Int32))) :=
  k_ix (157 + x4_177) 169 (
    k_ix (157 + x4_177) 169 (
      k_ix (157 + x4_177) 169 (
        k_ix (109 + x4_177) 169 (
          if ((upd c_h_now_221 (157 + x4_177).toNatClampNeg ((c_h_now_221 (157 + x4_177).toNatClampNeg) + 1)) (157 + x4_177).toNatClampNeg) = ((upd c_h_now_221 (157 + x4_177).toNatClampNeg ((c_h_now_221 (157 + x4_177).toNatClampNeg) + 1)) (109 + x4_177).toNatClampNeg) then
            lj_X9_pass_290_1 x4_177 x3_176 c_h_now_221 2
          else
            lj_X9_pass_290_1 x4_177 x3_176 c_h_now_221 1))))
def lb_X9_pass_21 (a1 : Int32) (r1 : Int32) (f_h_tide : Nat → Int32) (x3_176 : Int32) (x4_177 : Int32) (c_h_now_178 : Nat → Int32) : Option ((Int32 × Int32 × (Nat → Int32)) ⊕ (Int32 × (Nat → Int32))) :=
  if (c_h_now_178 12) ≤ x4_177 then
    some (.inr (x3_176, c_h_now_178))
  else
    if ((a1 >>> (x4_177 &&& 31)) &&& 1) = 1 then
      if r1 = 0 then
        k_b1 (p_X9_isBare c_h_now_178 f_h_tide x4_177 (c_h_now_178 0)) fun r182 =>
        if r182 = 0 then
          some (.inl (x3_176, x4_177 + 1, c_h_now_178))
        else
          k_ix (97 + x4_177) 169 (
            if x3_176 < (c_h_now_178 (97 + x4_177).toNatClampNeg) then
              some (.inl (x3_176, x4_177 + 1, c_h_now_178))
            else
              k_ix (145 + x4_177) 169 (
                if (c_h_now_178 (145 + x4_177).toNatClampNeg) = 2 then
                  some (.inl (x3_176, x4_177 + 1, c_h_now_178))
                else
                  k_ix (145 + x4_177) 169 (
                    if (c_h_now_178 (145 + x4_177).toNatClampNeg) = 0 then
                      k_ix (145 + x4_177) 169 (
                        k_ix (97 + x4_177) 169 (
                          k_lt (x3_176 - ((upd c_h_now_178 (145 + x4_177).toNatClampNeg 1) (97 + x4_177).toNatClampNeg)) fun y242 =>
                          some (.inl (y242, x4_177 + 1, upd c_h_now_178 (145 + x4_177).toNatClampNeg 1))))
                    else
                      k_ix (157 + x4_177) 169 (
                        if 0 < (c_h_now_178 (157 + x4_177).toNatClampNeg) then
                          k_ix (157 + x4_177) 169 (
                            if (c_h_now_178 (157 + x4_177).toNatClampNeg) = 0 then
                              k_ix (121 + x4_177) 169 (
                                k_ix (121 + x4_177) 169 (
                                  lj_X9_pass_236 x4_177 x3_176 (upd (upd c_h_now_178 5 ((c_h_now_178 5) - (c_h_now_178 (121 + x4_177).toNatClampNeg))) 6 (((upd c_h_now_178 5 ((c_h_now_178 5) - (c_h_now_178 (121 + x4_177).toNatClampNeg))) 6) + ((upd c_h_now_178 5 ((c_h_now_178 5) - (c_h_now_178 (121 + x4_177).toNatClampNeg))) (121 + x4_177).toNatClampNeg)))))
                            else
                              lj_X9_pass_236 x4_177 x3_176 c_h_now_178)
                        else
                          k_ix (121 + x4_177) 169 (
                            if (c_h_now_178 5) < (c_h_now_178 (121 + x4_177).toNatClampNeg) then
                              some (.inl (x3_176, x4_177 + 1, c_h_now_178))
                            else
                              k_ix (157 + x4_177) 169 (
                                if (c_h_now_178 (157 + x4_177).toNatClampNeg) = 0 then
                                  k_ix (121 + x4_177) 169 (
                                    k_ix (121 + x4_177) 169 (
                                      lj_X9_pass_236_1 x4_177 x3_176 (upd (upd c_h_now_178 5 ((c_h_now_178 5) - (c_h_now_178 (121 + x4_177).toNatClampNeg))) 6 (((upd c_h_now_178 5 ((c_h_now_178 5) - (c_h_now_178 (121 + x4_177).toNatClampNeg))) 6) + ((upd c_h_now_178 5 ((c_h_now_178 5) - (c_h_now_178 (121 + x4_177).toNatClampNeg))) (121 + x4_177).toNatClampNeg)))))
                                else
                                  lj_X9_pass_236_1 x4_177 x3_176 c_h_now_178))))))
      else
        some (.inl (x3_176, x4_177 + 1, c_h_now_178))
    else
      some (.inl (x3_176, x4_177 + 1, c_h_now_178))
def p_X9_pass (f_h_now : Nat → Int32) (f_h_rain : Nat → Int32) (f_h_rule : Nat → Int32) (f_h_tide : Nat → Int32) (a1 : Int32) : Option ((Nat → Int32)) :=
  k_b1 (p_X9_rains f_h_rain (f_h_now 0)) fun r1 =>
  k_b2 (k_lp (fun s => lb_X9_pass_21 a1 r1 f_h_tide s.1 s.2.1 s.2.2) k_fuel (f_h_rule 3, 0, f_h_now)) fun x3_134 c_h_now_135 =>
  k_b1 (k_lp (fun s => lb_X9_pass_334 c_h_now_135 f_h_rule x3_134 f_h_tide s.1 s.2) k_fuel (0, 0)) fun x4_149 =>
  if x4_149 ≤ 0 then
    if 5 ≤ ((upd c_h_now_135 7 ((c_h_now_135 7) + ((f_h_rule 3) - x3_134))) 2) then
      lj_X9_pass_432 f_h_rule r1 c_h_now_135 x3_134 (-5)
    else
      lj_X9_pass_432 f_h_rule r1 c_h_now_135 x3_134 (-((upd c_h_now_135 7 ((c_h_now_135 7) + ((f_h_rule 3) - x3_134))) 2))
  else
    lj_X9_pass_432 f_h_rule r1 c_h_now_135 x3_134 x4_149
def p_X9_hour (f_h_now : Nat → Int32) (f_h_rain : Nat → Int32) (f_h_rule : Nat → Int32) (f_h_tide : Nat → Int32) (a1 : Int32) : Option (Int32 × Int32 × (Nat → Int32)) :=
  k_b1 (p_X9_in ((a1).toInt64) 0 (((1 <<< ((f_h_now 12) &&& 31)) - 1).toInt64)) fun r1 =>
  if r1 = 0 then
    some ((-1), 0, f_h_now)
  else
    k_b1 (p_X9_isLost f_h_now) fun r3 =>
    if r3 = 0 then
      if (f_h_now 0) ≤ 95 then
        k_b1 (p_X9_pass f_h_now f_h_rain f_h_rule f_h_tide a1) fun w_h_now_6 =>
        some (w_h_now_6 2, 0, w_h_now_6)
      else
        some ((-2), 0, f_h_now)
    else
      some ((-2), 0, f_h_now)
def p_X9_rig (f_h_now : Nat → Int32) (f_h_rain : Nat → Int32) (f_h_rule : Nat → Int32) (a1 : Int32) (a2 : Int32) : Option (Int32 × Int32 × (Nat → Int32)) :=
  k_b1 (p_X9_in ((a1).toInt64) 0 (((f_h_now 11) - 1).toInt64)) fun r1 =>
  if r1 = 0 then
    some ((-1), 0, f_h_now)
  else
    k_ix (67 + a1) 169 (
      if a2 = 0 then
        k_ix (67 + a1) 169 (
          k_b1 (p_X9_rains f_h_rain ((upd f_h_now (67 + a1).toNatClampNeg 0) 0)) fun r6 =>
          k_b1 (p_X9_holds (upd f_h_now (67 + a1).toNatClampNeg 0) f_h_rule ((upd f_h_now (67 + a1).toNatClampNeg 0) 1) r6) fun r7 =>
          if r7 = 0 then
            k_ix (67 + a1) 169 (
              some ((-2), 0, upd (upd f_h_now (67 + a1).toNatClampNeg 0) (67 + a1).toNatClampNeg (f_h_now (67 + a1).toNatClampNeg)))
          else
            some (f_h_now (67 + a1).toNatClampNeg, 0, upd f_h_now (67 + a1).toNatClampNeg 0))
      else
        k_ix (67 + a1) 169 (
          k_b1 (p_X9_rains f_h_rain ((upd f_h_now (67 + a1).toNatClampNeg 1) 0)) fun r11 =>
          k_b1 (p_X9_holds (upd f_h_now (67 + a1).toNatClampNeg 1) f_h_rule ((upd f_h_now (67 + a1).toNatClampNeg 1) 1) r11) fun r12 =>
          if r12 = 0 then
            k_ix (67 + a1) 169 (
              some ((-2), 0, upd (upd f_h_now (67 + a1).toNatClampNeg 1) (67 + a1).toNatClampNeg (f_h_now (67 + a1).toNatClampNeg)))
          else
            some (f_h_now (67 + a1).toNatClampNeg, 0, upd f_h_now (67 + a1).toNatClampNeg 1)))
def p_X9_hoursFor (f_h_now : Nat → Int32) (a1 : Int32) : Option (Int32) :=
  k_ix (145 + a1) 169 (
    if (f_h_now (145 + a1).toNatClampNeg) = 0 then
      k_ix (109 + a1) 169 (
        k_ix (157 + a1) 169 (
          some ((1 + (f_h_now (109 + a1).toNatClampNeg)) - (f_h_now (157 + a1).toNatClampNeg))))
    else
      k_ix (109 + a1) 169 (
        k_ix (157 + a1) 169 (
          some ((0 + (f_h_now (109 + a1).toNatClampNeg)) - (f_h_now (157 + a1).toNatClampNeg)))))
def lb_X9_isPlan_158 (v_h_counted : Int32) (f_h_begins : Nat → Int32) (x3_197 : Int32) (f_h_now : Nat → Int32) (f_h_counts : Nat → Int32) (x4_222 : Int32) (x5_223 : Int32) : Option ((Int32 × Int32) ⊕ (Int32)) :=
  if v_h_counted ≤ x5_223 then
    some (.inr x4_222)
  else
    k_ix x5_223 5 (
      if (f_h_begins x5_223.toNatClampNeg) < 0 then
        some (.inl (x4_222 + 0, x5_223 + 1))
      else
        k_ix x5_223 5 (
          if x3_197 < (f_h_begins x5_223.toNatClampNeg) then
            some (.inl (x4_222 + 0, x5_223 + 1))
          else
            k_ix x5_223 5 (
              k_ix x5_223 5 (
                k_b1 (p_X9_hoursFor f_h_now (f_h_counts x5_223.toNatClampNeg)) fun r231 =>
                if ((f_h_begins x5_223.toNatClampNeg) + r231) ≤ x3_197 then
                  some (.inl (x4_222 + 0, x5_223 + 1))
                else
                  k_ix x5_223 5 (
                    k_ix (97 + (f_h_counts x5_223.toNatClampNeg)) 169 (
                      k_lt (x4_222 + (f_h_now (97 + (f_h_counts x5_223.toNatClampNeg)).toNatClampNeg)) fun y235 =>
                      some (.inl (y235, x5_223 + 1))))))))
def lb_X9_isPlan_147 (a1 : Int32) (v_h_counted : Int32) (f_h_begins : Nat → Int32) (f_h_now : Nat → Int32) (f_h_counts : Nat → Int32) (f_h_rule : Nat → Int32) (x3_197 : Int32) : Option ((Int32) ⊕ ((Int32) ⊕ (Unit))) :=
  if a1 ≤ x3_197 then
    some (.inr (.inr ()))
  else
    k_b1 (k_lp (fun s => lb_X9_isPlan_158 v_h_counted f_h_begins x3_197 f_h_now f_h_counts s.1 s.2) k_fuel (0, 0)) fun x4_220 =>
    if x4_220 ≤ (f_h_rule 3) then
      some (.inl (x3_197 + 1))
    else
      some (.inr (.inl 0))
def lb_X9_isPlan_82 (f_h_now : Nat → Int32) (f_h_counts : Nat → Int32) (x3_237 : Int32) (f_h_rain : Nat → Int32) (f_h_begins : Nat → Int32) (f_h_tide : Nat → Int32) (x5_263 : Int32) : Option ((Int32) ⊕ ((Int32) ⊕ (Unit))) :=
  k_b1 (p_X9_hoursFor f_h_now (f_h_counts x3_237.toNatClampNeg)) fun r264 =>
  if r264 ≤ x5_263 then
    some (.inr (.inr ()))
  else
    k_ix x3_237 5 (
      k_b1 (p_X9_rains f_h_rain (((f_h_now 0) + (f_h_begins x3_237.toNatClampNeg)) + x5_263)) fun r267 =>
      if r267 = 0 then
        k_b1 (p_X9_isBare f_h_now f_h_tide (f_h_counts x3_237.toNatClampNeg) (((f_h_now 0) + (f_h_begins x3_237.toNatClampNeg)) + x5_263)) fun r269 =>
        if r269 = 0 then
          some (.inr (.inl 0))
        else
          some (.inl (x5_263 + 1))
      else
        some (.inr (.inl 0)))
def lb_X9_isPlan_82_1 (f_h_now : Nat → Int32) (f_h_counts : Nat → Int32) (x3_237 : Int32) (f_h_rain : Nat → Int32) (f_h_begins : Nat → Int32) (f_h_tide : Nat → Int32) (x5_292 : Int32) : Option ((Int32) ⊕ ((Int32) ⊕ (Unit))) :=
  k_b1 (p_X9_hoursFor f_h_now (f_h_counts x3_237.toNatClampNeg)) fun r293 =>
  if r293 ≤ x5_292 then
    some (.inr (.inr ()))
  else
    k_ix x3_237 5 (
      k_b1 (p_X9_rains f_h_rain (((f_h_now 0) + (f_h_begins x3_237.toNatClampNeg)) + x5_292)) fun r296 =>
      if r296 = 0 then
        k_b1 (p_X9_isBare f_h_now f_h_tide (f_h_counts x3_237.toNatClampNeg) (((f_h_now 0) + (f_h_begins x3_237.toNatClampNeg)) + x5_292)) fun r298 =>
        if r298 = 0 then
          some (.inr (.inl 0))
        else
          some (.inl (x5_292 + 1))
      else
        some (.inr (.inl 0)))
def lb_X9_isPlan_4 (v_h_counted : Int32) (f_h_begins : Nat → Int32) (f_h_counts : Nat → Int32) (f_h_now : Nat → Int32) (a1 : Int32) (f_h_rain : Nat → Int32) (f_h_tide : Nat → Int32) (x2_236 : Int32) (x3_237 : Int32) : Option ((Int32 × Int32) ⊕ ((Int32) ⊕ (Int32))) :=
  if v_h_counted ≤ x3_237 then
    some (.inr (.inr x2_236))
  else
    k_ix x3_237 5 (
      k_ix x3_237 5 (
        if (f_h_begins x3_237.toNatClampNeg) < 0 then
          some (.inl (x2_236, x3_237 + 1))
        else
          k_ix (157 + (f_h_counts x3_237.toNatClampNeg)) 169 (
            if (f_h_now (157 + (f_h_counts x3_237.toNatClampNeg)).toNatClampNeg) = 0 then
              k_ix (121 + (f_h_counts x3_237.toNatClampNeg)) 169 (
                k_lt (x2_236 + (f_h_now (121 + (f_h_counts x3_237.toNatClampNeg)).toNatClampNeg)) fun y272 =>
                k_ix x3_237 5 (
                  k_b1 (p_X9_hoursFor f_h_now (f_h_counts x3_237.toNatClampNeg)) fun r274 =>
                  if ((f_h_begins x3_237.toNatClampNeg) + r274) ≤ a1 then
                    k_bx0 (k_lp (fun s => lb_X9_isPlan_82_1 f_h_now f_h_counts x3_237 f_h_rain f_h_begins f_h_tide s) k_fuel 0) (fun q => some (.inr (.inl q))) (
                      some (.inl (y272, x3_237 + 1)))
                  else
                    some (.inr (.inl 0))))
            else
              k_ix x3_237 5 (
                k_b1 (p_X9_hoursFor f_h_now (f_h_counts x3_237.toNatClampNeg)) fun r245 =>
                if ((f_h_begins x3_237.toNatClampNeg) + r245) ≤ a1 then
                  k_bx0 (k_lp (fun s => lb_X9_isPlan_82 f_h_now f_h_counts x3_237 f_h_rain f_h_begins f_h_tide s) k_fuel 0) (fun q => some (.inr (.inl q))) (
                    some (.inl (x2_236 + 0, x3_237 + 1)))
                else
                  some (.inr (.inl 0))))))
def p_X9_isPlan (v_h_counted : Int32) (f_h_counts : Nat → Int32) (f_h_begins : Nat → Int32) (f_h_now : Nat → Int32) (f_h_rain : Nat → Int32) (f_h_tide : Nat → Int32) (f_h_rule : Nat → Int32) (a1 : Int32) : Option (Int32) :=
  k_bx1 (k_lp (fun s => lb_X9_isPlan_4 v_h_counted f_h_begins f_h_counts f_h_now a1 f_h_rain f_h_tide s.1 s.2) k_fuel (0, 0)) (fun q => some q) fun x2_117 =>
  k_bx0 (k_lp (fun s => lb_X9_isPlan_147 a1 v_h_counted f_h_begins f_h_now f_h_counts f_h_rule s) k_fuel 0) (fun q => some q) (
    if (f_h_now 5) < x2_117 then
      some 0
    else
      some 1)
def lb_X9_findPlan_362 (c_h_begins_456 : Nat → Int32) (x9_465 : Int32) (c_h_best_466 : Nat → Int32) : Option ((Int32 × (Nat → Int32)) ⊕ ((Nat → Int32))) :=
  if 5 ≤ x9_465 then
    some (.inr c_h_best_466)
  else
    k_ix x9_465 5 (
      k_ix x9_465 5 (
        some (.inl (x9_465 + 1, upd c_h_best_466 x9_465.toNatClampNeg (c_h_begins_456 x9_465.toNatClampNeg)))))
def lb_X9_findPlan_278 (x2_353 : Int32) (a1 : Int32) (x10_494 : Int32) (x11_495 : Int32) (c_h_begins_496 : Nat → Int32) : Option ((Int32 × Int32 × (Nat → Int32)) ⊕ ((Nat → Int32))) :=
  if x11_495 < 0 then
    some (.inr c_h_begins_496)
  else
    k_ix x11_495 5 (
      if ((x2_353 >>> (x11_495 &&& 31)) &&& 1) = 1 then
        k_ck (¬ a1 = 0) (
          k_ix x11_495 5 (
            k_ck (¬ a1 = 0) (
              some (.inl (x10_494 / a1, x11_495 + (-1), upd (upd c_h_begins_496 x11_495.toNatClampNeg (-1)) x11_495.toNatClampNeg (x10_494 - x10_494 / a1 * a1))))))
      else
        some (.inl (x10_494, x11_495 + (-1), upd c_h_begins_496 x11_495.toNatClampNeg (-1))))
def lb_X9_findPlan_249 (x6_384 : Int32) (t390 : Int32) (x2_353 : Int32) (a1 : Int32) (c_h_counted_14 : Int32) (c_h_counts_13 : Nat → Int32) (f_h_now : Nat → Int32) (f_h_rain : Nat → Int32) (f_h_tide : Nat → Int32) (f_h_rule : Nat → Int32) (x8_470 : Int32) (x9_471 : Int32) (c_h_begins_472 : Nat → Int32) : Option ((Int32 × Int32 × (Nat → Int32)) ⊕ (Int32 × (Nat → Int32))) :=
  if x6_384 ≤ x9_471 then
    some (.inr (x8_470, c_h_begins_472))
  else
    if t390 = 0 then
      some (.inr (x8_470, c_h_begins_472))
    else
      if x8_470 = 0 then
        k_b1 (k_lp (fun s => lb_X9_findPlan_278 x2_353 a1 s.1 s.2.1 s.2.2) k_fuel (x9_471, c_h_counted_14 - 1, c_h_begins_472)) fun c_h_begins_492 =>
        k_b1 (p_X9_isPlan c_h_counted_14 c_h_counts_13 c_h_begins_492 f_h_now f_h_rain f_h_tide f_h_rule a1) fun r493 =>
        some (.inl (r493, x9_471 + 1, c_h_begins_492))
      else
        some (.inr (x8_470, c_h_begins_472))
def lj_X9_findPlan_241 (x6_384 : Int32) (x2_353 : Int32) (a1 : Int32) (c_h_counted_14 : Int32) (c_h_counts_13 : Nat → Int32) (f_h_now : Nat → Int32) (f_h_rain : Nat → Int32) (f_h_tide : Nat → Int32) (f_h_rule : Nat → Int32) (c_h_begins_354 : Nat → Int32) (c_h_best_355 : Nat → Int32) (c_h_bestBits_356 : Int32) (c_h_bestPitch_357 : Int32) (c_h_bestWorth_358 : Int32) (x5_383 : Int32) (x4_382 : Int32) (x3_381 : Int32) (t390 : Int32) : Option ((Int32 × (Nat → Int32) × (Nat → Int32) × Int32 × Int32 × Int32) ⊕ ((Nat → Int32) × (Nat → Int32) × Int32 × Int32 × Int32)) :=
  k_b2 (k_lp (fun s => lb_X9_findPlan_249 x6_384 t390 x2_353 a1 c_h_counted_14 c_h_counts_13 f_h_now f_h_rain f_h_tide f_h_rule s.1 s.2.1 s.2.2) k_fuel (0, 0, c_h_begins_354)) fun x8_455 c_h_begins_456 =>
  if x8_455 = 0 then
    some (.inl (x2_353 + 1, c_h_begins_456, c_h_best_355, c_h_bestBits_356, c_h_bestPitch_357, c_h_bestWorth_358))
  else
    k_b1 (k_lp (fun s => lb_X9_findPlan_362 c_h_begins_456 s.1 s.2) k_fuel (0, c_h_best_355)) fun c_h_best_464 =>
    some (.inl (x2_353 + 1, c_h_begins_456, c_h_best_464, x5_383, x4_382, x3_381))
def lb_X9_findPlan_97 (c_h_counted_14 : Int32) (x2_353 : Int32) (c_h_counts_13 : Nat → Int32) (f_h_now : Nat → Int32) (a1 : Int32) (x3_508 : Int32) (x4_509 : Int32) (x5_510 : Int32) (x6_511 : Int32) (x7_512 : Int32) : Option ((Int32 × Int32 × Int32 × Int32 × Int32) ⊕ (Int32 × Int32 × Int32 × Int32)) :=
  if c_h_counted_14 ≤ x7_512 then
    some (.inr (x3_508, x4_509, x5_510, x6_511))
  else
    if ((x2_353 >>> (x7_512 &&& 31)) &&& 1) = 1 then
      k_ix x7_512 5 (
        k_ix (133 + (c_h_counts_13 x7_512.toNatClampNeg)) 169 (
          k_lt (x3_508 + (f_h_now (133 + (c_h_counts_13 x7_512.toNatClampNeg)).toNatClampNeg)) fun y517 =>
          k_ix (157 + (c_h_counts_13 x7_512.toNatClampNeg)) 169 (
            if (f_h_now (157 + (c_h_counts_13 x7_512.toNatClampNeg)).toNatClampNeg) = 0 then
              k_ix (121 + (c_h_counts_13 x7_512.toNatClampNeg)) 169 (
                k_lt (x4_509 + (f_h_now (121 + (c_h_counts_13 x7_512.toNatClampNeg)).toNatClampNeg)) fun y521 =>
                some (.inl (y517, y521, x5_510 ||| (1 <<< ((c_h_counts_13 x7_512.toNatClampNeg) &&& 31)), x6_511 * a1, x7_512 + 1)))
            else
              some (.inl (y517, x4_509 + 0, x5_510 ||| (1 <<< ((c_h_counts_13 x7_512.toNatClampNeg) &&& 31)), x6_511 * a1, x7_512 + 1)))))
    else
      some (.inl (x3_508, x4_509, x5_510, x6_511, x7_512 + 1))
def lb_X9_findPlan_73 (c_h_counted_14 : Int32) (c_h_counts_13 : Nat → Int32) (f_h_now : Nat → Int32) (a1 : Int32) (f_h_rain : Nat → Int32) (f_h_tide : Nat → Int32) (f_h_rule : Nat → Int32) (x2_353 : Int32) (c_h_begins_354 : Nat → Int32) (c_h_best_355 : Nat → Int32) (c_h_bestBits_356 : Int32) (c_h_bestPitch_357 : Int32) (c_h_bestWorth_358 : Int32) : Option ((Int32 × (Nat → Int32) × (Nat → Int32) × Int32 × Int32 × Int32) ⊕ ((Nat → Int32) × (Nat → Int32) × Int32 × Int32 × Int32)) :=
  if (1 <<< (c_h_counted_14 &&& 31)) ≤ x2_353 then
    some (.inr (c_h_begins_354, c_h_best_355, c_h_bestBits_356, c_h_bestPitch_357, c_h_bestWorth_358))
  else
    k_b4 (k_lp (fun s => lb_X9_findPlan_97 c_h_counted_14 x2_353 c_h_counts_13 f_h_now a1 s.1 s.2.1 s.2.2.1 s.2.2.2.1 s.2.2.2.2) k_fuel (0, 0, 0, 1, 0)) fun x3_381 x4_382 x5_383 x6_384 =>
    if c_h_bestWorth_358 < x3_381 then
      lj_X9_findPlan_241 x6_384 x2_353 a1 c_h_counted_14 c_h_counts_13 f_h_now f_h_rain f_h_tide f_h_rule c_h_begins_354 c_h_best_355 c_h_bestBits_356 c_h_bestPitch_357 c_h_bestWorth_358 x5_383 x4_382 x3_381 1
    else
      if x3_381 = c_h_bestWorth_358 then
        if x4_382 < c_h_bestPitch_357 then
          lj_X9_findPlan_241 x6_384 x2_353 a1 c_h_counted_14 c_h_counts_13 f_h_now f_h_rain f_h_tide f_h_rule c_h_begins_354 c_h_best_355 c_h_bestBits_356 c_h_bestPitch_357 c_h_bestWorth_358 x5_383 x4_382 x3_381 1
        else
          if x4_382 = c_h_bestPitch_357 then
            if c_h_bestBits_356 ≤ x5_383 then
              lj_X9_findPlan_241 x6_384 x2_353 a1 c_h_counted_14 c_h_counts_13 f_h_now f_h_rain f_h_tide f_h_rule c_h_begins_354 c_h_best_355 c_h_bestBits_356 c_h_bestPitch_357 c_h_bestWorth_358 x5_383 x4_382 x3_381 0
            else
              lj_X9_findPlan_241 x6_384 x2_353 a1 c_h_counted_14 c_h_counts_13 f_h_now f_h_rain f_h_tide f_h_rule c_h_begins_354 c_h_best_355 c_h_bestBits_356 c_h_bestPitch_357 c_h_bestWorth_358 x5_383 x4_382 x3_381 1
          else
            lj_X9_findPlan_241 x6_384 x2_353 a1 c_h_counted_14 c_h_counts_13 f_h_now f_h_rain f_h_tide f_h_rule c_h_begins_354 c_h_best_355 c_h_bestBits_356 c_h_bestPitch_357 c_h_bestWorth_358 x5_383 x4_382 x3_381 0
      else
        lj_X9_findPlan_241 x6_384 x2_353 a1 c_h_counted_14 c_h_counts_13 f_h_now f_h_rain f_h_tide f_h_rule c_h_begins_354 c_h_best_355 c_h_bestBits_356 c_h_bestPitch_357 c_h_bestWorth_358 x5_383 x4_382 x3_381 0
def lb_X9_findPlan_7 (f_h_now : Nat → Int32) (x2_522 : Int32) (c_h_counts_523 : Nat → Int32) (c_h_counted_524 : Int32) : Option ((Int32 × (Nat → Int32) × Int32) ⊕ ((Nat → Int32) × Int32)) :=
  if (f_h_now 12) ≤ x2_522 then
    some (.inr (c_h_counts_523, c_h_counted_524))
  else
    if 5 ≤ c_h_counted_524 then
      some (.inl (x2_522 + 1, c_h_counts_523, c_h_counted_524))
    else
      k_ix (145 + x2_522) 169 (
        if (f_h_now (145 + x2_522).toNatClampNeg) = 2 then
          some (.inl (x2_522 + 1, c_h_counts_523, c_h_counted_524))
        else
          k_ix c_h_counted_524 5 (
            some (.inl (x2_522 + 1, upd c_h_counts_523 c_h_counted_524.toNatClampNeg x2_522, c_h_counted_524 + 1))))
def p_X9_findPlan (v_h_bestPitch : Int32) (v_h_bestBits : Int32) (f_h_now : Nat → Int32) (f_h_counts : Nat → Int32) (f_h_begins : Nat → Int32) (f_h_rain : Nat → Int32) (f_h_tide : Nat → Int32) (f_h_rule : Nat → Int32) (f_h_best : Nat → Int32) (a1 : Int32) : Option (Int32 × Int32 × Int32 × Int32 × (Nat → Int32) × (Nat → Int32) × (Nat → Int32)) :=
  k_b2 (k_lp (fun s => lb_X9_findPlan_7 f_h_now s.1 s.2.1 s.2.2) k_fuel (0, f_h_counts, 0)) fun c_h_counts_13 c_h_counted_14 =>
  k_b5 (k_lp (fun s => lb_X9_findPlan_73 c_h_counted_14 c_h_counts_13 f_h_now a1 f_h_rain f_h_tide f_h_rule s.1 s.2.1 s.2.2.1 s.2.2.2.1 s.2.2.2.2.1 s.2.2.2.2.2) k_fuel (0, f_h_begins, f_h_best, v_h_bestBits, v_h_bestPitch, (-1))) fun c_h_begins_348 c_h_best_349 c_h_bestBits_350 c_h_bestPitch_351 c_h_bestWorth_352 =>
  some (c_h_counted_14, c_h_bestWorth_352, c_h_bestPitch_351, c_h_bestBits_350, c_h_counts_13, c_h_begins_348, c_h_best_349)
def lb_X9_plan_105 (w_h_counted_8 : Int32) (w_h_counts_12 : Nat → Int32) (a2 : Int32) (w_h_best_14 : Nat → Int32) (x3_29 : Int32) (x4_30 : Int32) : Option ((Int32 × Int32) ⊕ (Int32)) :=
  if w_h_counted_8 ≤ x4_30 then
    some (.inr x3_29)
  else
    k_ix x4_30 5 (
      if (w_h_counts_12 x4_30.toNatClampNeg) = (a2 - 3) then
        k_ix x4_30 5 (
          if (w_h_best_14 x4_30.toNatClampNeg) < 0 then
            some (.inl (x3_29, x4_30 + 1))
          else
            k_ix x4_30 5 (
              some (.inl (w_h_best_14 x4_30.toNatClampNeg, x4_30 + 1))))
      else
        some (.inl (x3_29, x4_30 + 1)))
def p_X9_plan (v_h_counted : Int32) (v_h_bestWorth : Int32) (v_h_bestPitch : Int32) (v_h_bestBits : Int32) (f_h_now : Nat → Int32) (f_h_counts : Nat → Int32) (f_h_begins : Nat → Int32) (f_h_rain : Nat → Int32) (f_h_tide : Nat → Int32) (f_h_rule : Nat → Int32) (f_h_best : Nat → Int32) (a1 : Int32) (a2 : Int32) : Option (Int32 × Int32 × Int32 × Int32 × Int32 × Int32 × (Nat → Int32) × (Nat → Int32) × (Nat → Int32)) :=
  k_b1 (p_X9_in ((a1).toInt64) 1 6) fun r1 =>
  if r1 = 0 then
    some ((-1), 0, v_h_counted, v_h_bestWorth, v_h_bestPitch, v_h_bestBits, f_h_counts, f_h_begins, f_h_best)
  else
    k_b1 (p_X9_in ((a2).toInt64) 0 ((2 + (f_h_now 12)).toInt64)) fun r3 =>
    if r3 = 0 then
      some ((-1), 0, v_h_counted, v_h_bestWorth, v_h_bestPitch, v_h_bestBits, f_h_counts, f_h_begins, f_h_best)
    else
      k_b1 (p_X9_isLost f_h_now) fun r5 =>
      if r5 = 0 then
        if ((f_h_now 0) + a1) ≤ 96 then
          k_b7 (p_X9_findPlan v_h_bestPitch v_h_bestBits f_h_now f_h_counts f_h_begins f_h_rain f_h_tide f_h_rule f_h_best a1) fun w_h_counted_8 w_h_bestWorth_9 w_h_bestPitch_10 w_h_bestBits_11 w_h_counts_12 w_h_begins_13 w_h_best_14 =>
          if 3 ≤ a2 then
            k_b1 (k_lp (fun s => lb_X9_plan_105 w_h_counted_8 w_h_counts_12 a2 w_h_best_14 s.1 s.2) k_fuel ((-4), 0)) fun x3_28 =>
            some (x3_28, 0, w_h_counted_8, w_h_bestWorth_9, w_h_bestPitch_10, w_h_bestBits_11, w_h_counts_12, w_h_begins_13, w_h_best_14)
          else
            if a2 = 0 then
              some (w_h_bestWorth_9, 0, w_h_counted_8, w_h_bestWorth_9, w_h_bestPitch_10, w_h_bestBits_11, w_h_counts_12, w_h_begins_13, w_h_best_14)
            else
              if a2 = 1 then
                some (w_h_bestPitch_10, 0, w_h_counted_8, w_h_bestWorth_9, w_h_bestPitch_10, w_h_bestBits_11, w_h_counts_12, w_h_begins_13, w_h_best_14)
              else
                some (w_h_bestBits_11, 0, w_h_counted_8, w_h_bestWorth_9, w_h_bestPitch_10, w_h_bestBits_11, w_h_counts_12, w_h_begins_13, w_h_best_14)
        else
          some ((-2), 0, v_h_counted, v_h_bestWorth, v_h_bestPitch, v_h_bestBits, f_h_counts, f_h_begins, f_h_best)
      else
        some ((-2), 0, v_h_counted, v_h_bestWorth, v_h_bestPitch, v_h_bestBits, f_h_counts, f_h_begins, f_h_best)
def lb_X9_orders_65 (w_h_counted_8 : Int32) (w_h_best_14 : Nat → Int32) (a2 : Int32) (f_h_now : Nat → Int32) (w_h_counts_12 : Nat → Int32) (x3_34 : Int32) (x4_35 : Int32) : Option ((Int32 × Int32) ⊕ (Int32)) :=
  if w_h_counted_8 ≤ x4_35 then
    some (.inr x3_34)
  else
    k_ix x4_35 5 (
      if (w_h_best_14 x4_35.toNatClampNeg) < 0 then
        some (.inl (x3_34 ||| 0, x4_35 + 1))
      else
        k_ix x4_35 5 (
          if a2 < (w_h_best_14 x4_35.toNatClampNeg) then
            some (.inl (x3_34 ||| 0, x4_35 + 1))
          else
            k_ix x4_35 5 (
              k_ix x4_35 5 (
                k_b1 (p_X9_hoursFor f_h_now (w_h_counts_12 x4_35.toNatClampNeg)) fun r43 =>
                if ((w_h_best_14 x4_35.toNatClampNeg) + r43) ≤ a2 then
                  some (.inl (x3_34 ||| 0, x4_35 + 1))
                else
                  k_ix x4_35 5 (
                    some (.inl (x3_34 ||| (1 <<< ((w_h_counts_12 x4_35.toNatClampNeg) &&& 31)), x4_35 + 1)))))))
def p_X9_orders (v_h_counted : Int32) (v_h_bestWorth : Int32) (v_h_bestPitch : Int32) (v_h_bestBits : Int32) (f_h_now : Nat → Int32) (f_h_counts : Nat → Int32) (f_h_begins : Nat → Int32) (f_h_rain : Nat → Int32) (f_h_tide : Nat → Int32) (f_h_rule : Nat → Int32) (f_h_best : Nat → Int32) (a1 : Int32) (a2 : Int32) : Option (Int32 × Int32 × Int32 × Int32 × Int32 × Int32 × (Nat → Int32) × (Nat → Int32) × (Nat → Int32)) :=
  k_b1 (p_X9_in ((a1).toInt64) 1 6) fun r1 =>
  if r1 = 0 then
    some ((-1), 0, v_h_counted, v_h_bestWorth, v_h_bestPitch, v_h_bestBits, f_h_counts, f_h_begins, f_h_best)
  else
    k_b1 (p_X9_in ((a2).toInt64) 0 ((a1 - 1).toInt64)) fun r3 =>
    if r3 = 0 then
      some ((-1), 0, v_h_counted, v_h_bestWorth, v_h_bestPitch, v_h_bestBits, f_h_counts, f_h_begins, f_h_best)
    else
      k_b1 (p_X9_isLost f_h_now) fun r5 =>
      if r5 = 0 then
        if ((f_h_now 0) + a1) ≤ 96 then
          k_b7 (p_X9_findPlan v_h_bestPitch v_h_bestBits f_h_now f_h_counts f_h_begins f_h_rain f_h_tide f_h_rule f_h_best a1) fun w_h_counted_8 w_h_bestWorth_9 w_h_bestPitch_10 w_h_bestBits_11 w_h_counts_12 w_h_begins_13 w_h_best_14 =>
          k_b1 (k_lp (fun s => lb_X9_orders_65 w_h_counted_8 w_h_best_14 a2 f_h_now w_h_counts_12 s.1 s.2) k_fuel (0, 0)) fun x3_33 =>
          some (x3_33, 0, w_h_counted_8, w_h_bestWorth_9, w_h_bestPitch_10, w_h_bestBits_11, w_h_counts_12, w_h_begins_13, w_h_best_14)
        else
          some ((-2), 0, v_h_counted, v_h_bestWorth, v_h_bestPitch, v_h_bestBits, f_h_counts, f_h_begins, f_h_best)
      else
        some ((-2), 0, v_h_counted, v_h_bestWorth, v_h_bestPitch, v_h_bestBits, f_h_counts, f_h_begins, f_h_best)
def lj_X9_findFloat_466 (x10_440 : Int32) (x9_451 : Int32) (c_h_leastHour_452 : Int32) (c_h_leastSet_453 : Int32) : Option ((Int32 × Int32 × Int32 × Int32) ⊕ (Int32 × Int32)) :=
  some (.inl (x10_440 + 1, x9_451, c_h_leastHour_452, c_h_leastSet_453))
def lb_X9_findFloat_405 (x5_398 : Int32) (f_h_rule : Nat → Int32) (f_h_tide : Nat → Int32) (x6_399 : Int32) (x4_349 : Int32) (x10_440 : Int32) (x9_441 : Int32) (c_h_leastHour_442 : Int32) (c_h_leastSet_443 : Int32) : Option ((Int32 × Int32 × Int32 × Int32) ⊕ (Int32 × Int32)) :=
  if 96 ≤ x10_440 then
    some (.inr (c_h_leastHour_442, c_h_leastSet_443))
  else
    if x5_398 = 0 then
      some (.inr (c_h_leastHour_442, c_h_leastSet_443))
    else
      if x9_441 = 0 then
        k_b1 (p_X9_floats f_h_rule f_h_tide x10_440 x6_399) fun r455 =>
        if r455 = 0 then
          lj_X9_findFloat_466 x10_440 x9_441 c_h_leastHour_442 c_h_leastSet_443
        else
          if c_h_leastHour_442 = (-4) then
            lj_X9_findFloat_466 x10_440 1 x10_440 x4_349
          else
            if c_h_leastHour_442 ≤ x10_440 then
              lj_X9_findFloat_466 x10_440 1 c_h_leastHour_442 c_h_leastSet_443
            else
              lj_X9_findFloat_466 x10_440 1 x10_440 x4_349
      else
        some (.inr (c_h_leastHour_442, c_h_leastSet_443))
def lj_X9_findFloat_396 (x5_398 : Int32) (f_h_rule : Nat → Int32) (f_h_tide : Nat → Int32) (x6_399 : Int32) (x4_349 : Int32) (c_h_leastHour_350 : Int32) (c_h_leastSet_351 : Int32) (t402 : Int32) : Option ((Int32 × Int32 × Int32) ⊕ (Int32 × Int32)) :=
  k_b2 (k_lp (fun s => lb_X9_findFloat_405 x5_398 f_h_rule f_h_tide x6_399 x4_349 s.1 s.2.1 s.2.2.1 s.2.2.2) k_fuel (t402, 0, c_h_leastHour_350, c_h_leastSet_351)) fun c_h_leastHour_438 c_h_leastSet_439 =>
  some (.inl (x4_349 + 1, c_h_leastHour_438, c_h_leastSet_439))
def lj_X9_findFloat_352 (x8_463 : Int32) (x6_461 : Int32) (c_h_now_82 : Nat → Int32) (x7_462 : Int32) (t474 : Int32) : Option ((Int32 × Int32 × Int32 × Int32) ⊕ (Int32 × Int32 × Int32)) :=
  k_ix (13 + x8_463) 169 (
    some (.inl (t474, x6_461 + (c_h_now_82 (13 + x8_463).toNatClampNeg), x7_462 + 1, x8_463 + 1)))
def lb_X9_findFloat_264 (c_h_now_82 : Nat → Int32) (x4_349 : Int32) (x5_460 : Int32) (x6_461 : Int32) (x7_462 : Int32) (x8_463 : Int32) : Option ((Int32 × Int32 × Int32 × Int32) ⊕ (Int32 × Int32 × Int32)) :=
  if (c_h_now_82 10) ≤ x8_463 then
    some (.inr (x5_460, x6_461, x7_462))
  else
    if ((x4_349 >>> (x8_463 &&& 31)) &&& 1) = 1 then
      k_ix (25 + x8_463) 169 (
        if x5_460 = 0 then
          lj_X9_findFloat_352 x8_463 x6_461 c_h_now_82 x7_462 0
        else
          k_ix (37 + x8_463) 169 (
            if (c_h_now_82 (37 + x8_463).toNatClampNeg) = 0 then
              if (c_h_now_82 (25 + x8_463).toNatClampNeg) < 0 then
                lj_X9_findFloat_352 x8_463 x6_461 c_h_now_82 x7_462 1
              else
                k_ix (37 + (c_h_now_82 (25 + x8_463).toNatClampNeg)) 169 (
                  if (c_h_now_82 (37 + (c_h_now_82 (25 + x8_463).toNatClampNeg)).toNatClampNeg) = 1 then
                    lj_X9_findFloat_352 x8_463 x6_461 c_h_now_82 x7_462 1
                  else
                    if ((x4_349 >>> ((c_h_now_82 (25 + x8_463).toNatClampNeg) &&& 31)) &&& 1) = 1 then
                      lj_X9_findFloat_352 x8_463 x6_461 c_h_now_82 x7_462 1
                    else
                      lj_X9_findFloat_352 x8_463 x6_461 c_h_now_82 x7_462 0)
            else
              lj_X9_findFloat_352 x8_463 x6_461 c_h_now_82 x7_462 0))
    else
      some (.inl (x5_460, x6_461, x7_462, x8_463 + 1))
def lb_X9_findFloat_231 (c_h_now_82 : Nat → Int32) (t71 : Int32) (f_h_rule : Nat → Int32) (f_h_now : Nat → Int32) (c_h_now_67 : Nat → Int32) (t74 : Int32) (f_h_tide : Nat → Int32) (x4_349 : Int32) (c_h_leastHour_350 : Int32) (c_h_leastSet_351 : Int32) : Option ((Int32 × Int32 × Int32) ⊕ (Int32 × Int32)) :=
  if (1 <<< ((c_h_now_82 10) &&& 31)) ≤ x4_349 then
    some (.inr (c_h_leastHour_350, c_h_leastSet_351))
  else
    if t71 = 0 then
      some (.inr (c_h_leastHour_350, c_h_leastSet_351))
    else
      k_b1 (p_X9_total f_h_rule c_h_now_82) fun r354 =>
      k_b3 (k_lp (fun s => lb_X9_findFloat_264 c_h_now_82 x4_349 s.1 s.2.1 s.2.2.1 s.2.2.2) k_fuel (1, r354, 0, 0)) fun x5_398 x6_399 x7_400 =>
      if ((f_h_now 0) + x7_400) ≤ ((c_h_now_67 0) + t74) then
        lj_X9_findFloat_396 x5_398 f_h_rule f_h_tide x6_399 x4_349 c_h_leastHour_350 c_h_leastSet_351 ((c_h_now_67 0) + t74)
      else
        lj_X9_findFloat_396 x5_398 f_h_rule f_h_tide x6_399 x4_349 c_h_leastHour_350 c_h_leastSet_351 ((f_h_now 0) + x7_400)
def lb_X9_findFloat_200 (c_h_aside_7 : Nat → Int32) (x4_484 : Int32) (c_h_now_485 : Nat → Int32) : Option ((Int32 × (Nat → Int32)) ⊕ ((Nat → Int32))) :=
  if 169 ≤ x4_484 then
    some (.inr c_h_now_485)
  else
    k_ix x4_484 169 (
      k_ix x4_484 169 (
        some (.inl (x4_484 + 1, upd c_h_now_485 x4_484.toNatClampNeg (c_h_aside_7 x4_484.toNatClampNeg)))))
def lj_X9_findFloat_195 (c_h_aside_7 : Nat → Int32) (c_h_now_67 : Nat → Int32) (t71 : Int32) (f_h_rule : Nat → Int32) (f_h_now : Nat → Int32) (f_h_tide : Nat → Int32) (v_h_leastSet : Int32) (t74 : Int32) : Option (Int32 × Int32 × Int32 × (Nat → Int32) × (Nat → Int32)) :=
  k_b1 (k_lp (fun s => lb_X9_findFloat_200 c_h_aside_7 s.1 s.2) k_fuel (0, c_h_now_67)) fun c_h_now_82 =>
  k_b2 (k_lp (fun s => lb_X9_findFloat_231 c_h_now_82 t71 f_h_rule f_h_now c_h_now_67 t74 f_h_tide s.1 s.2.1 s.2.2) k_fuel (0, (-4), v_h_leastSet)) fun c_h_leastHour_347 c_h_leastSet_348 =>
  some (c_h_leastHour_347, c_h_leastSet_348, c_h_now_67 0, c_h_now_82, c_h_aside_7)
def lj_X9_findFloat_155 (c_h_now_67 : Nat → Int32) (c_h_aside_7 : Nat → Int32) (f_h_rule : Nat → Int32) (f_h_now : Nat → Int32) (f_h_tide : Nat → Int32) (v_h_leastSet : Int32) (t71 : Int32) : Option (Int32 × Int32 × Int32 × (Nat → Int32) × (Nat → Int32)) :=
  if 0 ≤ (c_h_now_67 1) then
    lj_X9_findFloat_195 c_h_aside_7 c_h_now_67 t71 f_h_rule f_h_now f_h_tide v_h_leastSet (c_h_now_67 1)
  else
    lj_X9_findFloat_195 c_h_aside_7 c_h_now_67 t71 f_h_rule f_h_now f_h_tide v_h_leastSet (-(c_h_now_67 1))
def lj_X9_findFloat_126 (c_h_now_494 : Nat → Int32) (f_h_rain : Nat → Int32) (f_h_rule : Nat → Int32) (f_h_tide : Nat → Int32) (x3_507 : Int32) (t511 : Int32) : Option ((Int32 × (Nat → Int32)) ⊕ (Int32 × (Nat → Int32))) :=
  if t511 = 0 then
    some (.inl (t511, c_h_now_494))
  else
    k_b1 (p_X9_pass c_h_now_494 f_h_rain f_h_rule f_h_tide x3_507) fun w_h_now_514 =>
    some (.inl (t511, w_h_now_514))
def lb_X9_findFloat_59 (c_h_now_494 : Nat → Int32) (x3_518 : Int32) (x4_519 : Int32) : Option ((Int32 × Int32) ⊕ (Int32)) :=
  if (c_h_now_494 12) ≤ x4_519 then
    some (.inr x3_518)
  else
    k_ix (145 + x4_519) 169 (
      if (c_h_now_494 (145 + x4_519).toNatClampNeg) = 1 then
        some (.inl (x3_518 ||| (1 <<< (x4_519 &&& 31)), x4_519 + 1))
      else
        some (.inl (x3_518 ||| 0, x4_519 + 1)))
def lb_X9_findFloat_42 (f_h_rain : Nat → Int32) (f_h_rule : Nat → Int32) (f_h_tide : Nat → Int32) (x2_493 : Int32) (c_h_now_494 : Nat → Int32) : Option ((Int32 × (Nat → Int32)) ⊕ (Int32 × (Nat → Int32))) :=
  if x2_493 = 0 then
    some (.inr (x2_493, c_h_now_494))
  else
    k_b1 (p_X9_states c_h_now_494 1) fun r496 =>
    if r496 ≤ 0 then
      some (.inr (x2_493, c_h_now_494))
    else
      k_b1 (k_lp (fun s => lb_X9_findFloat_59 c_h_now_494 s.1 s.2) k_fuel (0, 0)) fun x3_507 =>
      k_b1 (p_X9_isLost c_h_now_494) fun r515 =>
      if r515 = 0 then
        if 96 ≤ (c_h_now_494 0) then
          lj_X9_findFloat_126 c_h_now_494 f_h_rain f_h_rule f_h_tide x3_507 0
        else
          lj_X9_findFloat_126 c_h_now_494 f_h_rain f_h_rule f_h_tide x3_507 1
      else
        lj_X9_findFloat_126 c_h_now_494 f_h_rain f_h_rule f_h_tide x3_507 0
def lb_X9_findFloat_9 (f_h_now : Nat → Int32) (x2_523 : Int32) (c_h_aside_524 : Nat → Int32) : Option ((Int32 × (Nat → Int32)) ⊕ ((Nat → Int32))) :=
  if 169 ≤ x2_523 then
    some (.inr c_h_aside_524)
  else
    k_ix x2_523 169 (
      k_ix x2_523 169 (
        some (.inl (x2_523 + 1, upd c_h_aside_524 x2_523.toNatClampNeg (f_h_now x2_523.toNatClampNeg)))))
def p_X9_findFloat (v_h_leastSet : Int32) (f_h_now : Nat → Int32) (f_h_aside : Nat → Int32) (f_h_rain : Nat → Int32) (f_h_rule : Nat → Int32) (f_h_tide : Nat → Int32) : Option (Int32 × Int32 × Int32 × (Nat → Int32) × (Nat → Int32)) :=
  k_b1 (k_lp (fun s => lb_X9_findFloat_9 f_h_now s.1 s.2) k_fuel (0, f_h_aside)) fun c_h_aside_7 =>
  k_b2 (k_lp (fun s => lb_X9_findFloat_42 f_h_rain f_h_rule f_h_tide s.1 s.2) k_fuel (1, f_h_now)) fun x2_66 c_h_now_67 =>
  if x2_66 = 0 then
    lj_X9_findFloat_155 c_h_now_67 c_h_aside_7 f_h_rule f_h_now f_h_tide v_h_leastSet 0
  else
    k_b1 (p_X9_isLost c_h_now_67) fun r491 =>
    if r491 = 0 then
      lj_X9_findFloat_155 c_h_now_67 c_h_aside_7 f_h_rule f_h_now f_h_tide v_h_leastSet 1
    else
      lj_X9_findFloat_155 c_h_now_67 c_h_aside_7 f_h_rule f_h_now f_h_tide v_h_leastSet 0
def lb_X9_toFloat_23 (f_h_now : Nat → Int32) (x2_22 : Int32) (x3_23 : Int32) : Option ((Int32 × Int32) ⊕ (Int32)) :=
  if (f_h_now 10) ≤ x3_23 then
    some (.inr x2_22)
  else
    k_ix (37 + x3_23) 169 (
      some (.inl (x2_22 + (1 - (f_h_now (37 + x3_23).toNatClampNeg)), x3_23 + 1)))
def p_X9_toFloat (v_h_leastHour : Int32) (v_h_leastSet : Int32) (v_h_shut : Int32) (f_h_now : Nat → Int32) (f_h_aside : Nat → Int32) (f_h_rain : Nat → Int32) (f_h_rule : Nat → Int32) (f_h_tide : Nat → Int32) (a1 : Int32) : Option (Int32 × Int32 × Int32 × Int32 × Int32 × (Nat → Int32) × (Nat → Int32)) :=
  k_b1 (p_X9_in ((a1).toInt64) 0 2) fun r1 =>
  if r1 = 0 then
    some ((-1), 0, v_h_leastHour, v_h_leastSet, v_h_shut, f_h_now, f_h_aside)
  else
    k_b1 (k_lp (fun s => lb_X9_toFloat_23 f_h_now s.1 s.2) k_fuel (0, 0)) fun x2_10 =>
    if 8 < x2_10 then
      some ((-2), 0, v_h_leastHour, v_h_leastSet, v_h_shut, f_h_now, f_h_aside)
    else
      k_b1 (p_X9_isLost f_h_now) fun r12 =>
      if r12 = 0 then
        k_b5 (p_X9_findFloat v_h_leastSet f_h_now f_h_aside f_h_rain f_h_rule f_h_tide) fun w_h_leastHour_14 w_h_leastSet_15 w_h_shut_16 w_h_now_17 w_h_aside_18 =>
        if w_h_leastHour_14 = (-4) then
          some ((-4), 0, w_h_leastHour_14, w_h_leastSet_15, w_h_shut_16, w_h_now_17, w_h_aside_18)
        else
          if a1 = 0 then
            some (w_h_leastHour_14, 0, w_h_leastHour_14, w_h_leastSet_15, w_h_shut_16, w_h_now_17, w_h_aside_18)
          else
            if a1 = 1 then
              some (w_h_leastSet_15, 0, w_h_leastHour_14, w_h_leastSet_15, w_h_shut_16, w_h_now_17, w_h_aside_18)
            else
              some (w_h_shut_16, 0, w_h_leastHour_14, w_h_leastSet_15, w_h_shut_16, w_h_now_17, w_h_aside_18)
      else
        some ((-2), 0, v_h_leastHour, v_h_leastSet, v_h_shut, f_h_now, f_h_aside)
def p_X9_tap (f_h_planks : Nat → Int32) (a1 : Int32) (a2 : Int32) : Option (Int32 × Int32 × (Nat → Int32)) :=
  k_b1 (p_X9_in ((a1).toInt64) 0 29) fun r1 =>
  if r1 = 0 then
    some ((-100), 0, f_h_planks)
  else
    k_b1 (p_X9_in ((a2).toInt64) (-1) 1) fun r3 =>
    if r3 = 0 then
      some ((-100), 0, f_h_planks)
    else
      k_ix a1 30 (
        k_ix a1 30 (
          some (f_h_planks a1.toNatClampNeg, 0, upd f_h_planks a1.toNatClampNeg a2)))
def lj_X9_worm_298 (t74 : Int32) : Option (Int32 × Int32) :=
  some (t74, 0)
def lj_X9_worm_259 (t96 : Int32) (x5_81 : Int32) (t101 : Int32) : Option ((Int32 × Int32 × Int32) ⊕ (Int32 × Int32)) :=
  some (.inl (t101, t96, x5_81 + 1))
def lj_X9_worm_227 (x5_81 : Int32) (f_h_planks : Nat → Int32) (a2 : Int32) (t91 : Int32) (t96 : Int32) : Option ((Int32 × Int32 × Int32) ⊕ (Int32 × Int32)) :=
  k_ix x5_81 30 (
    if (f_h_planks x5_81.toNatClampNeg) = 1 then
      if a2 = 2 then
        lj_X9_worm_259 t96 x5_81 1000
      else
        lj_X9_worm_259 t96 x5_81 (-1000)
    else
      lj_X9_worm_259 t96 x5_81 t91)
def lj_X9_worm_196 (x5_81 : Int32) (f_h_planks : Nat → Int32) (a2 : Int32) (t86 : Int32) (t91 : Int32) : Option ((Int32 × Int32 × Int32) ⊕ (Int32 × Int32)) :=
  k_ix x5_81 30 (
    if (f_h_planks x5_81.toNatClampNeg) = 0 then
      if a2 = 2 then
        lj_X9_worm_227 x5_81 f_h_planks a2 t91 1000
      else
        lj_X9_worm_227 x5_81 f_h_planks a2 t91 (-1000)
    else
      lj_X9_worm_227 x5_81 f_h_planks a2 t91 t86)
def lj_X9_worm_162 (a2 : Int32) (x3_79 : Int32) (x4_80 : Int32) (x5_81 : Int32) (f_h_planks : Nat → Int32) (t86 : Int32) : Option ((Int32 × Int32 × Int32) ⊕ (Int32 × Int32)) :=
  if a2 = 2 then
    if x3_79 ≤ x4_80 then
      lj_X9_worm_196 x5_81 f_h_planks a2 t86 x3_79
    else
      lj_X9_worm_196 x5_81 f_h_planks a2 t86 x4_80
  else
    if x4_80 ≤ x3_79 then
      lj_X9_worm_196 x5_81 f_h_planks a2 t86 x3_79
    else
      lj_X9_worm_196 x5_81 f_h_planks a2 t86 x4_80
def lb_X9_worm_111 (a1 : Int32) (a2 : Int32) (f_h_planks : Nat → Int32) (x3_79 : Int32) (x4_80 : Int32) (x5_81 : Int32) : Option ((Int32 × Int32 × Int32) ⊕ (Int32 × Int32)) :=
  if a1 ≤ x5_81 then
    some (.inr (x3_79, x4_80))
  else
    if a2 = 2 then
      if x4_80 ≤ (x3_79 + 1) then
        lj_X9_worm_162 a2 x3_79 x4_80 x5_81 f_h_planks x4_80
      else
        lj_X9_worm_162 a2 x3_79 x4_80 x5_81 f_h_planks (x3_79 + 1)
    else
      if (x3_79 + 1) ≤ x4_80 then
        lj_X9_worm_162 a2 x3_79 x4_80 x5_81 f_h_planks x4_80
      else
        lj_X9_worm_162 a2 x3_79 x4_80 x5_81 f_h_planks (x3_79 + 1)
def lj_X9_worm_298_1 (t182 : Int32) : Option (Int32 × Int32) :=
  some (t182, 0)
def lj_X9_worm_259_1 (t204 : Int32) (x5_189 : Int32) (t209 : Int32) : Option ((Int32 × Int32 × Int32) ⊕ (Int32 × Int32)) :=
  some (.inl (t209, t204, x5_189 + 1))
def lj_X9_worm_227_1 (x5_189 : Int32) (f_h_planks : Nat → Int32) (a2 : Int32) (t199 : Int32) (t204 : Int32) : Option ((Int32 × Int32 × Int32) ⊕ (Int32 × Int32)) :=
  k_ix x5_189 30 (
    if (f_h_planks x5_189.toNatClampNeg) = 1 then
      if a2 = 2 then
        lj_X9_worm_259_1 t204 x5_189 1000
      else
        lj_X9_worm_259_1 t204 x5_189 (-1000)
    else
      lj_X9_worm_259_1 t204 x5_189 t199)
def lj_X9_worm_196_1 (x5_189 : Int32) (f_h_planks : Nat → Int32) (a2 : Int32) (t194 : Int32) (t199 : Int32) : Option ((Int32 × Int32 × Int32) ⊕ (Int32 × Int32)) :=
  k_ix x5_189 30 (
    if (f_h_planks x5_189.toNatClampNeg) = 0 then
      if a2 = 2 then
        lj_X9_worm_227_1 x5_189 f_h_planks a2 t199 1000
      else
        lj_X9_worm_227_1 x5_189 f_h_planks a2 t199 (-1000)
    else
      lj_X9_worm_227_1 x5_189 f_h_planks a2 t199 t194)
def lj_X9_worm_162_1 (a2 : Int32) (x3_187 : Int32) (x4_188 : Int32) (x5_189 : Int32) (f_h_planks : Nat → Int32) (t194 : Int32) : Option ((Int32 × Int32 × Int32) ⊕ (Int32 × Int32)) :=
  if a2 = 2 then
    if x3_187 ≤ x4_188 then
      lj_X9_worm_196_1 x5_189 f_h_planks a2 t194 x3_187
    else
      lj_X9_worm_196_1 x5_189 f_h_planks a2 t194 x4_188
  else
    if x4_188 ≤ x3_187 then
      lj_X9_worm_196_1 x5_189 f_h_planks a2 t194 x3_187
    else
      lj_X9_worm_196_1 x5_189 f_h_planks a2 t194 x4_188
def lb_X9_worm_111_1 (a1 : Int32) (a2 : Int32) (f_h_planks : Nat → Int32) (x3_187 : Int32) (x4_188 : Int32) (x5_189 : Int32) : Option ((Int32 × Int32 × Int32) ⊕ (Int32 × Int32)) :=
  if a1 ≤ x5_189 then
    some (.inr (x3_187, x4_188))
  else
    if a2 = 2 then
      if x4_188 ≤ (x3_187 + 1) then
        lj_X9_worm_162_1 a2 x3_187 x4_188 x5_189 f_h_planks x4_188
      else
        lj_X9_worm_162_1 a2 x3_187 x4_188 x5_189 f_h_planks (x3_187 + 1)
    else
      if (x3_187 + 1) ≤ x4_188 then
        lj_X9_worm_162_1 a2 x3_187 x4_188 x5_189 f_h_planks x4_188
      else
        lj_X9_worm_162_1 a2 x3_187 x4_188 x5_189 f_h_planks (x3_187 + 1)
def lb_X9_worm_41 (a1 : Int32) (f_h_planks : Nat → Int32) (a2 : Int32) (x3_237 : Int32) (x4_238 : Int32) : Option ((Int32 × Int32) ⊕ (Int32)) :=
  if a1 ≤ x4_238 then
    some (.inr x3_237)
  else
    k_ix x4_238 30 (
      if (f_h_planks x4_238.toNatClampNeg) = 1 then
        some (.inl (x3_237 + 1, x4_238 + 1))
      else
        if a2 = 1 then
          k_ix x4_238 30 (
            if (f_h_planks x4_238.toNatClampNeg) = (-1) then
              some (.inl (x3_237 + 1, x4_238 + 1))
            else
              some (.inl (x3_237 + 0, x4_238 + 1)))
        else
          some (.inl (x3_237 + 0, x4_238 + 1)))
def p_X9_worm (f_h_planks : Nat → Int32) (a1 : Int32) (a2 : Int32) : Option (Int32 × Int32) :=
  k_b1 (p_X9_in ((a1).toInt64) 1 30) fun r1 =>
  if r1 = 0 then
    some ((-1), 0)
  else
    k_b1 (p_X9_in ((a2).toInt64) 0 3) fun r3 =>
    if r3 = 0 then
      some ((-1), 0)
    else
      if 2 ≤ a2 then
        if a2 = 2 then
          k_b2 (k_lp (fun s => lb_X9_worm_111_1 a1 a2 f_h_planks s.1 s.2.1 s.2.2) k_fuel (0, 1000, 0)) fun x3_177 x4_178 =>
          if a2 = 2 then
            if x4_178 ≤ x3_177 then
              lj_X9_worm_298_1 x4_178
            else
              lj_X9_worm_298_1 x3_177
          else
            if x3_177 ≤ x4_178 then
              lj_X9_worm_298_1 x4_178
            else
              lj_X9_worm_298_1 x3_177
        else
          k_b2 (k_lp (fun s => lb_X9_worm_111 a1 a2 f_h_planks s.1 s.2.1 s.2.2) k_fuel (0, (-1000), 0)) fun x3_69 x4_70 =>
          if a2 = 2 then
            if x4_70 ≤ x3_69 then
              lj_X9_worm_298 x4_70
            else
              lj_X9_worm_298 x3_69
          else
            if x3_69 ≤ x4_70 then
              lj_X9_worm_298 x4_70
            else
              lj_X9_worm_298 x3_69
      else
        k_b1 (k_lp (fun s => lb_X9_worm_41 a1 f_h_planks a2 s.1 s.2) k_fuel (0, 0)) fun x3_236 =>
        some (x3_236, 0)
def lb_X9_book_80 (f_h_now : Nat → Int32) (x2_18 : Int32) (x3_19 : Int32) : Option ((Int32 × Int32) ⊕ (Int32)) :=
  if (f_h_now 12) ≤ x3_19 then
    some (.inr x2_18)
  else
    k_ix (145 + x3_19) 169 (
      if (f_h_now (145 + x3_19).toNatClampNeg) = 2 then
        k_ix (133 + x3_19) 169 (
          some (.inl (x2_18 + (f_h_now (133 + x3_19).toNatClampNeg), x3_19 + 1)))
      else
        some (.inl (x2_18 + 0, x3_19 + 1)))
def p_X9_book (f_h_now : Nat → Int32) (a1 : Int32) : Option (Int32 × Int32) :=
  if a1 = 0 then
    some (f_h_now 6, 0)
  else
  if a1 = 1 then
    some (f_h_now 7, 0)
  else
  if a1 = 2 then
    some (f_h_now 8, 0)
  else
  if a1 = 3 then
    some (f_h_now 9, 0)
  else
  if a1 = 4 then
    k_b1 (k_lp (fun s => lb_X9_book_80 f_h_now s.1 s.2) k_fuel (0, 0)) fun x2_17 =>
    some (x2_17, 0)
  else
  if a1 = 5 then
    some (f_h_now 5, 0)
  else
    some ((-1), 0)
def lb_X9_keep_18 (v_h_kept : Int32) (f_h_now : Nat → Int32) (x1_10 : Int32) (c_h_books_11 : Nat → Int32) : Option ((Int32 × (Nat → Int32)) ⊕ ((Nat → Int32))) :=
  if 169 ≤ x1_10 then
    some (.inr c_h_books_11)
  else
    k_ix x1_10 169 (
      k_ix ((169 * v_h_kept) + x1_10) 507 (
        some (.inl (x1_10 + 1, upd c_h_books_11 ((169 * v_h_kept) + x1_10).toNatClampNeg (f_h_now x1_10.toNatClampNeg)))))
def p_X9_keep (v_h_kept : Int32) (f_h_now : Nat → Int32) (f_h_books : Nat → Int32) : Option (Int32 × Int32 × Int32 × (Nat → Int32)) :=
  if v_h_kept = 3 then
    some ((-3), 0, v_h_kept, f_h_books)
  else
    k_b1 (k_lp (fun s => lb_X9_keep_18 v_h_kept f_h_now s.1 s.2) k_fuel (0, f_h_books)) fun c_h_books_9 =>
    some (v_h_kept + 1, 0, v_h_kept + 1, c_h_books_9)
def lb_X9_back_27 (v_h_kept : Int32) (f_h_books : Nat → Int32) (x1_10 : Int32) (c_h_now_11 : Nat → Int32) : Option ((Int32 × (Nat → Int32)) ⊕ ((Nat → Int32))) :=
  if 169 ≤ x1_10 then
    some (.inr c_h_now_11)
  else
    k_ix ((169 * (v_h_kept - 1)) + x1_10) 507 (
      k_ix x1_10 169 (
        some (.inl (x1_10 + 1, upd c_h_now_11 x1_10.toNatClampNeg (f_h_books ((169 * (v_h_kept - 1)) + x1_10).toNatClampNeg)))))
def p_X9_back (v_h_kept : Int32) (f_h_books : Nat → Int32) (f_h_now : Nat → Int32) : Option (Int32 × Int32 × Int32 × (Nat → Int32)) :=
  if v_h_kept = 0 then
    some ((-2), 0, v_h_kept, f_h_now)
  else
    k_b1 (k_lp (fun s => lb_X9_back_27 v_h_kept f_h_books s.1 s.2) k_fuel (0, f_h_now)) fun c_h_now_9 =>
    some (v_h_kept - 1, 0, v_h_kept - 1, c_h_now_9)
def lb_X9_count_70 (f_h_now : Nat → Int32) (x2_11 : Int32) (x3_12 : Int32) : Option ((Int32 × Int32) ⊕ (Int32)) :=
  if (f_h_now 10) ≤ x3_12 then
    some (.inr x2_11)
  else
    k_ix (37 + x3_12) 169 (
      some (.inl (x2_11 + (f_h_now (37 + x3_12).toNatClampNeg), x3_12 + 1)))
def p_X9_count (v_h_kept : Int32) (f_h_now : Nat → Int32) (a1 : Int32) : Option (Int32 × Int32) :=
  if a1 = 0 then
    some (f_h_now 10, 0)
  else
  if a1 = 1 then
    k_b1 (k_lp (fun s => lb_X9_count_70 f_h_now s.1 s.2) k_fuel (0, 0)) fun x2_10 =>
    some (x2_10, 0)
  else
  if a1 = 2 then
    some (f_h_now 11, 0)
  else
  if a1 = 3 then
    k_b1 (p_X9_wholes f_h_now) fun r17 =>
    some (r17, 0)
  else
  if a1 = 4 then
    some (f_h_now 12, 0)
  else
  if a1 = 5 then
    k_b1 (p_X9_states f_h_now 1) fun r20 =>
    some (r20, 0)
  else
  if a1 = 6 then
    k_b1 (p_X9_states f_h_now 2) fun r22 =>
    some (r22, 0)
  else
  if a1 = 7 then
    some (f_h_now 0, 0)
  else
  if a1 = 8 then
    some (v_h_kept, 0)
  else
    some ((-1), 0)
def p_X8_keep_3r  : Option (Int32 × Int32) :=
  some ((-3), 3)
def p_X8_back_0r  : Option (Int32 × Int32) :=
  some ((-2), 0)
def lb_X5_init_54 (x1_17 : Int32) (c_q25_3_18 : Nat → Int32) : Option ((Int32 × (Nat → Int32)) ⊕ ((Nat → Int32))) :=
  if 8 ≤ x1_17 then
    some (.inr c_q25_3_18)
  else
    k_ix x1_17 8 (
      k_ix x1_17 8 (
        some (.inl (x1_17 + 1, upd c_q25_3_18 x1_17.toNatClampNeg (k_r0 x1_17.toNatClampNeg)))))
def lb_X5_init_32 (x1_22 : Int32) (c_q7_1_23 : Nat → Int32) : Option ((Int32 × (Nat → Int32)) ⊕ ((Nat → Int32))) :=
  if 96 ≤ x1_22 then
    some (.inr c_q7_1_23)
  else
    k_ix x1_22 96 (
      some (.inl (x1_22 + 1, upd c_q7_1_23 x1_22.toNatClampNeg 30)))
def p_X5_init : Option ((Nat → Int32) × (Nat → Int32)) :=
  k_b1 (k_lp (fun s => lb_X5_init_32 s.1 s.2) k_fuel (0, (fun _ => 0))) fun c_q7_1_9 =>
  k_b1 (k_lp (fun s => lb_X5_init_54 s.1 s.2) k_fuel (0, (fun _ => 0))) fun c_q25_3_16 =>
  some (c_q7_1_9, c_q25_3_16)
def lb_X1_init_14 (x1_8 : Int32) (c_q7_1_9 : Nat → Int32) : Option ((Int32 × (Nat → Int32)) ⊕ ((Nat → Int32))) :=
  if 30 ≤ x1_8 then
    some (.inr c_q7_1_9)
  else
    k_ix x1_8 30 (
      some (.inl (x1_8 + 1, upd c_q7_1_9 x1_8.toNatClampNeg (-1))))
def p_X1_init : Option ((Nat → Int32)) :=
  k_b1 (k_lp (fun s => lb_X1_init_14 s.1 s.2) k_fuel (0, (fun _ => 0))) fun c_q7_1_7 =>
  some c_q7_1_7
def lb_X9_init_275 (x1_17 : Int32) (c_q34_4_18 : Nat → Int32) : Option ((Int32 × (Nat → Int32)) ⊕ ((Nat → Int32))) :=
  if 96 ≤ x1_17 then
    some (.inr c_q34_4_18)
  else
    k_ix x1_17 96 (
      some (.inl (x1_17 + 1, upd c_q34_4_18 x1_17.toNatClampNeg 30)))
def p_X9_init : Option ((Nat → Int32)) :=
  k_b1 (k_lp (fun s => lb_X9_init_275 s.1 s.2) k_fuel (0, (fun _ => 0))) fun c_q34_4_16 =>
  some c_q34_4_16
def p_X8_rule (f_sr_rules : Nat → Int32) (v_h_now_pitch : Int32) (a1 : Int32) (a2 : Int32) : Option (Int32 × (Nat → Int32) × Int32) :=
  k_b1 (p_X8_within a1 0 (8 - 1)) fun r1 =>
  if r1 = 0 then
    some ((-1), f_sr_rules, v_h_now_pitch)
  else
    k_ix a1 8 (
      k_ix a1 8 (
        k_b1 (p_X8_within a2 (k_r1 a1.toNatClampNeg) (k_r2 a1.toNatClampNeg)) fun r5 =>
        if r5 = 0 then
          some ((-1), f_sr_rules, v_h_now_pitch)
        else
          if a1 = 4 then
            some (v_h_now_pitch, f_sr_rules, a2)
          else
            k_ix a1 8 (
              k_ix a1 8 (
                some (f_sr_rules a1.toNatClampNeg, upd f_sr_rules a1.toNatClampNeg a2, v_h_now_pitch)))))
def p_X8_init : Option ((Nat → Int32) × (Nat → Int32) × (Nat → Int32)) :=
  k_b2 (p_X5_init) fun w_2 w_3 =>
  k_b1 (p_X1_init) fun w_22 =>
  some (w_2, w_3, w_22)
end
section
def pX_tide (S : Nat → Nat → Int32) (L : Nat → Nat → Int64) (a1 : Int32) (a2 : Int32) : Option (Int32 × (Nat → Nat → Int32) × (Nat → Nat → Int64)) := k_b2 (p_X8_tide (S 1) a1 a2) fun r w0 => some (r, (k_su S 1 w0), L)
def pX_tides (S : Nat → Nat → Int32) (L : Nat → Nat → Int64) (a1 : Int32) (a2 : Int32) (a3 : Int64) : Option (Int32 × (Nat → Nat → Int32) × (Nat → Nat → Int64)) := k_b2 (p_X8_tides (S 1) a1 a2 a3) fun r w0 => some (r, (k_su S 1 w0), L)
def pX_rain (S : Nat → Nat → Int32) (L : Nat → Nat → Int64) (a1 : Int32) (a2 : Int32) : Option (Int32 × (Nat → Nat → Int32) × (Nat → Nat → Int64)) := k_b2 (p_X8_rain (S 2) a1 a2) fun r w0 => some (r, (k_su S 2 w0), L)
def pX_rule (S : Nat → Nat → Int32) (L : Nat → Nat → Int64) (a1 : Int32) (a2 : Int32) : Option (Int32 × (Nat → Nat → Int32) × (Nat → Nat → Int64)) := k_b3 (p_X8_rule (S 3) (S 7 0) a1 a2) fun r w0 w1 => some (r, (k_su (k_su S 3 w0) 7 (fun _ => w1)), L)
def pX_thing (S : Nat → Nat → Int32) (L : Nat → Nat → Int64) (a1 : Int32) (a2 : Int32) : Option (Int32 × (Nat → Nat → Int32) × (Nat → Nat → Int64)) := k_b4 (p_X8_thing (S 14 0) (S 15 0) (S 16) (S 17) a1 a2) fun r w0 w1 w2 => some (r, (k_su (k_su (k_su S 15 (fun _ => w0)) 16 w1) 17 w2), L)
def pX_tackle (S : Nat → Nat → Int32) (L : Nat → Nat → Int64) (a1 : Int32) (a2 : Int32) (a3 : Int32) : Option (Int32 × (Nat → Nat → Int32) × (Nat → Nat → Int64)) := k_b6 (p_X8_tackle (S 18 0) (S 19 0) (S 20) (S 21) (S 22) a1 a2 a3) fun r w0 w1 w2 w3 w4 => some (r, (k_su (k_su (k_su (k_su (k_su S 18 (fun _ => w0)) 19 (fun _ => w1)) 20 w2) 21 w3) 22 w4), L)
def pX_seam (S : Nat → Nat → Int32) (L : Nat → Nat → Int64) (a1 : Int32) (a2 : Int32) (a3 : Int32) (a4 : Int32) (a5 : Int32) (a6 : Int32) : Option (Int32 × (Nat → Nat → Int32) × (Nat → Nat → Int64)) := k_b10 (p_X8_seam (S 23 0) (S 24) (S 25) (S 26) (S 27) (S 28) (S 29) (S 30) (S 31) a1 a2 a3 a4 a5 a6) fun r w0 w1 w2 w3 w4 w5 w6 w7 w8 => some (r, (k_su (k_su (k_su (k_su (k_su (k_su (k_su (k_su (k_su S 23 (fun _ => w0)) 24 w1) 25 w2) 26 w3) 27 w4) 28 w5) 29 w6) 30 w7) 31 w8), L)
def pX_ship (S : Nat → Nat → Int32) (L : Nat → Nat → Int64) (a1 : Int32) : Option (Int32 × (Nat → Nat → Int32) × (Nat → Nat → Int64)) := k_b1 (p_X8_ship (S 4 0) (S 5 0) (S 6 0) (S 3) (S 14 0) (S 15 0) (S 16) (S 1) (S 23 0) (S 30) (S 2) (S 18 0) (S 19 0) (S 21) (S 22) (S 20) a1) fun r => some (r, S, L)
def pX_tackleTold (S : Nat → Nat → Int32) (L : Nat → Nat → Int64) (a1 : Int32) (a2 : Int32) : Option (Int32 × (Nat → Nat → Int32) × (Nat → Nat → Int64)) := k_b1 (p_X8_tackleTold (S 4 0) (S 5 0) (S 18 0) (S 19 0) (S 3) (S 14 0) (S 15 0) (S 16) (S 21) (S 2) (S 22) a1 a2) fun r => some (r, S, L)
def pX_greatest (S : Nat → Nat → Int32) (L : Nat → Nat → Int64) (a1 : Int32) : Option (Int32 × (Nat → Nat → Int32) × (Nat → Nat → Int64)) := k_b1 (p_X8_greatest (S 3) (S 14 0) (S 15 0) (S 16) (S 18 0) (S 19 0) (S 21) (S 22) (S 20) a1) fun r => some (r, S, L)
def pX_seamTold (S : Nat → Nat → Int32) (L : Nat → Nat → Int64) (a1 : Int32) (a2 : Int32) : Option (Int32 × (Nat → Nat → Int32) × (Nat → Nat → Int64)) := k_b1 (p_X8_seamTold (S 4 0) (S 5 0) (S 23 0) (S 30) (S 1) (S 24) (S 25) (S 31) a1 a2) fun r => some (r, S, L)
def pX_move (S : Nat → Nat → Int32) (L : Nat → Nat → Int64) (a1 : Int32) : Option (Int32 × (Nat → Nat → Int32) × (Nat → Nat → Int64)) := k_b4 (p_X8_move (S 6 0) (S 8 0) (S 13 0) (S 14 0) (S 15 0) (S 17) (S 3) (S 16) a1) fun r w0 w1 w2 => some (r, (k_su (k_su (k_su S 8 (fun _ => w0)) 13 (fun _ => w1)) 14 (fun _ => w2)), L)
def pX_heel (S : Nat → Nat → Int32) (L : Nat → Nat → Int64) (a1 : Int32) : Option (Int32 × (Nat → Nat → Int32) × (Nat → Nat → Int64)) := k_b3 (p_X8_heel (S 4 0) (S 5 0) (S 6 0) (S 9 0) (S 2) (S 3) (S 14 0) (S 15 0) (S 16) (S 18 0) (S 19 0) (S 21) (S 22) (S 20) a1) fun r w0 w1 => some (r, (k_su (k_su S 5 (fun _ => w0)) 9 (fun _ => w1)), L)
def pX_hour (S : Nat → Nat → Int32) (L : Nat → Nat → Int64) (a1 : Int32) : Option (Int32 × (Nat → Nat → Int32) × (Nat → Nat → Int64)) := k_b13 (p_X8_hour (S 4 0) (S 5 0) (S 6 0) (S 7 0) (S 8 0) (S 9 0) (S 10 0) (S 11 0) (S 12 0) (S 23 0) (S 2) (S 30) (S 1) (S 24) (S 25) (S 3) (S 14 0) (S 15 0) (S 16) (S 18 0) (S 19 0) (S 21) (S 22) (S 20) (S 26) (S 31) (S 28) (S 27) a1) fun r w0 w1 w2 w3 w4 w5 w6 w7 w8 w9 w10 w11 => some (r, (k_su (k_su (k_su (k_su (k_su (k_su (k_su (k_su (k_su (k_su (k_su (k_su S 4 (fun _ => w0)) 5 (fun _ => w1)) 6 (fun _ => w2)) 7 (fun _ => w3)) 8 (fun _ => w4)) 9 (fun _ => w5)) 10 (fun _ => w6)) 11 (fun _ => w7)) 12 (fun _ => w8)) 30 w9) 18 (fun _ => w10)) 31 w11), L)
def pX_rig (S : Nat → Nat → Int32) (L : Nat → Nat → Int64) (a1 : Int32) (a2 : Int32) : Option (Int32 × (Nat → Nat → Int32) × (Nat → Nat → Int64)) := k_b2 (p_X8_rig (S 4 0) (S 5 0) (S 18 0) (S 19 0) (S 2) (S 3) (S 14 0) (S 15 0) (S 16) (S 21) (S 22) (S 20) a1 a2) fun r w0 => some (r, (k_su S 18 (fun _ => w0)), L)
noncomputable def pX_plan (S : Nat → Nat → Int32) (L : Nat → Nat → Int64) (a1 : Int32) (a2 : Int32) : Option (Int32 × (Nat → Nat → Int32) × (Nat → Nat → Int64)) := k_b12 (p_X8_plan (S 4 0) (S 5 0) (S 6 0) (S 7 0) (S 23 0) (L 0 0) (S 116 0) (S 117 0) (S 118 0) (S 119 0) (S 30) (S 120) (S 27) (S 31) (S 121) (S 2) (S 1) (S 24) (S 25) (S 122) (L 1) (S 26) (S 3) (S 28) (S 29) (S 123) (S 124) a1 a2) fun r w0 w1 w2 w3 w4 w5 w6 w7 w8 w9 w10 => some (r, (k_su (k_su (k_su (k_su (k_su (k_su (k_su (k_su (k_su S 116 (fun _ => w1)) 117 (fun _ => w2)) 118 (fun _ => w3)) 119 (fun _ => w4)) 120 w5) 121 w6) 122 w7) 123 w9) 124 w10), (k_su (k_su L 0 (fun _ => w0)) 1 w8))
noncomputable def pX_orders (S : Nat → Nat → Int32) (L : Nat → Nat → Int64) (a1 : Int32) (a2 : Int32) : Option (Int32 × (Nat → Nat → Int32) × (Nat → Nat → Int64)) := k_b12 (p_X8_orders (S 4 0) (S 5 0) (S 6 0) (S 7 0) (L 0 0) (S 116 0) (S 117 0) (S 118 0) (S 119 0) (S 23 0) (S 30) (S 120) (S 27) (S 31) (S 121) (S 2) (S 1) (S 24) (S 25) (S 122) (L 1) (S 26) (S 3) (S 28) (S 29) (S 123) (S 124) a1 a2) fun r w0 w1 w2 w3 w4 w5 w6 w7 w8 w9 w10 => some (r, (k_su (k_su (k_su (k_su (k_su (k_su (k_su (k_su (k_su S 116 (fun _ => w1)) 117 (fun _ => w2)) 118 (fun _ => w3)) 119 (fun _ => w4)) 120 w5) 121 w6) 122 w7) 123 w9) 124 w10), (k_su (k_su L 0 (fun _ => w0)) 1 w8))
def pX_toFloat (S : Nat → Nat → Int32) (L : Nat → Nat → Int64) (a1 : Int32) : Option (Int32 × (Nat → Nat → Int32) × (Nat → Nat → Int64)) := k_b32 (p_X8_toFloat (S 4 0) (S 5 0) (S 6 0) (S 7 0) (S 8 0) (S 9 0) (S 10 0) (S 11 0) (S 12 0) (S 13 0) (S 14 0) (S 15 0) (S 125 0) (S 126 0) (S 127 0) (S 128 0) (S 129 0) (S 130 0) (S 131 0) (S 132 0) (S 133 0) (S 134 0) (S 135 0) (S 136 0) (S 137 0) (S 138 0) (S 139 0) (S 16) (S 140) (S 17) (S 141) (S 142 0) (S 143 0) (S 18 0) (S 19 0) (S 20) (S 144) (S 21) (S 145) (S 22) (S 146) (S 147 0) (S 23 0) (S 24) (S 148) (S 25) (S 149) (S 26) (S 150) (S 27) (S 151) (S 28) (S 152) (S 29) (S 153) (S 30) (S 154) (S 31) (S 155) (S 2) (S 1) (S 3) a1) fun r w0 w1 w2 w3 w4 w5 w6 w7 w8 w9 w10 w11 w12 w13 w14 w15 w16 w17 w18 w19 w20 w21 w22 w23 w24 w25 w26 w27 w28 w29 w30 => some (r, (k_su (k_su (k_su (k_su (k_su (k_su (k_su (k_su (k_su (k_su (k_su (k_su (k_su (k_su (k_su (k_su (k_su (k_su (k_su (k_su (k_su (k_su (k_su (k_su (k_su (k_su (k_su (k_su (k_su (k_su (k_su S 125 (fun _ => w0)) 126 (fun _ => w1)) 127 (fun _ => w2)) 128 (fun _ => w3)) 129 (fun _ => w4)) 130 (fun _ => w5)) 131 (fun _ => w6)) 132 (fun _ => w7)) 133 (fun _ => w8)) 134 (fun _ => w9)) 135 (fun _ => w10)) 136 (fun _ => w11)) 137 (fun _ => w12)) 138 (fun _ => w13)) 139 (fun _ => w14)) 140 w15) 141 w16) 142 (fun _ => w17)) 143 (fun _ => w18)) 144 w19) 145 w20) 146 w21) 147 (fun _ => w22)) 148 w23) 149 w24) 150 w25) 151 w26) 152 w27) 153 w28) 154 w29) 155 w30), L)
def pX_tap (S : Nat → Nat → Int32) (L : Nat → Nat → Int64) (a1 : Int32) (a2 : Int32) : Option (Int32 × (Nat → Nat → Int32) × (Nat → Nat → Int64)) := k_b2 (p_X8_tap (S 156) a1 a2) fun r w0 => some (r, (k_su S 156 w0), L)
def pX_worm (S : Nat → Nat → Int32) (L : Nat → Nat → Int64) (a1 : Int32) (a2 : Int32) : Option (Int32 × (Nat → Nat → Int32) × (Nat → Nat → Int64)) := k_b1 (p_X8_worm (S 156) a1 a2) fun r => some (r, S, L)
def pX_book (S : Nat → Nat → Int32) (L : Nat → Nat → Int64) (a1 : Int32) : Option (Int32 × (Nat → Nat → Int32) × (Nat → Nat → Int64)) := k_b1 (p_X8_book (S 7 0) (S 10 0) (S 11 0) (S 12 0) (S 13 0) (S 23 0) (S 30) (S 29) a1) fun r => some (r, S, L)
def pX_keep (S : Nat → Nat → Int32) (L : Nat → Nat → Int64) : Option (Int32 × (Nat → Nat → Int32) × (Nat → Nat → Int64)) :=
  if S 0 0 = 0 then k_b30 (p_X8_keep_0 (S 4 0) (S 5 0) (S 6 0) (S 7 0) (S 8 0) (S 9 0) (S 10 0) (S 11 0) (S 12 0) (S 13 0) (S 14 0) (S 15 0) (S 16) (S 44) (S 17) (S 45) (S 18 0) (S 19 0) (S 20) (S 48) (S 21) (S 49) (S 22) (S 50) (S 23 0) (S 24) (S 52) (S 25) (S 53) (S 26) (S 54) (S 27) (S 55) (S 28) (S 56) (S 29) (S 57) (S 30) (S 58) (S 31) (S 59)) fun r w0 w1 w2 w3 w4 w5 w6 w7 w8 w9 w10 w11 w12 w13 w14 w15 w16 w17 w18 w19 w20 w21 w22 w23 w24 w25 w26 w27 w28 => some (r, (k_su (k_su (k_su (k_su (k_su (k_su (k_su (k_su (k_su (k_su (k_su (k_su (k_su (k_su (k_su (k_su (k_su (k_su (k_su (k_su (k_su (k_su (k_su (k_su (k_su (k_su (k_su (k_su (k_su S 0 (fun _ => w0)) 32 (fun _ => w1)) 33 (fun _ => w2)) 34 (fun _ => w3)) 35 (fun _ => w4)) 36 (fun _ => w5)) 37 (fun _ => w6)) 38 (fun _ => w7)) 39 (fun _ => w8)) 40 (fun _ => w9)) 41 (fun _ => w10)) 42 (fun _ => w11)) 43 (fun _ => w12)) 44 w13) 45 w14) 46 (fun _ => w15)) 47 (fun _ => w16)) 48 w17) 49 w18) 50 w19) 51 (fun _ => w20)) 52 w21) 53 w22) 54 w23) 55 w24) 56 w25) 57 w26) 58 w27) 59 w28), L)
  else if S 0 0 = 1 then k_b30 (p_X8_keep_1 (S 4 0) (S 5 0) (S 6 0) (S 7 0) (S 8 0) (S 9 0) (S 10 0) (S 11 0) (S 12 0) (S 13 0) (S 14 0) (S 15 0) (S 16) (S 72) (S 17) (S 73) (S 18 0) (S 19 0) (S 20) (S 76) (S 21) (S 77) (S 22) (S 78) (S 23 0) (S 24) (S 80) (S 25) (S 81) (S 26) (S 82) (S 27) (S 83) (S 28) (S 84) (S 29) (S 85) (S 30) (S 86) (S 31) (S 87)) fun r w0 w1 w2 w3 w4 w5 w6 w7 w8 w9 w10 w11 w12 w13 w14 w15 w16 w17 w18 w19 w20 w21 w22 w23 w24 w25 w26 w27 w28 => some (r, (k_su (k_su (k_su (k_su (k_su (k_su (k_su (k_su (k_su (k_su (k_su (k_su (k_su (k_su (k_su (k_su (k_su (k_su (k_su (k_su (k_su (k_su (k_su (k_su (k_su (k_su (k_su (k_su (k_su S 0 (fun _ => w0)) 60 (fun _ => w1)) 61 (fun _ => w2)) 62 (fun _ => w3)) 63 (fun _ => w4)) 64 (fun _ => w5)) 65 (fun _ => w6)) 66 (fun _ => w7)) 67 (fun _ => w8)) 68 (fun _ => w9)) 69 (fun _ => w10)) 70 (fun _ => w11)) 71 (fun _ => w12)) 72 w13) 73 w14) 74 (fun _ => w15)) 75 (fun _ => w16)) 76 w17) 77 w18) 78 w19) 79 (fun _ => w20)) 80 w21) 81 w22) 82 w23) 83 w24) 84 w25) 85 w26) 86 w27) 87 w28), L)
  else if S 0 0 = 2 then k_b30 (p_X8_keep_2 (S 4 0) (S 5 0) (S 6 0) (S 7 0) (S 8 0) (S 9 0) (S 10 0) (S 11 0) (S 12 0) (S 13 0) (S 14 0) (S 15 0) (S 16) (S 100) (S 17) (S 101) (S 18 0) (S 19 0) (S 20) (S 104) (S 21) (S 105) (S 22) (S 106) (S 23 0) (S 24) (S 108) (S 25) (S 109) (S 26) (S 110) (S 27) (S 111) (S 28) (S 112) (S 29) (S 113) (S 30) (S 114) (S 31) (S 115)) fun r w0 w1 w2 w3 w4 w5 w6 w7 w8 w9 w10 w11 w12 w13 w14 w15 w16 w17 w18 w19 w20 w21 w22 w23 w24 w25 w26 w27 w28 => some (r, (k_su (k_su (k_su (k_su (k_su (k_su (k_su (k_su (k_su (k_su (k_su (k_su (k_su (k_su (k_su (k_su (k_su (k_su (k_su (k_su (k_su (k_su (k_su (k_su (k_su (k_su (k_su (k_su (k_su S 0 (fun _ => w0)) 88 (fun _ => w1)) 89 (fun _ => w2)) 90 (fun _ => w3)) 91 (fun _ => w4)) 92 (fun _ => w5)) 93 (fun _ => w6)) 94 (fun _ => w7)) 95 (fun _ => w8)) 96 (fun _ => w9)) 97 (fun _ => w10)) 98 (fun _ => w11)) 99 (fun _ => w12)) 100 w13) 101 w14) 102 (fun _ => w15)) 103 (fun _ => w16)) 104 w17) 105 w18) 106 w19) 107 (fun _ => w20)) 108 w21) 109 w22) 110 w23) 111 w24) 112 w25) 113 w26) 114 w27) 115 w28), L)
  else if S 0 0 = 3 then k_b2 (p_X8_keep_3r) fun r w0 => some (r, (k_su S 0 (fun _ => w0)), L)
  else none
def pX_back (S : Nat → Nat → Int32) (L : Nat → Nat → Int64) : Option (Int32 × (Nat → Nat → Int32) × (Nat → Nat → Int64)) :=
  if S 0 0 = 0 then k_b2 (p_X8_back_0r) fun r w0 => some (r, (k_su S 0 (fun _ => w0)), L)
  else if S 0 0 = 1 then k_b30 (p_X8_back_1 (S 32 0) (S 33 0) (S 34 0) (S 35 0) (S 36 0) (S 37 0) (S 38 0) (S 39 0) (S 40 0) (S 41 0) (S 42 0) (S 43 0) (S 44) (S 16) (S 45) (S 17) (S 46 0) (S 47 0) (S 48) (S 20) (S 49) (S 21) (S 50) (S 22) (S 51 0) (S 52) (S 24) (S 53) (S 25) (S 54) (S 26) (S 55) (S 27) (S 56) (S 28) (S 57) (S 29) (S 58) (S 30) (S 59) (S 31)) fun r w0 w1 w2 w3 w4 w5 w6 w7 w8 w9 w10 w11 w12 w13 w14 w15 w16 w17 w18 w19 w20 w21 w22 w23 w24 w25 w26 w27 w28 => some (r, (k_su (k_su (k_su (k_su (k_su (k_su (k_su (k_su (k_su (k_su (k_su (k_su (k_su (k_su (k_su (k_su (k_su (k_su (k_su (k_su (k_su (k_su (k_su (k_su (k_su (k_su (k_su (k_su (k_su S 0 (fun _ => w0)) 4 (fun _ => w1)) 5 (fun _ => w2)) 6 (fun _ => w3)) 7 (fun _ => w4)) 8 (fun _ => w5)) 9 (fun _ => w6)) 10 (fun _ => w7)) 11 (fun _ => w8)) 12 (fun _ => w9)) 13 (fun _ => w10)) 14 (fun _ => w11)) 15 (fun _ => w12)) 16 w13) 17 w14) 18 (fun _ => w15)) 19 (fun _ => w16)) 20 w17) 21 w18) 22 w19) 23 (fun _ => w20)) 24 w21) 25 w22) 26 w23) 27 w24) 28 w25) 29 w26) 30 w27) 31 w28), L)
  else if S 0 0 = 2 then k_b30 (p_X8_back_2 (S 60 0) (S 61 0) (S 62 0) (S 63 0) (S 64 0) (S 65 0) (S 66 0) (S 67 0) (S 68 0) (S 69 0) (S 70 0) (S 71 0) (S 72) (S 16) (S 73) (S 17) (S 74 0) (S 75 0) (S 76) (S 20) (S 77) (S 21) (S 78) (S 22) (S 79 0) (S 80) (S 24) (S 81) (S 25) (S 82) (S 26) (S 83) (S 27) (S 84) (S 28) (S 85) (S 29) (S 86) (S 30) (S 87) (S 31)) fun r w0 w1 w2 w3 w4 w5 w6 w7 w8 w9 w10 w11 w12 w13 w14 w15 w16 w17 w18 w19 w20 w21 w22 w23 w24 w25 w26 w27 w28 => some (r, (k_su (k_su (k_su (k_su (k_su (k_su (k_su (k_su (k_su (k_su (k_su (k_su (k_su (k_su (k_su (k_su (k_su (k_su (k_su (k_su (k_su (k_su (k_su (k_su (k_su (k_su (k_su (k_su (k_su S 0 (fun _ => w0)) 4 (fun _ => w1)) 5 (fun _ => w2)) 6 (fun _ => w3)) 7 (fun _ => w4)) 8 (fun _ => w5)) 9 (fun _ => w6)) 10 (fun _ => w7)) 11 (fun _ => w8)) 12 (fun _ => w9)) 13 (fun _ => w10)) 14 (fun _ => w11)) 15 (fun _ => w12)) 16 w13) 17 w14) 18 (fun _ => w15)) 19 (fun _ => w16)) 20 w17) 21 w18) 22 w19) 23 (fun _ => w20)) 24 w21) 25 w22) 26 w23) 27 w24) 28 w25) 29 w26) 30 w27) 31 w28), L)
  else if S 0 0 = 3 then k_b30 (p_X8_back_3 (S 88 0) (S 89 0) (S 90 0) (S 91 0) (S 92 0) (S 93 0) (S 94 0) (S 95 0) (S 96 0) (S 97 0) (S 98 0) (S 99 0) (S 100) (S 16) (S 101) (S 17) (S 102 0) (S 103 0) (S 104) (S 20) (S 105) (S 21) (S 106) (S 22) (S 107 0) (S 108) (S 24) (S 109) (S 25) (S 110) (S 26) (S 111) (S 27) (S 112) (S 28) (S 113) (S 29) (S 114) (S 30) (S 115) (S 31)) fun r w0 w1 w2 w3 w4 w5 w6 w7 w8 w9 w10 w11 w12 w13 w14 w15 w16 w17 w18 w19 w20 w21 w22 w23 w24 w25 w26 w27 w28 => some (r, (k_su (k_su (k_su (k_su (k_su (k_su (k_su (k_su (k_su (k_su (k_su (k_su (k_su (k_su (k_su (k_su (k_su (k_su (k_su (k_su (k_su (k_su (k_su (k_su (k_su (k_su (k_su (k_su (k_su S 0 (fun _ => w0)) 4 (fun _ => w1)) 5 (fun _ => w2)) 6 (fun _ => w3)) 7 (fun _ => w4)) 8 (fun _ => w5)) 9 (fun _ => w6)) 10 (fun _ => w7)) 11 (fun _ => w8)) 12 (fun _ => w9)) 13 (fun _ => w10)) 14 (fun _ => w11)) 15 (fun _ => w12)) 16 w13) 17 w14) 18 (fun _ => w15)) 19 (fun _ => w16)) 20 w17) 21 w18) 22 w19) 23 (fun _ => w20)) 24 w21) 25 w22) 26 w23) 27 w24) 28 w25) 29 w26) 30 w27) 31 w28), L)
  else none
def pX_count (S : Nat → Nat → Int32) (L : Nat → Nat → Int64) (a1 : Int32) : Option (Int32 × (Nat → Nat → Int32) × (Nat → Nat → Int64)) := k_b1 (p_X8_count (S 0 0) (S 4 0) (S 14 0) (S 15 0) (S 18 0) (S 19 0) (S 23 0) (S 30) a1) fun r => some (r, S, L)
def pM_tide (S : Nat → Nat → Int32) (a1 : Int32) (a2 : Int32) : Option (Int32 × (Nat → Nat → Int32)) := k_b3 (p_X9_tide (S 12) a1 a2) fun r w0 w1 => some (r, (k_su (k_su S 0 (fun _ => w0)) 12 w1))
def pM_tides (S : Nat → Nat → Int32) (a1 : Int32) (a2 : Int32) (a3 : Int64) : Option (Int32 × (Nat → Nat → Int32)) := k_b3 (p_X9_tides (S 12) a1 a2 a3) fun r w0 w1 => some (r, (k_su (k_su S 0 (fun _ => w0)) 12 w1))
def pM_rain (S : Nat → Nat → Int32) (a1 : Int32) (a2 : Int32) : Option (Int32 × (Nat → Nat → Int32)) := k_b3 (p_X9_rain (S 13) a1 a2) fun r w0 w1 => some (r, (k_su (k_su S 0 (fun _ => w0)) 13 w1))
def pM_rule (S : Nat → Nat → Int32) (a1 : Int32) (a2 : Int32) : Option (Int32 × (Nat → Nat → Int32)) := k_b4 (p_X9_rule (S 14) (S 9) a1 a2) fun r w0 w1 w2 => some (r, (k_su (k_su (k_su S 0 (fun _ => w0)) 14 w1) 9 w2))
def pM_thing (S : Nat → Nat → Int32) (a1 : Int32) (a2 : Int32) : Option (Int32 × (Nat → Nat → Int32)) := k_b3 (p_X9_thing (S 9) a1 a2) fun r w0 w1 => some (r, (k_su (k_su S 0 (fun _ => w0)) 9 w1))
def pM_tackle (S : Nat → Nat → Int32) (a1 : Int32) (a2 : Int32) (a3 : Int32) : Option (Int32 × (Nat → Nat → Int32)) := k_b3 (p_X9_tackle (S 9) a1 a2 a3) fun r w0 w1 => some (r, (k_su (k_su S 0 (fun _ => w0)) 9 w1))
def pM_seam (S : Nat → Nat → Int32) (a1 : Int32) (a2 : Int32) (a3 : Int32) (a4 : Int32) (a5 : Int32) (a6 : Int32) : Option (Int32 × (Nat → Nat → Int32)) := k_b3 (p_X9_seam (S 9) a1 a2 a3 a4 a5 a6) fun r w0 w1 => some (r, (k_su (k_su S 0 (fun _ => w0)) 9 w1))
def pM_ship (S : Nat → Nat → Int32) (a1 : Int32) : Option (Int32 × (Nat → Nat → Int32)) := k_b2 (p_X9_ship (S 14) (S 9) (S 12) (S 13) a1) fun r w0 => some (r, (k_su S 0 (fun _ => w0)))
def pM_tackleTold (S : Nat → Nat → Int32) (a1 : Int32) (a2 : Int32) : Option (Int32 × (Nat → Nat → Int32)) := k_b2 (p_X9_tackleTold (S 9) (S 13) (S 14) a1 a2) fun r w0 => some (r, (k_su S 0 (fun _ => w0)))
def pM_greatest (S : Nat → Nat → Int32) (a1 : Int32) : Option (Int32 × (Nat → Nat → Int32)) := k_b2 (p_X9_greatest (S 9) (S 14) a1) fun r w0 => some (r, (k_su S 0 (fun _ => w0)))
def pM_seamTold (S : Nat → Nat → Int32) (a1 : Int32) (a2 : Int32) : Option (Int32 × (Nat → Nat → Int32)) := k_b2 (p_X9_seamTold (S 9) (S 12) a1 a2) fun r w0 => some (r, (k_su S 0 (fun _ => w0)))
def pM_move (S : Nat → Nat → Int32) (a1 : Int32) : Option (Int32 × (Nat → Nat → Int32)) := k_b3 (p_X9_move (S 9) (S 14) a1) fun r w0 w1 => some (r, (k_su (k_su S 0 (fun _ => w0)) 9 w1))
def pM_heel (S : Nat → Nat → Int32) (a1 : Int32) : Option (Int32 × (Nat → Nat → Int32)) := k_b3 (p_X9_heel (S 9) (S 13) (S 14) a1) fun r w0 w1 => some (r, (k_su (k_su S 0 (fun _ => w0)) 9 w1))
def pM_hour (S : Nat → Nat → Int32) (a1 : Int32) : Option (Int32 × (Nat → Nat → Int32)) := k_b3 (p_X9_hour (S 9) (S 13) (S 14) (S 12) a1) fun r w0 w1 => some (r, (k_su (k_su S 0 (fun _ => w0)) 9 w1))
def pM_rig (S : Nat → Nat → Int32) (a1 : Int32) (a2 : Int32) : Option (Int32 × (Nat → Nat → Int32)) := k_b3 (p_X9_rig (S 9) (S 13) (S 14) a1 a2) fun r w0 w1 => some (r, (k_su (k_su S 0 (fun _ => w0)) 9 w1))
def pM_plan (S : Nat → Nat → Int32) (a1 : Int32) (a2 : Int32) : Option (Int32 × (Nat → Nat → Int32)) := k_b9 (p_X9_plan (S 2 0) (S 3 0) (S 4 0) (S 5 0) (S 9) (S 15) (S 16) (S 13) (S 12) (S 14) (S 17) a1 a2) fun r w0 w1 w2 w3 w4 w5 w6 w7 => some (r, (k_su (k_su (k_su (k_su (k_su (k_su (k_su (k_su S 0 (fun _ => w0)) 2 (fun _ => w1)) 3 (fun _ => w2)) 4 (fun _ => w3)) 5 (fun _ => w4)) 15 w5) 16 w6) 17 w7))
def pM_orders (S : Nat → Nat → Int32) (a1 : Int32) (a2 : Int32) : Option (Int32 × (Nat → Nat → Int32)) := k_b9 (p_X9_orders (S 2 0) (S 3 0) (S 4 0) (S 5 0) (S 9) (S 15) (S 16) (S 13) (S 12) (S 14) (S 17) a1 a2) fun r w0 w1 w2 w3 w4 w5 w6 w7 => some (r, (k_su (k_su (k_su (k_su (k_su (k_su (k_su (k_su S 0 (fun _ => w0)) 2 (fun _ => w1)) 3 (fun _ => w2)) 4 (fun _ => w3)) 5 (fun _ => w4)) 15 w5) 16 w6) 17 w7))
def pM_toFloat (S : Nat → Nat → Int32) (a1 : Int32) : Option (Int32 × (Nat → Nat → Int32)) := k_b7 (p_X9_toFloat (S 6 0) (S 7 0) (S 8 0) (S 9) (S 10) (S 13) (S 14) (S 12) a1) fun r w0 w1 w2 w3 w4 w5 => some (r, (k_su (k_su (k_su (k_su (k_su (k_su S 0 (fun _ => w0)) 6 (fun _ => w1)) 7 (fun _ => w2)) 8 (fun _ => w3)) 9 w4) 10 w5))
def pM_tap (S : Nat → Nat → Int32) (a1 : Int32) (a2 : Int32) : Option (Int32 × (Nat → Nat → Int32)) := k_b3 (p_X9_tap (S 18) a1 a2) fun r w0 w1 => some (r, (k_su (k_su S 0 (fun _ => w0)) 18 w1))
def pM_worm (S : Nat → Nat → Int32) (a1 : Int32) (a2 : Int32) : Option (Int32 × (Nat → Nat → Int32)) := k_b2 (p_X9_worm (S 18) a1 a2) fun r w0 => some (r, (k_su S 0 (fun _ => w0)))
def pM_book (S : Nat → Nat → Int32) (a1 : Int32) : Option (Int32 × (Nat → Nat → Int32)) := k_b2 (p_X9_book (S 9) a1) fun r w0 => some (r, (k_su S 0 (fun _ => w0)))
def pM_keep (S : Nat → Nat → Int32) : Option (Int32 × (Nat → Nat → Int32)) := k_b4 (p_X9_keep (S 1 0) (S 9) (S 11)) fun r w0 w1 w2 => some (r, (k_su (k_su (k_su S 0 (fun _ => w0)) 1 (fun _ => w1)) 11 w2))
def pM_back (S : Nat → Nat → Int32) : Option (Int32 × (Nat → Nat → Int32)) := k_b4 (p_X9_back (S 1 0) (S 11) (S 9)) fun r w0 w1 w2 => some (r, (k_su (k_su (k_su S 0 (fun _ => w0)) 1 (fun _ => w1)) 9 w2))
def pM_count (S : Nat → Nat → Int32) (a1 : Int32) : Option (Int32 × (Nat → Nat → Int32)) := k_b2 (p_X9_count (S 1 0) (S 9) a1) fun r w0 => some (r, (k_su S 0 (fun _ => w0)))
def k_Sim_tide (Rel : (Nat → Nat → Int32) → (Nat → Nat → Int64) → (Nat → Nat → Int32) → Prop) : Prop := ∀ (S : Nat → Nat → Int32) (L : Nat → Nat → Int64) (M : Nat → Nat → Int32) (a1 : Int32) (a2 : Int32), Rel S L M → ∃ (r : Int32) (S' : Nat → Nat → Int32) (L' : Nat → Nat → Int64) (M' : Nat → Nat → Int32), pX_tide S L a1 a2 = some (r, S', L') ∧ pM_tide M a1 a2 = some (r, M') ∧ Rel S' L' M'
def k_Sim_tides (Rel : (Nat → Nat → Int32) → (Nat → Nat → Int64) → (Nat → Nat → Int32) → Prop) : Prop := ∀ (S : Nat → Nat → Int32) (L : Nat → Nat → Int64) (M : Nat → Nat → Int32) (a1 : Int32) (a2 : Int32) (a3 : Int64), Rel S L M → ∃ (r : Int32) (S' : Nat → Nat → Int32) (L' : Nat → Nat → Int64) (M' : Nat → Nat → Int32), pX_tides S L a1 a2 a3 = some (r, S', L') ∧ pM_tides M a1 a2 a3 = some (r, M') ∧ Rel S' L' M'
def k_Sim_rain (Rel : (Nat → Nat → Int32) → (Nat → Nat → Int64) → (Nat → Nat → Int32) → Prop) : Prop := ∀ (S : Nat → Nat → Int32) (L : Nat → Nat → Int64) (M : Nat → Nat → Int32) (a1 : Int32) (a2 : Int32), Rel S L M → (a2 = 0 ∨ a2 = 1) → ∃ (r : Int32) (S' : Nat → Nat → Int32) (L' : Nat → Nat → Int64) (M' : Nat → Nat → Int32), pX_rain S L a1 a2 = some (r, S', L') ∧ pM_rain M a1 a2 = some (r, M') ∧ Rel S' L' M'
def k_Sim_rule (Rel : (Nat → Nat → Int32) → (Nat → Nat → Int64) → (Nat → Nat → Int32) → Prop) : Prop := ∀ (S : Nat → Nat → Int32) (L : Nat → Nat → Int64) (M : Nat → Nat → Int32) (a1 : Int32) (a2 : Int32), Rel S L M → ∃ (r : Int32) (S' : Nat → Nat → Int32) (L' : Nat → Nat → Int64) (M' : Nat → Nat → Int32), pX_rule S L a1 a2 = some (r, S', L') ∧ pM_rule M a1 a2 = some (r, M') ∧ Rel S' L' M'
def k_Sim_thing (Rel : (Nat → Nat → Int32) → (Nat → Nat → Int64) → (Nat → Nat → Int32) → Prop) : Prop := ∀ (S : Nat → Nat → Int32) (L : Nat → Nat → Int64) (M : Nat → Nat → Int32) (a1 : Int32) (a2 : Int32), Rel S L M → ∃ (r : Int32) (S' : Nat → Nat → Int32) (L' : Nat → Nat → Int64) (M' : Nat → Nat → Int32), pX_thing S L a1 a2 = some (r, S', L') ∧ pM_thing M a1 a2 = some (r, M') ∧ Rel S' L' M'
def k_Sim_tackle (Rel : (Nat → Nat → Int32) → (Nat → Nat → Int64) → (Nat → Nat → Int32) → Prop) : Prop := ∀ (S : Nat → Nat → Int32) (L : Nat → Nat → Int64) (M : Nat → Nat → Int32) (a1 : Int32) (a2 : Int32) (a3 : Int32), Rel S L M → ∃ (r : Int32) (S' : Nat → Nat → Int32) (L' : Nat → Nat → Int64) (M' : Nat → Nat → Int32), pX_tackle S L a1 a2 a3 = some (r, S', L') ∧ pM_tackle M a1 a2 a3 = some (r, M') ∧ Rel S' L' M'
def k_Sim_seam (Rel : (Nat → Nat → Int32) → (Nat → Nat → Int64) → (Nat → Nat → Int32) → Prop) : Prop := ∀ (S : Nat → Nat → Int32) (L : Nat → Nat → Int64) (M : Nat → Nat → Int32) (a1 : Int32) (a2 : Int32) (a3 : Int32) (a4 : Int32) (a5 : Int32) (a6 : Int32), Rel S L M → ∃ (r : Int32) (S' : Nat → Nat → Int32) (L' : Nat → Nat → Int64) (M' : Nat → Nat → Int32), pX_seam S L a1 a2 a3 a4 a5 a6 = some (r, S', L') ∧ pM_seam M a1 a2 a3 a4 a5 a6 = some (r, M') ∧ Rel S' L' M'
def k_Sim_ship (Rel : (Nat → Nat → Int32) → (Nat → Nat → Int64) → (Nat → Nat → Int32) → Prop) : Prop := ∀ (S : Nat → Nat → Int32) (L : Nat → Nat → Int64) (M : Nat → Nat → Int32) (a1 : Int32), Rel S L M → ∃ (r : Int32) (S' : Nat → Nat → Int32) (L' : Nat → Nat → Int64) (M' : Nat → Nat → Int32), pX_ship S L a1 = some (r, S', L') ∧ pM_ship M a1 = some (r, M') ∧ Rel S' L' M'
def k_Sim_tackleTold (Rel : (Nat → Nat → Int32) → (Nat → Nat → Int64) → (Nat → Nat → Int32) → Prop) : Prop := ∀ (S : Nat → Nat → Int32) (L : Nat → Nat → Int64) (M : Nat → Nat → Int32) (a1 : Int32) (a2 : Int32), Rel S L M → ∃ (r : Int32) (S' : Nat → Nat → Int32) (L' : Nat → Nat → Int64) (M' : Nat → Nat → Int32), pX_tackleTold S L a1 a2 = some (r, S', L') ∧ pM_tackleTold M a1 a2 = some (r, M') ∧ Rel S' L' M'
def k_Sim_greatest (Rel : (Nat → Nat → Int32) → (Nat → Nat → Int64) → (Nat → Nat → Int32) → Prop) : Prop := ∀ (S : Nat → Nat → Int32) (L : Nat → Nat → Int64) (M : Nat → Nat → Int32) (a1 : Int32), Rel S L M → (a1 = 0 ∨ a1 = 1) → ∃ (r : Int32) (S' : Nat → Nat → Int32) (L' : Nat → Nat → Int64) (M' : Nat → Nat → Int32), pX_greatest S L a1 = some (r, S', L') ∧ pM_greatest M a1 = some (r, M') ∧ Rel S' L' M'
def k_Sim_seamTold (Rel : (Nat → Nat → Int32) → (Nat → Nat → Int64) → (Nat → Nat → Int32) → Prop) : Prop := ∀ (S : Nat → Nat → Int32) (L : Nat → Nat → Int64) (M : Nat → Nat → Int32) (a1 : Int32) (a2 : Int32), Rel S L M → ∃ (r : Int32) (S' : Nat → Nat → Int32) (L' : Nat → Nat → Int64) (M' : Nat → Nat → Int32), pX_seamTold S L a1 a2 = some (r, S', L') ∧ pM_seamTold M a1 a2 = some (r, M') ∧ Rel S' L' M'
def k_Sim_move (Rel : (Nat → Nat → Int32) → (Nat → Nat → Int64) → (Nat → Nat → Int32) → Prop) : Prop := ∀ (S : Nat → Nat → Int32) (L : Nat → Nat → Int64) (M : Nat → Nat → Int32) (a1 : Int32), Rel S L M → ∃ (r : Int32) (S' : Nat → Nat → Int32) (L' : Nat → Nat → Int64) (M' : Nat → Nat → Int32), pX_move S L a1 = some (r, S', L') ∧ pM_move M a1 = some (r, M') ∧ Rel S' L' M'
def k_Sim_heel (Rel : (Nat → Nat → Int32) → (Nat → Nat → Int64) → (Nat → Nat → Int32) → Prop) : Prop := ∀ (S : Nat → Nat → Int32) (L : Nat → Nat → Int64) (M : Nat → Nat → Int32) (a1 : Int32), Rel S L M → ∃ (r : Int32) (S' : Nat → Nat → Int32) (L' : Nat → Nat → Int64) (M' : Nat → Nat → Int32), pX_heel S L a1 = some (r, S', L') ∧ pM_heel M a1 = some (r, M') ∧ Rel S' L' M'
def k_Sim_hour (Rel : (Nat → Nat → Int32) → (Nat → Nat → Int64) → (Nat → Nat → Int32) → Prop) : Prop := ∀ (S : Nat → Nat → Int32) (L : Nat → Nat → Int64) (M : Nat → Nat → Int32) (a1 : Int32), Rel S L M → ∃ (r : Int32) (S' : Nat → Nat → Int32) (L' : Nat → Nat → Int64) (M' : Nat → Nat → Int32), pX_hour S L a1 = some (r, S', L') ∧ pM_hour M a1 = some (r, M') ∧ Rel S' L' M'
def k_Sim_rig (Rel : (Nat → Nat → Int32) → (Nat → Nat → Int64) → (Nat → Nat → Int32) → Prop) : Prop := ∀ (S : Nat → Nat → Int32) (L : Nat → Nat → Int64) (M : Nat → Nat → Int32) (a1 : Int32) (a2 : Int32), Rel S L M → (a2 = 0 ∨ a2 = 1) → ∃ (r : Int32) (S' : Nat → Nat → Int32) (L' : Nat → Nat → Int64) (M' : Nat → Nat → Int32), pX_rig S L a1 a2 = some (r, S', L') ∧ pM_rig M a1 a2 = some (r, M') ∧ Rel S' L' M'
def k_Sim_plan (Rel : (Nat → Nat → Int32) → (Nat → Nat → Int64) → (Nat → Nat → Int32) → Prop) : Prop := ∀ (S : Nat → Nat → Int32) (L : Nat → Nat → Int64) (M : Nat → Nat → Int32) (a1 : Int32) (a2 : Int32), Rel S L M → ∃ (r : Int32) (S' : Nat → Nat → Int32) (L' : Nat → Nat → Int64) (M' : Nat → Nat → Int32), pX_plan S L a1 a2 = some (r, S', L') ∧ pM_plan M a1 a2 = some (r, M') ∧ Rel S' L' M'
def k_Sim_orders (Rel : (Nat → Nat → Int32) → (Nat → Nat → Int64) → (Nat → Nat → Int32) → Prop) : Prop := ∀ (S : Nat → Nat → Int32) (L : Nat → Nat → Int64) (M : Nat → Nat → Int32) (a1 : Int32) (a2 : Int32), Rel S L M → ∃ (r : Int32) (S' : Nat → Nat → Int32) (L' : Nat → Nat → Int64) (M' : Nat → Nat → Int32), pX_orders S L a1 a2 = some (r, S', L') ∧ pM_orders M a1 a2 = some (r, M') ∧ Rel S' L' M'
def k_Sim_toFloat (Rel : (Nat → Nat → Int32) → (Nat → Nat → Int64) → (Nat → Nat → Int32) → Prop) : Prop := ∀ (S : Nat → Nat → Int32) (L : Nat → Nat → Int64) (M : Nat → Nat → Int32) (a1 : Int32), Rel S L M → ∃ (r : Int32) (S' : Nat → Nat → Int32) (L' : Nat → Nat → Int64) (M' : Nat → Nat → Int32), pX_toFloat S L a1 = some (r, S', L') ∧ pM_toFloat M a1 = some (r, M') ∧ Rel S' L' M'
def k_Sim_tap (Rel : (Nat → Nat → Int32) → (Nat → Nat → Int64) → (Nat → Nat → Int32) → Prop) : Prop := ∀ (S : Nat → Nat → Int32) (L : Nat → Nat → Int64) (M : Nat → Nat → Int32) (a1 : Int32) (a2 : Int32), Rel S L M → ∃ (r : Int32) (S' : Nat → Nat → Int32) (L' : Nat → Nat → Int64) (M' : Nat → Nat → Int32), pX_tap S L a1 a2 = some (r, S', L') ∧ pM_tap M a1 a2 = some (r, M') ∧ Rel S' L' M'
def k_Sim_worm (Rel : (Nat → Nat → Int32) → (Nat → Nat → Int64) → (Nat → Nat → Int32) → Prop) : Prop := ∀ (S : Nat → Nat → Int32) (L : Nat → Nat → Int64) (M : Nat → Nat → Int32) (a1 : Int32) (a2 : Int32), Rel S L M → ∃ (r : Int32) (S' : Nat → Nat → Int32) (L' : Nat → Nat → Int64) (M' : Nat → Nat → Int32), pX_worm S L a1 a2 = some (r, S', L') ∧ pM_worm M a1 a2 = some (r, M') ∧ Rel S' L' M'
def k_Sim_book (Rel : (Nat → Nat → Int32) → (Nat → Nat → Int64) → (Nat → Nat → Int32) → Prop) : Prop := ∀ (S : Nat → Nat → Int32) (L : Nat → Nat → Int64) (M : Nat → Nat → Int32) (a1 : Int32), Rel S L M → ∃ (r : Int32) (S' : Nat → Nat → Int32) (L' : Nat → Nat → Int64) (M' : Nat → Nat → Int32), pX_book S L a1 = some (r, S', L') ∧ pM_book M a1 = some (r, M') ∧ Rel S' L' M'
def k_Sim_keep (Rel : (Nat → Nat → Int32) → (Nat → Nat → Int64) → (Nat → Nat → Int32) → Prop) : Prop := ∀ (S : Nat → Nat → Int32) (L : Nat → Nat → Int64) (M : Nat → Nat → Int32), Rel S L M → ∃ (r : Int32) (S' : Nat → Nat → Int32) (L' : Nat → Nat → Int64) (M' : Nat → Nat → Int32), pX_keep S L = some (r, S', L') ∧ pM_keep M = some (r, M') ∧ Rel S' L' M'
def k_Sim_back (Rel : (Nat → Nat → Int32) → (Nat → Nat → Int64) → (Nat → Nat → Int32) → Prop) : Prop := ∀ (S : Nat → Nat → Int32) (L : Nat → Nat → Int64) (M : Nat → Nat → Int32), Rel S L M → ∃ (r : Int32) (S' : Nat → Nat → Int32) (L' : Nat → Nat → Int64) (M' : Nat → Nat → Int32), pX_back S L = some (r, S', L') ∧ pM_back M = some (r, M') ∧ Rel S' L' M'
def k_Sim_count (Rel : (Nat → Nat → Int32) → (Nat → Nat → Int64) → (Nat → Nat → Int32) → Prop) : Prop := ∀ (S : Nat → Nat → Int32) (L : Nat → Nat → Int64) (M : Nat → Nat → Int32) (a1 : Int32), Rel S L M → ∃ (r : Int32) (S' : Nat → Nat → Int32) (L' : Nat → Nat → Int64) (M' : Nat → Nat → Int32), pX_count S L a1 = some (r, S', L') ∧ pM_count M a1 = some (r, M') ∧ Rel S' L' M'
end
section
def k_S0 (w0 : Nat → Int32) (w1 : Nat → Int32) (w2 : Nat → Int32) : Nat → Nat → Int32 := fun k => bif Nat.beq k 1 then w0 else bif Nat.beq k 3 then w1 else bif Nat.beq k 7 then (fun _ => k_r0 4) else bif Nat.beq k 35 then (fun _ => k_r0 4) else bif Nat.beq k 63 then (fun _ => k_r0 4) else bif Nat.beq k 91 then (fun _ => k_r0 4) else bif Nat.beq k 131 then (fun _ => k_r0 4) else bif Nat.beq k 156 then w2 else fun _ => 0
def k_M0 (w0 : Nat → Int32) : Nat → Nat → Int32 := fun k => bif Nat.beq k 9 then (upd (fun _ => 0) 5 100) else bif Nat.beq k 12 then w0 else bif Nat.beq k 14 then (upd (upd (upd (upd (upd (upd (upd (upd (fun _ => 0) 0 10) 1 400) 2 0) 3 10) 4 100) 5 200) 6 200) 7 200) else bif Nat.beq k 18 then (upd (upd (upd (upd (upd (upd (upd (upd (upd (upd (upd (upd (upd (upd (upd (upd (upd (upd (upd (upd (upd (upd (upd (upd (upd (upd (upd (upd (upd (upd (fun _ => 0) 0 (-1)) 1 (-1)) 2 (-1)) 3 (-1)) 4 (-1)) 5 (-1)) 6 (-1)) 7 (-1)) 8 (-1)) 9 (-1)) 10 (-1)) 11 (-1)) 12 (-1)) 13 (-1)) 14 (-1)) 15 (-1)) 16 (-1)) 17 (-1)) 18 (-1)) 19 (-1)) 20 (-1)) 21 (-1)) 22 (-1)) 23 (-1)) 24 (-1)) 25 (-1)) 26 (-1)) 27 (-1)) 28 (-1)) 29 (-1)) else fun _ => 0
def k_L0 : Nat → Nat → Int64 := fun _ _ => 0
end
section
/-! ===== Int32 by its bits: bt x i ===== -/
def bt (x : Int32) (i : Nat) : Bool := x.toBitVec.getLsbD i
theorem b_ext {x y : Int32} (h : ∀ i, i < 32 → bt x i = bt y i) : x = y := Int32.toBitVec_inj.mp (BitVec.eq_of_getLsbD_eq (fun i hi => h i hi))
theorem b_or (x y : Int32) (i : Nat) : bt (x ||| y) i = (bt x i || bt y i) := by unfold bt; rw [Int32.toBitVec_or, BitVec.getLsbD_or]
theorem b_and (x y : Int32) (i : Nat) : bt (x &&& y) i = (bt x i && bt y i) := by unfold bt; rw [Int32.toBitVec_and, BitVec.getLsbD_and]
theorem b_xor (x y : Int32) (i : Nat) : bt (x ^^^ y) i = (bt x i ^^ bt y i) := by unfold bt; rw [Int32.toBitVec_xor, BitVec.getLsbD_xor]
theorem b_big {x : Int32} {i : Nat} (h : 32 ≤ i) : bt x i = false := BitVec.getLsbD_of_ge _ _ h
theorem b_255 (i : Nat) : bt 255 i = decide (i < 8) := by
  rcases Nat.lt_or_ge i 32 with h | h
  · exact (by decide +kernel : ∀ i, i < 32 → bt 255 i = decide (i < 8)) i h
  · rw [b_big h, decide_eq_false (by omega)]
theorem b_65535 (i : Nat) : bt 65535 i = decide (i < 16) := by
  rcases Nat.lt_or_ge i 32 with h | h
  · exact (by decide +kernel : ∀ i, i < 32 → bt 65535 i = decide (i < 16)) i h
  · rw [b_big h, decide_eq_false (by omega)]
theorem b_m1 : ∀ i, i < 32 → bt (-1) i = true := by decide +kernel
theorem b_0 (i : Nat) : bt 0 i = false := BitVec.getLsbD_zero
theorem s_l : ∀ n, n < 32 → ((nI n &&& 31).toBitVec.smod 32).toNat = n := by decide +kernel
theorem s_u : ∀ n, n < 32 → (((nI n).toUInt32 &&& Int32.toUInt32 31).toBitVec % 32).toNat = n := by decide +kernel
theorem b_shl (n : Nat) (hn : n < 32) (x : Int32) {i : Nat} (hi : i < 32) : bt (x <<< (nI n &&& 31)) i = (decide (n ≤ i) && bt x (i - n)) := by
  unfold bt
  rw [Int32.toBitVec_shiftLeft]
  show (x.toBitVec <<< ((nI n &&& 31).toBitVec.smod 32).toNat).getLsbD i = _
  rw [s_l n hn, BitVec.getLsbD_shiftLeft]
  rcases Nat.lt_or_ge i n with h | h
  · simp [h, Nat.not_le.mpr h]
  · simp [hi, h, Nat.not_lt.mpr h]
theorem b_ushr (n : Nat) (hn : n < 32) (x : Int32) (i : Nat) : bt ((x.toUInt32 >>> ((nI n).toUInt32 &&& Int32.toUInt32 31)).toInt32) i = bt x (n + i) := by
  show (x.toUInt32 >>> ((nI n).toUInt32 &&& Int32.toUInt32 31)).toBitVec.getLsbD i = x.toUInt32.toBitVec.getLsbD (n + i)
  rw [UInt32.toBitVec_shiftRight]
  show (x.toUInt32.toBitVec >>> (((nI n).toUInt32 &&& Int32.toUInt32 31).toBitVec % 32).toNat).getLsbD i = _
  rw [s_u n hn, BitVec.getLsbD_ushiftRight]
theorem b_sshr (n : Nat) (hn : n < 32) (x : Int32) {i : Nat} (hi : i < 32) : bt (x >>> (nI n &&& 31)) i = if n + i < 32 then bt x (n + i) else bt x 31 := by
  unfold bt
  rw [Int32.toBitVec_shiftRight]
  show (x.toBitVec.sshiftRight ((nI n &&& 31).toBitVec.smod 32).toNat).getLsbD i = _
  rw [s_l n hn, BitVec.getLsbD_sshiftRight, BitVec.msb_eq_getLsbD_last]
  simp [hi]
theorem b_shl8 (x : Int32) {i : Nat} (hi : i < 32) : bt (x <<< ((8 : Int32) &&& 31)) i = (decide (8 ≤ i) && bt x (i - 8)) := b_shl 8 (by omega) x hi
theorem b_shl16 (x : Int32) {i : Nat} (hi : i < 32) : bt (x <<< ((16 : Int32) &&& 31)) i = (decide (16 ≤ i) && bt x (i - 16)) := b_shl 16 (by omega) x hi
theorem b_shl24 (x : Int32) {i : Nat} (hi : i < 32) : bt (x <<< ((24 : Int32) &&& 31)) i = (decide (24 ≤ i) && bt x (i - 24)) := b_shl 24 (by omega) x hi
theorem b_sshr8 (x : Int32) {i : Nat} (hi : i < 32) : bt (x >>> ((8 : Int32) &&& 31)) i = if 8 + i < 32 then bt x (8 + i) else bt x 31 := b_sshr 8 (by omega) x hi
/-! plain facts on numbers and arrays, to paste: each family by itself; over the kit's rows on nI and upd -/
/-! ===== order of ints, in all its forms, and through longs ===== -/
theorem fa_lt (a b : Int32) : a < b ↔ a.toInt < b.toInt := Int32.lt_iff_toInt_lt
theorem fa_le (a b : Int32) : a ≤ b ↔ a.toInt ≤ b.toInt := Int32.le_iff_toInt_le
theorem fa_eq (a b : Int32) : a = b ↔ a.toInt = b.toInt := Int32.toInt_inj.symm
theorem fa_lt64 (a b : Int64) : a < b ↔ a.toInt < b.toInt := Int64.lt_iff_toInt_lt
theorem fa_le64 (a b : Int64) : a ≤ b ↔ a.toInt ≤ b.toInt := Int64.le_iff_toInt_le
theorem fa_eq64 (a b : Int64) : a = b ↔ a.toInt = b.toInt := Int64.toInt_inj.symm
/-- a comparison of two ints taken as longs -/
theorem fa_wide_lt (a b : Int32) : a.toInt64 < b.toInt64 ↔ a < b := by rw [fa_lt64, fa_lt, Int32.toInt_toInt64, Int32.toInt_toInt64]
theorem fa_wide_le (a b : Int32) : a.toInt64 ≤ b.toInt64 ↔ a ≤ b := by rw [fa_le64, fa_le, Int32.toInt_toInt64, Int32.toInt_toInt64]
theorem fa_wide_eq (a b : Int32) : a.toInt64 = b.toInt64 ↔ a = b := by rw [fa_eq64, fa_eq, Int32.toInt_toInt64, Int32.toInt_toInt64]
/-- one strict comparison gives all the others -/
theorem fa_of_lt {a b : Int32} (h : a < b) : a ≤ b ∧ ¬ b ≤ a ∧ ¬ b < a ∧ a ≠ b ∧ b ≠ a := by
  rw [fa_lt] at h
  refine ⟨?_, ?_, ?_, ?_, ?_⟩
  · rw [fa_le]; omega
  · rw [fa_le]; omega
  · rw [fa_lt]; omega
  · intro e; rw [fa_eq] at e; omega
  · intro e; rw [fa_eq] at e; omega
theorem fa_of_nlt {a b : Int32} (h : ¬ a < b) : b ≤ a := by
  rw [fa_lt] at h
  rw [fa_le]
  omega
theorem fa_of_nle {a b : Int32} (h : ¬ a ≤ b) : b < a := by
  rw [fa_le] at h
  rw [fa_lt]
  omega
theorem fa_le_ne {a b : Int32} (h : a ≤ b) (h2 : a ≠ b) : a < b := by
  rw [fa_le] at h
  rw [fa_lt]
  have h3 : a.toInt ≠ b.toInt := fun e => h2 ((fa_eq a b).mpr e)
  omega
theorem fa_three (a b : Int32) : a < b ∨ a = b ∨ b < a := by
  rw [fa_lt, fa_lt, fa_eq]
  omega
theorem fa_trans {a b c : Int32} (h : a < b) (h2 : b ≤ c) : a < c := by
  rw [fa_lt] at *
  rw [fa_le] at h2
  omega
/-! ===== small literals as numbers ===== -/
theorem fa_lit (n : Nat) : (OfNat.ofNat n : Int32) = nI n := rfl
theorem fa_litL (n : Nat) : (OfNat.ofNat n : Int64) = lN n := rfl
/-! ===== bits of a number: 'or', masks, one bit ===== -/
theorem fa_and (a b : Nat) : nI a &&& nI b = nI (a &&& b) := by
  apply Int32.toBitVec_inj.1
  show BitVec.ofNat 32 a &&& BitVec.ofNat 32 b = BitVec.ofNat 32 (a &&& b)
  apply BitVec.eq_of_getLsbD_eq
  intro i hi
  simp [hi]
theorem fa_or (a b : Nat) : nI a ||| nI b = nI (a ||| b) := by
  apply Int32.toBitVec_inj.1
  show BitVec.ofNat 32 a ||| BitVec.ofNat 32 b = BitVec.ofNat 32 (a ||| b)
  apply BitVec.eq_of_getLsbD_eq
  intro i hi
  simp [hi]
/-- a remainder by a power of two, as a mask -/
theorem fa_mask (n k : Nat) : nI n &&& nI (2 ^ k - 1) = nI (n % 2 ^ k) := by rw [fa_and, Nat.and_two_pow_sub_one_eq_mod]
/-- 'or' of a high part and a low one that don't meet is their sum -/
theorem fa_or_sum {a k : Nat} (b : Nat) (h : a < 2 ^ k) : nI (2 ^ k * b) ||| nI a = nI (2 ^ k * b + a) := by rw [fa_or, Nat.two_pow_add_eq_or_of_lt h]
/-- one bit, by 'and' with a power of two -/
theorem fa_bit {n j : Nat} (hj : j < 31) : nI n &&& nI (2 ^ j) = 0 ↔ n.testBit j = false := by
  have h2 : (2 : Nat) ^ j < 2 ^ 31 := Nat.pow_lt_pow_right (by decide) hj
  have hle : n &&& 2 ^ j ≤ 2 ^ j := Nat.and_le_right
  have e : n &&& 2 ^ j = 0 ↔ n.testBit j = false := by
    constructor
    · intro h
      have h1 : (n &&& 2 ^ j).testBit j = false := by rw [h]; simp
      rw [Nat.testBit_and] at h1
      first | simpa using h1 | simpa [Nat.testBit_two_pow_self] using h1 | simpa [Nat.testBit_two_pow] using h1
    · intro h
      apply Nat.eq_of_testBit_eq
      intro i
      rw [Nat.testBit_and]
      by_cases hi : j = i
      · subst hi; simp [h]
      · first | (simp [Nat.testBit_two_pow, hi]; done) | (simp [Nat.testBit_two_pow_of_ne hi]; done)
  rw [fa_and]
  constructor
  · intro h
    apply e.mp
    rcases Nat.eq_zero_or_pos (n &&& 2 ^ j) with z | z
    · exact z
    · exact absurd h (nI_ne0 z (Nat.lt_of_le_of_lt hle h2))
  · intro h
    rw [e.mpr h]; exact nI_0
/-- a remainder by a power of two of a number that isn't negative, as Java divides -/
theorem fa_rem {a k : Nat} (ha : a < 2 ^ 31) (hk : k < 31) : nI a - nI a / nI (2 ^ k) * nI (2 ^ k) = nI (a % 2 ^ k) := pk_rem ha (Nat.two_pow_pos k) (Nat.pow_lt_pow_right (by decide) hk)
/-! ===== cuts to a byte, a short ===== -/
theorem fa_byte_xor (x y : Int32) : (x ^^^ y).toInt8 = x.toInt8 ^^^ y.toInt8 := by
  apply Int8.toBitVec_inj.1
  apply BitVec.eq_of_getLsbD_eq
  intro i hi
  first | (simp [hi]; done) | (simp [hi, BitVec.getLsbD_setWidth, BitVec.getLsbD_signExtend]; done)
theorem fa_short_xor (x y : Int32) : (x ^^^ y).toInt16 = x.toInt16 ^^^ y.toInt16 := by
  apply Int16.toBitVec_inj.1
  apply BitVec.eq_of_getLsbD_eq
  intro i hi
  first | (simp [hi]; done) | (simp [hi, BitVec.getLsbD_setWidth, BitVec.getLsbD_signExtend]; done)
/-- the cut to a byte sees the low byte alone -/
theorem fa_byte_low (x : Int32) : (x &&& 255).toInt8 = x.toInt8 := by
  apply Int8.toBitVec_inj.1
  apply BitVec.eq_of_getLsbD_eq
  intro i hi
  have h2 : (255 : Int32).toBitVec.getLsbD i = true := by
    have : ∀ j : Fin 8, (255 : Int32).toBitVec.getLsbD j.val = true := by decide +kernel
    exact this ⟨i, hi⟩
  have h4 : (x &&& 255).toBitVec.getLsbD i = x.toBitVec.getLsbD i := by
    show (x.toBitVec &&& (255 : Int32).toBitVec).getLsbD i = _
    rw [BitVec.getLsbD_and, h2, Bool.and_true]
  have h3 : i < 32 := by omega
  first
    | (show (((x &&& 255).toBitVec).signExtend 8).getLsbD i = (x.toBitVec.signExtend 8).getLsbD i; rw [BitVec.getLsbD_signExtend, BitVec.getLsbD_signExtend, if_pos h3, if_pos h3, h4])
    | (show (((x &&& 255).toBitVec).setWidth 8).getLsbD i = (x.toBitVec.setWidth 8).getLsbD i; rw [BitVec.getLsbD_setWidth, BitVec.getLsbD_setWidth, h4])
    | (simp [hi, h3, h4]; done)
theorem fa_short_low (x : Int32) : (x &&& 65535).toInt16 = x.toInt16 := by
  apply Int16.toBitVec_inj.1
  apply BitVec.eq_of_getLsbD_eq
  intro i hi
  have h2 : (65535 : Int32).toBitVec.getLsbD i = true := by
    have : ∀ j : Fin 16, (65535 : Int32).toBitVec.getLsbD j.val = true := by decide +kernel
    exact this ⟨i, hi⟩
  have h4 : (x &&& 65535).toBitVec.getLsbD i = x.toBitVec.getLsbD i := by
    show (x.toBitVec &&& (65535 : Int32).toBitVec).getLsbD i = _
    rw [BitVec.getLsbD_and, h2, Bool.and_true]
  have h3 : i < 32 := by omega
  first
    | (show (((x &&& 65535).toBitVec).signExtend 16).getLsbD i = (x.toBitVec.signExtend 16).getLsbD i; rw [BitVec.getLsbD_signExtend, BitVec.getLsbD_signExtend, if_pos h3, if_pos h3, h4])
    | (show (((x &&& 65535).toBitVec).setWidth 16).getLsbD i = (x.toBitVec.setWidth 16).getLsbD i; rw [BitVec.getLsbD_setWidth, BitVec.getLsbD_setWidth, h4])
    | (simp [hi, h3, h4]; done)
/-- a small number is its own byte, its own short -/
theorem fa_byte_small {n : Nat} (h : n < 128) : (nI n).toInt8.toInt32 = nI n := by
  have : ∀ j : Fin 128, (nI j.val).toInt8.toInt32 = nI j.val := by decide +kernel
  exact this ⟨n, h⟩
/-! ===== absolute difference ===== -/
theorem fa_absdiff {a b : Nat} (ha : a < 2 ^ 31) (hb : b < 2 ^ 31) : (if nI a < nI b then nI b - nI a else nI a - nI b) = nI (if a < b then b - a else a - b) := by
  by_cases h : a < b
  · rw [if_pos (nI_lt h hb), if_pos h]
    exact pk_sub (Nat.le_of_lt h)
  · rw [if_neg (nI_nlt (Nat.le_of_not_lt h) ha), if_neg h]
    exact pk_sub (Nat.le_of_not_lt h)
/-! ===== an array behind i stores, a conditional store, a row copied ===== -/
/-- f where k < i, what stood there else -/
def fa_fill {α : Type} (f g : Nat → α) (i : Nat) : Nat → α := fun k => if k < i then f k else g k
theorem fa_fill_0 {α : Type} (f g : Nat → α) : fa_fill f g 0 = g := funext fun k => if_neg (Nat.not_lt_zero k)
theorem fa_fill_in {α : Type} {f g : Nat → α} {i k : Nat} (h : k < i) : fa_fill f g i k = f k := if_pos h
theorem fa_fill_out {α : Type} {f g : Nat → α} {i k : Nat} (h : i ≤ k) : fa_fill f g i k = g k := if_neg (Nat.not_lt.mpr h)
theorem fa_fill_succ (f g : Nat → Int32) (i : Nat) : upd (fa_fill f g i) i (f i) = fa_fill f g (i + 1) := by
  funext k
  by_cases e : k = i
  · subst e
    rw [pk_us]
    exact (if_pos (Nat.lt_succ_self k)).symm
  · rw [pk_un e]
    by_cases h : k < i
    · rw [fa_fill_in h, fa_fill_in (Nat.lt_succ_of_lt h)]
    · rw [fa_fill_out (Nat.le_of_not_lt h), fa_fill_out (by omega)]
/-- a store that changes nothing -/
theorem fa_upd_same {f : Nat → Int32} {i : Nat} {x : Int32} (h : f i = x) : upd f i x = f := by
  funext k
  by_cases e : k = i
  · subst e
    rw [pk_us, h]
  · rw [pk_un e]
/-- a store under a condition, told as one -/
theorem fa_upd_if (c : Prop) [Decidable c] (f : Nat → Int32) (i : Nat) (x : Int32) : (if c then upd f i x else f) = upd f i (if c then x else f i) := by
  by_cases h : c
  · rw [if_pos h, if_pos h]
  · rw [if_neg h, if_neg h, fa_upd_same rfl]
/-- two stores at one place, at two -/
theorem fa_upd_twice (f : Nat → Int32) (i : Nat) (x y : Int32) : upd (upd f i x) i y = upd f i y := by
  funext k
  by_cases e : k = i
  · subst e
    rw [pk_us, pk_us]
  · rw [pk_un e, pk_un e, pk_un e]
theorem fa_upd_swap (f : Nat → Int32) {i j : Nat} (h : i ≠ j) (x y : Int32) : upd (upd f i x) j y = upd (upd f j y) i x := by
  funext k
  by_cases e : k = i
  · subst e
    rw [pk_un h, pk_us, pk_us]
  · by_cases e2 : k = j
    · subst e2
      rw [pk_us, pk_un e, pk_us]
    · rw [pk_un e2, pk_un e, pk_un e, pk_un e2]
/-! ===== the first index with a property; a count ===== -/
/-- the first k < n with p k, n if there is none -/
def fa_first (p : Nat → Bool) : Nat → Nat
  | 0 => 0
  | n + 1 => if fa_first p n < n then fa_first p n else if p n then n else n + 1
theorem fa_first_le (p : Nat → Bool) : ∀ n, fa_first p n ≤ n
  | 0 => Nat.le_refl 0
  | n + 1 => by
    have ih := fa_first_le p n
    unfold fa_first
    split
    · omega
    · split
      · omega
      · omega
theorem fa_first_no (p : Nat → Bool) : ∀ n k, k < fa_first p n → p k = false
  | 0, k, h => absurd h (Nat.not_lt_zero k)
  | n + 1, k, h => by
    have ih := fa_first_no p n
    have hl := fa_first_le p n
    unfold fa_first at h
    split at h
    · exact ih k h
    · rename_i h1
      split at h
      · exact ih k (by omega)
      · rename_i h2
        by_cases e : k = n
        · subst e
          exact Bool.eq_false_iff.mpr h2
        · exact ih k (by omega)
theorem fa_first_yes (p : Nat → Bool) : ∀ n, fa_first p n < n → p (fa_first p n) = true
  | 0, h => absurd h (Nat.not_lt_zero _)
  | n + 1, h => by
    have ih := fa_first_yes p n
    have hl := fa_first_le p n
    unfold fa_first at h ⊢
    split at h
    · rename_i h1
      rw [if_pos h1]
      exact ih h1
    · rename_i h1
      rw [if_neg h1]
      split at h
      · rename_i h2
        rw [if_pos h2]
        exact h2
      · omega
/-- how many k < n have p k -/
def fa_cnt (p : Nat → Bool) : Nat → Nat
  | 0 => 0
  | n + 1 => fa_cnt p n + if p n then 1 else 0
theorem fa_cnt_le (p : Nat → Bool) : ∀ n, fa_cnt p n ≤ n
  | 0 => Nat.le_refl 0
  | n + 1 => by
    have ih := fa_cnt_le p n
    unfold fa_cnt
    split
    · omega
    · omega
theorem fa_cnt_yes {p : Nat → Bool} {n : Nat} (h : p n = true) : fa_cnt p (n + 1) = fa_cnt p n + 1 := by rw [fa_cnt, if_pos h]
theorem fa_cnt_no {p : Nat → Bool} {n : Nat} (h : p n = false) : fa_cnt p (n + 1) = fa_cnt p n := by rw [fa_cnt, if_neg (by rw [h]; decide)]; rfl
theorem fa_cnt_cong {p q : Nat → Bool} : ∀ {n : Nat}, (∀ k, k < n → p k = q k) → fa_cnt p n = fa_cnt q n
  | 0, _ => rfl
  | n + 1, h => by rw [fa_cnt, fa_cnt, fa_cnt_cong (fun k hk => h k (Nat.lt_succ_of_lt hk)), h n (Nat.lt_succ_self n)]
/-! ===== an answer carried into a post; a branch on a boolean answer ===== -/
theorem fa_post {α : Type} {P : α → Prop} {x y : α} (h : x = y) (hp : P y) : P x := h ▸ hp
theorem fa_post2 {α β : Type} {P : α → β → Prop} {x y : α} {u v : β} (h : x = y) (h2 : u = v) (hp : P y v) : P x u := h ▸ h2 ▸ hp
theorem fa_bool {r : Int32} {b : Bool} (h : r = if b then 1 else 0) : (r = 0 ↔ b = false) ∧ (¬ r = 0 ↔ b = true) := by
  subst h
  cases b
  · exact ⟨⟨fun _ => rfl, fun _ => rfl⟩, ⟨fun h => absurd rfl h, fun h => absurd h (by decide)⟩⟩
  · exact ⟨⟨fun h => absurd h (by decide), fun h => absurd h (by decide)⟩, ⟨fun _ => rfl, fun _ => by decide⟩⟩
/-- a boolean's narrowing changes nothing -/
theorem fa_bool_and {r : Int32} (h : r = 0 ∨ r = 1) : r &&& 1 = r := by
  rcases h with rfl | rfl
  · decide
  · decide
theorem fa_bool_prop {c : Prop} [Decidable c] {r : Int32} (h : r = if c then 1 else 0) : (r = 0 ↔ ¬ c) ∧ (¬ r = 0 ↔ c) := by
  subst h
  by_cases hc : c
  · rw [if_pos hc]
    exact ⟨⟨fun h => absurd h (by decide), fun h => absurd hc h⟩, ⟨fun _ => hc, fun _ => by decide⟩⟩
  · rw [if_neg hc]
    exact ⟨⟨fun _ => hc, fun _ => rfl⟩, ⟨fun h => absurd rfl h, fun h => absurd h hc⟩⟩
/-! plain facts to paste, each family by itself; over the kit's nI, lN and upd -/
/-! ===== drawers: more things than places ===== -/
theorem fb_holes : ∀ (m n : Nat) (f : Nat → Nat), (∀ i, i < n → f i < m) → (∀ i j, i < j → j < n → f i ≠ f j) → n ≤ m := by
  intro m
  induction m with
  | zero =>
    intro n f h1 _
    rcases Nat.eq_zero_or_pos n with h | h
    · omega
    · exact absurd (h1 0 h) (Nat.not_lt_zero _)
  | succ m ih =>
    intro n f h1 h2
    by_cases hx : ∃ i, i < n ∧ f i = m
    · obtain ⟨a, ha, hfa⟩ := hx
      have hg := ih (n - 1) (fun i => if i < a then f i else f (i + 1)) (by
        intro i hi
        by_cases q : i < a
        · simp only [if_pos q]
          have b1 := h1 i (by omega)
          have b2 := h2 i a q ha
          omega
        · simp only [if_neg q]
          have b1 := h1 (i + 1) (by omega)
          have b2 := h2 a (i + 1) (by omega) (by omega)
          omega) (by
        intro i j hij hj
        by_cases q : i < a
        · by_cases r : j < a
          · simp only [if_pos q, if_pos r]
            exact h2 i j hij (by omega)
          · simp only [if_pos q, if_neg r]
            exact h2 i (j + 1) (by omega) (by omega)
        · have r : ¬ j < a := by omega
          simp only [if_neg q, if_neg r]
          exact h2 (i + 1) (j + 1) (by omega) (by omega))
      omega
    · have hg := ih n f (fun i hi => by
        have b1 := h1 i hi
        have b2 : f i ≠ m := fun e => hx ⟨i, hi, e⟩
        omega) h2
      omega
/-- two of them in one place -/
theorem fb_twice {m n : Nat} {f : Nat → Nat} (h : ∀ i, i < n → f i < m) (hm : m < n) : ∃ i j, i < j ∧ j < n ∧ f i = f j := by
  refine Classical.byContradiction fun hx => ?_
  have := fb_holes m n f h (fun i j hij hj e => hx ⟨i, j, hij, hj, e⟩)
  omega
/-- as many as places, none twice: each place is taken -/
theorem fb_onto {n : Nat} {f : Nat → Nat} (h : ∀ i, i < n → f i < n) (h2 : ∀ i j, i < j → j < n → f i ≠ f j) {y : Nat} (hy : y < n) : ∃ i, i < n ∧ f i = y := by
  refine Classical.byContradiction fun hx => ?_
  have hne : ∀ i, i < n → f i ≠ y := fun i hi e => hx ⟨i, hi, e⟩
  have := fb_holes (n - 1) n (fun i => if f i < y then f i else f i - 1) (by
    intro i hi
    have b1 := h i hi
    have b2 := hne i hi
    by_cases q : f i < y
    · simp only [if_pos q]; omega
    · simp only [if_neg q]; omega) (by
    intro i j hij hj
    have b1 := hne i (by omega)
    have b2 := hne j hj
    have b3 := h2 i j hij hj
    by_cases q : f i < y
    · by_cases r : f j < y
      · simp only [if_pos q, if_pos r]; exact b3
      · simp only [if_pos q, if_neg r]; omega
    · by_cases r : f j < y
      · simp only [if_neg q, if_pos r]; omega
      · simp only [if_neg q, if_neg r]; omega)
  omega
/-! ===== how many places have a property ===== -/
def fb_ct (p : Nat → Bool) : Nat → Nat
  | 0 => 0
  | n + 1 => fb_ct p n + (if p n then 1 else 0)
theorem fb_ct_succ (p : Nat → Bool) (n : Nat) : fb_ct p (n + 1) = fb_ct p n + (if p n then 1 else 0) := rfl
theorem fb_ct_le (p : Nat → Bool) : ∀ n, fb_ct p n ≤ n
  | 0 => Nat.le_refl _
  | n + 1 => by
    have h := fb_ct_le p n
    rw [fb_ct_succ]
    split <;> omega
theorem fb_ct_step (p : Nat → Bool) (m : Nat) : ∀ n, fb_ct p m ≤ fb_ct p (m + n)
  | 0 => Nat.le_refl _
  | n + 1 => by
    have h := fb_ct_step p m n
    show fb_ct p m ≤ fb_ct p (m + n + 1)
    rw [fb_ct_succ]
    omega
theorem fb_ct_mono (p : Nat → Bool) {m n : Nat} (h : m ≤ n) : fb_ct p m ≤ fb_ct p n := by
  have := fb_ct_step p m (n - m)
  rwa [Nat.add_sub_cancel' h] at this
theorem fb_ct_cong {p q : Nat → Bool} : ∀ {n : Nat}, (∀ k, k < n → p k = q k) → fb_ct p n = fb_ct q n
  | 0, _ => rfl
  | n + 1, h => by
    rw [fb_ct_succ, fb_ct_succ, fb_ct_cong (fun k hk => h k (by omega)), h n (by omega)]
/-- one place changed -/
theorem fb_ct_out (p : Nat → Bool) (b : Bool) {i n : Nat} (h : n ≤ i) : fb_ct (fun k => if k = i then b else p k) n = fb_ct p n :=
  fb_ct_cong fun k hk => if_neg (by omega)
theorem fb_ct_upd (p : Nat → Bool) (b : Bool) {i : Nat} : ∀ {n : Nat}, i < n → fb_ct (fun k => if k = i then b else p k) n + (if p i then 1 else 0) = fb_ct p n + (if b then 1 else 0)
  | 0, h => absurd h (Nat.not_lt_zero i)
  | n + 1, h => by
    rw [fb_ct_succ, fb_ct_succ]
    rcases Nat.lt_or_ge i n with q | q
    · have := fb_ct_upd p b q
      have e : (if n = i then b else p n) = p n := if_neg (by omega)
      rw [e]
      omega
    · have e : i = n := by omega
      subst e
      rw [fb_ct_out p b (Nat.le_refl _)]
      simp only [if_true]
      omega
theorem fb_ct_sub {p q : Nat → Bool} : ∀ {n : Nat}, (∀ k, k < n → p k = true → q k = true) → fb_ct p n ≤ fb_ct q n
  | 0, _ => Nat.le_refl _
  | n + 1, h => by
    have h1 := fb_ct_sub (n := n) (p := p) (q := q) (fun k hk => h k (by omega))
    have h2 := h n (by omega)
    rw [fb_ct_succ, fb_ct_succ]
    cases hp : p n <;> cases hq : q n <;> simp_all <;> omega
theorem fb_ct_or {p q : Nat → Bool} : ∀ {n : Nat}, (∀ k, k < n → ¬ (p k = true ∧ q k = true)) → fb_ct (fun k => p k || q k) n = fb_ct p n + fb_ct q n
  | 0, _ => rfl
  | n + 1, h => by
    have h1 := fb_ct_or (n := n) (p := p) (q := q) (fun k hk => h k (by omega))
    have h2 := h n (by omega)
    rw [fb_ct_succ, fb_ct_succ, fb_ct_succ, h1]
    cases hp : p n <;> cases hq : q n <;> simp_all <;> omega
theorem fb_ct_not (p : Nat → Bool) : ∀ n, fb_ct p n + fb_ct (fun k => !p k) n = n
  | 0 => rfl
  | n + 1 => by
    have h := fb_ct_not p n
    rw [fb_ct_succ, fb_ct_succ]
    cases p n <;> simp <;> omega
theorem fb_ct_split (p : Nat → Bool) (m : Nat) : ∀ n, fb_ct p (m + n) = fb_ct p m + fb_ct (fun k => p (m + k)) n
  | 0 => rfl
  | n + 1 => by
    have h := fb_ct_split p m n
    show fb_ct p (m + n + 1) = _
    rw [fb_ct_succ, fb_ct_succ, h, Nat.add_assoc]
theorem fb_ct_zero {p : Nat → Bool} : ∀ {n : Nat}, fb_ct p n = 0 ↔ ∀ k, k < n → p k = false
  | 0 => ⟨fun _ k hk => absurd hk (Nat.not_lt_zero k), fun _ => rfl⟩
  | n + 1 => by
    have h := fb_ct_zero (p := p) (n := n)
    rw [fb_ct_succ]
    constructor
    · intro e k hk
      have e1 : fb_ct p n = 0 := by omega
      rcases Nat.lt_or_ge k n with q | q
      · exact h.mp e1 k q
      · have ek : k = n := by omega
        subst ek
        cases hp : p k
        · rfl
        · simp [hp] at e
    · intro a
      rw [h.mpr (fun k hk => a k (by omega)), a n (by omega)]
      rfl
theorem fb_ct_pos {p : Nat → Bool} {n : Nat} : 0 < fb_ct p n ↔ ∃ k, k < n ∧ p k = true := by
  constructor
  · intro h
    refine Classical.byContradiction fun hx => ?_
    have := fb_ct_zero.mpr (fun k hk => by
      cases hp : p k
      · rfl
      · exact absurd ⟨k, hk, hp⟩ hx : ∀ k, k < n → p k = false)
    omega
  · rintro ⟨k, hk, hp⟩
    rcases Nat.eq_zero_or_pos (fb_ct p n) with e | e
    · have := fb_ct_zero.mp e k hk
      rw [this] at hp
      cases hp
    · exact e
theorem fb_ct_all {p : Nat → Bool} {n : Nat} : fb_ct p n = n ↔ ∀ k, k < n → p k = true := by
  have h := fb_ct_not p n
  constructor
  · intro e k hk
    have z : fb_ct (fun k => !p k) n = 0 := by omega
    have := fb_ct_zero.mp z k hk
    cases hp : p k
    · simp [hp] at this
    · rfl
  · intro a
    have z : fb_ct (fun k => !p k) n = 0 := fb_ct_zero.mpr (fun k hk => by simp [a k hk])
    omega
/-- the k-th place with the property -/
theorem fb_ct_kth {p : Nat → Bool} {k : Nat} : ∀ {n : Nat}, k < fb_ct p n → ∃ i, i < n ∧ p i = true ∧ fb_ct p i = k
  | 0, h => absurd h (Nat.not_lt_zero k)
  | n + 1, h => by
    rcases Nat.lt_or_ge k (fb_ct p n) with q | q
    · obtain ⟨i, h1, h2⟩ := fb_ct_kth q
      exact ⟨i, by omega, h2⟩
    · rw [fb_ct_succ] at h
      cases hp : p n
      · simp [hp] at h; omega
      · simp [hp] at h
        exact ⟨n, by omega, hp, by omega⟩
theorem fb_ct_kth_one {p : Nat → Bool} {i j : Nat} (hi : p i = true) (hj : p j = true) (e : fb_ct p i = fb_ct p j) : i = j := by
  have key : ∀ a b : Nat, a < b → p a = true → fb_ct p a < fb_ct p b := by
    intro a b hab ha
    have h := fb_ct_mono p (show a + 1 ≤ b from hab)
    rw [fb_ct_succ, ha] at h
    simp at h
    omega
  rcases Nat.lt_trichotomy i j with q | q | q
  · have := key i j q hi; omega
  · exact q
  · have := key j i q hj; omega
/-! ===== sums over a range: one place changed, parts, bounds ===== -/
def fb_sm (f : Nat → Nat) : Nat → Nat
  | 0 => 0
  | n + 1 => fb_sm f n + f n
theorem fb_sm_succ (f : Nat → Nat) (n : Nat) : fb_sm f (n + 1) = fb_sm f n + f n := rfl
theorem fb_sm_cong {f g : Nat → Nat} : ∀ {n : Nat}, (∀ k, k < n → f k = g k) → fb_sm f n = fb_sm g n
  | 0, _ => rfl
  | n + 1, h => by rw [fb_sm_succ, fb_sm_succ, fb_sm_cong (fun k hk => h k (by omega)), h n (by omega)]
theorem fb_sm_out (f : Nat → Nat) (v : Nat) {i n : Nat} (h : n ≤ i) : fb_sm (fun k => if k = i then v else f k) n = fb_sm f n :=
  fb_sm_cong fun k hk => if_neg (by omega)
theorem fb_sm_upd (f : Nat → Nat) (v : Nat) {i : Nat} : ∀ {n : Nat}, i < n → fb_sm (fun k => if k = i then v else f k) n + f i = fb_sm f n + v
  | 0, h => absurd h (Nat.not_lt_zero i)
  | n + 1, h => by
    rw [fb_sm_succ, fb_sm_succ]
    rcases Nat.lt_or_ge i n with q | q
    · have := fb_sm_upd f v q
      have e : (if n = i then v else f n) = f n := if_neg (by omega)
      rw [e]
      omega
    · have e : i = n := by omega
      subst e
      rw [fb_sm_out f v (Nat.le_refl _)]
      simp only [if_true]
      omega
theorem fb_sm_add (f g : Nat → Nat) : ∀ n, fb_sm (fun k => f k + g k) n = fb_sm f n + fb_sm g n
  | 0 => rfl
  | n + 1 => by
    have h := fb_sm_add f g n
    rw [fb_sm_succ, fb_sm_succ, fb_sm_succ, h]
    omega
theorem fb_sm_le {f g : Nat → Nat} : ∀ {n : Nat}, (∀ k, k < n → f k ≤ g k) → fb_sm f n ≤ fb_sm g n
  | 0, _ => Nat.le_refl _
  | n + 1, h => by
    have h1 := fb_sm_le (n := n) (f := f) (g := g) (fun k hk => h k (by omega))
    have h2 := h n (by omega)
    rw [fb_sm_succ, fb_sm_succ]
    omega
theorem fb_sm_const (c : Nat) : ∀ n, fb_sm (fun _ => c) n = n * c
  | 0 => by rw [Nat.zero_mul]; rfl
  | n + 1 => by rw [fb_sm_succ, fb_sm_const c n, Nat.succ_mul]
theorem fb_sm_bound {f : Nat → Nat} {c n : Nat} (h : ∀ k, k < n → f k ≤ c) : fb_sm f n ≤ n * c := by
  rw [← fb_sm_const c n]
  exact fb_sm_le h
theorem fb_sm_mono (f : Nat → Nat) (m : Nat) : ∀ n, fb_sm f m ≤ fb_sm f (m + n)
  | 0 => Nat.le_refl _
  | n + 1 => by
    have h := fb_sm_mono f m n
    show fb_sm f m ≤ fb_sm f (m + n + 1)
    rw [fb_sm_succ]
    omega
theorem fb_sm_part (f : Nat → Nat) {i n : Nat} (h : i < n) : fb_sm f i + f i ≤ fb_sm f n := by
  have := fb_sm_mono f (i + 1) (n - (i + 1))
  rw [fb_sm_succ, show i + 1 + (n - (i + 1)) = n by omega] at this
  exact this
theorem fb_sm_split (f : Nat → Nat) (m : Nat) : ∀ n, fb_sm f (m + n) = fb_sm f m + fb_sm (fun k => f (m + k)) n
  | 0 => rfl
  | n + 1 => by
    have h := fb_sm_split f m n
    show fb_sm f (m + n + 1) = _
    rw [fb_sm_succ, fb_sm_succ, h, Nat.add_assoc]
theorem fb_sm_zero {f : Nat → Nat} {n : Nat} (h : fb_sm f n = 0) : ∀ k, k < n → f k = 0 := fun k hk => by
  have := fb_sm_part f hk
  omega
/-- the same over whole numbers -/
def fb_si (f : Nat → Int) : Nat → Int
  | 0 => 0
  | n + 1 => fb_si f n + f n
theorem fb_si_succ (f : Nat → Int) (n : Nat) : fb_si f (n + 1) = fb_si f n + f n := rfl
theorem fb_si_cong {f g : Nat → Int} : ∀ {n : Nat}, (∀ k, k < n → f k = g k) → fb_si f n = fb_si g n
  | 0, _ => rfl
  | n + 1, h => by rw [fb_si_succ, fb_si_succ, fb_si_cong (fun k hk => h k (by omega)), h n (by omega)]
theorem fb_si_out (f : Nat → Int) (v : Int) {i n : Nat} (h : n ≤ i) : fb_si (fun k => if k = i then v else f k) n = fb_si f n :=
  fb_si_cong fun k hk => if_neg (by omega)
theorem fb_si_upd (f : Nat → Int) (v : Int) {i : Nat} : ∀ {n : Nat}, i < n → fb_si (fun k => if k = i then v else f k) n = fb_si f n - f i + v
  | 0, h => absurd h (Nat.not_lt_zero i)
  | n + 1, h => by
    rw [fb_si_succ, fb_si_succ]
    rcases Nat.lt_or_ge i n with q | q
    · have := fb_si_upd f v q
      have e : (if n = i then v else f n) = f n := if_neg (by omega)
      rw [e]
      omega
    · have e : i = n := by omega
      subst e
      rw [fb_si_out f v (Nat.le_refl _)]
      simp only [if_true]
      omega
theorem fb_si_add (f g : Nat → Int) : ∀ n, fb_si (fun k => f k + g k) n = fb_si f n + fb_si g n
  | 0 => rfl
  | n + 1 => by
    have h := fb_si_add f g n
    rw [fb_si_succ, fb_si_succ, fb_si_succ, h]
    omega
theorem fb_si_sub (f g : Nat → Int) : ∀ n, fb_si (fun k => f k - g k) n = fb_si f n - fb_si g n
  | 0 => rfl
  | n + 1 => by
    have h := fb_si_sub f g n
    rw [fb_si_succ, fb_si_succ, fb_si_succ, h]
    omega
theorem fb_si_mul (c : Int) (f : Nat → Int) : ∀ n, fb_si (fun k => c * f k) n = c * fb_si f n
  | 0 => (Int.mul_zero c).symm
  | n + 1 => by
    have h := fb_si_mul c f n
    rw [fb_si_succ, fb_si_succ, h, Int.mul_add]
theorem fb_si_split (f : Nat → Int) (m : Nat) : ∀ n, fb_si f (m + n) = fb_si f m + fb_si (fun k => f (m + k)) n
  | 0 => (Int.add_zero _).symm
  | n + 1 => by
    have h := fb_si_split f m n
    show fb_si f (m + n + 1) = _
    rw [fb_si_succ, fb_si_succ, h, Int.add_assoc]
theorem fb_si_nat (f : Nat → Nat) : ∀ n, fb_si (fun k => (f k : Int)) n = (fb_sm f n : Int)
  | 0 => rfl
  | n + 1 => by
    have h := fb_si_nat f n
    rw [fb_si_succ, fb_sm_succ, h]
    omega
theorem fb_si_bound {f : Nat → Int} {c : Int} (hc : 0 ≤ c) : ∀ {n : Nat}, (∀ k, k < n → -c ≤ f k ∧ f k ≤ c) → -(n * c) ≤ fb_si f n ∧ fb_si f n ≤ n * c
  | 0, _ => by simp [fb_si]
  | n + 1, h => by
    have h1 := fb_si_bound (n := n) (f := f) hc (fun k hk => h k (by omega))
    have h2 := h n (by omega)
    have e : ((n + 1 : Nat) : Int) * c = n * c + c := by rw [Int.natCast_add, Int.add_mul]; simp
    rw [fb_si_succ, e]
    omega
/-! ===== bits of a long that isn't negative ===== -/
theorem fb_andL (a b : Nat) : lN a &&& lN b = lN (a &&& b) := by
  apply Int64.toBitVec_inj.1
  show BitVec.ofNat 64 a &&& BitVec.ofNat 64 b = BitVec.ofNat 64 (a &&& b)
  apply BitVec.eq_of_getLsbD_eq
  intro i hi
  simp [hi]
theorem fb_orL (a b : Nat) : lN a ||| lN b = lN (a ||| b) := by
  apply Int64.toBitVec_inj.1
  show BitVec.ofNat 64 a ||| BitVec.ofNat 64 b = BitVec.ofNat 64 (a ||| b)
  apply BitVec.eq_of_getLsbD_eq
  intro i hi
  simp [hi]
theorem fb_xorL (a b : Nat) : lN a ^^^ lN b = lN (a ^^^ b) := by
  apply Int64.toBitVec_inj.1
  show BitVec.ofNat 64 a ^^^ BitVec.ofNat 64 b = BitVec.ofNat 64 (a ^^^ b)
  apply BitVec.eq_of_getLsbD_eq
  intro i hi
  simp [hi]
theorem fb_xorI (a b : Nat) : nI a ^^^ nI b = nI (a ^^^ b) := by
  apply Int32.toBitVec_inj.1
  show BitVec.ofNat 32 a ^^^ BitVec.ofNat 32 b = BitVec.ofNat 32 (a ^^^ b)
  apply BitVec.eq_of_getLsbD_eq
  intro i hi
  simp [hi]
theorem fb_maskL (n k : Nat) : lN n &&& lN (2 ^ k - 1) = lN (n % 2 ^ k) := by rw [fb_andL, Nat.and_two_pow_sub_one_eq_mod]
theorem fb_or_sumL {a k : Nat} (b : Nat) (h : a < 2 ^ k) : lN (2 ^ k * b) ||| lN a = lN (2 ^ k * b + a) := by rw [fb_orL, Nat.two_pow_add_eq_or_of_lt h]
theorem fb_lN_inj {a b : Nat} (ha : a < 2 ^ 63) (hb : b < 2 ^ 63) : lN a = lN b ↔ a = b := by
  constructor
  · intro h
    have h1 : (BitVec.ofNat 64 a).toNat = (BitVec.ofNat 64 b).toNat := congrArg (fun x : Int64 => x.toBitVec.toNat) h
    rw [BitVec.toNat_ofNat, BitVec.toNat_ofNat, Nat.mod_eq_of_lt (by omega), Nat.mod_eq_of_lt (by omega)] at h1
    exact h1
  · rintro rfl; rfl
theorem fb_bit_nat (n j : Nat) : n &&& 2 ^ j = 0 ↔ n.testBit j = false := by
  constructor
  · intro h
    have h1 : (n &&& 2 ^ j).testBit j = false := by rw [h]; simp
    rw [Nat.testBit_and] at h1
    simpa using h1
  · intro h
    apply Nat.eq_of_testBit_eq
    intro i
    rw [Nat.testBit_and]
    by_cases hi : j = i
    · subst hi; simp [h]
    · first | (simp [Nat.testBit_two_pow, hi]; done) | (simp [Nat.testBit_two_pow_of_ne hi]; done)
/-- one bit of a long -/
theorem fb_bitL {n j : Nat} (hj : j < 63) : lN n &&& lN (2 ^ j) = 0 ↔ n.testBit j = false := by
  have h2 : (2 : Nat) ^ j < 2 ^ 63 := Nat.pow_lt_pow_right (by decide) hj
  have hle : n &&& 2 ^ j ≤ 2 ^ j := Nat.and_le_right
  rw [fb_andL, ← fb_bit_nat, show (0 : Int64) = lN 0 from rfl]
  exact fb_lN_inj (by omega) (by decide)
/-- a bit set, a bit taken off -/
theorem fb_bit_set (n j i : Nat) : (n ||| 2 ^ j).testBit i = (n.testBit i || decide (i = j)) := by
  rw [Nat.testBit_or]
  by_cases h : j = i
  · subst h; simp
  · have h2 : ¬ i = j := fun e => h e.symm
    first | (simp [Nat.testBit_two_pow, h, h2]; done) | (simp [Nat.testBit_two_pow_of_ne h, h2]; done)
theorem fb_bit_flip (n j i : Nat) : (n ^^^ 2 ^ j).testBit i = (n.testBit i ^^ decide (i = j)) := by
  rw [Nat.testBit_xor]
  by_cases h : j = i
  · subst h; simp
  · have h2 : ¬ i = j := fun e => h e.symm
    first | (simp [Nat.testBit_two_pow, h, h2]; done) | (simp [Nat.testBit_two_pow_of_ne h, h2]; done)
/-! ===== a stretch of an array written over by a function ===== -/
def fb_put {α : Type} (f g : Nat → α) (a n : Nat) : Nat → α := fun k => if a ≤ k ∧ k < a + n then g (k - a) else f k
theorem fb_put_0 {α : Type} (f g : Nat → α) (a : Nat) : fb_put f g a 0 = f := funext fun k => if_neg (by omega)
theorem fb_put_in {α : Type} {f g : Nat → α} {a n k : Nat} (h1 : a ≤ k) (h2 : k < a + n) : fb_put f g a n k = g (k - a) := if_pos ⟨h1, h2⟩
theorem fb_put_out {α : Type} {f g : Nat → α} {a n k : Nat} (h : k < a ∨ a + n ≤ k) : fb_put f g a n k = f k := if_neg (by omega)
theorem fb_put_succ (f g : Nat → Int32) (a n : Nat) : upd (fb_put f g a n) (a + n) (g n) = fb_put f g a (n + 1) := by
  funext k
  by_cases h : k = a + n
  · subst h
    simp [upd, fb_put]
  · by_cases h1 : a ≤ k ∧ k < a + n
    · have h2 : a ≤ k ∧ k < a + (n + 1) := by omega
      simp only [upd, fb_put, if_neg h, if_pos h1, if_pos h2]
    · have h2 : ¬ (a ≤ k ∧ k < a + (n + 1)) := by omega
      simp only [upd, fb_put, if_neg h, if_neg h1, if_neg h2]
/-- .. from the far end down -/
theorem fb_put_down (f g : Nat → Int32) {a n m : Nat} (h : m < n) : upd (fb_put f (fun k => g (k + (m + 1))) (a + (m + 1)) (n - (m + 1))) (a + m) (g m) = fb_put f (fun k => g (k + m)) (a + m) (n - m) := by
  funext k
  by_cases h0 : k = a + m
  · subst h0
    simp only [upd, if_true]
    rw [fb_put_in (by omega) (by omega)]
    exact congrArg g (by omega)
  · simp only [upd, if_neg h0]
    by_cases h1 : a + (m + 1) ≤ k ∧ k < a + (m + 1) + (n - (m + 1))
    · rw [fb_put_in h1.1 h1.2, fb_put_in (by omega) (by omega)]
      exact congrArg g (by omega)
    · rw [fb_put_out (by omega), fb_put_out (by omega)]
theorem fb_put_cong {α : Type} {f f2 g g2 : Nat → α} {a n : Nat} (hf : ∀ k, (k < a ∨ a + n ≤ k) → f k = f2 k) (hg : ∀ k, k < n → g k = g2 k) : fb_put f g a n = fb_put f2 g2 a n := by
  funext k
  by_cases h : a ≤ k ∧ k < a + n
  · rw [fb_put_in h.1 h.2, fb_put_in h.1 h.2, hg _ (by omega)]
  · rw [fb_put_out (by omega), fb_put_out (by omega), hf _ (by omega)]
/-! ===== the least, the first, the best so far; that there is one alone ===== -/
theorem fb_first {p : Nat → Prop} [DecidablePred p] : ∀ {n : Nat}, (∃ i, i < n ∧ p i) → ∃ i, i < n ∧ p i ∧ ∀ j, j < i → ¬ p j
  | 0, h => by obtain ⟨i, hi, -⟩ := h; exact absurd hi (Nat.not_lt_zero i)
  | n + 1, h => by
    by_cases q : ∃ i, i < n ∧ p i
    · obtain ⟨i, h1, h2⟩ := fb_first q
      exact ⟨i, by omega, h2⟩
    · obtain ⟨i, h1, h2⟩ := h
      have e : i = n := by
        rcases Nat.lt_or_ge i n with r | r
        · exact absurd ⟨i, r, h2⟩ q
        · omega
      subst e
      exact ⟨i, by omega, h2, fun j hj hp => q ⟨j, hj, hp⟩⟩
theorem fb_first_one {p : Nat → Prop} {i j : Nat} (hi : p i) (hi2 : ∀ k, k < i → ¬ p k) (hj : p j) (hj2 : ∀ k, k < j → ¬ p k) : i = j := by
  rcases Nat.lt_trichotomy i j with q | q | q
  · exact absurd hi (hj2 i q)
  · exact q
  · exact absurd hj (hi2 j q)
theorem fb_last {p : Nat → Prop} [DecidablePred p] : ∀ {n : Nat}, (∃ i, i < n ∧ p i) → ∃ i, i < n ∧ p i ∧ ∀ j, i < j → j < n → ¬ p j
  | 0, h => by obtain ⟨i, hi, -⟩ := h; exact absurd hi (Nat.not_lt_zero i)
  | n + 1, h => by
    by_cases q : p n
    · exact ⟨n, by omega, q, fun j h1 h2 => by omega⟩
    · obtain ⟨i, h1, h2⟩ := h
      have hi : i < n := by
        rcases Nat.lt_or_ge i n with r | r
        · exact r
        · have e : i = n := by omega
          subst e
          exact absurd h2 q
      obtain ⟨i2, a1, a2, a3⟩ := fb_last (n := n) ⟨i, hi, h2⟩
      refine ⟨i2, by omega, a2, fun j b1 b2 => ?_⟩
      rcases Nat.lt_or_ge j n with r | r
      · exact a3 j b1 r
      · have e : j = n := by omega
        subst e
        exact q
/-- the first greatest -/
theorem fb_best (f : Nat → Int) : ∀ {n : Nat}, 0 < n → ∃ i, i < n ∧ (∀ j, j < n → f j ≤ f i) ∧ ∀ j, j < i → f j < f i
  | 0, h => absurd h (Nat.lt_irrefl 0)
  | 1, _ => ⟨0, by omega, fun j hj => by have e : j = 0 := by omega
                                         subst e; exact Int.le_refl _, fun j hj => absurd hj (Nat.not_lt_zero j)⟩
  | n + 2, _ => by
    obtain ⟨i, h1, h2, h3⟩ := fb_best f (n := n + 1) (by omega)
    by_cases q : f i < f (n + 1)
    · refine ⟨n + 1, by omega, fun j hj => ?_, fun j hj => ?_⟩
      · rcases Nat.lt_or_ge j (n + 1) with r | r
        · have := h2 j r; omega
        · have e : j = n + 1 := by omega
          subst e; exact Int.le_refl _
      · have := h2 j hj; omega
    · refine ⟨i, by omega, fun j hj => ?_, h3⟩
      rcases Nat.lt_or_ge j (n + 1) with r | r
      · exact h2 j r
      · have e : j = n + 1 := by omega
        subst e; omega
theorem fb_best_one {f : Nat → Int} {n i j : Nat} (hi : i < n) (hi2 : ∀ k, k < n → f k ≤ f i) (hi3 : ∀ k, k < i → f k < f i) (hj : j < n) (hj2 : ∀ k, k < n → f k ≤ f j) (hj3 : ∀ k, k < j → f k < f j) : i = j := by
  rcases Nat.lt_trichotomy i j with q | q | q
  · have a := hj3 i q
    have b := hi2 j hj
    omega
  · exact q
  · have a := hi3 j q
    have b := hj2 i hi
    omega
/-- the first least -/
theorem fb_low (f : Nat → Int) {n : Nat} (h : 0 < n) : ∃ i, i < n ∧ (∀ j, j < n → f i ≤ f j) ∧ ∀ j, j < i → f i < f j := by
  obtain ⟨i, h1, h2, h3⟩ := fb_best (fun k => -f k) h
  exact ⟨i, h1, fun j hj => by have := h2 j hj; omega, fun j hj => by have := h3 j hj; omega⟩
/-! ===== signed ints as whole numbers, within bounds ===== -/
theorem fb_rng (x : Int32) : -2147483648 ≤ x.toInt ∧ x.toInt < 2147483648 := by
  have h1 := Int32.le_toInt x
  have h2 := Int32.toInt_lt x
  omega
theorem fb_bmod {z : Int} (h1 : -2147483648 ≤ z) (h2 : z < 2147483648) : z.bmod (2 ^ 32) = z := by
  rw [Int.bmod_eq_of_le (by omega) (by omega)]
theorem fb_addI {x y : Int32} (h1 : -2147483648 ≤ x.toInt + y.toInt) (h2 : x.toInt + y.toInt < 2147483648) : (x + y).toInt = x.toInt + y.toInt := by
  rw [Int32.toInt_add, fb_bmod h1 h2]
theorem fb_subI {x y : Int32} (h1 : -2147483648 ≤ x.toInt - y.toInt) (h2 : x.toInt - y.toInt < 2147483648) : (x - y).toInt = x.toInt - y.toInt := by
  rw [Int32.toInt_sub, fb_bmod h1 h2]
theorem fb_mulI {x y : Int32} (h1 : -2147483648 ≤ x.toInt * y.toInt) (h2 : x.toInt * y.toInt < 2147483648) : (x * y).toInt = x.toInt * y.toInt := by
  rw [Int32.toInt_mul, fb_bmod h1 h2]
theorem fb_negI {x : Int32} (h : x.toInt ≠ -2147483648) : (-x).toInt = -x.toInt := by
  have := fb_rng x
  rw [Int32.toInt_neg, fb_bmod (by omega) (by omega)]
theorem fb_ofI {z : Int} (h1 : -2147483648 ≤ z) (h2 : z < 2147483648) : (Int32.ofInt z).toInt = z := by
  rw [Int32.toInt_ofInt, fb_bmod h1 h2]
theorem fb_asI (x : Int32) : Int32.ofInt x.toInt = x := Int32.ofInt_toInt x
theorem fb_rngL (x : Int64) : -9223372036854775808 ≤ x.toInt ∧ x.toInt < 9223372036854775808 := by
  have h1 := Int64.le_toInt x
  have h2 := Int64.toInt_lt x
  omega
theorem fb_bmodL {z : Int} (h1 : -9223372036854775808 ≤ z) (h2 : z < 9223372036854775808) : z.bmod (2 ^ 64) = z := by
  rw [Int.bmod_eq_of_le (by omega) (by omega)]
theorem fb_addL {x y : Int64} (h1 : -9223372036854775808 ≤ x.toInt + y.toInt) (h2 : x.toInt + y.toInt < 9223372036854775808) : (x + y).toInt = x.toInt + y.toInt := by
  rw [Int64.toInt_add, fb_bmodL h1 h2]
theorem fb_subL {x y : Int64} (h1 : -9223372036854775808 ≤ x.toInt - y.toInt) (h2 : x.toInt - y.toInt < 9223372036854775808) : (x - y).toInt = x.toInt - y.toInt := by
  rw [Int64.toInt_sub, fb_bmodL h1 h2]
theorem fb_mulL {x y : Int64} (h1 : -9223372036854775808 ≤ x.toInt * y.toInt) (h2 : x.toInt * y.toInt < 9223372036854775808) : (x * y).toInt = x.toInt * y.toInt := by
  rw [Int64.toInt_mul, fb_bmodL h1 h2]
/-! ===== cuts of what is narrow already ===== -/
theorem fb_byte {x : Int32} (h1 : -128 ≤ x.toInt) (h2 : x.toInt < 128) : x.toInt8.toInt32 = x := by
  apply Int32.toInt_inj.1
  rw [Int8.toInt_toInt32, Int32.toInt_toInt8, Int.bmod_eq_of_le (by omega) (by omega)]
theorem fb_short {x : Int32} (h1 : -32768 ≤ x.toInt) (h2 : x.toInt < 32768) : x.toInt16.toInt32 = x := by
  apply Int32.toInt_inj.1
  rw [Int16.toInt_toInt32, Int32.toInt_toInt16, Int.bmod_eq_of_le (by omega) (by omega)]
theorem fb_byte_rng (x : Int32) : -128 ≤ x.toInt8.toInt32.toInt ∧ x.toInt8.toInt32.toInt < 128 := by
  rw [Int8.toInt_toInt32]
  have h1 := Int8.le_toInt x.toInt8
  have h2 := Int8.toInt_lt x.toInt8
  omega
theorem fb_short_rng (x : Int32) : -32768 ≤ x.toInt16.toInt32.toInt ∧ x.toInt16.toInt32.toInt < 32768 := by
  rw [Int16.toInt_toInt32]
  have h1 := Int16.le_toInt x.toInt16
  have h2 := Int16.toInt_lt x.toInt16
  omega
theorem fb_byte_twice (x : Int32) : x.toInt8.toInt32.toInt8.toInt32 = x.toInt8.toInt32 := fb_byte (fb_byte_rng x).1 (fb_byte_rng x).2
theorem fb_short_twice (x : Int32) : x.toInt16.toInt32.toInt16.toInt32 = x.toInt16.toInt32 := fb_short (fb_short_rng x).1 (fb_short_rng x).2
theorem fb_char {n : Nat} (h : n < 65536) : (nI n).toUInt32.toUInt16.toUInt32.toInt32 = nI n := by
  apply Int32.toBitVec_inj.1
  apply BitVec.eq_of_toNat_eq
  have e1 : (nI n).toBitVec.toNat = n := by
    show (BitVec.ofNat 32 n).toNat = n
    rw [BitVec.toNat_ofNat, Nat.mod_eq_of_lt (by omega)]
  have e2 : ((nI n).toUInt32.toUInt16.toUInt32).toNat = n := by
    rw [UInt16.toNat_toUInt32, UInt32.toNat_toUInt16]
    show (nI n).toBitVec.toNat % 2 ^ 16 = n
    rw [e1, Nat.mod_eq_of_lt (by omega)]
  rw [e1]
  exact e2
end
section
/-! ===== pure words, evaluated ===== -/
theorem q_ix {α : Type} {n N : Nat} (k : Option α) (h : n < N) (hN : N < 2147483648) : k_ix (nI n) N k = k := if_neg (vp_in_nI h (by omega))
theorem q_ck {α : Type} {c : Prop} [Decidable c] (k : Option α) (h : c) : k_ck c k = k := if_pos h
theorem q_cl {n : Nat} (h : n < 2147483648) : (nI n).toNatClampNeg = n := nI_clamp h
theorem q_ti {n : Nat} (h : n < 2147483648) : (nI n).toInt = (n : Int) := nI_toInt h
theorem q_b1 {T0 α : Type} (f : T0 → Option α) (v0 : T0) : k_b1 (some v0) f = f v0 := rfl
theorem q_b2 {T0 T1 α : Type} (f : T0 → T1 → Option α) (v0 : T0) (v1 : T1) : k_b2 (some (v0, v1)) f = f v0 v1 := rfl
theorem q_b3 {T0 T1 T2 α : Type} (f : T0 → T1 → T2 → Option α) (v0 : T0) (v1 : T1) (v2 : T2) : k_b3 (some (v0, v1, v2)) f = f v0 v1 v2 := rfl
theorem q_b4 {T0 T1 T2 T3 α : Type} (f : T0 → T1 → T2 → T3 → Option α) (v0 : T0) (v1 : T1) (v2 : T2) (v3 : T3) : k_b4 (some (v0, v1, v2, v3)) f = f v0 v1 v2 v3 := rfl
theorem q_b5 {T0 T1 T2 T3 T4 α : Type} (f : T0 → T1 → T2 → T3 → T4 → Option α) (v0 : T0) (v1 : T1) (v2 : T2) (v3 : T3) (v4 : T4) : k_b5 (some (v0, v1, v2, v3, v4)) f = f v0 v1 v2 v3 v4 := rfl
theorem q_bx0l {ρ α : Type} (g : ρ → Option α) (f : Option α) (a : ρ) : k_bx0 (some (.inl a)) g f = g a := rfl
theorem q_bx0r {ρ α : Type} (g : ρ → Option α) (f : Option α) : k_bx0 (some (.inr ())) g f = f := rfl
theorem q_bx1l {T0 ρ α : Type} (g : ρ → Option α) (f : T0 → Option α) (a : ρ) : k_bx1 (some (.inl a)) g f = g a := rfl
theorem q_bx1r {T0 ρ α : Type} (g : ρ → Option α) (f : T0 → Option α) (v0 : T0) : k_bx1 (some (.inr v0)) g f = f v0 := rfl
theorem q_lt1 {α β : Type} (e : α) (f : α → Option β) : k_lt e f = f e := rfl
theorem q_ifge {α : Type} {n i : Nat} [Decidable (nI n ≤ nI i)] (a b : α) (h : i < n) (hn : n < 2147483648) : (if nI n ≤ nI i then a else b) = b := if_neg (nI_ge h hn)
theorem q_ifle {α : Type} {n i : Nat} [Decidable (nI n ≤ nI i)] (a b : α) (h : n ≤ i) (hn : i < 2147483648) : (if nI n ≤ nI i then a else b) = a := if_pos (nI_le h hn)
theorem q_ifp {α : Type} {c : Prop} [Decidable c] (A B : α) : (if (if c then (1 : Int32) else 0) = 0 then A else B) = if c then B else A := by
  by_cases h : c <;> simp [h]
theorem q_ifn {α : Type} {c : Prop} [Decidable c] (A B : α) : (if (if c then (0 : Int32) else 1) = 0 then A else B) = if c then A else B := by
  by_cases h : c <;> simp [h]
theorem q_01p {c : Prop} [Decidable c] : ((if c then (1 : Int32) else 0) = 0 ∨ (if c then (1 : Int32) else 0) = 1) := by
  by_cases h : c <;> simp [h]
theorem q_ck01 {α : Type} {c : Prop} [Decidable c] (k : Option α) : k_ck ((if c then (1 : Int32) else 0) = 0 ∨ (if c then (1 : Int32) else 0) = 1) k = k := q_ck k q_01p
theorem q_leI {a b : Nat} (ha : a < 2147483648) (hb : b < 2147483648) : (nI a ≤ nI b) = (a ≤ b) := propext (nI_leI ha hb)
theorem q_ltI {a b : Nat} (ha : a < 2147483648) (hb : b < 2147483648) : (nI a < nI b) = (a < b) := propext (nI_ltI ha hb)
theorem q_eqI {a b : Nat} (ha : a < 2147483648) (hb : b < 2147483648) : (nI a = nI b) = (a = b) := propext (nI_eq ha hb)
theorem q_neg {n : Nat} (h : n < 2147483648) : (nI n < 0) = False := eq_false (nI_pos h)
theorem q_nlt {a b : Int32} : ¬ a < b ↔ b ≤ a := by rw [Int32.lt_iff_toInt_lt, Int32.le_iff_toInt_le]; omega
theorem q_nle {a b : Int32} : ¬ a ≤ b ↔ b < a := by rw [Int32.lt_iff_toInt_lt, Int32.le_iff_toInt_le]; omega
theorem q_le_anti {a b : Int32} (h : a ≤ b) (h2 : b ≤ a) : a = b := by rw [Int32.le_iff_toInt_le] at h h2; exact Int32.toInt_inj.mp (by omega)
theorem q_o2 (n : Nat) : (2 : Int32) + nI n = nI (2 + n) := nI_add 2 n
theorem q_o5 (n : Nat) : (5 : Int32) + nI n = nI (5 + n) := nI_add 5 n
theorem q_o13 (n : Nat) : (13 : Int32) + nI n = nI (13 + n) := nI_add 13 n
theorem q_o25 (n : Nat) : (25 : Int32) + nI n = nI (25 + n) := nI_add 25 n
theorem q_o37 (n : Nat) : (37 : Int32) + nI n = nI (37 + n) := nI_add 37 n
theorem q_o49 (n : Nat) : (49 : Int32) + nI n = nI (49 + n) := nI_add 49 n
theorem q_o55 (n : Nat) : (55 : Int32) + nI n = nI (55 + n) := nI_add 55 n
theorem q_o61 (n : Nat) : (61 : Int32) + nI n = nI (61 + n) := nI_add 61 n
theorem q_o67 (n : Nat) : (67 : Int32) + nI n = nI (67 + n) := nI_add 67 n
theorem q_o73 (n : Nat) : (73 : Int32) + nI n = nI (73 + n) := nI_add 73 n
theorem q_o85 (n : Nat) : (85 : Int32) + nI n = nI (85 + n) := nI_add 85 n
theorem q_o97 (n : Nat) : (97 : Int32) + nI n = nI (97 + n) := nI_add 97 n
theorem q_o109 (n : Nat) : (109 : Int32) + nI n = nI (109 + n) := nI_add 109 n
theorem q_o121 (n : Nat) : (121 : Int32) + nI n = nI (121 + n) := nI_add 121 n
theorem q_o133 (n : Nat) : (133 : Int32) + nI n = nI (133 + n) := nI_add 133 n
theorem q_o145 (n : Nat) : (145 : Int32) + nI n = nI (145 + n) := nI_add 145 n
theorem q_o157 (n : Nat) : (157 : Int32) + nI n = nI (157 + n) := nI_add 157 n
theorem q_l0 : (0 : Int32) = nI 0 := rfl
theorem q_l1 : (1 : Int32) = nI 1 := rfl
theorem q_l2 : (2 : Int32) = nI 2 := rfl
theorem q_l3 : (3 : Int32) = nI 3 := rfl
theorem q_l4 : (4 : Int32) = nI 4 := rfl
theorem q_l5 : (5 : Int32) = nI 5 := rfl
theorem q_l6 : (6 : Int32) = nI 6 := rfl
theorem q_l8 : (8 : Int32) = nI 8 := rfl
theorem q_l10 : (10 : Int32) = nI 10 := rfl
theorem q_l12 : (12 : Int32) = nI 12 := rfl
theorem q_l95 : (95 : Int32) = nI 95 := rfl
theorem q_l96 : (96 : Int32) = nI 96 := rfl
theorem q_l100 : (100 : Int32) = nI 100 := rfl
theorem q_l169 : (169 : Int32) = nI 169 := rfl
/-! ===== loops ===== -/
theorem q_run {σ ε : Type} {body : σ → Option (σ ⊕ ε)} (st : Nat → σ) (e : ε) (n : Nat) (hs : ∀ i, i < n → body (st i) = some (.inl (st (i + 1)))) (he : body (st n) = some (.inr e)) (hF : n < 100000) : k_lp body k_fuel (st 0) = some e := by
  have key : ∀ m i F, i + m = n → m < F → k_lp body F (st i) = some e := by
    intro m
    induction m with
    | zero =>
      intro i F h1 h2
      obtain ⟨F, rfl⟩ : ∃ f, F = f + 1 := ⟨F - 1, by omega⟩
      have : i = n := by omega
      subst this
      unfold k_lp
      rw [he]
    | succ m ih =>
      intro i F h1 h2
      obtain ⟨F, rfl⟩ : ∃ f, F = f + 1 := ⟨F - 1, by omega⟩
      unfold k_lp
      rw [hs i (by omega)]
      exact ih (i + 1) F (by omega) (by omega)
  exact key n 0 k_fuel (by omega) hF
/-- a loop by an invariant: it ends, and what it ends with is as E says -/
theorem q_lpI {σ ε : Type} {body : σ → Option (σ ⊕ ε)} (I : Nat → σ → Prop) (E : ε → Prop) (n : Nat) (hs : ∀ i s, i < n → I i s → ∃ X, body s = some X ∧ ((∃ s', X = .inl s' ∧ I (i + 1) s') ∨ (∃ e, X = .inr e ∧ E e))) (he : ∀ s, I n s → ∃ e, body s = some (.inr e) ∧ E e) (s : σ) (h0 : I 0 s) (hF : n < 100000) : ∃ e, k_lp body k_fuel s = some e ∧ E e := by
  have key : ∀ m i F s, i + m = n → m < F → I i s → ∃ e, k_lp body F s = some e ∧ E e := by
    intro m
    induction m with
    | zero =>
      intro i F s h1 h2 h3
      obtain ⟨F, rfl⟩ : ∃ f, F = f + 1 := ⟨F - 1, by omega⟩
      have : i = n := by omega
      subst this
      obtain ⟨e, g1, g2⟩ := he s h3
      exact ⟨e, by unfold k_lp; rw [g1], g2⟩
    | succ m ih =>
      intro i F s h1 h2 h3
      obtain ⟨F, rfl⟩ : ∃ f, F = f + 1 := ⟨F - 1, by omega⟩
      obtain ⟨X, g1, g2⟩ := hs i s (by omega) h3
      unfold k_lp
      rw [g1]
      rcases g2 with ⟨s', rfl, g2⟩ | ⟨e, rfl, g2⟩
      · exact ih (i + 1) F s' (by omega) (by omega) g2
      · exact ⟨e, rfl, g2⟩
  exact key n 0 k_fuel s (by omega) hF h0
def q_fold {α : Type} (f : Nat → α → α) (a : α) : Nat → α
  | 0 => a
  | n + 1 => f n (q_fold f a n)
theorem q_fold_cong {α : Type} {f g : Nat → α → α} {a : α} : ∀ {n : Nat}, (∀ i x, i < n → f i x = g i x) → q_fold f a n = q_fold g a n
  | 0, _ => rfl
  | n + 1, h => by
    show f n (q_fold f a n) = g n (q_fold g a n)
    rw [q_fold_cong (fun i x hi => h i x (by omega)), h n _ (by omega)]
theorem q_foldlp {α : Type} {body : α × Int32 → Option ((α × Int32) ⊕ α)} (f : Nat → α → α) (n : Nat) (a : α) (hs : ∀ i x, i < n → body (x, nI i) = some (.inl (f i x, nI i + 1))) (he : ∀ x, body (x, nI n) = some (.inr x)) (hn : n < 100000) : k_lp body k_fuel (a, 0) = some (q_fold f a n) :=
  q_run (fun i => (q_fold f a i, nI i)) _ n (fun i hi => by rw [hs i _ hi, ← nI_succ]; rfl) (he _) hn
def q_sum (f : Nat → Int32) : Nat → Int32
  | 0 => 0
  | n + 1 => q_sum f n + f n
theorem q_sum_cong {f g : Nat → Int32} : ∀ {n : Nat}, (∀ i, i < n → f i = g i) → q_sum f n = q_sum g n
  | 0, _ => rfl
  | n + 1, h => by
    show q_sum f n + f n = q_sum g n + g n
    rw [q_sum_cong (fun i hi => h i (by omega)), h n (by omega)]
theorem q_sumlp {body : Int32 × Int32 → Option ((Int32 × Int32) ⊕ Int32)} (f : Nat → Int32) (n : Nat) (a : Int32) (hs : ∀ i x, i < n → body (x, nI i) = some (.inl (x + f i, nI i + 1))) (he : ∀ x, body (x, nI n) = some (.inr x)) (hn : n < 100000) : k_lp body k_fuel (a, 0) = some (a + q_sum f n) := by
  have h0 : a = a + q_sum f 0 := by show a = a + 0; simp
  have := q_run (body := body) (fun i => (a + q_sum f i, nI i)) (a + q_sum f n) n (fun i hi => by
    rw [hs i _ hi, ← nI_succ, Int32.add_assoc]; rfl) (he _) hn
  rw [← h0] at this
  exact this
theorem q_sum_nat {f : Nat → Int32} {g : Nat → Nat} : ∀ {n : Nat}, (∀ i, i < n → f i = nI (g i)) → q_sum f n = nI (fb_sm g n)
  | 0, _ => rfl
  | n + 1, h => by
    show q_sum f n + f n = nI (fb_sm g n + g n)
    rw [q_sum_nat (fun i hi => h i (by omega)), h n (by omega), nI_add]
theorem q_sum_cnt {f : Nat → Int32} {p : Nat → Bool} : ∀ {n : Nat}, (∀ i, i < n → f i = if p i then 1 else 0) → q_sum f n = nI (fb_ct p n)
  | 0, _ => rfl
  | n + 1, h => by
    show q_sum f n + f n = nI (fb_ct p n + (if p n then 1 else 0))
    rw [q_sum_cnt (fun i hi => h i (by omega)), h n (by omega)]
    cases p n
    · show nI _ + nI 0 = _; rw [nI_add]; rfl
    · show nI _ + nI 1 = _; rw [nI_add]; rfl
/-- the first i < n with c i -/
def q_find {ρ : Type} (c : Nat → Option ρ) : Nat → Option ρ
  | 0 => none
  | n + 1 => match q_find c n with
    | some v => some v
    | none => c n
theorem q_find_none {ρ : Type} {c : Nat → Option ρ} : ∀ {n : Nat}, q_find c n = none ↔ ∀ i, i < n → c i = none
  | 0 => ⟨fun _ i hi => absurd hi (by omega), fun _ => rfl⟩
  | n + 1 => by
    have ih := q_find_none (c := c) (n := n)
    unfold q_find
    cases h : q_find c n with
    | some v =>
      refine ⟨fun h2 => (by cases h2), fun h2 => ?_⟩
      have := ih.mpr (fun i hi => h2 i (by omega))
      rw [h] at this; cases this
    | none =>
      refine ⟨fun h2 i hi => ?_, fun h2 => h2 n (by omega)⟩
      by_cases e : i = n
      · subst e; exact h2
      · exact ih.mp h i (by omega)
theorem q_find_some {ρ : Type} {c : Nat → Option ρ} {v : ρ} : ∀ {n : Nat}, q_find c n = some v ↔ ∃ i, i < n ∧ c i = some v ∧ ∀ j, j < i → c j = none
  | 0 => ⟨fun h => (by cases h), fun ⟨i, hi, _⟩ => absurd hi (by omega)⟩
  | n + 1 => by
    have ih := q_find_some (c := c) (v := v) (n := n)
    have ihn := q_find_none (c := c) (n := n)
    unfold q_find
    cases h : q_find c n with
    | some w =>
      constructor
      · intro h2
        obtain ⟨i, hi, h3⟩ := ih.mp (h.trans h2)
        exact ⟨i, by omega, h3⟩
      · rintro ⟨i, hi, h3, h4⟩
        by_cases e : i = n
        · subst e
          have := ihn.mpr h4
          rw [h] at this; cases this
        · have := ih.mpr ⟨i, by omega, h3, h4⟩
          rw [h] at this; exact this
    | none =>
      constructor
      · intro h2
        exact ⟨n, by omega, h2, ihn.mp h⟩
      · rintro ⟨i, hi, h3, h4⟩
        by_cases e : i = n
        · subst e; exact h3
        · have := ihn.mp h i (by omega)
          rw [h3] at this; cases this
theorem q_find_cong {ρ : Type} {c d : Nat → Option ρ} : ∀ {n : Nat}, (∀ i, i < n → c i = d i) → q_find c n = q_find d n
  | 0, _ => rfl
  | n + 1, h => by unfold q_find; rw [q_find_cong (fun i hi => h i (by omega)), h n (by omega)]
theorem q_find_sn {ρ : Type} {c : Nat → Option ρ} {n : Nat} (h : q_find c n = none) : q_find c (n + 1) = c n := by
  rw [q_find, h]
theorem q_find_ss {ρ : Type} {c : Nat → Option ρ} {n : Nat} {v : ρ} (h : q_find c n = some v) : q_find c (n + 1) = some v := by
  rw [q_find, h]
def q_ans {ρ : Type} : Option ρ → ρ ⊕ Unit
  | some v => .inl v
  | none => .inr ()
theorem q_findlp {ρ : Type} {body : Int32 → Option (Int32 ⊕ (ρ ⊕ Unit))} (c : Nat → Option ρ) (n : Nat) (hs : ∀ i, i < n → body (nI i) = match c i with | none => some (.inl (nI i + 1)) | some v => some (.inr (.inl v))) (he : body (nI n) = some (.inr (.inr ()))) (hn : n < 100000) : k_lp body k_fuel 0 = some (q_ans (q_find c n)) := by
  have key : ∀ m i F, i + m = n → m < F → q_find c i = none → k_lp body F (nI i) = some (q_ans (q_find c n)) := by
    intro m
    induction m with
    | zero =>
      intro i F h1 h2 h3
      obtain ⟨F, rfl⟩ : ∃ f, F = f + 1 := ⟨F - 1, by omega⟩
      have : i = n := by omega
      subst this
      unfold k_lp
      rw [he, h3]; rfl
    | succ m ih =>
      intro i F h1 h2 h3
      obtain ⟨F, rfl⟩ : ∃ f, F = f + 1 := ⟨F - 1, by omega⟩
      unfold k_lp
      rw [hs i (by omega)]
      cases hc : c i with
      | none =>
        show k_lp body F (nI i + 1) = _
        rw [← nI_succ]
        refine ih (i + 1) F (by omega) (by omega) ?_
        unfold q_find; rw [h3]; exact hc
      | some v =>
        show some (Sum.inl v) = _
        have : q_find c n = some v := q_find_some.mpr ⟨i, by omega, hc, q_find_none.mp h3⟩
        rw [this]; rfl
  exact key n 0 k_fuel (by omega) hn rfl
/-- a marker instead of none -/
def q_enc (d : Int32) : Option Nat → Int32
  | none => d
  | some i => nI i
/-! ===== bits ===== -/
theorem bt_1 (i : Nat) : bt 1 i = decide (i = 0) := by
  rcases Nat.lt_or_ge i 32 with h | h
  · exact (by decide +kernel : ∀ i, i < 32 → bt 1 i = decide (i = 0)) i h
  · rw [b_big h, decide_eq_false (by omega)]
theorem q_and1 (y : Int32) : ((y &&& 1) = 0) ↔ bt y 0 = false := by
  constructor
  · intro h
    have h2 : bt (y &&& 1) 0 = bt 0 0 := by rw [h]
    rw [b_and, b_0, bt_1] at h2
    simpa using h2
  · intro h
    apply b_ext
    intro i hi
    rw [b_and, b_0, bt_1]
    rcases Nat.eq_zero_or_pos i with h0 | h0
    · rw [h0, h]; rfl
    · rw [decide_eq_false (by omega), Bool.and_false]
theorem q_and1' (y : Int32) : ((y &&& 1) = 1) ↔ bt y 0 = true := by
  constructor
  · intro h
    have h2 : bt (y &&& 1) 0 = bt 1 0 := by rw [h]
    rw [b_and, bt_1] at h2
    simpa using h2
  · intro h
    apply b_ext
    intro i hi
    rw [b_and, bt_1]
    rcases Nat.eq_zero_or_pos i with h0 | h0
    · rw [h0, h]; rfl
    · rw [decide_eq_false (by omega), Bool.and_false]
theorem q_shr0 (x : Int32) {i : Nat} (hi : i < 32) : bt (x >>> (nI i &&& 31)) 0 = bt x i := by
  rw [b_sshr i hi x (by decide)]; simp [hi]
theorem q_hasBit (x : Int32) {i : Nat} (hi : i < 32) : p_X8_hasBit x (nI i) = some (if bt x i = true then 1 else 0) := by
  unfold p_X8_hasBit
  by_cases h : bt x i = true
  · rw [if_neg (by rw [q_and1, q_shr0 x hi]; simp [h]), if_pos h]
  · rw [if_pos (by rw [q_and1, q_shr0 x hi]; simpa using h), if_neg h]
theorem q_bit1 (x : Int32) {i : Nat} (hi : i < 32) : (((x >>> (nI i &&& 31)) &&& 1) = 1) = (bt x i = true) := propext (by rw [q_and1', q_shr0 x hi])
theorem bt_one (n : Nat) (hn : n < 32) {i : Nat} (hi : i < 32) : bt ((1 : Int32) <<< (nI n &&& 31)) i = decide (i = n) := by
  rw [b_shl n hn 1 hi, bt_1]
  by_cases h : i = n
  · subst h; simp
  · rw [decide_eq_false h]
    by_cases h2 : n ≤ i
    · rw [decide_eq_false (show ¬ i - n = 0 from by omega), Bool.and_false]
    · rw [decide_eq_false h2, Bool.false_and]
theorem bt_not (x : Int32) {i : Nat} (hi : i < 32) : bt (x ^^^ (-1)) i = !bt x i := by
  rw [b_xor, b_m1 i hi]; simp
theorem bt_nI (k : Nat) {i : Nat} (hi : i < 32) : bt (nI k) i = k.testBit i := by
  show (BitVec.ofNat 32 k).getLsbD i = _
  rw [BitVec.getLsbD_ofNat]; simp [hi]
theorem q_ofbits {x : Int32} {n : Nat} (hn : n ≤ 31) (h : ∀ i, i < 32 → n ≤ i → bt x i = false) : ∃ k, k < 2 ^ n ∧ x = nI k ∧ ∀ i, bt x i = k.testBit i := by
  refine ⟨x.toBitVec.toNat, ?_, ?_, fun i => rfl⟩
  · apply Nat.lt_pow_two_of_testBit
    intro i hi
    show bt x i = false
    rcases Nat.lt_or_ge i 32 with h2 | h2
    · exact h i h2 hi
    · exact b_big h2
  · apply Int32.toBitVec_inj.mp
    show x.toBitVec = BitVec.ofNat 32 x.toBitVec.toNat
    simp
set_option maxRecDepth 100000 in
theorem q_bc : ∀ a, a < 64 → ∀ b, b < 64 → p_J6_bitCount_0f7a4 (nI (64 * a + b)) = some (nI (fb_ct (fun i => (64 * a + b).testBit i) 12)) := by decide +kernel
theorem q_bc2 {k : Nat} (h : k < 4096) : p_J6_bitCount_0f7a4 (nI k) = some (nI (fb_ct (fun i => k.testBit i) 12)) := by
  have := q_bc (k / 64) (by omega) (k % 64) (by omega)
  rw [show 64 * (k / 64) + k % 64 = k from by omega] at this
  exact this
theorem fb_ct_cut {p : Nat → Bool} {n N : Nat} (h : n ≤ N) : fb_ct (fun i => decide (i < n) && p i) N = fb_ct p n := by
  obtain ⟨d, rfl⟩ : ∃ d, N = n + d := ⟨N - n, by omega⟩
  rw [fb_ct_split]
  have e1 : fb_ct (fun i => decide (i < n) && p i) n = fb_ct p n := fb_ct_cong (fun k hk => by simp [hk])
  have e2 : fb_ct (fun k => decide (n + k < n) && p (n + k)) d = 0 := fb_ct_zero.mpr (fun k hk => by rw [decide_eq_false (by omega), Bool.false_and])
  rw [e1, e2]; rfl
theorem q_bitCount {x : Int32} {n : Nat} {p : Nat → Bool} (hn : n ≤ 12) (h : ∀ i, i < 32 → bt x i = (decide (i < n) && p i)) : p_J6_bitCount_0f7a4 x = some (nI (fb_ct p n)) := by
  obtain ⟨k, hk, e, hb⟩ := q_ofbits (x := x) (n := 12) (by decide) (fun i hi h2 => by rw [h i hi, decide_eq_false (by omega), Bool.false_and])
  rw [e, q_bc2 hk, ← fb_ct_cut (p := p) hn]
  rw [fb_ct_cong (q := fun i => decide (i < n) && p i) (fun i hi => by rw [← hb i, h i (by omega)])]
/-! ===== within, in ===== -/
theorem q_within (a b c : Int32) : p_X8_within a b c = some (if b ≤ a ∧ a ≤ c then 1 else 0) := by
  unfold p_X8_within
  by_cases h1 : a < b
  · rw [if_pos h1, if_neg (fun h => absurd h1 (q_nlt.mpr h.1))]
  · rw [if_neg h1]
    by_cases h2 : c < a
    · rw [if_pos h2, if_neg (fun h => absurd h2 (q_nlt.mpr h.2))]
    · rw [if_neg h2, if_pos ⟨q_nlt.mp h1, q_nlt.mp h2⟩]
theorem q_in64 (a b c : Int64) : p_X9_in a b c = some (if b ≤ a ∧ a ≤ c then 1 else 0) := by
  unfold p_X9_in
  simp only [lg_cmp_lt, lg_cmp_gt]
  have e1 : ∀ x y : Int64, (¬ x < y) ↔ y ≤ x := fun x y => by rw [Int64.lt_iff_toInt_lt, Int64.le_iff_toInt_le]; omega
  by_cases h1 : a < b
  · rw [if_pos h1, if_neg (fun h => absurd h1 ((e1 a b).mpr h.1))]
  · rw [if_neg h1]
    by_cases h2 : c < a
    · rw [if_pos h2, if_neg (fun h => absurd h2 ((e1 c a).mpr h.2))]
    · rw [if_neg h2, if_pos ⟨(e1 a b).mp h1, (e1 c a).mp h2⟩]
theorem q_in (a b c : Int32) : p_X9_in a.toInt64 b.toInt64 c.toInt64 = some (if b ≤ a ∧ a ≤ c then 1 else 0) := by
  rw [q_in64]; simp only [fa_wide_le]
theorem q_in_0_95 (a : Int32) : p_X9_in a.toInt64 (0) 95 = some (if 0 ≤ a ∧ a ≤ 95 then 1 else 0) := q_in a (0) 95
theorem q_in_0_60 (a : Int32) : p_X9_in a.toInt64 (0) 60 = some (if 0 ≤ a ∧ a ≤ 60 then 1 else 0) := q_in a (0) 60
theorem q_in_1_8 (a : Int32) : p_X9_in a.toInt64 (1) 8 = some (if 1 ≤ a ∧ a ≤ 8 then 1 else 0) := q_in a (1) 8
theorem q_in_0_7 (a : Int32) : p_X9_in a.toInt64 (0) 7 = some (if 0 ≤ a ∧ a ≤ 7 then 1 else 0) := q_in a (0) 7
theorem q_in_1_100 (a : Int32) : p_X9_in a.toInt64 (1) 100 = some (if 1 ≤ a ∧ a ≤ 100 then 1 else 0) := q_in a (1) 100
theorem q_in_0_2 (a : Int32) : p_X9_in a.toInt64 (0) 2 = some (if 0 ≤ a ∧ a ≤ 2 then 1 else 0) := q_in a (0) 2
theorem q_in_1_6 (a : Int32) : p_X9_in a.toInt64 (1) 6 = some (if 1 ≤ a ∧ a ≤ 6 then 1 else 0) := q_in a (1) 6
theorem q_in_1_400 (a : Int32) : p_X9_in a.toInt64 (1) 400 = some (if 1 ≤ a ∧ a ≤ 400 then 1 else 0) := q_in a (1) 400
theorem q_in_1_10 (a : Int32) : p_X9_in a.toInt64 (1) 10 = some (if 1 ≤ a ∧ a ≤ 10 then 1 else 0) := q_in a (1) 10
theorem q_in_0_1 (a : Int32) : p_X9_in a.toInt64 (0) 1 = some (if 0 ≤ a ∧ a ≤ 1 then 1 else 0) := q_in a (0) 1
theorem q_in_1_4 (a : Int32) : p_X9_in a.toInt64 (1) 4 = some (if 1 ≤ a ∧ a ≤ 4 then 1 else 0) := q_in a (1) 4
theorem q_in_0_50 (a : Int32) : p_X9_in a.toInt64 (0) 50 = some (if 0 ≤ a ∧ a ≤ 50 then 1 else 0) := q_in a (0) 50
theorem q_in_0_3 (a : Int32) : p_X9_in a.toInt64 (0) 3 = some (if 0 ≤ a ∧ a ≤ 3 then 1 else 0) := q_in a (0) 3
theorem q_in_m9_9 (a : Int32) : p_X9_in a.toInt64 (-9) 9 = some (if -9 ≤ a ∧ a ≤ 9 then 1 else 0) := q_in a (-9) 9
theorem q_in_0_29 (a : Int32) : p_X9_in a.toInt64 (0) 29 = some (if 0 ≤ a ∧ a ≤ 29 then 1 else 0) := q_in a (0) 29
theorem q_in_m1_1 (a : Int32) : p_X9_in a.toInt64 (-1) 1 = some (if -1 ≤ a ∧ a ≤ 1 then 1 else 0) := q_in a (-1) 1
theorem q_in_1_30 (a : Int32) : p_X9_in a.toInt64 (1) 30 = some (if 1 ≤ a ∧ a ≤ 30 then 1 else 0) := q_in a (1) 30
theorem q_in_0_c (a c : Int32) : p_X9_in a.toInt64 0 c.toInt64 = some (if 0 ≤ a ∧ a ≤ c then 1 else 0) := q_in a 0 c
theorem q_in_m1_c (a c : Int32) : p_X9_in a.toInt64 (-1) c.toInt64 = some (if -1 ≤ a ∧ a ≤ c then 1 else 0) := q_in a (-1) c
theorem q_asNumber (a : Int32) : p_X8_asNumber a = some (if a = 0 then 0 else 1) := by
  unfold p_X8_asNumber
  by_cases h : a = 0 <;> simp [h]
theorem q_isHour (a : Int32) : p_X9_isHour a = some (if 0 ≤ a ∧ a ≤ 95 then 1 else 0) := by
  unfold p_X9_isHour
  rw [show (0 : Int64) = (0 : Int32).toInt64 from by decide, show (95 : Int64) = (95 : Int32).toInt64 from by decide, q_in, q_b1, q_ck01]
theorem q_rng {x : Int32} {a b : Nat} (ha : a < 2147483648) (hb : b < 2147483648) (h : nI a ≤ x ∧ x ≤ nI b) : ∃ j, a ≤ j ∧ j ≤ b ∧ x = nI j := by
  obtain ⟨h1, h2⟩ := h
  rw [Int32.le_iff_toInt_le] at h1 h2
  rw [q_ti ha] at h1
  rw [q_ti hb] at h2
  refine ⟨x.toInt.toNat, by omega, by omega, Int32.toInt_inj.mp ?_⟩
  rw [q_ti (by omega)]; omega
end
section
def kr (x : Int32) (a b : Int) : Prop := a ≤ x.toInt ∧ x.toInt ≤ b
def k_bits (p : Nat → Bool) : Nat → Nat
  | 0 => 0
  | n + 1 => k_bits p n + (if p n then 2 ^ n else 0)
def k_out (m : Nat → Int32) : Nat := k_bits (fun i => decide ((i : Int) < (m 10).toInt) && decide (m (37 + i) = 0)) 12
def k_wh (m : Nat → Int32) : Nat := k_bits (fun i => decide ((i : Int) < (m 11).toInt) && decide (m (67 + i) = 1)) 6
def k_lo (k : Nat) : Int := if k < 6 then (if k = 1 then -9 else 0) else if k < 10 then -2147483648 else if 25 ≤ k ∧ k < 37 then -1 else 0
def k_hi (k : Nat) : Int := if k < 6 then (if k = 0 then 96 else if k = 1 then 9 else if k = 2 then 220 else if k = 5 then 1000 else 1) else if k < 10 then 2147483647 else if k < 13 then (if k = 11 then 6 else 12) else if k < 25 then 100 else if k < 37 then 11 else if k < 49 then 1 else if k < 55 then 2 else if k < 61 then 6 else if k < 67 then 400 else if k < 73 then 1 else if k < 85 then 10 else if k < 97 then 1 else if k < 109 then 6 else if k < 121 then 4 else if k < 133 then 50 else if k < 145 then 100 else if k < 157 then 2 else 4
/-- what holds of the reference's row of numbers -/
def k_Rng (m : Nat → Int32) : Prop := ∀ k, k < 169 → kr (m k) (k_lo k) (k_hi k)
def k_Und (m : Nat → Int32) : Prop := ∀ i : Nat, (i : Int) < (m 10).toInt → (m (25 + i)).toInt < (i : Int)
def k_Par (m : Nat → Int32) : Prop := ∀ i : Nat, (i : Int) < (m 11).toInt → 1 ≤ (m (55 + i)).toInt
def k_Sea (m : Nat → Int32) : Prop := ∀ i : Nat, (i : Int) < (m 12).toInt → ((m (145 + i)).toInt = 0 → (m (157 + i)).toInt = 0) ∧ ((m (145 + i)).toInt = 1 → (m (157 + i)).toInt < (m (109 + i)).toInt) ∧ 1 ≤ (m (109 + i)).toInt
def k_Inv (m : Nat → Int32) : Prop := k_Rng m ∧ k_Und m ∧ k_Par m ∧ k_Sea m
/-- the class's ship is the reference's row of numbers -/
def R_ship (ho : Int32) (he : Int32) (wa : Int32) (pi : Int32) (bo : Int32) (we : Int32) (tk : Int32) (mn : Int32) (pa : Int32) (mv : Int32) (ot : Int32) (ts : Int32) (wt : Nat → Int32) (un : Nat → Int32) (wh : Int32) (tas : Int32) (ma : Nat → Int32) (pr : Nat → Int32) (sg : Nat → Int32) (ss : Int32) (sk : Nat → Int32) (sd : Nat → Int32) (hd : Nat → Int32) (lg : Nat → Int32) (tr : Nat → Int32) (wo : Nat → Int32) (sta : Nat → Int32) (dn : Nat → Int32) (m : Nat → Int32) : Prop := (ho = m 0 ∧ he = m 1 ∧ wa = m 2 ∧ pi = m 5 ∧ bo = m 3 ∧ we = m 4 ∧ tk = m 6 ∧ mn = m 7 ∧ pa = m 8 ∧ mv = m 9 ∧ ot = nI (k_out m) ∧ ts = m 10 ∧ wh = nI (k_wh m) ∧ tas = m 11 ∧ ss = m 12) ∧ (∀ i, i < 12 → wt i = m (13 + i) ∧ un i = m (25 + i)) ∧ (∀ i, i < 6 → ma i = m (49 + i) ∧ pr i = m (55 + i) ∧ sg i = m (61 + i)) ∧ (∀ i, i < 12 → sk i = m (73 + i) ∧ sd i = m (85 + i) ∧ hd i = m (97 + i) ∧ lg i = m (109 + i) ∧ tr i = m (121 + i) ∧ wo i = m (133 + i) ∧ sta i = m (145 + i) ∧ dn i = m (157 + i)) ∧ k_Inv m
def R_cnt (a b : Int32) : Prop := a = b ∧ kr b 0 3
def R_tide (f g : Nat → Int32) : Prop := f = g
def R_rain (f g : Nat → Int32) : Prop := f = g ∧ ∀ h, h < 96 → kr (g h) 0 1
def R_rule (f g : Nat → Int32) : Prop := (f 0 = g 0 ∧ f 1 = g 1 ∧ f 2 = g 2 ∧ f 3 = g 3 ∧ f 5 = g 5 ∧ f 6 = g 6 ∧ f 7 = g 7) ∧ kr (g 0) 0 40 ∧ kr (g 1) 100 1000 ∧ kr (g 2) 0 2000 ∧ kr (g 3) 1 20 ∧ kr (g 5) 0 1000 ∧ kr (g 6) 0 1000 ∧ kr (g 7) 0 1000
def R_planks (f g : Nat → Int32) : Prop := f = g ∧ ∀ p, p < 30 → kr (g p) (-1) 1
def R_all (S : Nat → Nat → Int32) (_ : Nat → Nat → Int64) (M : Nat → Nat → Int32) : Prop := R_cnt (S 0 0) (M 1 0) ∧ R_tide (S 1) (M 12) ∧ R_rain (S 2) (M 13) ∧ R_rule (S 3) (M 14) ∧ R_ship (S 4 0) (S 5 0) (S 6 0) (S 7 0) (S 8 0) (S 9 0) (S 10 0) (S 11 0) (S 12 0) (S 13 0) (S 14 0) (S 15 0) (S 16) (S 17) (S 18 0) (S 19 0) (S 20) (S 21) (S 22) (S 23 0) (S 24) (S 25) (S 26) (S 27) (S 28) (S 29) (S 30) (S 31) (M 9) ∧ (0 < (M 1 0).toInt → R_ship (S 32 0) (S 33 0) (S 34 0) (S 35 0) (S 36 0) (S 37 0) (S 38 0) (S 39 0) (S 40 0) (S 41 0) (S 42 0) (S 43 0) (S 44) (S 45) (S 46 0) (S 47 0) (S 48) (S 49) (S 50) (S 51 0) (S 52) (S 53) (S 54) (S 55) (S 56) (S 57) (S 58) (S 59) (fun i => M 11 i)) ∧ (1 < (M 1 0).toInt → R_ship (S 60 0) (S 61 0) (S 62 0) (S 63 0) (S 64 0) (S 65 0) (S 66 0) (S 67 0) (S 68 0) (S 69 0) (S 70 0) (S 71 0) (S 72) (S 73) (S 74 0) (S 75 0) (S 76) (S 77) (S 78) (S 79 0) (S 80) (S 81) (S 82) (S 83) (S 84) (S 85) (S 86) (S 87) (fun i => M 11 (169 + i))) ∧ (2 < (M 1 0).toInt → R_ship (S 88 0) (S 89 0) (S 90 0) (S 91 0) (S 92 0) (S 93 0) (S 94 0) (S 95 0) (S 96 0) (S 97 0) (S 98 0) (S 99 0) (S 100) (S 101) (S 102 0) (S 103 0) (S 104) (S 105) (S 106) (S 107 0) (S 108) (S 109) (S 110) (S 111) (S 112) (S 113) (S 114) (S 115) (fun i => M 11 (338 + i))) ∧ R_planks (S 156) (M 18)
/-! ===== small facts ===== -/
theorem kr_nI {x : Int32} {a b : Int} (h : kr x a b) (ha : 0 ≤ a) (hb : b < 2147483648) : ∃ n : Nat, x = nI n ∧ (n : Int) = x.toInt ∧ (n : Int) ≤ b ∧ a ≤ n := by
  obtain ⟨h1, h2⟩ := h
  refine ⟨x.toInt.toNat, Int32.toInt_inj.mp ?_, ?_, ?_, ?_⟩
  · rw [nI_toInt (by omega)]; omega
  · omega
  · omega
  · omega
theorem q_addc (k n : Nat) : nI k + nI n = nI (k + n) := nI_add k n
theorem upd_s {f : Nat → Int32} {k : Nat} {x : Int32} : upd f k x k = x := if_pos rfl
theorem upd_n {f : Nat → Int32} {k j : Nat} {x : Int32} (h : j ≠ k) : upd f k x j = f j := if_neg h
theorem k_Rng_upd {m : Nat → Int32} (h : k_Rng m) {k : Nat} {x : Int32} (hx : kr x (k_lo k) (k_hi k)) : k_Rng (upd m k x) := by
  intro j hj
  by_cases e : j = k
  · subst e; rw [upd_s]; exact hx
  · rw [upd_n e]; exact h j hj
theorem k_bits_lt (p : Nat → Bool) : ∀ n, k_bits p n < 2 ^ n
  | 0 => by simp [k_bits]
  | n + 1 => by
    have ih := k_bits_lt p n
    have : 2 ^ (n + 1) = 2 ^ n + 2 ^ n := by rw [Nat.pow_succ]; omega
    unfold k_bits
    split <;> omega
theorem k_bits_cong {p q : Nat → Bool} : ∀ {n : Nat}, (∀ i, i < n → p i = q i) → k_bits p n = k_bits q n
  | 0, _ => rfl
  | n + 1, h => by
    unfold k_bits
    rw [k_bits_cong (fun i hi => h i (by omega)), h n (by omega)]
theorem k_bits_tb (p : Nat → Bool) : ∀ (n i : Nat), (k_bits p n).testBit i = (decide (i < n) && p i)
  | 0, i => by simp [k_bits]
  | n + 1, i => by
    have ih := k_bits_tb p n
    have hlt := k_bits_lt p n
    unfold k_bits
    by_cases hp : p n = true
    · rw [if_pos hp]
      have e : k_bits p n + 2 ^ n = 2 ^ n + k_bits p n := Nat.add_comm _ _
      rw [e]
      rcases Nat.lt_trichotomy i n with h | h | h
      · rw [Nat.testBit_two_pow_add_gt h, ih i]
        simp [h, show i < n + 1 from by omega]
      · subst h
        rw [Nat.testBit_two_pow_add_eq, ih i]
        simp [hp]
      · have : 2 ^ n + k_bits p n < 2 ^ i := by
          have : 2 ^ (n + 1) ≤ 2 ^ i := Nat.pow_le_pow_right (by omega) (by omega)
          have : 2 ^ (n + 1) = 2 ^ n + 2 ^ n := by rw [Nat.pow_succ]; omega
          omega
        rw [Nat.testBit_lt_two_pow this]
        simp [show ¬ i < n + 1 from by omega]
    · rw [if_neg hp, Nat.add_zero, ih i]
      by_cases h : i < n
      · simp [h, show i < n + 1 from by omega]
      · by_cases h2 : i = n
        · subst h2; simp [hp]
        · simp [h, show ¬ i < n + 1 from by omega]
/-! ===== ranges, block by block ===== -/
theorem rg_wt {m : Nat → Int32} (h : k_Rng m) {i : Nat} (hi : i < 12) : kr (m (13 + i)) 0 100 := by
  have e : ∀ i, i < 12 → k_lo (13 + i) = 0 ∧ k_hi (13 + i) = 100 := by decide
  have g := h (13 + i) (by omega)
  rw [(e i hi).1, (e i hi).2] at g
  exact g
theorem rg_un {m : Nat → Int32} (h : k_Rng m) {i : Nat} (hi : i < 12) : kr (m (25 + i)) (-1) 11 := by
  have e : ∀ i, i < 12 → k_lo (25 + i) = -1 ∧ k_hi (25 + i) = 11 := by decide
  have g := h (25 + i) (by omega)
  rw [(e i hi).1, (e i hi).2] at g
  exact g
theorem rg_in {m : Nat → Int32} (h : k_Rng m) {i : Nat} (hi : i < 12) : kr (m (37 + i)) 0 1 := by
  have e : ∀ i, i < 12 → k_lo (37 + i) = 0 ∧ k_hi (37 + i) = 1 := by decide
  have g := h (37 + i) (by omega)
  rw [(e i hi).1, (e i hi).2] at g
  exact g
theorem rg_ma {m : Nat → Int32} (h : k_Rng m) {i : Nat} (hi : i < 6) : kr (m (49 + i)) 0 2 := by
  have e : ∀ i, i < 6 → k_lo (49 + i) = 0 ∧ k_hi (49 + i) = 2 := by decide
  have g := h (49 + i) (by omega)
  rw [(e i hi).1, (e i hi).2] at g
  exact g
theorem rg_pr {m : Nat → Int32} (h : k_Rng m) {i : Nat} (hi : i < 6) : kr (m (55 + i)) 0 6 := by
  have e : ∀ i, i < 6 → k_lo (55 + i) = 0 ∧ k_hi (55 + i) = 6 := by decide
  have g := h (55 + i) (by omega)
  rw [(e i hi).1, (e i hi).2] at g
  exact g
theorem rg_sg {m : Nat → Int32} (h : k_Rng m) {i : Nat} (hi : i < 6) : kr (m (61 + i)) 0 400 := by
  have e : ∀ i, i < 6 → k_lo (61 + i) = 0 ∧ k_hi (61 + i) = 400 := by decide
  have g := h (61 + i) (by omega)
  rw [(e i hi).1, (e i hi).2] at g
  exact g
theorem rg_wh {m : Nat → Int32} (h : k_Rng m) {i : Nat} (hi : i < 6) : kr (m (67 + i)) 0 1 := by
  have e : ∀ i, i < 6 → k_lo (67 + i) = 0 ∧ k_hi (67 + i) = 1 := by decide
  have g := h (67 + i) (by omega)
  rw [(e i hi).1, (e i hi).2] at g
  exact g
theorem rg_sk {m : Nat → Int32} (h : k_Rng m) {i : Nat} (hi : i < 12) : kr (m (73 + i)) 0 10 := by
  have e : ∀ i, i < 12 → k_lo (73 + i) = 0 ∧ k_hi (73 + i) = 10 := by decide
  have g := h (73 + i) (by omega)
  rw [(e i hi).1, (e i hi).2] at g
  exact g
theorem rg_sd {m : Nat → Int32} (h : k_Rng m) {i : Nat} (hi : i < 12) : kr (m (85 + i)) 0 1 := by
  have e : ∀ i, i < 12 → k_lo (85 + i) = 0 ∧ k_hi (85 + i) = 1 := by decide
  have g := h (85 + i) (by omega)
  rw [(e i hi).1, (e i hi).2] at g
  exact g
theorem rg_hd {m : Nat → Int32} (h : k_Rng m) {i : Nat} (hi : i < 12) : kr (m (97 + i)) 0 6 := by
  have e : ∀ i, i < 12 → k_lo (97 + i) = 0 ∧ k_hi (97 + i) = 6 := by decide
  have g := h (97 + i) (by omega)
  rw [(e i hi).1, (e i hi).2] at g
  exact g
theorem rg_lg {m : Nat → Int32} (h : k_Rng m) {i : Nat} (hi : i < 12) : kr (m (109 + i)) 0 4 := by
  have e : ∀ i, i < 12 → k_lo (109 + i) = 0 ∧ k_hi (109 + i) = 4 := by decide
  have g := h (109 + i) (by omega)
  rw [(e i hi).1, (e i hi).2] at g
  exact g
theorem rg_tr {m : Nat → Int32} (h : k_Rng m) {i : Nat} (hi : i < 12) : kr (m (121 + i)) 0 50 := by
  have e : ∀ i, i < 12 → k_lo (121 + i) = 0 ∧ k_hi (121 + i) = 50 := by decide
  have g := h (121 + i) (by omega)
  rw [(e i hi).1, (e i hi).2] at g
  exact g
theorem rg_wo {m : Nat → Int32} (h : k_Rng m) {i : Nat} (hi : i < 12) : kr (m (133 + i)) 0 100 := by
  have e : ∀ i, i < 12 → k_lo (133 + i) = 0 ∧ k_hi (133 + i) = 100 := by decide
  have g := h (133 + i) (by omega)
  rw [(e i hi).1, (e i hi).2] at g
  exact g
theorem rg_st {m : Nat → Int32} (h : k_Rng m) {i : Nat} (hi : i < 12) : kr (m (145 + i)) 0 2 := by
  have e : ∀ i, i < 12 → k_lo (145 + i) = 0 ∧ k_hi (145 + i) = 2 := by decide
  have g := h (145 + i) (by omega)
  rw [(e i hi).1, (e i hi).2] at g
  exact g
theorem rg_dn {m : Nat → Int32} (h : k_Rng m) {i : Nat} (hi : i < 12) : kr (m (157 + i)) 0 4 := by
  have e : ∀ i, i < 12 → k_lo (157 + i) = 0 ∧ k_hi (157 + i) = 4 := by decide
  have g := h (157 + i) (by omega)
  rw [(e i hi).1, (e i hi).2] at g
  exact g
theorem rg_ho {m : Nat → Int32} (h : k_Rng m) : kr (m 0) 0 96 := by
  have g := h 0 (by omega)
  rw [show k_lo 0 = 0 from by decide, show k_hi 0 = 96 from by decide] at g
  exact g
theorem rg_he {m : Nat → Int32} (h : k_Rng m) : kr (m 1) (-9) 9 := by
  have g := h 1 (by omega)
  rw [show k_lo 1 = -9 from by decide, show k_hi 1 = 9 from by decide] at g
  exact g
theorem rg_wa {m : Nat → Int32} (h : k_Rng m) : kr (m 2) 0 220 := by
  have g := h 2 (by omega)
  rw [show k_lo 2 = 0 from by decide, show k_hi 2 = 220 from by decide] at g
  exact g
theorem rg_bo {m : Nat → Int32} (h : k_Rng m) : kr (m 3) 0 1 := by
  have g := h 3 (by omega)
  rw [show k_lo 3 = 0 from by decide, show k_hi 3 = 1 from by decide] at g
  exact g
theorem rg_we {m : Nat → Int32} (h : k_Rng m) : kr (m 4) 0 1 := by
  have g := h 4 (by omega)
  rw [show k_lo 4 = 0 from by decide, show k_hi 4 = 1 from by decide] at g
  exact g
theorem rg_pi {m : Nat → Int32} (h : k_Rng m) : kr (m 5) 0 1000 := by
  have g := h 5 (by omega)
  rw [show k_lo 5 = 0 from by decide, show k_hi 5 = 1000 from by decide] at g
  exact g
theorem rg_nt {m : Nat → Int32} (h : k_Rng m) : kr (m 10) 0 12 := by
  have g := h 10 (by omega)
  rw [show k_lo 10 = 0 from by decide, show k_hi 10 = 12 from by decide] at g
  exact g
theorem rg_nk {m : Nat → Int32} (h : k_Rng m) : kr (m 11) 0 6 := by
  have g := h 11 (by omega)
  rw [show k_lo 11 = 0 from by decide, show k_hi 11 = 6 from by decide] at g
  exact g
theorem rg_ns {m : Nat → Int32} (h : k_Rng m) : kr (m 12) 0 12 := by
  have g := h 12 (by omega)
  rw [show k_lo 12 = 0 from by decide, show k_hi 12 = 12 from by decide] at g
  exact g
theorem q_01 {x : Int32} (h : kr x 0 1) : x = 0 ∨ x = 1 := by
  obtain ⟨h1, h2⟩ := h
  have : x.toInt = 0 ∨ x.toInt = 1 := by omega
  rcases this with e | e
  · exact Or.inl (Int32.toInt_inj.mp e)
  · exact Or.inr (Int32.toInt_inj.mp e)
theorem q_cnt {x : Int32} {N : Nat} (h : kr x 0 N) (hN : N < 2147483648) : ∃ n : Nat, n ≤ N ∧ x = nI n ∧ x.toInt = (n : Int) := by
  obtain ⟨n, e, h1, h2, -⟩ := kr_nI h (Int.le_refl 0) (by omega)
  exact ⟨n, by omega, e, h1.symm⟩
end
section
/-! ===== sizes, sets of bits ===== -/
def s_nt (m : Nat → Int32) : Nat := (m 10).toNatClampNeg
def s_na (m : Nat → Int32) : Nat := (m 11).toNatClampNeg
def s_ns (m : Nat → Int32) : Nat := (m 12).toNatClampNeg
theorem s_nt_e {m : Nat → Int32} (h : k_Rng m) : m 10 = nI (s_nt m) ∧ s_nt m ≤ 12 ∧ (m 10).toInt = (s_nt m : Int) := by
  obtain ⟨n, h1, h2, h3⟩ := q_cnt (N := 12) (rg_nt h) (by decide)
  have e : s_nt m = n := by unfold s_nt; rw [h2, q_cl (by omega)]
  rw [e]; exact ⟨h2, h1, h3⟩
theorem s_na_e {m : Nat → Int32} (h : k_Rng m) : m 11 = nI (s_na m) ∧ s_na m ≤ 6 ∧ (m 11).toInt = (s_na m : Int) := by
  obtain ⟨n, h1, h2, h3⟩ := q_cnt (N := 6) (rg_nk h) (by decide)
  have e : s_na m = n := by unfold s_na; rw [h2, q_cl (by omega)]
  rw [e]; exact ⟨h2, h1, h3⟩
theorem s_ns_e {m : Nat → Int32} (h : k_Rng m) : m 12 = nI (s_ns m) ∧ s_ns m ≤ 12 ∧ (m 12).toInt = (s_ns m : Int) := by
  obtain ⟨n, h1, h2, h3⟩ := q_cnt (N := 12) (rg_ns h) (by decide)
  have e : s_ns m = n := by unfold s_ns; rw [h2, q_cl (by omega)]
  rw [e]; exact ⟨h2, h1, h3⟩
theorem k_out_bt {m : Nat → Int32} (h : k_Rng m) {i : Nat} (hi : i < 32) : bt (nI (k_out m)) i = (decide (i < s_nt m) && decide (m (37 + i) = 0)) := by
  obtain ⟨-, h1, h2⟩ := s_nt_e h
  rw [bt_nI _ hi, k_out, k_bits_tb, h2]
  by_cases c : i < s_nt m
  · simp [c, show i < 12 from by omega]
  · simp [c]
theorem k_wh_bt {m : Nat → Int32} (h : k_Rng m) {i : Nat} (hi : i < 32) : bt (nI (k_wh m)) i = (decide (i < s_na m) && decide (m (67 + i) = 1)) := by
  obtain ⟨-, h1, h2⟩ := s_na_e h
  rw [bt_nI _ hi, k_wh, k_bits_tb, h2]
  by_cases c : i < s_na m
  · simp [c, show i < 6 from by omega]
  · simp [c]
theorem k_out_of {m : Nat → Int32} (h : k_Rng m) {x : Int32} (hx : ∀ i, i < 32 → bt x i = (decide (i < s_nt m) && decide (m (37 + i) = 0))) : x = nI (k_out m) :=
  b_ext fun i hi => by rw [hx i hi, k_out_bt h hi]
theorem k_wh_of {m : Nat → Int32} (h : k_Rng m) {x : Int32} (hx : ∀ i, i < 32 → bt x i = (decide (i < s_na m) && decide (m (67 + i) = 1))) : x = nI (k_wh m) :=
  b_ext fun i hi => by rw [hx i hi, k_wh_bt h hi]
theorem q_in1 {m : Nat → Int32} (h : k_Rng m) {i : Nat} (hi : i < 12) : (m (37 + i) = 0) = (¬ m (37 + i) = 1) := by
  rcases q_01 (rg_in h hi) with e | e <;> simp [e]
theorem q_wh1 {m : Nat → Int32} (h : k_Rng m) {i : Nat} (hi : i < 6) : (m (67 + i) = 0) = (¬ m (67 + i) = 1) := by
  rcases q_01 (rg_wh h hi) with e | e <;> simp [e]
/-! ===== TOTAL ===== -/
def s_wt (m : Nat → Int32) (i : Nat) : Int32 := if m (37 + i) = 1 then m (13 + i) else 0
def s_total (m ru : Nat → Int32) : Int32 := ru 1 + q_sum (s_wt m) (s_nt m)
theorem y_total {m : Nat → Int32} (h : k_Rng m) (ru : Nat → Int32) : p_X9_total ru m = some (s_total m ru) := by
  obtain ⟨e10, hn, -⟩ := s_nt_e h
  have key : k_lp (fun s : Int32 × Int32 => lb_X9_total_9 m s.1 s.2) k_fuel (ru 1, 0) = some (ru 1 + q_sum (s_wt m) (s_nt m)) := by
    refine q_sumlp (s_wt m) (s_nt m) (ru 1) (fun i x hi => ?_) (fun x => ?_) (by omega)
    · show lb_X9_total_9 m x (nI i) = _
      unfold lb_X9_total_9 s_wt
      rw [e10]
      simp (disch := omega) only [q_ifge, q_ifle, q_o5, q_o13, q_o25, q_o37, q_o49, q_o55, q_o61, q_o67, q_o73, q_o85, q_o97, q_o109, q_o121, q_o133, q_o145, q_o157, q_ix, q_cl, q_b1, q_b2, q_hasBit, q_ifp, Nat.le_refl]
      by_cases c : m (37 + i) = 1 <;> simp [c]
    · show lb_X9_total_9 m x (nI (s_nt m)) = _
      unfold lb_X9_total_9
      rw [e10]
      simp (disch := omega) only [q_ifge, q_ifle, q_o5, q_o13, q_o25, q_o37, q_o49, q_o55, q_o61, q_o67, q_o73, q_o85, q_o97, q_o109, q_o121, q_o133, q_o145, q_o157, q_ix, q_cl, q_b1, q_b2, q_hasBit, q_ifp, Nat.le_refl]
  unfold p_X9_total
  rw [key, q_b1]; rfl
theorem x_weightOf {n : Nat} (hn : n ≤ 12) (wt : Nat → Int32) (b : Int32) : p_X7_weightOf (nI n) wt b = some (q_sum (fun i => if bt b i = true then wt i else 0) n) := by
  have key : k_lp (fun s : Int32 × Int32 => lb_X7_weightOf_4 (nI n) b wt s.1 s.2) k_fuel (0, 0) = some (0 + q_sum (fun i => if bt b i = true then wt i else 0) n) := by
    refine q_sumlp _ n 0 (fun i x hi => ?_) (fun x => ?_) (by omega)
    · show lb_X7_weightOf_4 (nI n) b wt x (nI i) = _
      unfold lb_X7_weightOf_4
      simp (disch := omega) only [q_ifge, q_ifle, q_o5, q_o13, q_o25, q_o37, q_o49, q_o55, q_o61, q_o67, q_o73, q_o85, q_o97, q_o109, q_o121, q_o133, q_o145, q_o157, q_ix, q_cl, q_b1, q_b2, q_hasBit, q_ifp, Nat.le_refl]
      by_cases c : bt b i = true <;> simp [c]
    · show lb_X7_weightOf_4 (nI n) b wt x (nI n) = _
      unfold lb_X7_weightOf_4
      simp (disch := omega) only [q_ifge, q_ifle, q_o5, q_o13, q_o25, q_o37, q_o49, q_o55, q_o61, q_o67, q_o73, q_o85, q_o97, q_o109, q_o121, q_o133, q_o145, q_o157, q_ix, q_cl, q_b1, q_b2, q_hasBit, q_ifp, Nat.le_refl]
  unfold p_X7_weightOf
  rw [key, q_b1, Int32.zero_add]
theorem x_total {ru' ru : Nat → Int32} {ot ts : Int32} {wt m : Nat → Int32} (h : k_Rng m) (h1 : ru' 1 = ru 1) (h2 : ot = nI (k_out m)) (h3 : ts = m 10) (h4 : ∀ i, i < 12 → wt i = m (13 + i)) : p_X4_total ru' ot ts wt = some (s_total m ru) := by
  obtain ⟨e10, hn, -⟩ := s_nt_e h
  subst h2
  unfold p_X4_total
  rw [h3, e10, x_weightOf hn, q_b1, h1]
  unfold s_total
  rw [q_sum_cong (f := fun i => if bt (nI (k_out m) ^^^ (-1)) i = true then wt i else 0) (g := s_wt m) (fun i hi => by
    show (if bt (nI (k_out m) ^^^ (-1)) i = true then wt i else 0) = s_wt m i
    rw [bt_not _ (by omega), k_out_bt h (by omega), h4 i (by omega)]
    unfold s_wt
    rcases q_01 (rg_in h (i := i) (by omega)) with e | e <;> simp [e, hi])]
theorem s_total_n {m ru : Nat → Int32} (h : k_Rng m) (hr : kr (ru 1) 100 1000) : ∃ t : Nat, s_total m ru = nI t ∧ 100 ≤ t ∧ t ≤ 2200 := by
  obtain ⟨e10, hn, -⟩ := s_nt_e h
  obtain ⟨u, hu, -, h1, h2⟩ := kr_nI hr (by decide) (by decide)
  have key : ∀ i, i < s_nt m → s_wt m i = nI (s_wt m i).toNatClampNeg ∧ (s_wt m i).toNatClampNeg ≤ 100 := by
    intro i hi
    unfold s_wt
    by_cases c : m (37 + i) = 1
    · rw [if_pos c]
      obtain ⟨w, hw, -, h3, -⟩ := kr_nI (rg_wt h (i := i) (by omega)) (by decide) (by decide)
      rw [hw, q_cl (by omega)]
      exact ⟨rfl, by omega⟩
    · rw [if_neg c]; exact ⟨by decide, by decide⟩
  refine ⟨u + fb_sm (fun i => (s_wt m i).toNatClampNeg) (s_nt m), ?_, by omega, ?_⟩
  · unfold s_total
    rw [hu, q_sum_nat (fun i hi => (key i hi).1), nI_add]
  · have := fb_sm_bound (f := fun i => (s_wt m i).toNatClampNeg) (c := 100) (n := s_nt m) (fun k hk => (key k hk).2)
    omega
/-! ===== FORCE ===== -/
def s_force (m ru : Nat → Int32) (a : Int32) : Int32 := (s_total m ru * (if 0 ≤ a then a else -a)) / 10
theorem y_force {m : Nat → Int32} (h : k_Rng m) (ru : Nat → Int32) (a : Int32) : p_X9_force ru m a = some (s_force m ru a) := by
  unfold p_X9_force s_force
  rw [y_total h, q_b1]
  by_cases c : 0 ≤ a <;> simp only [c, if_true, if_false]
theorem x_force {ru' ru : Nat → Int32} {ot ts : Int32} {wt m : Nat → Int32} (h : k_Rng m) (h1 : ru' 1 = ru 1) (h2 : ot = nI (k_out m)) (h3 : ts = m 10) (h4 : ∀ i, i < 12 → wt i = m (13 + i)) (a : Int32) : p_X4_force ru' ot ts wt a = some (s_force m ru a) := by
  unfold p_X4_force s_force
  rw [x_total h h1 h2 h3 h4, q_b1, Int32.zero_sub]
theorem s_abs {a : Int32} (h : kr a (-9) 9) : ∃ k : Nat, (if 0 ≤ a then a else -a) = nI k ∧ k ≤ 9 ∧ (k : Int) = a.toInt.natAbs := by
  obtain ⟨h1, h2⟩ := h
  refine ⟨a.toInt.natAbs, ?_, by omega, rfl⟩
  apply Int32.toInt_inj.mp
  rw [q_ti (by omega)]
  by_cases c : 0 ≤ a
  · rw [if_pos c]
    rw [Int32.le_iff_toInt_le] at c
    have : (0 : Int32).toInt = 0 := by decide
    omega
  · rw [if_neg c, fb_negI (by omega)]
    rw [Int32.le_iff_toInt_le] at c
    have : (0 : Int32).toInt = 0 := by decide
    omega
theorem s_force_n {m ru : Nat → Int32} (h : k_Rng m) (hr : kr (ru 1) 100 1000) {a : Int32} (ha : kr a (-9) 9) : ∃ f : Nat, s_force m ru a = nI f ∧ f ≤ 1980 ∧ (f = 0 ↔ a = 0) := by
  obtain ⟨t, ht, h1, h2⟩ := s_total_n h hr
  obtain ⟨k, hk, h3, h4⟩ := s_abs ha
  have hb : t * k ≤ 2200 * 9 := Nat.mul_le_mul h2 h3
  refine ⟨t * k / 10, ?_, by omega, ?_⟩
  · unfold s_force
    rw [ht, hk, pk_mul, show (10 : Int32) = nI 10 from rfl, pk_div (by omega) (by omega) (by omega)]
  · have e : a = 0 ↔ k = 0 := by
      rw [← Int32.toInt_inj, show (0 : Int32).toInt = 0 from by decide]
      omega
    rw [e]
    constructor
    · intro hz
      rcases Nat.eq_zero_or_pos k with hk0 | hk0
      · exact hk0
      · have : 100 * 1 ≤ t * k := Nat.mul_le_mul h1 hk0
        omega
    · intro hz; subst hz; simp
/-! ===== how many are WHOLE, what each takes ===== -/
def s_W (m : Nat → Int32) : Nat := fb_ct (fun i => decide (m (67 + i) = 1)) (s_na m)
theorem s_W_le {m : Nat → Int32} (h : k_Rng m) : s_W m ≤ 6 := Nat.le_trans (fb_ct_le _ _) (s_na_e h).2.1
theorem y_wholes {m : Nat → Int32} (h : k_Rng m) : p_X9_wholes m = some (nI (s_W m)) := by
  obtain ⟨e11, hn, -⟩ := s_na_e h
  have key : k_lp (fun s : Int32 × Int32 => lb_X9_wholes_4 m s.1 s.2) k_fuel (0, 0) = some (0 + q_sum (fun i => m (67 + i)) (s_na m)) := by
    refine q_sumlp _ (s_na m) 0 (fun i x hi => ?_) (fun x => ?_) (by omega)
    · show lb_X9_wholes_4 m x (nI i) = _
      unfold lb_X9_wholes_4
      rw [e11]
      simp (disch := omega) only [q_ifge, q_ifle, q_o5, q_o13, q_o25, q_o37, q_o49, q_o55, q_o61, q_o67, q_o73, q_o85, q_o97, q_o109, q_o121, q_o133, q_o145, q_o157, q_ix, q_cl, q_b1, q_b2, q_hasBit, q_ifp, Nat.le_refl]
    · show lb_X9_wholes_4 m x (nI (s_na m)) = _
      unfold lb_X9_wholes_4
      rw [e11]
      simp (disch := omega) only [q_ifge, q_ifle, q_o5, q_o13, q_o25, q_o37, q_o49, q_o55, q_o61, q_o67, q_o73, q_o85, q_o97, q_o109, q_o121, q_o133, q_o145, q_o157, q_ix, q_cl, q_b1, q_b2, q_hasBit, q_ifp, Nat.le_refl]
  unfold p_X9_wholes
  rw [key, q_b1, Int32.zero_add, q_sum_cnt (p := fun i => decide (m (67 + i) = 1)) (fun i hi => by
    rcases q_01 (rg_wh h (i := i) (by omega)) with e | e <;> simp [e])]
  rfl
theorem x_count {m : Nat → Int32} (h : k_Rng m) : p_J6_bitCount_0f7a4 (nI (k_wh m)) = some (nI (s_W m)) := by
  obtain ⟨e11, hn, -⟩ := s_na_e h
  exact q_bitCount (by omega) (fun i hi => k_wh_bt h hi)
theorem k_wh_0 {m : Nat → Int32} (h : k_Rng m) : (nI (k_wh m) = 0) = (s_W m = 0) := by
  refine propext ⟨fun e => ?_, fun e => ?_⟩
  · unfold s_W
    rw [fb_ct_zero]
    intro i hi
    have h2 := k_wh_bt h (i := i) (by have := (s_na_e h).2.1; omega)
    rw [e, b_0, decide_eq_true hi, Bool.true_and] at h2
    exact h2.symm
  · unfold s_W at e
    rw [fb_ct_zero] at e
    refine b_ext fun i hi => ?_
    rw [k_wh_bt h hi, b_0]
    by_cases c : i < s_na m
    · rw [e i c, Bool.and_false]
    · simp [c]
def s_share (m : Nat → Int32) (F : Int32) : Int32 := if s_W m = 0 then 0 else (F + nI (s_W m) - 1) / nI (s_W m)
theorem x_share {m : Nat → Int32} (h : k_Rng m) (F : Int32) : p_X6_share (nI (k_wh m)) F = some (s_share m F) := by
  have hw := s_W_le h
  unfold p_X6_share p_X8_roundedUp s_share
  rw [x_count h, q_b1]
  rcases Nat.eq_zero_or_pos (s_W m) with e | e
  · rw [e, if_neg (by decide), if_pos rfl, q_b1]
  · rw [if_pos (by show nI 0 < _; rw [q_ltI (by omega) (by omega)]; exact e), if_neg (by omega), q_ck _ (nI_ne0 e (by omega)), q_b1]
theorem y_takes {m : Nat → Int32} (h : k_Rng m) (ru : Nat → Int32) (a : Int32) : p_X9_takes m ru a = some (s_share m (s_force m ru a)) := by
  have hw := s_W_le h
  unfold p_X9_takes p_X9_up s_share
  rw [y_wholes h, q_b1]
  rcases Nat.eq_zero_or_pos (s_W m) with e | e
  · rw [e, if_pos (show nI 0 = 0 from rfl), if_pos rfl]
  · rw [if_neg (nI_ne0 e (by omega)), if_neg (by omega), y_force h, q_b1, q_ck _ (nI_ne0 e (by omega)), q_b1]
/-- rounded up, among numbers that are not negative -/
theorem q_up {a b : Nat} (ha : a ≤ 1000000) (h0 : 0 < b) (hb : b ≤ 1000) : (nI a + nI b - 1) / nI b = nI ((a + b - 1) / b) := by
  rw [nI_add, show (1 : Int32) = nI 1 from rfl, pk_sub (by omega), pk_div (by omega) h0 (by omega)]
theorem q_up_le {a b : Nat} (h0 : 0 < b) : (a + b - 1) / b ≤ a := by
  rcases Nat.eq_zero_or_pos a with e | e
  · subst e
    rw [Nat.div_eq_of_lt (by omega)]; omega
  · have : (a + b - 1) / b < a + 1 := by
      rw [Nat.div_lt_iff_lt_mul h0]
      have : a * b + b = (a + 1) * b := by rw [Nat.succ_mul]
      have : a * 1 ≤ a * b := Nat.mul_le_mul_left a h0
      have : 1 * b ≤ a * b := Nat.mul_le_mul_right b e
      omega
    omega
theorem q_up_0 {b : Nat} (h0 : 0 < b) : (0 + b - 1) / b = 0 := Nat.div_eq_of_lt (by omega)
theorem s_share_n {m : Nat → Int32} (h : k_Rng m) {f : Nat} (hf : f ≤ 1980) : ∃ s : Nat, s_share m (nI f) = nI s ∧ s ≤ f ∧ (f = 0 → s = 0) ∧ (s_W m = 0 → s = 0) := by
  have hw := s_W_le h
  unfold s_share
  rcases Nat.eq_zero_or_pos (s_W m) with e | e
  · exact ⟨0, by rw [if_pos e]; rfl, by omega, fun _ => rfl, fun _ => rfl⟩
  · refine ⟨(f + s_W m - 1) / s_W m, ?_, q_up_le e, fun hz => ?_, fun hz => by omega⟩
    · rw [if_neg (by omega), q_up (by omega) e (by omega)]
    · subst hz; exact q_up_0 e
end
section
/-! ===== what a rope takes and may ===== -/
def s_rope (m : Nat → Int32) (i : Nat) (sh : Int32) : Int32 := (sh + m (55 + i) - 1) / m (55 + i)
def s_may (m : Nat → Int32) (i : Nat) (wet : Int32) : Int32 := if wet = 0 then m (61 + i) else m (61 + i) * 3 / 4
theorem q_par {m : Nat → Int32} (h : k_Rng m) (hp : k_Par m) {i : Nat} (hi : i < s_na m) : ∃ p : Nat, m (55 + i) = nI p ∧ 1 ≤ p ∧ p ≤ 6 := by
  obtain ⟨e11, hn, e2⟩ := s_na_e h
  obtain ⟨p, h1, h2, h3, -⟩ := kr_nI (rg_pr h (i := i) (by omega)) (by decide) (by decide)
  have := hp i (by omega)
  exact ⟨p, h1, by omega, by omega⟩
theorem s_rope_n {m : Nat → Int32} (h : k_Rng m) (hp : k_Par m) {i : Nat} (hi : i < s_na m) {s : Nat} (hs : s ≤ 1980) : ∃ r : Nat, s_rope m i (nI s) = nI r ∧ r ≤ s := by
  obtain ⟨p, e, h1, h2⟩ := q_par h hp hi
  refine ⟨(s + p - 1) / p, ?_, q_up_le h1⟩
  unfold s_rope
  rw [e, q_up (by omega) h1 (by omega)]
theorem s_may_n {m : Nat → Int32} (h : k_Rng m) {i : Nat} (hi : i < 6) (wet : Int32) : ∃ r : Nat, s_may m i wet = nI r ∧ r ≤ 400 := by
  obtain ⟨g, e, -, h2, -⟩ := kr_nI (rg_sg h hi) (by decide) (by decide)
  unfold s_may
  by_cases c : wet = 0
  · rw [if_pos c]; exact ⟨g, e, by omega⟩
  · rw [if_neg c]
    refine ⟨g * 3 / 4, ?_, by omega⟩
    rw [e, show (3 : Int32) = nI 3 from rfl, pk_mul, show (4 : Int32) = nI 4 from rfl, pk_div (by omega) (by omega) (by omega)]
theorem x_ropeTakes {m pr : Nat → Int32} (h : k_Rng m) (hp : k_Par m) {i : Nat} (hi : i < s_na m) (h1 : pr i = m (55 + i)) (sh : Int32) : p_X6_ropeTakes pr (nI i) sh = some (s_rope m i sh) := by
  have hn := (s_na_e h).2.1
  obtain ⟨p, e, h3, h4⟩ := q_par h hp hi
  unfold p_X6_ropeTakes p_X8_roundedUp s_rope
  rw [q_ix _ (by omega) (by omega), q_cl (by omega), h1, e, if_pos (by show nI 0 < _; rw [q_ltI (by omega) (by omega)]; exact h3), q_ck _ (nI_ne0 h3 (by omega)), q_b1]
theorem y_ropeOf {m : Nat → Int32} (h : k_Rng m) (hp : k_Par m) (ru : Nat → Int32) {i : Nat} (hi : i < s_na m) (a : Int32) : p_X9_ropeOf m ru (nI i) a = some (s_rope m i (s_share m (s_force m ru a))) := by
  have hn := (s_na_e h).2.1
  obtain ⟨p, e, h3, h4⟩ := q_par h hp hi
  unfold p_X9_ropeOf p_X9_up s_rope
  rw [y_takes h, q_b1, q_o55, q_ix _ (by omega) (by omega), q_cl (by omega), e, q_ck _ (nI_ne0 h3 (by omega)), q_b1]
theorem x_ropeMay {m sg : Nat → Int32} {i : Nat} (hi : i < 6) (h1 : sg i = m (61 + i)) (wet : Int32) : p_X6_ropeMay sg (nI i) wet = some (s_may m i wet) := by
  unfold p_X6_ropeMay s_may
  rw [q_ix _ (by omega) (by omega), q_ix _ (by omega) (by omega), q_cl (by omega), h1]
  by_cases c : wet = 0 <;> simp [c]
theorem y_may {m : Nat → Int32} {i : Nat} (hi : i < 6) (wet : Int32) : p_X9_may m (nI i) wet = some (s_may m i wet) := by
  unfold p_X9_may s_may
  rw [q_o61, q_ix _ (by omega) (by omega), q_ix _ (by omega) (by omega), q_cl (by omega)]
  by_cases c : wet = 0 <;> simp [c]
/-! ===== the rope that is over most ===== -/
def s_over (m : Nat → Int32) (sh wet : Int32) (i : Nat) : Int32 := s_rope m i sh - s_may m i wet
def s_ro (m : Nat → Int32) (sh wet : Int32) : Nat → Int32 × Option Nat
  | 0 => (0, none)
  | k + 1 => if m (67 + k) = 1 ∧ ¬ s_over m sh wet k ≤ (s_ro m sh wet k).1 then (s_over m sh wet k, some k) else s_ro m sh wet k
theorem s_ro_inv {m : Nat → Int32} (sh wet : Int32) : ∀ k : Nat, ((s_ro m sh wet k).2 = none ∧ (s_ro m sh wet k).1 = 0 ∧ ∀ i, i < k → m (67 + i) = 1 → s_over m sh wet i ≤ 0) ∨ (∃ i, i < k ∧ (s_ro m sh wet k).2 = some i ∧ m (67 + i) = 1 ∧ 0 < (s_ro m sh wet k).1 ∧ 0 < s_over m sh wet i)
  | 0 => Or.inl ⟨rfl, rfl, fun i hi => absurd hi (by omega)⟩
  | k + 1 => by
    have ih := s_ro_inv (m := m) sh wet k
    unfold s_ro
    by_cases c : m (67 + k) = 1 ∧ ¬ s_over m sh wet k ≤ (s_ro m sh wet k).1
    · rw [if_pos c]
      refine Or.inr ⟨k, by omega, rfl, c.1, ?_, ?_⟩ <;>
      · have c2 := q_nle.mp c.2
        show 0 < s_over m sh wet k
        rcases ih with ⟨-, h2, -⟩ | ⟨i, -, -, -, h2, -⟩
        · rw [h2] at c2; exact c2
        · rw [Int32.lt_iff_toInt_lt] at *; omega
    · rw [if_neg c]
      rcases ih with ⟨h1, h2, h3⟩ | ⟨i, h1, h2, h3, h4, h5⟩
      · refine Or.inl ⟨h1, h2, fun i hi hw => ?_⟩
        by_cases e : i = k
        · subst e
          rw [h2] at c
          exact Classical.byContradiction fun hh => c ⟨hw, hh⟩
        · exact h3 i (by omega) hw
      · exact Or.inr ⟨i, by omega, h2, h3, h4, h5⟩
theorem x_mostOver {m pr sg : Nat → Int32} {tas : Int32} (h : k_Rng m) (hp : k_Par m) (ht : tas = m 11) (h1 : ∀ i, i < 6 → pr i = m (55 + i)) (h2 : ∀ i, i < 6 → sg i = m (61 + i)) (sh wet : Int32) : p_X6_ropeMostOver (nI (k_wh m)) tas pr sg sh wet = some (q_enc (-1) (s_ro m sh wet (s_na m)).2) := by
  obtain ⟨e11, hn, -⟩ := s_na_e h
  subst ht
  have key : k_lp (fun s : Int32 × Int32 × Int32 => lb_X6_ropeMostOver_8 (m 11) pr sh sg wet (nI (k_wh m)) s.1 s.2.1 s.2.2) k_fuel (0, (-1), 0) = some (q_enc (-1) (s_ro m sh wet (s_na m)).2) := by
    refine q_run (fun k => ((s_ro m sh wet k).1, q_enc (-1) (s_ro m sh wet k).2, nI k)) _ (s_na m) (fun i hi => ?_) ?_ (by omega)
    · show lb_X6_ropeMostOver_8 (m 11) pr sh sg wet (nI (k_wh m)) (s_ro m sh wet i).1 (q_enc (-1) (s_ro m sh wet i).2) (nI i) = _
      unfold lb_X6_ropeMostOver_8
      rw [e11, q_ifge _ _ hi (by omega), x_ropeTakes h hp hi (h1 i (by omega)), q_b1, x_ropeMay (by omega) (h2 i (by omega)), q_b1, q_hasBit _ (by omega), q_b1, q_ifp, k_wh_bt h (by omega)]
      show _ = some (Sum.inl ((s_ro m sh wet (i + 1)).1, q_enc (-1) (s_ro m sh wet (i + 1)).2, nI (i + 1)))
      rw [nI_succ, s_ro]
      by_cases c : m (67 + i) = 1
      · rw [if_pos (by simp [hi, c])]
        by_cases c2 : s_over m sh wet i ≤ (s_ro m sh wet i).1
        · rw [if_neg (c := m (67 + i) = 1 ∧ ¬ s_over m sh wet i ≤ (s_ro m sh wet i).1) (fun hh => hh.2 c2)]
          exact if_pos c2
        · rw [if_pos (c := m (67 + i) = 1 ∧ ¬ s_over m sh wet i ≤ (s_ro m sh wet i).1) ⟨c, c2⟩]
          exact if_neg c2
      · rw [if_neg (by simp [c]), if_neg (c := m (67 + i) = 1 ∧ ¬ s_over m sh wet i ≤ (s_ro m sh wet i).1) (fun hh => c hh.1)]
    · show lb_X6_ropeMostOver_8 (m 11) pr sh sg wet (nI (k_wh m)) _ _ (nI (s_na m)) = _
      unfold lb_X6_ropeMostOver_8
      rw [e11, q_ifle _ _ (Nat.le_refl _) (by omega)]
  unfold p_X6_ropeMostOver
  rw [key, q_b1]
theorem y_mostOver {m ru : Nat → Int32} (h : k_Rng m) (hp : k_Par m) (wet : Int32) : k_lp (fun s : Int32 × Int32 × Int32 => lb_X9_part_8 m ru wet s.1 s.2.1 s.2.2) k_fuel (0, (-4), 0) = some ((s_ro m (s_share m (s_force m ru (m 1))) wet (s_na m)).1, q_enc (-4) (s_ro m (s_share m (s_force m ru (m 1))) wet (s_na m)).2) := by
  obtain ⟨e11, hn, -⟩ := s_na_e h
  generalize hsh : s_share m (s_force m ru (m 1)) = sh
  refine q_run (fun k => ((s_ro m sh wet k).1, q_enc (-4) (s_ro m sh wet k).2, nI k)) _ (s_na m) (fun i hi => ?_) ?_ (by omega)
  · show lb_X9_part_8 m ru wet (s_ro m sh wet i).1 (q_enc (-4) (s_ro m sh wet i).2) (nI i) = _
    unfold lb_X9_part_8
    rw [e11, q_ifge _ _ hi (by omega), q_o67, q_ix _ (by omega) (by omega), q_cl (by omega), y_ropeOf h hp ru hi, q_b1, y_may (by omega), q_b1, hsh]
    show _ = some (Sum.inl ((s_ro m sh wet (i + 1)).1, q_enc (-4) (s_ro m sh wet (i + 1)).2, nI (i + 1)))
    rw [nI_succ, s_ro]
    by_cases c : m (67 + i) = 1
    · rw [if_pos c]
      by_cases c2 : s_over m sh wet i ≤ (s_ro m sh wet i).1
      · rw [if_neg (c := m (67 + i) = 1 ∧ ¬ s_over m sh wet i ≤ (s_ro m sh wet i).1) (fun hh => hh.2 c2)]
        exact if_pos c2
      · rw [if_pos (c := m (67 + i) = 1 ∧ ¬ s_over m sh wet i ≤ (s_ro m sh wet i).1) ⟨c, c2⟩]
        exact if_neg c2
    · rw [if_neg c, if_neg (c := m (67 + i) = 1 ∧ ¬ s_over m sh wet i ≤ (s_ro m sh wet i).1) (fun hh => c hh.1)]
      have : (0 : Int32) ≤ (s_ro m sh wet i).1 := by
        rcases s_ro_inv (m := m) sh wet i with ⟨-, h2, -⟩ | ⟨_, -, -, -, h2, -⟩
        · rw [h2]; decide
        · rw [Int32.lt_iff_toInt_lt] at h2; rw [Int32.le_iff_toInt_le]; omega
      rw [if_pos this]
  · show lb_X9_part_8 m ru wet _ _ (nI (s_na m)) = _
    unfold lb_X9_part_8
    rw [e11, q_ifle _ _ (Nat.le_refl _) (by omega)]
/-! ===== the masts ===== -/
def s_onp (m : Nat → Int32) (b : Nat) (i : Nat) : Bool := decide (m (67 + i) = 1) && decide (m (49 + i) = nI b)
def s_on (m : Nat → Int32) (b : Nat) : Nat := fb_ct (s_onp m b) (s_na m)
def s_low (m : Nat → Int32) (b : Nat) : Option Nat := q_find (fun i => if s_onp m b i = true then some i else none) (s_na m)
theorem x_onMast {m ma : Nat → Int32} {tas : Int32} (h : k_Rng m) (ht : tas = m 11) (h1 : ∀ i, i < 6 → ma i = m (49 + i)) (b : Nat) : p_X6_onMast (nI (k_wh m)) tas ma (nI b) = some (nI (s_on m b)) := by
  obtain ⟨e11, hn, -⟩ := s_na_e h
  subst ht
  have key : k_lp (fun s : Int32 × Int32 => lb_X6_onMast_4 (m 11) (nI (k_wh m)) ma (nI b) s.1 s.2) k_fuel (0, 0) = some (0 + q_sum (fun i => if s_onp m b i then 1 else 0) (s_na m)) := by
    refine q_sumlp _ (s_na m) 0 (fun i x hi => ?_) (fun x => ?_) (by omega)
    · show lb_X6_onMast_4 (m 11) (nI (k_wh m)) ma (nI b) x (nI i) = _
      unfold lb_X6_onMast_4 s_onp
      rw [e11]
      simp (disch := omega) only [q_ifge, q_ifle, q_o5, q_o13, q_o25, q_o37, q_o49, q_o55, q_o61, q_o67, q_o73, q_o85, q_o97, q_o109, q_o121, q_o133, q_o145, q_o157, q_ix, q_cl, q_b1, q_b2, q_hasBit, q_ifp, Nat.le_refl]
      rw [k_wh_bt h (by omega), h1 i (by omega), decide_eq_true hi, Bool.true_and]
      by_cases c : m (67 + i) = 1 <;> by_cases c2 : m (49 + i) = nI b <;> simp [c, c2]
    · show lb_X6_onMast_4 (m 11) (nI (k_wh m)) ma (nI b) x (nI (s_na m)) = _
      unfold lb_X6_onMast_4
      rw [e11]
      simp (disch := omega) only [q_ifge, q_ifle, q_o5, q_o13, q_o25, q_o37, q_o49, q_o55, q_o61, q_o67, q_o73, q_o85, q_o97, q_o109, q_o121, q_o133, q_o145, q_o157, q_ix, q_cl, q_b1, q_b2, q_hasBit, q_ifp, Nat.le_refl]
  unfold p_X6_onMast
  rw [key, q_b1, Int32.zero_add, q_sum_cnt (p := s_onp m b) (fun i hi => rfl)]
  rfl
theorem q_sum_mul {p : Nat → Bool} {c : Int32} : ∀ n : Nat, q_sum (fun i => if p i then c else 0) n = nI (fb_ct p n) * c
  | 0 => by show (0 : Int32) = 0 * c; simp
  | n + 1 => by
    show q_sum (fun i => if p i then c else 0) n + (if p n then c else 0) = nI (fb_ct p n + (if p n then 1 else 0)) * c
    rw [q_sum_mul n, ← nI_add, Int32.add_mul]
    cases p n
    · show _ + 0 = _ + nI 0 * c; rw [nI_0]; simp
    · show _ + c = _ + nI 1 * c; rw [show nI 1 = 1 from rfl]; simp
theorem y_mastOf {m : Nat → Int32} (h : k_Rng m) (ru : Nat → Int32) (b : Nat) (a : Int32) : p_X9_mastOf m ru (nI b) a = some (nI (s_on m b) * s_share m (s_force m ru a)) := by
  obtain ⟨e11, hn, -⟩ := s_na_e h
  have key : k_lp (fun s : Int32 × Int32 => lb_X9_mastOf_5 m (nI b) ru a s.1 s.2) k_fuel (0, 0) = some (0 + q_sum (fun i => if s_onp m b i then s_share m (s_force m ru a) else 0) (s_na m)) := by
    refine q_sumlp _ (s_na m) 0 (fun i x hi => ?_) (fun x => ?_) (by omega)
    · show lb_X9_mastOf_5 m (nI b) ru a x (nI i) = _
      unfold lb_X9_mastOf_5 s_onp
      rw [e11, y_takes h]
      simp (disch := omega) only [q_ifge, q_ifle, q_o5, q_o13, q_o25, q_o37, q_o49, q_o55, q_o61, q_o67, q_o73, q_o85, q_o97, q_o109, q_o121, q_o133, q_o145, q_o157, q_ix, q_cl, q_b1, q_b2, q_hasBit, q_ifp, Nat.le_refl]
      by_cases c : m (67 + i) = 1 <;> by_cases c2 : m (49 + i) = nI b <;> simp [c, c2]
    · show lb_X9_mastOf_5 m (nI b) ru a x (nI (s_na m)) = _
      unfold lb_X9_mastOf_5
      rw [e11]
      simp (disch := omega) only [q_ifge, q_ifle, q_o5, q_o13, q_o25, q_o37, q_o49, q_o55, q_o61, q_o67, q_o73, q_o85, q_o97, q_o109, q_o121, q_o133, q_o145, q_o157, q_ix, q_cl, q_b1, q_b2, q_hasBit, q_ifp, Nat.le_refl]
  unfold p_X9_mastOf
  rw [key, q_b1, Int32.zero_add, q_sum_mul]
  rfl
theorem x_lowestOn {m ma : Nat → Int32} {tas : Int32} (h : k_Rng m) (ht : tas = m 11) (h1 : ∀ i, i < 6 → ma i = m (49 + i)) (b : Nat) : p_X6_lowestOn (nI (k_wh m)) tas ma (nI b) = some (q_enc (-1) (s_low m b)) := by
  obtain ⟨e11, hn, -⟩ := s_na_e h
  subst ht
  have key : k_lp (fun s : Int32 => lb_X6_lowestOn_2 (m 11) (nI (k_wh m)) ma (nI b) s) k_fuel 0 = some (q_ans (q_find (fun i => if s_onp m b i = true then some (nI i) else none) (s_na m))) := by
    refine q_findlp _ (s_na m) (fun i hi => ?_) ?_ (by omega)
    · show lb_X6_lowestOn_2 (m 11) (nI (k_wh m)) ma (nI b) (nI i) = _
      unfold lb_X6_lowestOn_2 s_onp
      rw [e11]
      simp (disch := omega) only [q_ifge, q_ifle, q_o5, q_o13, q_o25, q_o37, q_o49, q_o55, q_o61, q_o67, q_o73, q_o85, q_o97, q_o109, q_o121, q_o133, q_o145, q_o157, q_ix, q_cl, q_b1, q_b2, q_hasBit, q_ifp, Nat.le_refl]
      rw [k_wh_bt h (by omega), h1 i (by omega), decide_eq_true hi, Bool.true_and]
      by_cases c : m (67 + i) = 1 <;> by_cases c2 : m (49 + i) = nI b <;> simp [c, c2]
    · show lb_X6_lowestOn_2 (m 11) (nI (k_wh m)) ma (nI b) (nI (s_na m)) = _
      unfold lb_X6_lowestOn_2
      rw [e11]
      simp (disch := omega) only [q_ifge, q_ifle, q_o5, q_o13, q_o25, q_o37, q_o49, q_o55, q_o61, q_o67, q_o73, q_o85, q_o97, q_o109, q_o121, q_o133, q_o145, q_o157, q_ix, q_cl, q_b1, q_b2, q_hasBit, q_ifp, Nat.le_refl]
  have e2 : ∀ n, q_find (fun i => if s_onp m b i = true then some (nI i) else none) n = (q_find (fun i => if s_onp m b i = true then some i else none) n).map nI := by
    intro n
    induction n with
    | zero => rfl
    | succ n ih =>
      unfold q_find
      rw [ih]
      cases q_find (fun i => if s_onp m b i = true then some i else none) n with
      | some v => rfl
      | none =>
        show (if s_onp m b n = true then some (nI n) else none) = (if s_onp m b n = true then some n else none).map nI
        cases s_onp m b n <;> rfl
  unfold p_X6_lowestOn
  rw [key, e2]
  unfold s_low
  cases q_find (fun i => if s_onp m b i = true then some i else none) (s_na m) <;> rfl
theorem s_low_none {m : Nat → Int32} {b : Nat} : s_low m b = none ↔ s_on m b = 0 := by
  unfold s_low s_on
  rw [q_find_none, fb_ct_zero]
  constructor
  · intro h i hi
    have := h i hi
    cases hc : s_onp m b i
    · rfl
    · rw [hc] at this; simp at this
  · intro h i hi
    rw [h i hi]; rfl
theorem s_low_some {m : Nat → Int32} {b i : Nat} (h : s_low m b = some i) : i < s_na m ∧ m (67 + i) = 1 := by
  unfold s_low at h
  obtain ⟨j, hj, h1, -⟩ := q_find_some.mp h
  cases hc : s_onp m b j
  · rw [hc] at h1; simp at h1
  · rw [hc] at h1
    simp at h1
    subst h1
    unfold s_onp at hc
    simp at hc
    exact ⟨hj, hc.1⟩
/-! ===== the one that PARTS first ===== -/
def s_mc (m ru : Nat → Int32) (sh : Int32) (b : Nat) : Option Nat := if nI (s_on m b) * sh ≤ ru (5 + b) then none else s_low m b
def s_first (m ru : Nat → Int32) (sh wet : Int32) : Option Nat := match (s_ro m sh wet (s_na m)).2 with
  | some i => some i
  | none => q_find (s_mc m ru sh) 3
theorem s_first_some {m ru : Nat → Int32} {sh wet : Int32} {i : Nat} (h : s_first m ru sh wet = some i) : i < s_na m ∧ m (67 + i) = 1 := by
  unfold s_first at h
  rcases s_ro_inv (m := m) sh wet (s_na m) with ⟨h1, -, -⟩ | ⟨j, h1, h2, h3, -, -⟩
  · rw [h1] at h
    obtain ⟨b, hb, h4, -⟩ := q_find_some.mp h
    unfold s_mc at h4
    split at h4
    · cases h4
    · exact s_low_some h4
  · rw [h2] at h
    cases h
    exact ⟨h1, h3⟩
theorem x_first {m ru ru' ma pr sg : Nat → Int32} {tas : Int32} (h : k_Rng m) (hp : k_Par m) (hna : s_na m ≤ 6) (ht : tas = m 11) (h0 : ∀ i, i < 6 → ma i = m (49 + i)) (h1 : ∀ i, i < 6 → pr i = m (55 + i)) (h2 : ∀ i, i < 6 → sg i = m (61 + i)) (hr : ∀ b, b < 3 → ru' (5 + b) = ru (5 + b)) (F wet : Int32) : p_X6_firstToPart (nI (k_wh m)) tas pr sg ma ru' F wet = some (q_enc (-1) (s_first m ru (s_share m F) wet)) := by
  unfold p_X6_firstToPart
  rw [x_share h, q_b1, x_mostOver h hp ht h1 h2, q_b1]
  generalize s_share m F = sh
  unfold s_first
  cases hro : (s_ro m sh wet (s_na m)).2 with
  | some i =>
    have hi : i < 6 := by
      rcases s_ro_inv (m := m) sh wet (s_na m) with ⟨h3, -, -⟩ | ⟨j, h3, h4, -⟩
      · rw [h3] at hro; cases hro
      · rw [h4] at hro; cases hro; omega
    have key : k_lp (fun s : Int32 × Int32 => lb_X6_firstToPart_19 (nI (k_wh m)) tas ma sh ru' s.1 s.2) k_fuel (q_enc (-1) (some i), 0) = some (nI i) := by
      refine q_run (fun _ => (nI i, (0 : Int32))) _ 0 (fun j hj => absurd hj (by omega)) ?_ (by omega)
      show lb_X6_firstToPart_19 (nI (k_wh m)) tas ma sh ru' (nI i) 0 = _
      unfold lb_X6_firstToPart_19
      rw [if_neg (by decide), if_pos (nI_pos' (by omega))]
    rw [key, q_b1]; rfl
  | none =>
    have key : k_lp (fun s : Int32 × Int32 => lb_X6_firstToPart_19 (nI (k_wh m)) tas ma sh ru' s.1 s.2) k_fuel (q_enc (-1) none, 0) = some (q_enc (-1) (q_find (s_mc m ru sh) 3)) := by
      have hstep : ∀ b, b < 3 → lb_X6_firstToPart_19 (nI (k_wh m)) tas ma sh ru' (-1) (nI b) = some (.inl (q_enc (-1) (s_mc m ru sh b), nI b + 1)) := by
        intro b hb
        unfold lb_X6_firstToPart_19 s_mc
        rw [show (3 : Int32) = nI 3 from rfl, q_ifge _ _ hb (by omega), if_neg (by decide), x_onMast h ht h0, q_b1, q_o5, q_ix _ (by omega) (by omega), q_cl (by omega), hr b hb, x_lowestOn h ht h0, q_b1]
        by_cases c : nI (s_on m b) * sh ≤ ru (5 + b)
        · rw [if_pos c, if_pos c]; rfl
        · rw [if_neg c, if_neg c]
      have hstop : ∀ i b, i < 6 → b ≤ 3 → lb_X6_firstToPart_19 (nI (k_wh m)) tas ma sh ru' (nI i) (nI b) = some (.inr (nI i)) := by
        intro i b hi hb
        unfold lb_X6_firstToPart_19
        by_cases c : b = 3
        · subst c; rw [show (3 : Int32) = nI 3 from rfl, q_ifle _ _ (Nat.le_refl _) (by omega)]
        · rw [show (3 : Int32) = nI 3 from rfl, q_ifge _ _ (show b < 3 by omega) (by omega), if_pos (nI_pos' (by omega))]
      have hmc : ∀ b i, s_mc m ru sh b = some i → i < 6 := by
        intro b i hh
        unfold s_mc at hh
        split at hh
        · cases hh
        · have := s_low_some hh; omega
      obtain ⟨e, he, hE⟩ := q_lpI (body := fun s : Int32 × Int32 => lb_X6_firstToPart_19 (nI (k_wh m)) tas ma sh ru' s.1 s.2) (fun k s => s = (q_enc (-1) (q_find (s_mc m ru sh) k), nI k)) (fun e => e = q_enc (-1) (q_find (s_mc m ru sh) 3)) 3 (fun k s hk hs => by
        subst hs
        cases hq : q_find (s_mc m ru sh) k with
        | some i =>
          obtain ⟨b, hb, hb2, -⟩ := q_find_some.mp hq
          refine ⟨_, hstop i k (hmc b i hb2) (by omega), Or.inr ⟨_, rfl, ?_⟩⟩
          obtain ⟨b, hb, hb2, hb3⟩ := q_find_some.mp hq
          rw [q_find_some.mpr ⟨b, by omega, hb2, hb3⟩]; rfl
        | none =>
          refine ⟨_, hstep k hk, Or.inl ⟨_, rfl, ?_⟩⟩
          show _ = (q_enc (-1) (q_find (s_mc m ru sh) (k + 1)), nI (k + 1))
          rw [nI_succ, q_find_sn hq]) (fun s hs => by
        subst hs
        refine ⟨q_enc (-1) (q_find (s_mc m ru sh) 3), ?_, rfl⟩
        show lb_X6_firstToPart_19 (nI (k_wh m)) tas ma sh ru' _ (nI 3) = _
        unfold lb_X6_firstToPart_19
        rw [show (3 : Int32) = nI 3 from rfl, q_ifle _ _ (Nat.le_refl _) (by omega)]) (q_enc (-1) none, 0) rfl (by omega)
      rw [he, hE]
    rw [key, q_b1]
end
section
/-! ===== HOLDS ===== -/
def q_all (p : Nat → Bool) : Nat → Bool
  | 0 => true
  | n + 1 => q_all p n && p n
theorem q_all_iff {p : Nat → Bool} : ∀ {n : Nat}, q_all p n = true ↔ ∀ i, i < n → p i = true
  | 0 => ⟨fun _ i hi => absurd hi (by omega), fun _ => rfl⟩
  | n + 1 => by
    have ih := q_all_iff (p := p) (n := n)
    unfold q_all
    rw [Bool.and_eq_true, ih]
    constructor
    · rintro ⟨h1, h2⟩ i hi
      by_cases e : i = n
      · subst e; exact h2
      · exact h1 i (by omega)
    · intro h
      exact ⟨fun i hi => h i (by omega), h n (by omega)⟩
def s_holds (m ru : Nat → Int32) (a wet : Int32) : Bool := decide (s_force m ru a = 0) || (decide (¬ s_W m = 0) && (s_first m ru (s_share m (s_force m ru a)) wet).isNone)
def R_rl (f g : Nat → Int32) : Prop := f 1 = g 1 ∧ ∀ b, b < 3 → f (5 + b) = g (5 + b)
theorem x_holds {m ru ru' wt ma pr sg : Nat → Int32} {ot ts tas : Int32} (h : k_Rng m) (hp : k_Par m) (hr : R_rl ru' ru) (h2 : ot = nI (k_out m)) (h3 : ts = m 10) (h4 : ∀ i, i < 12 → wt i = m (13 + i)) (ht : tas = m 11) (g0 : ∀ i, i < 6 → ma i = m (49 + i)) (g1 : ∀ i, i < 6 → pr i = m (55 + i)) (g2 : ∀ i, i < 6 → sg i = m (61 + i)) (a wet : Int32) : p_X4_holds ru' ot ts wt (nI (k_wh m)) tas pr sg ma a wet = some (if s_holds m ru a wet = true then 1 else 0) := by
  have hn := (s_na_e h).2.1
  unfold p_X4_holds s_holds
  rw [x_force h hr.1 h2 h3 h4, q_b1]
  by_cases c1 : s_force m ru a = 0
  · rw [if_pos c1]; simp [c1]
  · rw [if_neg c1]
    by_cases c2 : s_W m = 0
    · rw [if_pos (by rw [k_wh_0 h]; exact c2)]; simp [c1, c2]
    · rw [if_neg (by rw [k_wh_0 h]; exact c2), x_first h hp hn ht g0 g1 g2 hr.2, q_b1]
      cases hf : s_first m ru (s_share m (s_force m ru a)) wet with
      | none => rw [if_neg (show ¬ (0 : Int32) ≤ q_enc (-1) none from by decide)]; simp [c2]
      | some i =>
        have hi := (s_first_some hf).1
        rw [if_pos (show (0 : Int32) ≤ q_enc (-1) (some i) from nI_pos' (by omega))]; simp [c1]
theorem s_over_le {m : Nat → Int32} (h : k_Rng m) (hp : k_Par m) {i : Nat} (hi : i < s_na m) {s : Nat} (hs : s ≤ 1980) (wet : Int32) : (s_over m (nI s) wet i ≤ 0) = (s_rope m i (nI s) ≤ s_may m i wet) := by
  obtain ⟨r, e1, h1⟩ := s_rope_n h hp hi hs
  obtain ⟨q, e2, h2⟩ := s_may_n h (i := i) (by have := (s_na_e h).2.1; omega) wet
  unfold s_over
  rw [e1, e2, q_leI (by omega) (by omega)]
  refine propext ?_
  rw [Int32.le_iff_toInt_le, pk_sub_toInt (by omega) (by omega), show (0 : Int32).toInt = 0 from by decide]
  omega
def s_okR (m : Nat → Int32) (sh wet : Int32) (i : Nat) : Bool := decide (m (67 + i) = 0) || decide (s_rope m i sh ≤ s_may m i wet)
def s_okM (m ru : Nat → Int32) (sh : Int32) (b : Nat) : Bool := decide (nI (s_on m b) * sh ≤ ru (5 + b))
def R_pos (ru : Nat → Int32) : Prop := kr (ru 1) 100 1000 ∧ ∀ b, b < 3 → 0 ≤ ru (5 + b)
theorem s_first_none {m ru : Nat → Int32} (h : k_Rng m) (hp : k_Par m) (hr : R_pos ru) {s : Nat} (hs : s ≤ 1980) (wet : Int32) : s_first m ru (nI s) wet = none ↔ (∀ i, i < s_na m → s_okR m (nI s) wet i = true) ∧ (∀ b, b < 3 → s_okM m ru (nI s) b = true) := by
  have hn := (s_na_e h).2.1
  unfold s_first
  rcases s_ro_inv (m := m) (nI s) wet (s_na m) with ⟨h1, -, h3⟩ | ⟨j, h1, h2, h3, -, h5⟩
  · rw [h1]
    show q_find (s_mc m ru (nI s)) 3 = none ↔ _
    rw [q_find_none]
    constructor
    · intro h4
      refine ⟨fun i hi => ?_, fun b hb => ?_⟩
      · unfold s_okR
        by_cases c : m (67 + i) = 1
        · have := h3 i hi c
          rw [s_over_le h hp hi hs] at this
          simp [this]
        · rw [← q_wh1 h (by omega)] at c
          simp [c]
      · have := h4 b hb
        unfold s_mc at this
        unfold s_okM
        by_cases c : nI (s_on m b) * nI s ≤ ru (5 + b)
        · simp [c]
        · rw [if_neg c, s_low_none] at this
          rw [this] at c
          exact absurd (by rw [nI_0, Int32.zero_mul]; exact hr.2 b hb) c
    · rintro ⟨-, h4⟩ b hb
      have := h4 b hb
      unfold s_okM at this
      unfold s_mc
      rw [if_pos (by simpa using this)]
  · rw [h2]
    show some j = none ↔ _
    refine ⟨fun e => (by cases e), fun h4 => ?_⟩
    have := h4.1 j h1
    unfold s_okR at this
    rw [h3] at this
    have h6 : s_rope m j (nI s) ≤ s_may m j wet := by
      rcases Bool.or_eq_true _ _ |>.mp this with e | e
      · simp at e
      · simpa using e
    rw [← s_over_le h hp h1 hs] at h6
    rw [Int32.lt_iff_toInt_lt] at h5
    rw [Int32.le_iff_toInt_le] at h6
    omega
theorem s_first_0 {m ru : Nat → Int32} (h : k_Rng m) (hp : k_Par m) (hr : R_pos ru) (wet : Int32) : s_first m ru 0 wet = none := by
  have hn := (s_na_e h).2.1
  refine (s_first_none h hp hr (s := 0) (by omega) wet).mpr ⟨fun i hi => ?_, fun b hb => ?_⟩
  · obtain ⟨r, e1, h1⟩ := s_rope_n h hp hi (s := 0) (by omega)
    obtain ⟨q, e2, h2⟩ := s_may_n h (i := i) (by omega) wet
    unfold s_okR
    rw [e1, e2]
    have : nI r ≤ nI q := nI_le (by omega) (by omega)
    simp [this]
  · unfold s_okM
    rw [nI_0]
    have := hr.2 b hb
    simp [this]
theorem y_holds20 {m ru : Nat → Int32} (h : k_Rng m) (hp : k_Par m) (a wet : Int32) (t : Bool) : lj_X9_holds_20 m ru a wet (if t then 1 else 0) = some (if (t && q_all (s_okR m (s_share m (s_force m ru a)) wet) (s_na m) && q_all (s_okM m ru (s_share m (s_force m ru a))) 3) = true then 1 else 0) := by
  obtain ⟨e11, hn, -⟩ := s_na_e h
  have k1 : k_lp (fun s : Int32 × Int32 => lb_X9_holds_24 m ru a wet s.1 s.2) k_fuel ((if t then 1 else 0), 0) = some (if (t && q_all (s_okR m (s_share m (s_force m ru a)) wet) (s_na m)) = true then 1 else 0) := by
    have := q_run (body := fun s : Int32 × Int32 => lb_X9_holds_24 m ru a wet s.1 s.2) (fun k => ((if (t && q_all (s_okR m (s_share m (s_force m ru a)) wet) k) = true then (1 : Int32) else 0), nI k)) (if (t && q_all (s_okR m (s_share m (s_force m ru a)) wet) (s_na m)) = true then 1 else 0) (s_na m) (fun i hi => by
      show lb_X9_holds_24 m ru a wet (if (t && q_all (s_okR m (s_share m (s_force m ru a)) wet) i) = true then (1 : Int32) else 0) (nI i) = some (Sum.inl ((if (t && (q_all (s_okR m (s_share m (s_force m ru a)) wet) i && s_okR m (s_share m (s_force m ru a)) wet i)) = true then (1 : Int32) else 0), nI (i + 1)))
      unfold lb_X9_holds_24
      rw [e11, q_ifge _ _ hi (by omega), q_ifp, q_o67, q_ix _ (by omega) (by omega), q_cl (by omega), y_ropeOf h hp ru hi, q_b1, y_may (by omega), q_b1, nI_succ, ← Bool.and_assoc]
      cases hq : (t && q_all (s_okR m (s_share m (s_force m ru a)) wet) i) with
      | false => simp
      | true =>
        unfold s_okR
        by_cases c : m (67 + i) = 0
        · simp [c]
        · by_cases c2 : s_may m i wet < s_rope m i (s_share m (s_force m ru a))
          · have c3 : ¬ s_rope m i (s_share m (s_force m ru a)) ≤ s_may m i wet := fun hh => absurd c2 (q_nlt.mpr hh)
            simp [c, c2, c3]
          · have c3 := q_nlt.mp c2
            simp [c, c2, c3]) (by
      show lb_X9_holds_24 m ru a wet _ (nI (s_na m)) = _
      unfold lb_X9_holds_24
      rw [e11, q_ifle _ _ (Nat.le_refl _) (by omega)]) (by omega)
    simpa [q_all, nI_0] using this
  have k2 : ∀ t2 : Bool, k_lp (fun s : Int32 × Int32 => lb_X9_holds_85 m ru a s.1 s.2) k_fuel ((if t2 = true then 1 else 0), 0) = some (if (t2 && q_all (s_okM m ru (s_share m (s_force m ru a))) 3) = true then 1 else 0) := by
    intro t2
    have := q_run (body := fun s : Int32 × Int32 => lb_X9_holds_85 m ru a s.1 s.2) (fun k => ((if (t2 && q_all (s_okM m ru (s_share m (s_force m ru a))) k) = true then (1 : Int32) else 0), nI k)) (if (t2 && q_all (s_okM m ru (s_share m (s_force m ru a))) 3) = true then 1 else 0) 3 (fun i hi => by
      show lb_X9_holds_85 m ru a (if (t2 && q_all (s_okM m ru (s_share m (s_force m ru a))) i) = true then (1 : Int32) else 0) (nI i) = some (Sum.inl ((if (t2 && (q_all (s_okM m ru (s_share m (s_force m ru a))) i && s_okM m ru (s_share m (s_force m ru a)) i)) = true then (1 : Int32) else 0), nI (i + 1)))
      unfold lb_X9_holds_85
      rw [show (3 : Int32) = nI 3 from rfl, q_ifge _ _ hi (by omega), q_ifp, y_mastOf h, q_b1, q_o5, q_ix _ (by omega) (by omega), q_cl (by omega), nI_succ, ← Bool.and_assoc]
      cases hq : (t2 && q_all (s_okM m ru (s_share m (s_force m ru a))) i) with
      | false => simp
      | true =>
        unfold s_okM
        by_cases c2 : ru (5 + i) < nI (s_on m i) * s_share m (s_force m ru a)
        · have c3 : ¬ nI (s_on m i) * s_share m (s_force m ru a) ≤ ru (5 + i) := fun hh => absurd c2 (q_nlt.mpr hh)
          simp [c2, c3]
        · have c3 := q_nlt.mp c2
          simp [c2, c3]) (by
      show lb_X9_holds_85 m ru a _ (nI 3) = _
      unfold lb_X9_holds_85
      rw [show (3 : Int32) = nI 3 from rfl, q_ifle _ _ (Nat.le_refl _) (by omega)]) (by omega)
    simpa [q_all, nI_0] using this
  unfold lj_X9_holds_20
  rw [k1, q_b1, k2, q_b1, q_ck01]
theorem y_holds {m ru : Nat → Int32} (h : k_Rng m) (hp : k_Par m) (hr : R_pos ru) {a : Int32} (ha : kr a (-9) 9) (wet : Int32) : p_X9_holds m ru a wet = some (if s_holds m ru a wet = true then 1 else 0) := by
  have hw := s_W_le h
  obtain ⟨f, ef, hf, hf0⟩ := s_force_n h hr.1 ha
  obtain ⟨s, es, hs, hs0, -⟩ := s_share_n h hf
  have hall : (q_all (s_okR m (s_share m (s_force m ru a)) wet) (s_na m) && q_all (s_okM m ru (s_share m (s_force m ru a))) 3) = (s_first m ru (s_share m (s_force m ru a)) wet).isNone := by
    rw [ef, es, Bool.eq_iff_iff, Bool.and_eq_true, q_all_iff, q_all_iff, ← s_first_none h hp hr (by omega) wet, Option.isNone_iff_eq_none]
  unfold p_X9_holds s_holds
  rw [y_wholes h, q_b1]
  have e20 := fun t => y_holds20 (ru := ru) h hp a wet t
  rcases Nat.eq_zero_or_pos (s_W m) with c | c
  · rw [c, if_neg (by decide), y_force h, q_b1]
    by_cases c1 : s_force m ru a = 0
    · rw [if_pos c1]
      have := e20 true
      rw [if_pos rfl] at this
      rw [this, Bool.and_assoc, hall, c1]
      have e0 : s_share m 0 = 0 := by unfold s_share; rw [if_pos c]
      rw [e0, s_first_0 h hp hr]; simp
    · rw [if_neg c1]
      have := e20 false
      rw [if_neg (by decide)] at this
      rw [this]; simp [c1]
  · rw [if_pos (by show nI 0 < _; rw [q_ltI (by omega) (by omega)]; exact c)]
    have := e20 true
    rw [if_pos rfl] at this
    rw [this, Bool.and_assoc, hall]
    by_cases c1 : s_force m ru a = 0
    · have f0 : f = 0 := by
        rw [ef, ← nI_0, nI_eq (by omega) (by omega)] at c1; exact c1
      rw [ef, es, hs0 f0, f0]
      rw [show nI 0 = 0 from rfl, s_first_0 h hp hr]; simp
    · have : ¬ s_W m = 0 := by omega
      simp [c1, this]
theorem s_holds_0 {m ru : Nat → Int32} {wet : Int32} {a : Int32} (h : s_force m ru a = 0) : s_holds m ru a wet = true := by
  unfold s_holds; simp [h]
theorem s_force_0 (m ru : Nat → Int32) : s_force m ru 0 = 0 := by
  unfold s_force
  rw [if_pos (by decide)]
  rw [Int32.mul_zero]; decide
end
section
/-! ===== what is kept when one cell is written ===== -/
theorem k_Inv_frame {m m' : Nat → Int32} (h : k_Inv m) (hr : k_Rng m') (h1 : m' 10 = m 10) (h2 : m' 11 = m 11) (h3 : m' 12 = m 12) (hu : ∀ i, i < 12 → m' (25 + i) = m (25 + i)) (hp : ∀ i, i < 6 → m' (55 + i) = m (55 + i)) (hs : ∀ i, i < 12 → m' (145 + i) = m (145 + i) ∧ m' (157 + i) = m (157 + i) ∧ m' (109 + i) = m (109 + i)) : k_Inv m' := by
  obtain ⟨g1, g2, g3, g4⟩ := h
  have e10 := s_nt_e g1
  have e11 := s_na_e g1
  have e12 := s_ns_e g1
  refine ⟨hr, fun i hi => ?_, fun i hi => ?_, fun i hi => ?_⟩
  · rw [h1] at hi
    rw [hu i (by omega)]; exact g2 i hi
  · rw [h2] at hi
    rw [hp i (by omega)]; exact g3 i hi
  · rw [h3] at hi
    obtain ⟨a, b, c⟩ := hs i (by omega)
    rw [a, b, c]; exact g4 i hi
theorem s_na_cong {m m' : Nat → Int32} (h : m' 11 = m 11) : s_na m' = s_na m := by unfold s_na; rw [h]
theorem s_nt_cong {m m' : Nat → Int32} (h : m' 10 = m 10) : s_nt m' = s_nt m := by unfold s_nt; rw [h]
theorem s_ns_cong {m m' : Nat → Int32} (h : m' 12 = m 12) : s_ns m' = s_ns m := by unfold s_ns; rw [h]
theorem k_out_cong {m m' : Nat → Int32} (h1 : m' 10 = m 10) (h2 : ∀ i, i < 12 → m' (37 + i) = m (37 + i)) : k_out m' = k_out m := by
  unfold k_out
  exact k_bits_cong fun i hi => by rw [h1, h2 i hi]
theorem k_wh_cong {m m' : Nat → Int32} (h1 : m' 11 = m 11) (h2 : ∀ i, i < 6 → m' (67 + i) = m (67 + i)) : k_wh m' = k_wh m := by
  unfold k_wh
  exact k_bits_cong fun i hi => by rw [h1, h2 i hi]
theorem s_total_cong {m m' ru : Nat → Int32} (h : k_Rng m) (h1 : m' 10 = m 10) (h2 : ∀ i, i < 12 → m' (37 + i) = m (37 + i)) (h3 : ∀ i, i < 12 → m' (13 + i) = m (13 + i)) : s_total m' ru = s_total m ru := by
  have hn := (s_nt_e h).2.1
  unfold s_total
  rw [s_nt_cong h1, q_sum_cong (f := s_wt m') (g := s_wt m) fun i hi => by unfold s_wt; rw [h2 i (by omega), h3 i (by omega)]]
/-! ===== a rope parts ===== -/
def s_cut (m : Nat → Int32) (i : Nat) : Nat → Int32 := upd (upd m (67 + i) 0) 8 (m 8 + 1)
def s_flat (m : Nat → Int32) : Nat → Int32 := if s_W m = 0 then upd m 1 0 else m
def s_part (m ru : Nat → Int32) (wet : Int32) : Nat → Int32 := match s_first m ru (s_share m (s_force m ru (m 1))) wet with
  | none => s_flat m
  | some i => s_flat (s_cut m i)
theorem s_cut_rng {m : Nat → Int32} (h : k_Rng m) {i : Nat} (hi : i < 6) : k_Rng (s_cut m i) := by
  unfold s_cut
  refine k_Rng_upd (k_Rng_upd h ?_) ?_
  · have e : ∀ i, i < 6 → k_lo (67 + i) = 0 ∧ k_hi (67 + i) = 1 := by decide
    rw [(e i hi).1, (e i hi).2]; exact ⟨by decide, by decide⟩
  · have := fb_rng (m 8 + 1)
    exact ⟨by show -2147483648 ≤ _; omega, by show _ ≤ 2147483647; omega⟩
theorem s_cut_at {m : Nat → Int32} {i k : Nat} (hi : i < 6) (h1 : k ≠ 67 + i) (h2 : k ≠ 8) : s_cut m i k = m k := by
  unfold s_cut; rw [upd_n h2, upd_n h1]
theorem s_cut_8 {m : Nat → Int32} {i : Nat} : s_cut m i 8 = m 8 + 1 := by unfold s_cut; rw [upd_s]
theorem s_cut_i {m : Nat → Int32} {i : Nat} : s_cut m i (67 + i) = 0 := by unfold s_cut; rw [upd_n (by omega), upd_s]
theorem s_cut_inv {m : Nat → Int32} (h : k_Inv m) {i : Nat} (hi : i < 6) : k_Inv (s_cut m i) :=
  k_Inv_frame h (s_cut_rng h.1 hi) (s_cut_at hi (by omega) (by omega)) (s_cut_at hi (by omega) (by omega)) (s_cut_at hi (by omega) (by omega)) (fun j hj => s_cut_at hi (by omega) (by omega)) (fun j hj => s_cut_at hi (by omega) (by omega)) (fun j hj => ⟨s_cut_at hi (by omega) (by omega), s_cut_at hi (by omega) (by omega), s_cut_at hi (by omega) (by omega)⟩)
theorem s_W_cut {m : Nat → Int32} {i : Nat} (hi : i < s_na m) (h6 : s_na m ≤ 6) (hw : m (67 + i) = 1) : s_W (s_cut m i) + 1 = s_W m := by
  unfold s_W
  rw [s_na_cong (s_cut_at (m := m) (i := i) (by omega) (by omega) (by omega))]
  have e := fb_ct_upd (fun k => decide (m (67 + k) = 1)) false (i := i) hi
  rw [fb_ct_cong (p := fun k => decide (s_cut m i (67 + k) = 1)) (q := fun k => if k = i then false else decide (m (67 + k) = 1)) (fun k hk => by
    by_cases c : k = i
    · subst c; rw [s_cut_i]; simp
    · rw [s_cut_at (by omega) (by omega) (by omega), if_neg c])]
  have e2 : (if (decide (m (67 + i) = 1)) = true then 1 else 0) = 1 := by simp [hw]
  have e3 : fb_ct (fun k => if k = i then false else decide (m (67 + k) = 1)) (s_na m) + (if (decide (m (67 + i) = 1)) = true then 1 else 0) = fb_ct (fun k => decide (m (67 + k) = 1)) (s_na m) + 0 := e
  rw [e2] at e3
  exact e3
theorem upd1_rng {m : Nat → Int32} (h : k_Rng m) : k_Rng (upd m 1 0) := k_Rng_upd h ⟨by decide, by decide⟩
theorem upd1_inv {m : Nat → Int32} (h : k_Inv m) : k_Inv (upd m 1 0) :=
  k_Inv_frame h (upd1_rng h.1) (upd_n (by omega)) (upd_n (by omega)) (upd_n (by omega)) (fun j hj => upd_n (by omega)) (fun j hj => upd_n (by omega)) (fun j hj => ⟨upd_n (by omega), upd_n (by omega), upd_n (by omega)⟩)
theorem s_W_upd1 (m : Nat → Int32) (x : Int32) : s_W (upd m 1 x) = s_W m := by
  unfold s_W
  rw [s_na_cong (m' := upd m 1 x) (upd_n (by omega))]
  exact fb_ct_cong fun k hk => by rw [upd_n (by omega)]
theorem y_lowest {m ru : Nat → Int32} (h : k_Rng m) (b : Nat) (hb : b < 3) (x : Int32) : k_lp (fun s : Int32 × Int32 => lb_X9_part_101 m ru (nI b) s.1 s.2) k_fuel (x, (m 11) - 1) = some (q_enc x (s_mc m ru (s_share m (s_force m ru (m 1))) b)) := by
  obtain ⟨e11, hn, -⟩ := s_na_e h
  generalize hsh : s_share m (s_force m ru (m 1)) = sh
  obtain ⟨e, he, hE⟩ := q_lpI (body := fun s : Int32 × Int32 => lb_X9_part_101 m ru (nI b) s.1 s.2) (fun k s => s.2 = nI (s_na m - k) - 1 ∧ ((s.1 = x ∧ (nI (s_on m b) * sh ≤ ru (5 + b) ∨ ∀ i, s_na m - k ≤ i → i < s_na m → s_onp m b i = false)) ∨ (¬ nI (s_on m b) * sh ≤ ru (5 + b) ∧ ∃ i, s_na m - k ≤ i ∧ i < s_na m ∧ s_onp m b i = true ∧ (∀ j, s_na m - k ≤ j → j < i → s_onp m b j = false) ∧ s.1 = nI i))) (fun e => e = q_enc x (s_mc m ru sh b)) (s_na m) (fun k s hk hs => by
    obtain ⟨s1, s2⟩ := s
    obtain ⟨h1, h2⟩ := hs
    have h1' : s2 = nI (s_na m - (k + 1)) := by
      have : s2 = nI (s_na m - k) - 1 := h1
      rw [this, show s_na m - k = s_na m - (k + 1) + 1 from by omega, nI_pred]
    subst h1'
    have hlt : s_na m - (k + 1) < 6 := by omega
    show ∃ X, lb_X9_part_101 m ru (nI b) s1 (nI (s_na m - (k + 1))) = some X ∧ _
    unfold lb_X9_part_101
    rw [if_neg (nI_pos (by omega)), y_mastOf h, hsh, q_b1, q_o5, q_ix _ (by omega) (by omega), q_cl (by omega), q_o67, q_o49, q_ix _ (by omega) (by omega), q_cl (by omega), q_ix _ (by omega) (by omega), q_cl (by omega)]
    have hd : nI (s_na m - (k + 1)) + (-1) = nI (s_na m - (k + 1)) - 1 := by rw [Int32.sub_eq_add_neg]
    rw [hd]
    by_cases c : nI (s_on m b) * sh ≤ ru (5 + b)
    · rw [if_pos c]
      refine ⟨_, rfl, Or.inl ⟨_, rfl, rfl, ?_⟩⟩
      rcases h2 with ⟨h3, -⟩ | ⟨h3, -⟩
      · exact Or.inl ⟨h3, Or.inl c⟩
      · exact absurd c h3
    · rw [if_neg c]
      cases hp : s_onp m b (s_na m - (k + 1)) with
      | true =>
        have hp2 := hp
        unfold s_onp at hp2
        simp only [Bool.and_eq_true, decide_eq_true_eq] at hp2
        rw [if_pos hp2.1, if_pos hp2.2]
        refine ⟨_, rfl, Or.inl ⟨_, rfl, rfl, Or.inr ⟨c, s_na m - (k + 1), by omega, by omega, hp, fun j hj1 hj2 => by omega, rfl⟩⟩⟩
      | false =>
        have hX : (if m (67 + (s_na m - (k + 1))) = 1 then (if m (49 + (s_na m - (k + 1))) = nI b then some (Sum.inl (nI (s_na m - (k + 1)), nI (s_na m - (k + 1)) - 1)) else some (Sum.inl (s1, nI (s_na m - (k + 1)) - 1))) else some (Sum.inl (s1, nI (s_na m - (k + 1)) - 1))) = (some (Sum.inl (s1, nI (s_na m - (k + 1)) - 1)) : Option ((Int32 × Int32) ⊕ Int32)) := by
          unfold s_onp at hp
          by_cases c1 : m (67 + (s_na m - (k + 1))) = 1
          · by_cases c2 : m (49 + (s_na m - (k + 1))) = nI b
            · simp [c1, c2] at hp
            · rw [if_pos c1, if_neg c2]
          · rw [if_neg c1]
        rw [hX]
        refine ⟨_, rfl, Or.inl ⟨_, rfl, rfl, ?_⟩⟩
        rcases h2 with ⟨h3, h4⟩ | ⟨h3, i, h4, h5, h6, h7, h8⟩
        · refine Or.inl ⟨h3, Or.inr fun i hi1 hi2 => ?_⟩
          rcases h4 with h4 | h4
          · exact absurd h4 c
          · by_cases e : i = s_na m - (k + 1)
            · subst e; exact hp
            · exact h4 i (by omega) hi2
        · refine Or.inr ⟨h3, i, by omega, h5, h6, fun j hj1 hj2 => ?_, h8⟩
          by_cases e : j = s_na m - (k + 1)
          · subst e; exact hp
          · exact h7 j (by omega) hj2) (fun s hs => by
    obtain ⟨s1, s2⟩ := s
    obtain ⟨h1, h2⟩ := hs
    have h1' : s2 = nI 0 - 1 := by
      have : s2 = nI (s_na m - s_na m) - 1 := h1
      rw [this, Nat.sub_self]
    subst h1'
    refine ⟨s1, ?_, ?_⟩
    · show lb_X9_part_101 m ru (nI b) s1 (nI 0 - 1) = _
      unfold lb_X9_part_101
      rw [if_pos (by decide)]
    · unfold s_mc
      rcases h2 with ⟨h3, h4⟩ | ⟨h3, i, h4, h5, h6, h7, h8⟩
      · rcases h4 with h4 | h4
        · rw [if_pos h4]; exact h3
        · by_cases c : nI (s_on m b) * sh ≤ ru (5 + b)
          · rw [if_pos c]; exact h3
          · rw [if_neg c]
            have : s_low m b = none := by
              unfold s_low
              rw [q_find_none]
              intro i hi
              rw [h4 i (by omega) hi]; rfl
            rw [this]; exact h3
      · rw [if_neg h3]
        have : s_low m b = some i := by
          unfold s_low
          rw [q_find_some]
          exact ⟨i, h5, by rw [h6]; rfl, fun j hj => by rw [h7 j (by omega) hj]; rfl⟩
        rw [this]; exact h8) (x, (m 11) - 1) ⟨by rw [e11]; rfl, Or.inl ⟨rfl, Or.inr fun i hi1 hi2 => by omega⟩⟩ (by omega)
  rw [he, hE]
theorem q_enc_enc (d : Int32) (o : Option Nat) : q_enc (q_enc d o) none = q_enc d o := rfl
theorem y_part {m ru : Nat → Int32} (h : k_Rng m) (hp : k_Par m) (wet : Int32) : p_X9_part m ru wet = some (s_part m ru wet) := by
  obtain ⟨e11, hn, -⟩ := s_na_e h
  unfold p_X9_part
  rw [y_mostOver h hp wet, q_b2]
  have hfl : ∀ x : Nat → Int32, k_Rng x → (k_b1 (p_X9_wholes x) fun r88 => if r88 = 0 then some (upd x 1 0) else some x) = some (s_flat x) := by
    intro x hx
    have := s_W_le hx
    rw [y_wholes hx, q_b1]
    unfold s_flat
    rcases Nat.eq_zero_or_pos (s_W x) with c | c
    · rw [c, if_pos (show nI 0 = 0 from rfl), if_pos rfl]
    · rw [if_neg (nI_ne0 c (by omega)), if_neg (by omega)]
  have hl : k_lp (fun s : Int32 × Int32 => lb_X9_part_81 (s_ro m (s_share m (s_force m ru (m 1))) wet (s_na m)).1 m ru s.1 s.2) k_fuel (q_enc (-4) (s_ro m (s_share m (s_force m ru (m 1))) wet (s_na m)).2, 2) = some (q_enc (-4) (s_first m ru (s_share m (s_force m ru (m 1))) wet)) := by
    rcases s_ro_inv (m := m) (s_share m (s_force m ru (m 1))) wet (s_na m) with ⟨h1, h2, -⟩ | ⟨j, h1, h2, -, h4, -⟩
    · unfold s_first
      rw [h1, h2]
      have := q_run (body := fun s : Int32 × Int32 => lb_X9_part_81 0 m ru s.1 s.2) (fun k => (match k with | 0 => (-4 : Int32) | 1 => q_enc (-4) (s_mc m ru (s_share m (s_force m ru (m 1))) 2) | 2 => q_enc (q_enc (-4) (s_mc m ru (s_share m (s_force m ru (m 1))) 2)) (s_mc m ru (s_share m (s_force m ru (m 1))) 1) | _ => q_enc (q_enc (q_enc (-4) (s_mc m ru (s_share m (s_force m ru (m 1))) 2)) (s_mc m ru (s_share m (s_force m ru (m 1))) 1)) (s_mc m ru (s_share m (s_force m ru (m 1))) 0), nI (3 - k) - 1)) (q_enc (q_enc (q_enc (-4) (s_mc m ru (s_share m (s_force m ru (m 1))) 2)) (s_mc m ru (s_share m (s_force m ru (m 1))) 1)) (s_mc m ru (s_share m (s_force m ru (m 1))) 0)) 3 (fun i hi => by
        match i, hi with
        | 0, _ =>
          show lb_X9_part_81 0 m ru (-4) (nI 2) = some (.inl (_, nI 1))
          unfold lb_X9_part_81
          rw [if_neg (nI_pos (by omega)), if_pos rfl, y_lowest h 2 (by omega), q_b1]; rfl
        | 1, _ =>
          show lb_X9_part_81 0 m ru _ (nI 1) = some (.inl (_, nI 0))
          unfold lb_X9_part_81
          rw [if_neg (nI_pos (by omega)), if_pos rfl, y_lowest h 1 (by omega), q_b1]; rfl
        | 2, _ =>
          show lb_X9_part_81 0 m ru _ (nI 0) = some (.inl (_, nI 0 - 1))
          unfold lb_X9_part_81
          rw [if_neg (nI_pos (by omega)), if_pos rfl, y_lowest h 0 (by omega), q_b1]; rfl) (by
        show lb_X9_part_81 0 m ru _ (nI 0 - 1) = _
        unfold lb_X9_part_81
        rw [if_pos (by decide)]; rfl) (by omega)
      refine Eq.trans this ?_
      congr 1
      show _ = q_enc (-4) (q_find (s_mc m ru (s_share m (s_force m ru (m 1)))) 3)
      unfold q_find q_find q_find q_find
      cases s_mc m ru (s_share m (s_force m ru (m 1))) 0 <;> cases s_mc m ru (s_share m (s_force m ru (m 1))) 1 <;> cases s_mc m ru (s_share m (s_force m ru (m 1))) 2 <;> rfl
    · unfold s_first
      rw [h2]
      refine q_run (fun _ => (nI j, (2 : Int32))) _ 0 (fun j hj => absurd hj (by omega)) ?_ (by omega)
      show lb_X9_part_81 _ m ru (nI j) 2 = _
      unfold lb_X9_part_81
      rw [if_neg (by decide), if_neg (fun e => by rw [e] at h4; exact absurd h4 (by decide))]; rfl
  rw [hl, q_b1]
  unfold s_part
  cases hf : s_first m ru (s_share m (s_force m ru (m 1))) wet with
  | none =>
    rw [if_pos (show q_enc (-4) none = -4 from rfl)]
    exact hfl m h
  | some i =>
    have hi := (s_first_some hf).1
    have hne : ¬ q_enc (-4) (some i) = -4 := by
      show ¬ nI i = -4
      intro e
      have := congrArg Int32.toInt e
      rw [q_ti (by omega), show (-4 : Int32).toInt = -4 from by decide] at this
      omega
    simp only [show q_enc (-4) (some i) = nI i from rfl] at hne ⊢
    rw [if_neg hne, q_o67, q_ix _ (by omega) (by omega), q_cl (by omega), upd_n (show (8 : Nat) ≠ 67 + i by omega)]
    exact hfl (s_cut m i) (s_cut_rng h (by omega))
end
section
/-! ===== as long as HEEL does not HOLD, a rope parts ===== -/
theorem s_force_cong {m m' ru : Nat → Int32} (h : k_Rng m) (h1 : m' 10 = m 10) (h2 : ∀ i, i < 12 → m' (37 + i) = m (37 + i)) (h3 : ∀ i, i < 12 → m' (13 + i) = m (13 + i)) (a : Int32) : s_force m' ru a = s_force m ru a := by
  unfold s_force; rw [s_total_cong h h1 h2 h3]
/-- the cells that a parting may write -/
def R_pt (m m' : Nat → Int32) : Prop := ∀ k, k ≠ 1 → k ≠ 8 → (k < 67 ∨ 73 ≤ k) → m' k = m k
theorem k_wh_cut {m : Nat → Int32} (h : k_Rng m) {i : Nat} (hi : i < s_na m) (hw : m (67 + i) = 1) : nI (k_wh m) &&& ((1 <<< (nI i &&& 31)) ^^^ (-1)) = nI (k_wh (s_cut m i)) := by
  have hn := (s_na_e h).2.1
  refine k_wh_of (s_cut_rng h (by omega)) fun j hj => ?_
  rw [b_and, bt_not _ hj, bt_one i (by omega) hj, k_wh_bt h hj, s_na_cong (s_cut_at (m := m) (i := i) (by omega) (by omega) (by omega))]
  by_cases c : j = i
  · subst c; rw [s_cut_i]; simp
  · by_cases c2 : j < s_na m
    · rw [s_cut_at (by omega) (by omega) (by omega)]; simp [c]
    · simp [c2]
theorem xy_tackles {ru ru' wt ma pr sg : Nat → Int32} {ot ts tas he wet : Int32} (hr : R_rl ru' ru) (hpos : R_pos ru) (hhe : kr he (-9) 9) : ∀ (w : Nat) (m : Nat → Int32) (c : Nat), s_W m = w → c + w ≤ 6 → k_Inv m → m 1 = he → ot = nI (k_out m) → ts = m 10 → (∀ i, i < 12 → wt i = m (13 + i)) → tas = m 11 → (∀ i, i < 6 → ma i = m (49 + i)) → (∀ i, i < 6 → pr i = m (55 + i)) → (∀ i, i < 6 → sg i = m (61 + i)) → ∃ m', (∀ F, w + 2 < F → k_lp (fun s => lb_X9_pass_434 ru wet s) F m = some m') ∧ (∀ F, w + 2 < F → k_lp (fun s : Int32 × Int32 × Int32 => lb_X4_partTackles_14 ru' ot ts wt he tas pr sg ma wet s.1 s.2.1 s.2.2) F (nI c, nI (k_wh m), m 8) = some (nI (k_wh m'), m' 8)) ∧ m' 1 = (if nI (k_wh m') = 0 then 0 else he) ∧ k_Inv m' ∧ R_pt m m' := by
  intro w
  induction w with
  | zero =>
    intro m c hw hc hI h1 h2 h3 h4 ht g0 g1 g2
    obtain ⟨hR, -, hP, -⟩ := id hI
    have hn := (s_na_e hR).2.1
    obtain ⟨f, ef, hf, hf0⟩ := s_force_n hR hpos.1 hhe (ru := ru)
    have esh : s_share m (s_force m ru he) = 0 := by unfold s_share; rw [if_pos hw]
    have hwh : nI (k_wh m) = 0 := by rw [k_wh_0 hR]; exact hw
    have hcls : ∀ F, 0 + 2 < F → k_lp (fun s : Int32 × Int32 × Int32 => lb_X4_partTackles_14 ru' ot ts wt he tas pr sg ma wet s.1 s.2.1 s.2.2) F (nI c, nI (k_wh m), m 8) = some (nI (k_wh m), m 8) := by
      intro F hF
      obtain ⟨F, rfl⟩ : ∃ f, F = f + 1 := ⟨F - 1, by omega⟩
      unfold k_lp
      have : lb_X4_partTackles_14 ru' ot ts wt he tas pr sg ma wet (nI c) (nI (k_wh m)) (m 8) = some (.inr (nI (k_wh m), m 8)) := by
        unfold lb_X4_partTackles_14
        by_cases c6 : (6 : Int32) ≤ nI c
        · rw [if_pos c6]
        · rw [if_neg c6, x_force hR hr.1 h2 h3 h4, q_b1, x_first hR hP hn ht g0 g1 g2 hr.2, q_b1, esh, s_first_0 hR hP hpos, if_neg (by decide)]
      rw [this]
    by_cases hz : f = 0
    · have hs : s_holds m ru (m 1) wet = true := s_holds_0 (by rw [h1, ef, hz]; rfl)
      refine ⟨m, fun F hF => ?_, hcls, ?_, hI, fun _ _ _ _ => rfl⟩
      · obtain ⟨F, rfl⟩ : ∃ f, F = f + 1 := ⟨F - 1, by omega⟩
        unfold k_lp
        have : lb_X9_pass_434 ru wet m = some (.inr m) := by
          unfold lb_X9_pass_434
          rw [y_holds hR hP hpos (by rw [h1]; exact hhe), q_b1, hs]; rfl
        rw [this]
      · rw [if_pos hwh, h1]; exact hf0.mp hz
    · have hs : s_holds m ru (m 1) wet = false := by
        unfold s_holds
        rw [h1, ef]
        have : ¬ nI f = 0 := nI_ne0 (by omega) (by omega)
        simp [this, hw]
      have hp1 : s_part m ru wet = upd m 1 0 := by
        unfold s_part
        rw [h1, esh, s_first_0 hR hP hpos]
        show s_flat m = _
        unfold s_flat; rw [if_pos hw]
      refine ⟨upd m 1 0, fun F hF => ?_, fun F hF => ?_, ?_, upd1_inv hI, fun k k1 _ _ => upd_n k1⟩
      · obtain ⟨F, rfl⟩ : ∃ f, F = f + 1 + 1 := ⟨F - 2, by omega⟩
        unfold k_lp
        have : lb_X9_pass_434 ru wet m = some (.inl (upd m 1 0)) := by
          unfold lb_X9_pass_434
          rw [y_holds hR hP hpos (by rw [h1]; exact hhe), q_b1, hs, y_part hR hP, q_b1, hp1]; rfl
        rw [this]
        show k_lp (fun s => lb_X9_pass_434 ru wet s) (F + 1) (upd m 1 0) = _
        unfold k_lp
        have h2 : lb_X9_pass_434 ru wet (upd m 1 0) = some (.inr (upd m 1 0)) := by
          unfold lb_X9_pass_434
          have hI' := upd1_inv hI
          rw [upd_s, y_holds hI'.1 hI'.2.2.1 hpos ⟨by decide, by decide⟩, q_b1, s_holds_0 (s_force_0 _ _)]; rfl
        rw [h2]
      · rw [hcls F hF, k_wh_cong (m := m) (m' := upd m 1 0) (upd_n (by omega)) (fun i hi => upd_n (by omega)), upd_n (by omega)]
      · rw [upd_s, k_wh_cong (m := m) (m' := upd m 1 0) (upd_n (by omega)) (fun i hi => upd_n (by omega)), if_pos hwh]
  | succ w ih =>
    intro m c hw hc hI h1 h2 h3 h4 ht g0 g1 g2
    obtain ⟨hR, -, hP, -⟩ := id hI
    have hn := (s_na_e hR).2.1
    obtain ⟨f, ef, hf, hf0⟩ := s_force_n hR hpos.1 hhe (ru := ru)
    have hwh : ¬ nI (k_wh m) = 0 := by rw [k_wh_0 hR]; omega
    have hc6 : ¬ (6 : Int32) ≤ nI c := by rw [show (6 : Int32) = nI 6 from rfl, q_leI (by omega) (by omega)]; omega
    cases hfi : s_first m ru (s_share m (s_force m ru he)) wet with
    | none =>
      have hs : s_holds m ru (m 1) wet = true := by
        unfold s_holds
        rw [h1, hfi]
        have : ¬ s_W m = 0 := by omega
        simp [this]
      refine ⟨m, fun F hF => ?_, fun F hF => ?_, ?_, hI, fun _ _ _ _ => rfl⟩
      · obtain ⟨F, rfl⟩ : ∃ f, F = f + 1 := ⟨F - 1, by omega⟩
        unfold k_lp
        have : lb_X9_pass_434 ru wet m = some (.inr m) := by
          unfold lb_X9_pass_434
          rw [y_holds hR hP hpos (by rw [h1]; exact hhe), q_b1, hs]; rfl
        rw [this]
      · obtain ⟨F, rfl⟩ : ∃ f, F = f + 1 := ⟨F - 1, by omega⟩
        unfold k_lp
        have : lb_X4_partTackles_14 ru' ot ts wt he tas pr sg ma wet (nI c) (nI (k_wh m)) (m 8) = some (.inr (nI (k_wh m), m 8)) := by
          unfold lb_X4_partTackles_14
          rw [if_neg hc6, x_force hR hr.1 h2 h3 h4, q_b1, x_first hR hP hn ht g0 g1 g2 hr.2, q_b1, hfi, if_neg (by decide)]
        rw [this]
      · rw [if_neg hwh, h1]
    | some i =>
      obtain ⟨hi, hwi⟩ := s_first_some hfi
      have hfne : ¬ s_force m ru he = 0 := by
        intro e
        rw [e] at hfi
        obtain ⟨s, es, hs, hs0, -⟩ := s_share_n hR (f := 0) (by omega)
        rw [show (0 : Int32) = nI 0 from rfl, es, hs0 rfl, show nI 0 = 0 from rfl, s_first_0 hR hP hpos] at hfi
        cases hfi
      have hs : s_holds m ru (m 1) wet = false := by
        unfold s_holds
        rw [h1, hfi]
        simp [hfne]
      have hp1 : s_part m ru wet = s_flat (s_cut m i) := by
        unfold s_part
        rw [h1, hfi]
      have hWc := s_W_cut hi hn hwi
      have hIc := s_cut_inv hI (i := i) (by omega)
      have at_ : ∀ k, k ≠ 67 + i → k ≠ 8 → s_cut m i k = m k := fun k e1 e2 => s_cut_at (by omega) e1 e2
      have hclsstep : lb_X4_partTackles_14 ru' ot ts wt he tas pr sg ma wet (nI c) (nI (k_wh m)) (m 8) = some (.inl (nI (c + 1), nI (k_wh (s_cut m i)), s_cut m i 8)) := by
        unfold lb_X4_partTackles_14
        rw [if_neg hc6, x_force hR hr.1 h2 h3 h4, q_b1, x_first hR hP hn ht g0 g1 g2 hr.2, q_b1, hfi, if_pos (show (0 : Int32) ≤ q_enc (-1) (some i) from nI_pos' (by omega)), nI_succ, s_cut_8]
        show some (Sum.inl (nI c + 1, nI (k_wh m) &&& ((1 <<< (nI i &&& 31)) ^^^ (-1)), m 8 + 1)) = _
        rw [k_wh_cut hR hi hwi]
      by_cases hlast : s_W (s_cut m i) = 0
      · -- the last one parts
        have hfl : s_flat (s_cut m i) = upd (s_cut m i) 1 0 := by unfold s_flat; rw [if_pos hlast]
        obtain ⟨m', a1, a2, a3, a4, a5⟩ := ih (s_cut m i) (c + 1) (by omega) (by omega) hIc (by rw [at_ 1 (by omega) (by omega), h1]) (by rw [h2, k_out_cong (m := m) (m' := s_cut m i) (at_ 10 (by omega) (by omega)) (fun j hj => at_ _ (by omega) (by omega))]) (by rw [h3, at_ 10 (by omega) (by omega)]) (fun j hj => by rw [h4 j hj, at_ _ (by omega) (by omega)]) (by rw [ht, at_ 11 (by omega) (by omega)]) (fun j hj => by rw [g0 j hj, at_ _ (by omega) (by omega)]) (fun j hj => by rw [g1 j hj, at_ _ (by omega) (by omega)]) (fun j hj => by rw [g2 j hj, at_ _ (by omega) (by omega)])
        have hkw : nI (k_wh (s_cut m i)) = 0 := by rw [k_wh_0 hIc.1]; exact hlast
        refine ⟨upd (s_cut m i) 1 0, fun F hF => ?_, fun F hF => ?_, ?_, upd1_inv hIc, fun k k1 k2 k3 => by rw [upd_n k1]; exact at_ k (by omega) k2⟩
        · obtain ⟨F, rfl⟩ : ∃ f, F = f + 1 + 1 := ⟨F - 2, by omega⟩
          unfold k_lp
          have : lb_X9_pass_434 ru wet m = some (.inl (upd (s_cut m i) 1 0)) := by
            unfold lb_X9_pass_434
            rw [y_holds hR hP hpos (by rw [h1]; exact hhe), q_b1, hs, y_part hR hP, q_b1, hp1, hfl]; rfl
          rw [this]
          show k_lp (fun s => lb_X9_pass_434 ru wet s) (F + 1) (upd (s_cut m i) 1 0) = _
          unfold k_lp
          have h2 : lb_X9_pass_434 ru wet (upd (s_cut m i) 1 0) = some (.inr (upd (s_cut m i) 1 0)) := by
            unfold lb_X9_pass_434
            have hI' := upd1_inv hIc
            rw [upd_s, y_holds hI'.1 hI'.2.2.1 hpos ⟨by decide, by decide⟩, q_b1, s_holds_0 (s_force_0 _ _)]; rfl
          rw [h2]
        · obtain ⟨F, rfl⟩ : ∃ f, F = f + 1 := ⟨F - 1, by omega⟩
          unfold k_lp
          rw [hclsstep]
          show k_lp (fun s : Int32 × Int32 × Int32 => lb_X4_partTackles_14 ru' ot ts wt he tas pr sg ma wet s.1 s.2.1 s.2.2) F (nI (c + 1), nI (k_wh (s_cut m i)), s_cut m i 8) = _
          obtain ⟨F, rfl⟩ : ∃ f, F = f + 1 := ⟨F - 1, by omega⟩
          unfold k_lp
          have : lb_X4_partTackles_14 ru' ot ts wt he tas pr sg ma wet (nI (c + 1)) (nI (k_wh (s_cut m i))) (s_cut m i 8) = some (.inr (nI (k_wh (s_cut m i)), s_cut m i 8)) := by
            unfold lb_X4_partTackles_14
            by_cases c6 : (6 : Int32) ≤ nI (c + 1)
            · rw [if_pos c6]
            · have e1 : ot = nI (k_out (s_cut m i)) := by rw [h2, k_out_cong (m := m) (m' := s_cut m i) (at_ 10 (by omega) (by omega)) (fun j hj => at_ _ (by omega) (by omega))]
              have esh : s_share (s_cut m i) (s_force (s_cut m i) ru he) = 0 := by unfold s_share; rw [if_pos hlast]
              rw [if_neg c6, x_force hIc.1 hr.1 e1 (by rw [h3, at_ 10 (by omega) (by omega)]) (fun j hj => by rw [h4 j hj, at_ _ (by omega) (by omega)]), q_b1, x_first hIc.1 hIc.2.2.1 (s_na_e hIc.1).2.1 (by rw [ht, at_ 11 (by omega) (by omega)]) (fun j hj => by rw [g0 j hj, at_ _ (by omega) (by omega)]) (fun j hj => by rw [g1 j hj, at_ _ (by omega) (by omega)]) (fun j hj => by rw [g2 j hj, at_ _ (by omega) (by omega)]) hr.2, q_b1, esh, s_first_0 hIc.1 hIc.2.2.1 hpos, if_neg (by decide)]
          rw [this, k_wh_cong (m := s_cut m i) (m' := upd (s_cut m i) 1 0) (upd_n (by omega)) (fun i hi => upd_n (by omega)), upd_n (by omega)]
        · rw [upd_s, k_wh_cong (m := s_cut m i) (m' := upd (s_cut m i) 1 0) (upd_n (by omega)) (fun i hi => upd_n (by omega)), if_pos hkw]
      · have hfl : s_flat (s_cut m i) = s_cut m i := by unfold s_flat; rw [if_neg hlast]
        obtain ⟨m', a1, a2, a3, a4, a5⟩ := ih (s_cut m i) (c + 1) (by omega) (by omega) hIc (by rw [at_ 1 (by omega) (by omega), h1]) (by rw [h2, k_out_cong (m := m) (m' := s_cut m i) (at_ 10 (by omega) (by omega)) (fun j hj => at_ _ (by omega) (by omega))]) (by rw [h3, at_ 10 (by omega) (by omega)]) (fun j hj => by rw [h4 j hj, at_ _ (by omega) (by omega)]) (by rw [ht, at_ 11 (by omega) (by omega)]) (fun j hj => by rw [g0 j hj, at_ _ (by omega) (by omega)]) (fun j hj => by rw [g1 j hj, at_ _ (by omega) (by omega)]) (fun j hj => by rw [g2 j hj, at_ _ (by omega) (by omega)])
        refine ⟨m', fun F hF => ?_, fun F hF => ?_, a3, a4, fun k k1 k2 k3 => by rw [a5 k k1 k2 k3]; exact at_ k (by omega) k2⟩
        · obtain ⟨F, rfl⟩ : ∃ f, F = f + 1 := ⟨F - 1, by omega⟩
          unfold k_lp
          have : lb_X9_pass_434 ru wet m = some (.inl (s_cut m i)) := by
            unfold lb_X9_pass_434
            rw [y_holds hR hP hpos (by rw [h1]; exact hhe), q_b1, hs, y_part hR hP, q_b1, hp1, hfl]; rfl
          rw [this]
          exact a1 F (by omega)
        · obtain ⟨F, rfl⟩ : ∃ f, F = f + 1 := ⟨F - 1, by omega⟩
          unfold k_lp
          rw [hclsstep]
          exact a2 F (by omega)
end
section
/-! ===== tide, rain, tap ===== -/
theorem q_clamp {h : Nat} (hh : h < 1000) : (if (0 : Int32) < (if 95 < nI h then 95 else nI h) then (if 95 < nI h then 95 else nI h) else 0) = nI (min h 95) := by
  have e : (if (95 : Int32) < nI h then (95 : Int32) else nI h) = nI (min h 95) := by
    by_cases c : 95 < h
    · rw [if_pos (show (95 : Int32) < nI h from nI_lt (a := 95) c (by omega)), Nat.min_eq_right (by omega)]; rfl
    · rw [if_neg (show ¬ (95 : Int32) < nI h from nI_nlt (a := 95) (by omega) (by omega)), Nat.min_eq_left (by omega)]
  rw [e]
  rcases Nat.eq_zero_or_pos (min h 95) with z | z
  · rw [z]; rfl
  · rw [if_pos (show (0 : Int32) < nI (min h 95) from nI_lt (a := 0) z (by omega))]
theorem x_tideIn (td : Nat → Int32) {h : Nat} (hh : h < 1000) : p_X5_tideIn td (nI h) = some (td (min h 95)) := by
  unfold p_X5_tideIn
  rw [q_clamp hh, q_ix _ (by omega) (by omega), q_cl (by omega)]
theorem y_tideIn (td : Nat → Int32) {h : Nat} (hh : h < 1000) : p_X9_tideIn td (nI h) = some (td (min h 95)) := by
  unfold p_X9_tideIn
  rw [show (95 : Int32) = nI 95 from rfl]
  by_cases c : h ≤ 95
  · rw [if_pos (by rw [q_leI (by omega) (by omega)]; exact c), q_ix _ (by omega) (by omega), q_cl (by omega), Nat.min_eq_left c]
  · rw [if_neg (by rw [q_leI (by omega) (by omega)]; exact c), Nat.min_eq_right (by omega)]
theorem x_rainsIn {rn : Nat → Int32} (hr : ∀ h, h < 96 → kr (rn h) 0 1) {h : Nat} (hh : h < 1000) : p_X5_rainsIn rn (nI h) = some (rn (min h 95)) := by
  unfold p_X5_rainsIn
  rw [q_clamp hh, q_ix _ (by omega) (by omega), q_cl (by omega), q_ck _ (q_01 (hr _ (by omega)))]
theorem y_rains {rn : Nat → Int32} (hr : ∀ h, h < 96 → kr (rn h) 0 1) {h : Nat} (hh : h < 1000) : p_X9_rains rn (nI h) = some (rn (min h 95)) := by
  unfold p_X9_rains
  rw [show (95 : Int32) = nI 95 from rfl]
  by_cases c : h ≤ 95
  · rw [if_pos (by rw [q_leI (by omega) (by omega)]; exact c), q_ix _ (by omega) (by omega), q_cl (by omega), Nat.min_eq_left c]
    rcases q_01 (hr h (by omega)) with e | e <;> rw [e] <;> rfl
  · rw [if_neg (by rw [q_leI (by omega) (by omega)]; exact c), Nat.min_eq_right (by omega)]
    rcases q_01 (hr 95 (by omega)) with e | e <;> rw [e] <;> rfl
theorem t_tide (t : Nat → Int32) (a1 a2 : Int32) : ∃ r t', p_X8_tide t a1 a2 = some (r, t') ∧ p_X9_tide t a1 a2 = some (r, 0, t') := by
  unfold p_X8_tide p_X9_tide
  simp only [q_within, q_isHour, q_in_0_60, q_b1, q_ifp]
  by_cases h1 : 0 ≤ a1 ∧ a1 ≤ 95
  · simp only [if_pos h1]
    by_cases h2 : 0 ≤ a2 ∧ a2 ≤ 60
    · simp only [if_pos h2]
      obtain ⟨j, -, hj, rfl⟩ := q_rng (a := 0) (b := 95) (by omega) (by omega) h1
      simp (disch := omega) only [q_ix, q_cl]
      exact ⟨_, _, rfl, rfl⟩
    · simp only [if_neg h2]; exact ⟨_, _, rfl, rfl⟩
  · simp only [if_neg h1]; exact ⟨_, _, rfl, rfl⟩
theorem sim_tide : k_Sim_tide R_all := by
  intro S L M a1 a2 hR
  obtain ⟨hc, ht, hrn, hru, hs, hk0, hk1, hk2, hp⟩ := hR
  obtain ⟨r, t', g1, g2⟩ := t_tide (M 12) a1 a2
  refine ⟨r, k_su S 1 t', L, k_su (k_su M 0 (fun _ => 0)) 12 t', ?_, ?_, hc, rfl, hrn, hru, hs, hk0, hk1, hk2, hp⟩
  · unfold pX_tide; rw [show S 1 = M 12 from ht, g1]; rfl
  · unfold pM_tide; rw [g2]; rfl
theorem q_upd_kr {f : Nat → Int32} {N : Nat} {a b : Int} (h : ∀ i, i < N → kr (f i) a b) {j : Nat} {x : Int32} (hx : kr x a b) : ∀ i, i < N → kr (upd f j x i) a b := by
  intro i hi
  by_cases e : i = j
  · subst e; rw [upd_s]; exact hx
  · rw [upd_n e]; exact h i hi
theorem t_rain {t : Nat → Int32} (ht : ∀ h, h < 96 → kr (t h) 0 1) {a1 a2 : Int32} (h2 : a2 = 0 ∨ a2 = 1) : ∃ r t', p_X8_rain t a1 a2 = some (r, t') ∧ p_X9_rain t a1 a2 = some (r, 0, t') ∧ ∀ h, h < 96 → kr (t' h) 0 1 := by
  unfold p_X8_rain p_X9_rain
  simp only [q_within, q_isHour, q_b1, q_ifp]
  by_cases h1 : 0 ≤ a1 ∧ a1 ≤ 95
  · simp only [if_pos h1]
    obtain ⟨j, -, hj, rfl⟩ := q_rng (a := 0) (b := 95) (by omega) (by omega) h1
    simp (disch := omega) only [q_ix, q_cl, q_asNumber, q_b1]
    have e : (if t j = 0 then (0 : Int32) else 1) = t j := by
      rcases q_01 (ht j (by omega)) with e | e <;> rw [e] <;> rfl
    rw [e]
    rcases h2 with rfl | rfl
    · rw [if_pos rfl, show vp_nar .boolean 0 = 0 from by decide +kernel]
      exact ⟨_, _, rfl, rfl, q_upd_kr ht ⟨by decide, by decide⟩⟩
    · rw [if_neg (by decide), show vp_nar .boolean 1 = 1 from by decide +kernel]
      exact ⟨_, _, rfl, rfl, q_upd_kr ht ⟨by decide, by decide⟩⟩
  · simp only [if_neg h1]; exact ⟨_, _, rfl, rfl, ht⟩
theorem sim_rain : k_Sim_rain R_all := by
  intro S L M a1 a2 hR h2
  obtain ⟨hc, ht, ⟨hrn, hrn2⟩, hru, hs, hk0, hk1, hk2, hp⟩ := hR
  obtain ⟨r, t', g1, g2, g3⟩ := t_rain (t := M 13) hrn2 (a1 := a1) h2
  refine ⟨r, k_su S 2 t', L, k_su (k_su M 0 (fun _ => 0)) 13 t', ?_, ?_, hc, ht, ⟨rfl, g3⟩, hru, hs, hk0, hk1, hk2, hp⟩
  · unfold pX_rain; rw [hrn, g1]; rfl
  · unfold pM_rain; rw [g2]; rfl
theorem q_kr {x : Int32} {a b : Int32} (h : a ≤ x ∧ x ≤ b) : kr x a.toInt b.toInt := ⟨Int32.le_iff_toInt_le.mp h.1, Int32.le_iff_toInt_le.mp h.2⟩
theorem t_tap {t : Nat → Int32} (ht : ∀ h, h < 30 → kr (t h) (-1) 1) (a1 a2 : Int32) : ∃ r t', p_X8_tap t a1 a2 = some (r, t') ∧ p_X9_tap t a1 a2 = some (r, 0, t') ∧ ∀ h, h < 30 → kr (t' h) (-1) 1 := by
  unfold p_X8_tap p_X9_tap
  simp only [q_within, q_in_0_29, q_in_m1_1, q_b1, q_ifp]
  by_cases h1 : 0 ≤ a1 ∧ a1 ≤ 29
  · simp only [if_pos h1]
    by_cases h2 : -1 ≤ a2 ∧ a2 ≤ 1
    · simp only [if_pos h2]
      obtain ⟨j, -, hj, rfl⟩ := q_rng (a := 0) (b := 29) (by omega) (by omega) h1
      simp (disch := omega) only [q_ix, q_cl]
      exact ⟨_, _, rfl, rfl, q_upd_kr ht (q_kr h2)⟩
    · simp only [if_neg h2]; exact ⟨_, _, rfl, rfl, ht⟩
  · simp only [if_neg h1]; exact ⟨_, _, rfl, rfl, ht⟩
theorem sim_tap : k_Sim_tap R_all := by
  intro S L M a1 a2 hR
  obtain ⟨hc, ht, hrn, hru, hs, hk0, hk1, hk2, ⟨hp, hp2⟩⟩ := hR
  obtain ⟨r, t', g1, g2, g3⟩ := t_tap (t := M 18) hp2 a1 a2
  refine ⟨r, k_su S 156 t', L, k_su (k_su M 0 (fun _ => 0)) 18 t', ?_, ?_, hc, ht, hrn, hru, hs, hk0, hk1, hk2, ⟨rfl, g3⟩⟩
  · unfold pX_tap; rw [hp, g1]; rfl
  · unfold pM_tap; rw [g2]; rfl
/-! ===== rule ===== -/
theorem R_rule_rl {f g : Nat → Int32} (h : R_rule f g) : R_rl f g ∧ R_pos g := by
  obtain ⟨⟨-, h1, -, -, h5, h6, h7⟩, -, k1, -, -, k5, k6, k7⟩ := h
  have z : (0 : Int32).toInt = 0 := by decide
  refine ⟨⟨h1, fun b hb => ?_⟩, k1, fun b hb => ?_⟩
  · match b, hb with
    | 0, _ => exact h5
    | 1, _ => exact h6
    | 2, _ => exact h7
  · match b, hb with
    | 0, _ => rw [Int32.le_iff_toInt_le, z]; exact k5.1
    | 1, _ => rw [Int32.le_iff_toInt_le, z]; exact k6.1
    | 2, _ => rw [Int32.le_iff_toInt_le, z]; exact k7.1
theorem x_rule (f : Nat → Int32) (p : Int32) {j : Nat} (hj : j < 8) (a2 : Int32) : p_X8_rule f p (nI j) a2 = if k_r1 j ≤ a2 ∧ a2 ≤ k_r2 j then (if j = 4 then some (p, f, a2) else some (f j, upd f j a2, p)) else some (-1, f, p) := by
  unfold p_X8_rule
  have h1 : (0 : Int32) ≤ nI j ∧ nI j ≤ 7 := ⟨nI_pos' (by omega), nI_le (b := 7) (by omega) (by omega)⟩
  simp only [q_within, q_b1, q_ifp, show (8 : Int32) - 1 = 7 from by decide]
  simp (disch := omega) only [if_pos h1, q_ix, q_cl]
  by_cases c : k_r1 j ≤ a2 ∧ a2 ≤ k_r2 j
  · rw [if_pos c, if_pos c]
    by_cases c2 : j = 4
    · subst c2; rfl
    · rw [if_neg (by rw [show (4 : Int32) = nI 4 from rfl, q_eqI (by omega) (by omega)]; exact c2), if_neg c2]
  · rw [if_neg c, if_neg c]
theorem y_rule (g m : Nat → Int32) {j : Nat} (hj : j < 8) (a2 : Int32) : p_X9_rule g m (nI j) a2 = if k_r1 j ≤ a2 ∧ a2 ≤ k_r2 j then (if j = 4 then some (m 5, 0, upd g 4 a2, upd m 5 a2) else some (g j, 0, upd g j a2, m)) else some (-1, 0, g, m) := by
  have h1 : (0 : Int32) ≤ nI j ∧ nI j ≤ 7 := ⟨nI_pos' (by omega), nI_le (b := 7) (by omega) (by omega)⟩
  unfold p_X9_rule lj_X9_rule_39 lj_X9_rule_73 lj_X9_rule_110
  simp only [q_in_0_7, q_in, q_b1, q_ifp]
  simp only [if_pos h1]
  match j, hj with
  | 0, _ =>
    rw [show k_r1 0 = 0 from rfl, show k_r2 0 = 40 from rfl]
    by_cases c : (0 : Int32) ≤ a2 ∧ a2 ≤ 40
    · rw [if_pos c]
      simp (decide := true) only [if_pos c, q_ix (n := 0) (N := 8), q_cl (n := 0), if_true, if_false]
    · rw [if_neg c]
      simp (decide := true) only [if_neg c, if_true, if_false]
  | 1, _ =>
    rw [show k_r1 1 = 100 from rfl, show k_r2 1 = 1000 from rfl]
    by_cases c : (100 : Int32) ≤ a2 ∧ a2 ≤ 1000
    · rw [if_pos c]
      simp (decide := true) only [if_pos c, q_ix (n := 1) (N := 8), q_cl (n := 1), if_true, if_false]
    · rw [if_neg c]
      simp (decide := true) only [if_neg c, if_true, if_false]
  | 2, _ =>
    rw [show k_r1 2 = 0 from rfl, show k_r2 2 = 2000 from rfl]
    by_cases c : (0 : Int32) ≤ a2 ∧ a2 ≤ 2000
    · rw [if_pos c]
      simp (decide := true) only [if_pos c, q_ix (n := 2) (N := 8), q_cl (n := 2), if_true, if_false]
    · rw [if_neg c]
      simp (decide := true) only [if_neg c, if_true, if_false]
  | 3, _ =>
    rw [show k_r1 3 = 1 from rfl, show k_r2 3 = 20 from rfl]
    by_cases c : (1 : Int32) ≤ a2 ∧ a2 ≤ 20
    · rw [if_pos c]
      simp (decide := true) only [if_pos c, q_ix (n := 3) (N := 8), q_cl (n := 3), if_true, if_false]
    · rw [if_neg c]
      simp (decide := true) only [if_neg c, if_true, if_false]
  | 4, _ =>
    rw [show k_r1 4 = 0 from rfl, show k_r2 4 = 1000 from rfl]
    by_cases c : (0 : Int32) ≤ a2 ∧ a2 ≤ 1000
    · rw [if_pos c]
      simp (decide := true) only [if_pos c, q_ix (n := 4) (N := 8), q_cl (n := 4), if_true, if_false]
    · rw [if_neg c]
      simp (decide := true) only [if_neg c, if_true, if_false]
  | 5, _ =>
    rw [show k_r1 5 = 0 from rfl, show k_r2 5 = 1000 from rfl]
    by_cases c : (0 : Int32) ≤ a2 ∧ a2 ≤ 1000
    · rw [if_pos c]
      simp (decide := true) only [if_pos c, q_ix (n := 5) (N := 8), q_cl (n := 5), if_true, if_false]
    · rw [if_neg c]
      simp (decide := true) only [if_neg c, if_true, if_false]
  | 6, _ =>
    rw [show k_r1 6 = 0 from rfl, show k_r2 6 = 1000 from rfl]
    by_cases c : (0 : Int32) ≤ a2 ∧ a2 ≤ 1000
    · rw [if_pos c]
      simp (decide := true) only [if_pos c, q_ix (n := 6) (N := 8), q_cl (n := 6), if_true, if_false]
    · rw [if_neg c]
      simp (decide := true) only [if_neg c, if_true, if_false]
  | 7, _ =>
    rw [show k_r1 7 = 0 from rfl, show k_r2 7 = 1000 from rfl]
    by_cases c : (0 : Int32) ≤ a2 ∧ a2 ≤ 1000
    · rw [if_pos c]
      simp (decide := true) only [if_pos c, q_ix (n := 7) (N := 8), q_cl (n := 7), if_true, if_false]
    · rw [if_neg c]
      simp (decide := true) only [if_neg c, if_true, if_false]
theorem R_rule_upd {f g : Nat → Int32} (h : R_rule f g) {j : Nat} (hj : j < 8) (h4 : j ≠ 4) {a : Int32} (c : k_r1 j ≤ a ∧ a ≤ k_r2 j) : R_rule (upd f j a) (upd g j a) := by
  obtain ⟨⟨e0, e1, e2, e3, e5, e6, e7⟩, k0, k1, k2, k3, k5, k6, k7⟩ := h
  match j, hj with
  | 0, _ => exact ⟨⟨rfl, e1, e2, e3, e5, e6, e7⟩, q_kr c, k1, k2, k3, k5, k6, k7⟩
  | 1, _ => exact ⟨⟨e0, rfl, e2, e3, e5, e6, e7⟩, k0, q_kr c, k2, k3, k5, k6, k7⟩
  | 2, _ => exact ⟨⟨e0, e1, rfl, e3, e5, e6, e7⟩, k0, k1, q_kr c, k3, k5, k6, k7⟩
  | 3, _ => exact ⟨⟨e0, e1, e2, rfl, e5, e6, e7⟩, k0, k1, k2, q_kr c, k5, k6, k7⟩
  | 4, _ => exact absurd rfl h4
  | 5, _ => exact ⟨⟨e0, e1, e2, e3, rfl, e6, e7⟩, k0, k1, k2, k3, q_kr c, k6, k7⟩
  | 6, _ => exact ⟨⟨e0, e1, e2, e3, e5, rfl, e7⟩, k0, k1, k2, k3, k5, q_kr c, k7⟩
  | 7, _ => exact ⟨⟨e0, e1, e2, e3, e5, e6, rfl⟩, k0, k1, k2, k3, k5, k6, q_kr c⟩
theorem R_rule_g4 {f g : Nat → Int32} (h : R_rule f g) (a : Int32) : R_rule f (upd g 4 a) := h
theorem upd5_inv {m : Nat → Int32} (h : k_Inv m) {a : Int32} (ha : kr a 0 1000) : k_Inv (upd m 5 a) :=
  k_Inv_frame h (k_Rng_upd h.1 ha) (upd_n (by omega)) (upd_n (by omega)) (upd_n (by omega)) (fun j hj => upd_n (by omega)) (fun j hj => upd_n (by omega)) (fun j hj => ⟨upd_n (by omega), upd_n (by omega), upd_n (by omega)⟩)
theorem t_rule {f g m : Nat → Int32} (h : R_rule f g) (hm : k_Inv m) (a1 a2 : Int32) : ∃ r f' g' m', p_X8_rule f (m 5) a1 a2 = some (r, f', m' 5) ∧ p_X9_rule g m a1 a2 = some (r, 0, g', m') ∧ R_rule f' g' ∧ k_Inv m' ∧ ∀ k, k ≠ 5 → m' k = m k := by
  by_cases h1 : 0 ≤ a1 ∧ a1 ≤ 7
  · obtain ⟨j, -, hj, rfl⟩ := q_rng (a := 0) (b := 7) (by omega) (by omega) h1
    rw [x_rule f (m 5) (by omega) a2, y_rule g m (by omega) a2]
    by_cases c : k_r1 j ≤ a2 ∧ a2 ≤ k_r2 j
    · rw [if_pos c, if_pos c]
      by_cases c2 : j = 4
      · subst c2
        rw [if_pos rfl, if_pos rfl]
        exact ⟨_, _, _, upd m 5 a2, by rw [upd_s], rfl, R_rule_g4 h a2, upd5_inv hm (q_kr c), fun k hk => upd_n hk⟩
      · rw [if_neg c2, if_neg c2]
        have e : f j = g j := by
          obtain ⟨⟨e0, e1, e2, e3, e5, e6, e7⟩, -⟩ := h
          match j, hj with
          | 0, _ => exact e0
          | 1, _ => exact e1
          | 2, _ => exact e2
          | 3, _ => exact e3
          | 4, _ => exact absurd rfl c2
          | 5, _ => exact e5
          | 6, _ => exact e6
          | 7, _ => exact e7
        rw [e]
        exact ⟨_, _, _, m, rfl, rfl, R_rule_upd h (by omega) c2 c, hm, fun _ _ => rfl⟩
    · rw [if_neg c, if_neg c]
      exact ⟨_, _, _, m, rfl, rfl, h, hm, fun _ _ => rfl⟩
  · unfold p_X8_rule p_X9_rule
    simp only [q_within, q_in_0_7, q_b1, q_ifp, show (8 : Int32) - 1 = 7 from by decide, if_neg h1]
    exact ⟨_, _, _, m, rfl, rfl, h, hm, fun _ _ => rfl⟩
end
section
/-- the ship is the same where the row differs in one number of its head -/
theorem sim_rule : k_Sim_rule R_all := by
  intro S L M a1 a2 hR
  obtain ⟨hc, ht, hrn, hru, hs, hk0, hk1, hk2, hp⟩ := hR
  obtain ⟨⟨e0, e1, e2, e5, e3, e4, e6, e7, e8, e9, eo, ets, ew, eta, ess⟩, hth, hta, hse, hI⟩ := hs
  obtain ⟨r, f', g', m', g1, g2, g3, g4, g5⟩ := t_rule hru hI a1 a2
  refine ⟨r, k_su (k_su S 3 f') 7 (fun _ => m' 5), L, k_su (k_su (k_su M 0 (fun _ => 0)) 14 g') 9 m', ?_, ?_, hc, ht, hrn, g3, ⟨⟨?_, ?_, ?_, rfl, ?_, ?_, ?_, ?_, ?_, ?_, ?_, ?_, ?_, ?_, ?_⟩, fun i hi => ?_, fun i hi => ?_, fun i hi => ?_, g4⟩, hk0, hk1, hk2, hp⟩
  · unfold pX_rule; rw [e5, g1]; rfl
  · unfold pM_rule; rw [g2]; rfl
  · exact e0.trans (g5 0 (by omega)).symm
  · exact e1.trans (g5 1 (by omega)).symm
  · exact e2.trans (g5 2 (by omega)).symm
  · exact e3.trans (g5 3 (by omega)).symm
  · exact e4.trans (g5 4 (by omega)).symm
  · exact e6.trans (g5 6 (by omega)).symm
  · exact e7.trans (g5 7 (by omega)).symm
  · exact e8.trans (g5 8 (by omega)).symm
  · exact e9.trans (g5 9 (by omega)).symm
  · refine eo.trans ?_
    exact congrArg nI (k_out_cong (m := M 9) (m' := m') (g5 10 (by omega)) (fun i hi => g5 _ (by omega))).symm
  · exact ets.trans (g5 10 (by omega)).symm
  · refine ew.trans ?_
    exact congrArg nI (k_wh_cong (m := M 9) (m' := m') (g5 11 (by omega)) (fun i hi => g5 _ (by omega))).symm
  · exact eta.trans (g5 11 (by omega)).symm
  · exact ess.trans (g5 12 (by omega)).symm
  · exact ⟨(hth i hi).1.trans (g5 _ (by omega)).symm, (hth i hi).2.trans (g5 _ (by omega)).symm⟩
  · exact ⟨(hta i hi).1.trans (g5 _ (by omega)).symm, (hta i hi).2.1.trans (g5 _ (by omega)).symm, (hta i hi).2.2.trans (g5 _ (by omega)).symm⟩
  · obtain ⟨a, b, c, d, e, f, g, h⟩ := hse i hi
    exact ⟨a.trans (g5 _ (by omega)).symm, b.trans (g5 _ (by omega)).symm, c.trans (g5 _ (by omega)).symm, d.trans (g5 _ (by omega)).symm, e.trans (g5 _ (by omega)).symm, f.trans (g5 _ (by omega)).symm, g.trans (g5 _ (by omega)).symm, h.trans (g5 _ (by omega)).symm⟩
end
section
/-! ===== a thing, a tackle, a seam more ===== -/
theorem q_sub1 {n : Nat} (hn : n ≤ 12) : (nI n - 1).toInt = (n : Int) - 1 := by
  rw [show (1 : Int32) = nI 1 from rfl, pk_sub_toInt (by omega) (by omega)]; rfl
theorem q_idx {n : Nat} (hn : n ≤ 12) {a : Int32} (h : 0 ≤ a ∧ a ≤ nI n - 1) : ∃ j, j < n ∧ a = nI j := by
  obtain ⟨h1, h2⟩ := h
  rw [Int32.le_iff_toInt_le] at h1 h2
  rw [q_sub1 hn] at h2
  rw [show (0 : Int32).toInt = 0 from by decide] at h1
  refine ⟨a.toInt.toNat, by omega, Int32.toInt_inj.mp ?_⟩
  rw [q_ti (by omega)]; omega
theorem q_idxm {n : Nat} (hn : n ≤ 12) {a : Int32} (h : -1 ≤ a ∧ a ≤ nI n - 1) : (a = -1) ∨ ∃ j, j < n ∧ a = nI j := by
  obtain ⟨h1, h2⟩ := h
  by_cases c : a = -1
  · exact Or.inl c
  · refine Or.inr (q_idx hn ⟨?_, h2⟩)
    rw [Int32.le_iff_toInt_le] at h1 ⊢
    rw [show (-1 : Int32).toInt = -1 from by decide] at h1
    rw [show (0 : Int32).toInt = 0 from by decide]
    have : a.toInt ≠ -1 := fun e => c (Int32.toInt_inj.mp (by rw [e]; decide))
    omega
def m_thing (m : Nat → Int32) (a1 a2 : Int32) : Nat → Int32 := upd (upd (upd (upd m (13 + s_nt m) a1) (25 + s_nt m) a2) (37 + s_nt m) 1) 10 (m 10 + 1)
theorem m_thing_inv {m : Nat → Int32} (h : k_Inv m) (hn : s_nt m < 12) {a1 a2 : Int32} (h1 : kr a1 1 100) (h2 : -1 ≤ a2.toInt ∧ a2.toInt < s_nt m) : k_Inv (m_thing m a1 a2) ∧ nI (k_out (m_thing m a1 a2)) = nI (k_out m) ∧ s_nt (m_thing m a1 a2) = s_nt m + 1 := by
  obtain ⟨e10, -, e10'⟩ := s_nt_e h.1
  have er : k_Rng (m_thing m a1 a2) := by
    have l13 : ∀ i, i < 12 → k_lo (13 + i) = 0 ∧ k_hi (13 + i) = 100 := by decide
    have l25 : ∀ i, i < 12 → k_lo (25 + i) = -1 ∧ k_hi (25 + i) = 11 := by decide
    have l37 : ∀ i, i < 12 → k_lo (37 + i) = 0 ∧ k_hi (37 + i) = 1 := by decide
    unfold m_thing
    refine k_Rng_upd (k_Rng_upd (k_Rng_upd (k_Rng_upd h.1 ?_) ?_) ?_) ?_
    · rw [(l13 _ hn).1, (l13 _ hn).2]; exact ⟨by have := h1.1; omega, h1.2⟩
    · rw [(l25 _ hn).1, (l25 _ hn).2]; exact ⟨h2.1, by omega⟩
    · rw [(l37 _ hn).1, (l37 _ hn).2]; exact ⟨by decide, by decide⟩
    · rw [e10, nI_1]
      show 0 ≤ _ ∧ _ ≤ 12
      rw [q_ti (by omega)]; omega
  have e1 : m_thing m a1 a2 10 = nI (s_nt m + 1) := by unfold m_thing; rw [upd_s, e10, nI_1]
  have e2 : s_nt (m_thing m a1 a2) = s_nt m + 1 := by unfold s_nt; rw [e1, q_cl (by omega)]; rfl
  have fr : ∀ k, k ≠ 10 → k ≠ 13 + s_nt m → k ≠ 25 + s_nt m → k ≠ 37 + s_nt m → m_thing m a1 a2 k = m k := by
    intro k k1 k2 k3 k4
    unfold m_thing
    rw [upd_n k1, upd_n k4, upd_n k3, upd_n k2]
  have e10'' : (m_thing m a1 a2 10).toInt = (s_nt m : Int) + 1 := by rw [e1, q_ti (by omega)]; rfl
  refine ⟨⟨er, fun i hi => ?_, fun i hi => ?_, fun i hi => ?_⟩, ?_, e2⟩
  · rw [e10''] at hi
    by_cases c : i = s_nt m
    · subst c
      have : m_thing m a1 a2 (25 + s_nt m) = a2 := by unfold m_thing; simp (disch := omega) only [upd_n, upd_s]
      rw [this]; omega
    · rw [fr _ (by omega) (by omega) (by omega) (by omega)]
      exact h.2.1 i (by omega)
  · have hn6 := (s_na_e h.1).2.2
    have hn7 := (s_na_e h.1).2.1
    rw [fr 11 (by omega) (by omega) (by omega) (by omega)] at hi
    rw [fr _ (by omega) (by omega) (by omega) (by omega)]
    exact h.2.2.1 i hi
  · have hn6 := (s_ns_e h.1).2.2
    have hn7 := (s_ns_e h.1).2.1
    rw [fr 12 (by omega) (by omega) (by omega) (by omega)] at hi
    rw [fr _ (by omega) (by omega) (by omega) (by omega), fr _ (by omega) (by omega) (by omega) (by omega), fr _ (by omega) (by omega) (by omega) (by omega)]
    exact h.2.2.2 i hi
  · refine (k_out_of er fun i hi => ?_).symm
    rw [k_out_bt h.1 hi, e2]
    by_cases c : i = s_nt m
    · subst c
      have : m_thing m a1 a2 (37 + s_nt m) = 1 := by unfold m_thing; simp (disch := omega) only [upd_n, upd_s]
      rw [this]; simp
    · by_cases c2 : i < s_nt m
      · rw [fr _ (by omega) (by omega) (by omega) (by omega)]; simp [c2, show i < s_nt m + 1 from by omega]
      · simp [c2, show ¬ i < s_nt m + 1 from by omega]
theorem t_thing {m wt un : Nat → Int32} {ot ts : Int32} (h : k_Inv m) (eo : ot = nI (k_out m)) (ets : ts = m 10) (hth : ∀ i, i < 12 → wt i = m (13 + i) ∧ un i = m (25 + i)) (a1 a2 : Int32) : ∃ r ts' wt' un' m', p_X8_thing ot ts wt un a1 a2 = some (r, ts', wt', un') ∧ p_X9_thing m a1 a2 = some (r, 0, m') ∧ k_Inv m' ∧ nI (k_out m') = nI (k_out m) ∧ ts' = m' 10 ∧ (∀ i, i < 12 → wt' i = m' (13 + i) ∧ un' i = m' (25 + i)) ∧ (∀ k, (k ≠ 10 ∧ (k < 13 ∨ 49 ≤ k)) → m' k = m k) := by
  obtain ⟨e10, hn, e10'⟩ := s_nt_e h.1
  subst eo; subst ets
  unfold p_X8_thing p_X9_thing
  rw [e10]
  simp only [q_within, q_in_1_100, q_in_m1_c, q_b1, q_ifp]
  by_cases h1 : 1 ≤ a1 ∧ a1 ≤ 100
  · simp only [if_pos h1]
    by_cases h2 : -1 ≤ a2 ∧ a2 ≤ nI (s_nt m) - 1
    · simp only [if_pos h2]
      have full : s_nt m < 12 → -1 ≤ a2.toInt ∧ a2.toInt < s_nt m → ∃ r ts' wt' un' m', (if nI (s_nt m) < 12 then k_b4 (p_X7_add (nI (s_nt m)) wt un a1 a2) fun r7 w8 w9 w10 => some (r7, w8, w9, w10) else some (-3, nI (s_nt m), wt, un)) = some (r, ts', wt', un') ∧ (if nI (s_nt m) = 12 then some (-3, (0 : Int32), m) else k_ix (13 + nI (s_nt m)) 169 (k_ix (25 + nI (s_nt m)) 169 (k_ix (37 + nI (s_nt m)) 169 (some (nI (s_nt m), 0, upd (upd (upd (upd m (13 + nI (s_nt m)).toNatClampNeg a1) (25 + nI (s_nt m)).toNatClampNeg a2) (37 + nI (s_nt m)).toNatClampNeg 1) 10 (((upd (upd (upd m (13 + nI (s_nt m)).toNatClampNeg a1) (25 + nI (s_nt m)).toNatClampNeg a2) (37 + nI (s_nt m)).toNatClampNeg 1) 10) + 1)))))) = some (r, 0, m') ∧ k_Inv m' ∧ nI (k_out m') = nI (k_out m) ∧ ts' = m' 10 ∧ (∀ i, i < 12 → wt' i = m' (13 + i) ∧ un' i = m' (25 + i)) ∧ (∀ k, (k ≠ 10 ∧ (k < 13 ∨ 49 ≤ k)) → m' k = m k) := by
        intro hlt ha2
        obtain ⟨i1, i2, i3⟩ := m_thing_inv h hlt (q_kr h1) ha2
        refine ⟨nI (s_nt m), nI (s_nt m + 1), upd wt (s_nt m) a1, upd un (s_nt m) a2, m_thing m a1 a2, ?_, ?_, i1, i2, ?_, fun i hi => ?_, fun k k1 => ?_⟩
        · rw [if_pos (show nI (s_nt m) < 12 from nI_lt (b := 12) hlt (by omega))]
          unfold p_X7_add
          simp (disch := omega) only [q_ix, q_cl]
          rw [nI_1, nI_pred]; rfl
        · rw [if_neg (by rw [show (12 : Int32) = nI 12 from rfl, q_eqI (by omega) (by omega)]; omega)]
          simp (disch := omega) only [q_o13, q_o25, q_o37, q_ix, q_cl, upd_n]
          unfold m_thing; rfl
        · unfold m_thing; rw [upd_s, e10, nI_1]
        · by_cases c : i = s_nt m
          · subst c
            unfold m_thing
            simp (disch := omega) only [upd_n, upd_s, and_self]
          · unfold m_thing
            simp (disch := omega) only [upd_n]
            exact hth i hi
        · unfold m_thing
          simp (disch := omega) only [upd_n]
      have full12 : ¬ s_nt m < 12 → (nI (s_nt m) = 12) ∧ ¬ nI (s_nt m) < 12 := by
        intro c
        have : s_nt m = 12 := by omega
        rw [this]; exact ⟨rfl, by decide⟩
      have same : ∀ v : Int32, ∃ r ts' wt' un' m', (some (v, nI (s_nt m), wt, un) : Option (Int32 × Int32 × (Nat → Int32) × (Nat → Int32))) = some (r, ts', wt', un') ∧ (some (v, 0, m) : Option (Int32 × Int32 × (Nat → Int32))) = some (r, 0, m') ∧ k_Inv m' ∧ nI (k_out m') = nI (k_out m) ∧ ts' = m' 10 ∧ (∀ i, i < 12 → wt' i = m' (13 + i) ∧ un' i = m' (25 + i)) ∧ (∀ k, (k ≠ 10 ∧ (k < 13 ∨ 49 ≤ k)) → m' k = m k) :=
        fun v => ⟨v, _, _, _, m, rfl, rfl, h, rfl, e10.symm, hth, fun _ _ => rfl⟩
      rcases q_idxm hn h2 with rfl | ⟨j, hj, rfl⟩
      · simp only [show ((-1 : Int32) < 0) = True from by decide, if_true]
        by_cases c : s_nt m < 12
        · exact full c ⟨by decide, by rw [show (-1 : Int32).toInt = -1 from by decide]; omega⟩
        · obtain ⟨c1, c2⟩ := full12 c
          rw [if_neg c2, if_pos c1]
          exact same _
      · rw [if_neg (nI_pos (by omega)), if_neg (nI_pos (by omega)), q_hasBit _ (by omega), q_b1, q_ifp, k_out_bt h.1 (by omega), decide_eq_true hj, Bool.true_and, q_o37, q_ix _ (by omega) (by omega), q_cl (by omega)]
        by_cases c0 : m (37 + j) = 0
        · rw [if_pos (by simpa using c0), if_pos c0]
          exact same _
        · rw [if_neg (by simpa using c0), if_neg c0]
          by_cases c : s_nt m < 12
          · exact full c (by rw [q_ti (by omega)]; omega)
          · obtain ⟨c1, c2⟩ := full12 c
            rw [if_neg c2, if_pos c1]
            exact same _
    · simp only [if_neg h2]; exact ⟨_, _, _, _, m, rfl, rfl, h, rfl, e10.symm, hth, fun _ _ => rfl⟩
  · simp only [if_neg h1]; exact ⟨_, _, _, _, m, rfl, rfl, h, rfl, e10.symm, hth, fun _ _ => rfl⟩
theorem sim_thing : k_Sim_thing R_all := by
  intro S L M a1 a2 hR
  obtain ⟨hc, ht, hrn, hru, hs, hk0, hk1, hk2, hp⟩ := hR
  obtain ⟨⟨e0, e1, e2, e5, e3, e4, e6, e7, e8, e9, eo, ets, ew, eta, ess⟩, hth, hta, hse, hI⟩ := hs
  obtain ⟨r, ts', wt', un', m', g1, g2, gI, go, gts, gth, g5⟩ := t_thing hI eo ets hth a1 a2
  refine ⟨r, k_su (k_su (k_su S 15 (fun _ => ts')) 16 wt') 17 un', L, k_su (k_su M 0 (fun _ => 0)) 9 m', ?_, ?_, hc, ht, hrn, hru, ⟨⟨e0.trans (g5 0 (by omega)).symm, e1.trans (g5 1 (by omega)).symm, e2.trans (g5 2 (by omega)).symm, e5.trans (g5 5 (by omega)).symm, e3.trans (g5 3 (by omega)).symm, e4.trans (g5 4 (by omega)).symm, e6.trans (g5 6 (by omega)).symm, e7.trans (g5 7 (by omega)).symm, e8.trans (g5 8 (by omega)).symm, e9.trans (g5 9 (by omega)).symm, eo.trans go.symm, gts, ew.trans (congrArg nI (k_wh_cong (m := M 9) (g5 11 (by omega)) (fun i hi => g5 _ (by omega)))).symm, eta.trans (g5 11 (by omega)).symm, ess.trans (g5 12 (by omega)).symm⟩, gth, fun i hi => ⟨(hta i hi).1.trans (g5 _ (by omega)).symm, (hta i hi).2.1.trans (g5 _ (by omega)).symm, (hta i hi).2.2.trans (g5 _ (by omega)).symm⟩, fun i hi => ⟨(hse i hi).1.trans (g5 _ (by omega)).symm, (hse i hi).2.1.trans (g5 _ (by omega)).symm, (hse i hi).2.2.1.trans (g5 _ (by omega)).symm, (hse i hi).2.2.2.1.trans (g5 _ (by omega)).symm, (hse i hi).2.2.2.2.1.trans (g5 _ (by omega)).symm, (hse i hi).2.2.2.2.2.1.trans (g5 _ (by omega)).symm, (hse i hi).2.2.2.2.2.2.1.trans (g5 _ (by omega)).symm, (hse i hi).2.2.2.2.2.2.2.trans (g5 _ (by omega)).symm⟩, gI⟩, hk0, hk1, hk2, hp⟩
  · unfold pX_thing; rw [g1]; rfl
  · unfold pM_thing; rw [g2]; rfl
def m_tackle (m : Nat → Int32) (a1 a2 a3 : Int32) : Nat → Int32 := upd (upd (upd (upd (upd m (49 + s_na m) a1) (55 + s_na m) a2) (61 + s_na m) a3) (67 + s_na m) 1) 11 (m 11 + 1)
theorem m_tackle_inv {m : Nat → Int32} (h : k_Inv m) (hn : s_na m < 6) {a1 a2 a3 : Int32} (h1 : kr a1 0 2) (h2 : kr a2 1 6) (h3 : kr a3 1 400) : k_Inv (m_tackle m a1 a2 a3) ∧ nI (k_wh m) ||| (1 <<< (nI (s_na m) &&& 31)) = nI (k_wh (m_tackle m a1 a2 a3)) := by
  obtain ⟨e11, -, e11'⟩ := s_na_e h.1
  have er : k_Rng (m_tackle m a1 a2 a3) := by
    have l49 : ∀ i, i < 6 → k_lo (49 + i) = 0 ∧ k_hi (49 + i) = 2 := by decide
    have l55 : ∀ i, i < 6 → k_lo (55 + i) = 0 ∧ k_hi (55 + i) = 6 := by decide
    have l61 : ∀ i, i < 6 → k_lo (61 + i) = 0 ∧ k_hi (61 + i) = 400 := by decide
    have l67 : ∀ i, i < 6 → k_lo (67 + i) = 0 ∧ k_hi (67 + i) = 1 := by decide
    unfold m_tackle
    refine k_Rng_upd (k_Rng_upd (k_Rng_upd (k_Rng_upd (k_Rng_upd h.1 ?_) ?_) ?_) ?_) ?_
    · rw [(l49 _ hn).1, (l49 _ hn).2]; exact h1
    · rw [(l55 _ hn).1, (l55 _ hn).2]; exact ⟨by have := h2.1; omega, h2.2⟩
    · rw [(l61 _ hn).1, (l61 _ hn).2]; exact ⟨by have := h3.1; omega, h3.2⟩
    · rw [(l67 _ hn).1, (l67 _ hn).2]; exact ⟨by decide, by decide⟩
    · rw [e11, nI_1]
      show 0 ≤ _ ∧ _ ≤ 6
      rw [q_ti (by omega)]; omega
  have e1 : m_tackle m a1 a2 a3 11 = nI (s_na m + 1) := by unfold m_tackle; rw [upd_s, e11, nI_1]
  have e2 : s_na (m_tackle m a1 a2 a3) = s_na m + 1 := by unfold s_na; rw [e1, q_cl (by omega)]; rfl
  have fr : ∀ k, k ≠ 11 → k ≠ 49 + s_na m → k ≠ 55 + s_na m → k ≠ 61 + s_na m → k ≠ 67 + s_na m → m_tackle m a1 a2 a3 k = m k := by
    intro k k1 k2 k3 k4 k5
    unfold m_tackle
    rw [upd_n k1, upd_n k5, upd_n k4, upd_n k3, upd_n k2]
  have e11'' : (m_tackle m a1 a2 a3 11).toInt = (s_na m : Int) + 1 := by rw [e1, q_ti (by omega)]; rfl
  refine ⟨⟨er, fun i hi => ?_, fun i hi => ?_, fun i hi => ?_⟩, ?_⟩
  · have hn6 := (s_nt_e h.1).2.2
    have hn7 := (s_nt_e h.1).2.1
    rw [fr 10 (by omega) (by omega) (by omega) (by omega) (by omega)] at hi
    rw [fr _ (by omega) (by omega) (by omega) (by omega) (by omega)]
    exact h.2.1 i hi
  · rw [e11''] at hi
    by_cases c : i = s_na m
    · subst c
      have : m_tackle m a1 a2 a3 (55 + s_na m) = a2 := by unfold m_tackle; simp (disch := omega) only [upd_n, upd_s]
      rw [this]; exact h2.1
    · rw [fr _ (by omega) (by omega) (by omega) (by omega) (by omega)]
      exact h.2.2.1 i (by omega)
  · have hn6 := (s_ns_e h.1).2.2
    have hn7 := (s_ns_e h.1).2.1
    rw [fr 12 (by omega) (by omega) (by omega) (by omega) (by omega)] at hi
    rw [fr _ (by omega) (by omega) (by omega) (by omega) (by omega), fr _ (by omega) (by omega) (by omega) (by omega) (by omega), fr _ (by omega) (by omega) (by omega) (by omega) (by omega)]
    exact h.2.2.2 i hi
  · refine k_wh_of er fun i hi => ?_
    rw [b_or, bt_one _ (by omega) hi, k_wh_bt h.1 hi, e2]
    by_cases c : i = s_na m
    · subst c
      have : m_tackle m a1 a2 a3 (67 + s_na m) = 1 := by unfold m_tackle; simp (disch := omega) only [upd_n, upd_s]
      rw [this]; simp
    · by_cases c2 : i < s_na m
      · rw [fr _ (by omega) (by omega) (by omega) (by omega) (by omega)]; simp [c, c2, show i < s_na m + 1 from by omega]
      · simp [c, c2, show ¬ i < s_na m + 1 from by omega]
theorem t_tackle {m ma pr sg : Nat → Int32} {wh tas : Int32} (h : k_Inv m) (ew : wh = nI (k_wh m)) (eta : tas = m 11) (hta : ∀ i, i < 6 → ma i = m (49 + i) ∧ pr i = m (55 + i) ∧ sg i = m (61 + i)) (a1 a2 a3 : Int32) : ∃ r wh' ts' ma' pr' sg' m', p_X8_tackle wh tas ma pr sg a1 a2 a3 = some (r, wh', ts', ma', pr', sg') ∧ p_X9_tackle m a1 a2 a3 = some (r, 0, m') ∧ k_Inv m' ∧ wh' = nI (k_wh m') ∧ ts' = m' 11 ∧ (∀ i, i < 6 → ma' i = m' (49 + i) ∧ pr' i = m' (55 + i) ∧ sg' i = m' (61 + i)) ∧ (∀ k, (k ≠ 11 ∧ (k < 49 ∨ 73 ≤ k)) → m' k = m k) := by
  obtain ⟨e11, hn, e11'⟩ := s_na_e h.1
  subst ew; subst eta
  unfold p_X8_tackle p_X9_tackle
  rw [e11]
  simp only [q_within, q_in_0_2, q_in_1_6, q_in_1_400, q_b1, q_ifp]
  have same : ∀ v : Int32, ∃ r wh' ts' ma' pr' sg' m', (some (v, nI (k_wh m), nI (s_na m), ma, pr, sg) : Option (Int32 × Int32 × Int32 × (Nat → Int32) × (Nat → Int32) × (Nat → Int32))) = some (r, wh', ts', ma', pr', sg') ∧ (some (v, 0, m) : Option (Int32 × Int32 × (Nat → Int32))) = some (r, 0, m') ∧ k_Inv m' ∧ wh' = nI (k_wh m') ∧ ts' = m' 11 ∧ (∀ i, i < 6 → ma' i = m' (49 + i) ∧ pr' i = m' (55 + i) ∧ sg' i = m' (61 + i)) ∧ (∀ k, (k ≠ 11 ∧ (k < 49 ∨ 73 ≤ k)) → m' k = m k) :=
    fun v => ⟨v, _, _, _, _, _, m, rfl, rfl, h, rfl, e11.symm, hta, fun _ _ => rfl⟩
  by_cases h1 : 0 ≤ a1 ∧ a1 ≤ 2
  · simp only [if_pos h1]
    by_cases h2 : 1 ≤ a2 ∧ a2 ≤ 6
    · simp only [if_pos h2]
      by_cases h3 : 1 ≤ a3 ∧ a3 ≤ 400
      · simp only [if_pos h3]
        by_cases c : s_na m < 6
        · obtain ⟨i1, i2⟩ := m_tackle_inv h c (q_kr h1) (q_kr h2) (q_kr h3)
          refine ⟨nI (s_na m), nI (k_wh m) ||| (1 <<< (nI (s_na m) &&& 31)), nI (s_na m + 1), upd ma (s_na m) a1, upd pr (s_na m) a2, upd sg (s_na m) a3, m_tackle m a1 a2 a3, ?_, ?_, i1, i2, ?_, fun i hi => ?_, fun k k1 => ?_⟩
          · rw [if_pos (show nI (s_na m) < 6 from nI_lt (b := 6) c (by omega))]
            unfold p_X6_add
            simp (disch := omega) only [q_ix, q_cl]
            rw [nI_1, nI_pred]; rfl
          · rw [if_neg (by rw [show (6 : Int32) = nI 6 from rfl, q_eqI (by omega) (by omega)]; omega)]
            simp (disch := omega) only [q_o49, q_o55, q_o61, q_o67, q_ix, q_cl, upd_n]
            unfold m_tackle; rfl
          · unfold m_tackle; rw [upd_s, e11, nI_1]
          · by_cases c : i = s_na m
            · subst c
              unfold m_tackle
              simp (disch := omega) only [upd_n, upd_s, and_self]
            · unfold m_tackle
              simp (disch := omega) only [upd_n]
              exact hta i hi
          · unfold m_tackle
            simp (disch := omega) only [upd_n]
        · have : s_na m = 6 := by omega
          rw [if_neg (by rw [this]; decide), if_pos (by rw [this]; rfl)]
          exact same _
      · simp only [if_neg h3]; exact same _
    · simp only [if_neg h2]; exact same _
  · simp only [if_neg h1]; exact same _
theorem sim_tackle : k_Sim_tackle R_all := by
  intro S L M a1 a2 a3 hR
  obtain ⟨hc, ht, hrn, hru, hs, hk0, hk1, hk2, hp⟩ := hR
  obtain ⟨⟨e0, e1, e2, e5, e3, e4, e6, e7, e8, e9, eo, ets, ew, eta, ess⟩, hth, hta, hse, hI⟩ := hs
  obtain ⟨r, wh', ts', ma', pr', sg', m', g1, g2, gI, gw, gts, gth, g5⟩ := t_tackle hI ew eta hta a1 a2 a3
  refine ⟨r, k_su (k_su (k_su (k_su (k_su S 18 (fun _ => wh')) 19 (fun _ => ts')) 20 ma') 21 pr') 22 sg', L, k_su (k_su M 0 (fun _ => 0)) 9 m', ?_, ?_, hc, ht, hrn, hru, ⟨⟨e0.trans (g5 0 (by omega)).symm, e1.trans (g5 1 (by omega)).symm, e2.trans (g5 2 (by omega)).symm, e5.trans (g5 5 (by omega)).symm, e3.trans (g5 3 (by omega)).symm, e4.trans (g5 4 (by omega)).symm, e6.trans (g5 6 (by omega)).symm, e7.trans (g5 7 (by omega)).symm, e8.trans (g5 8 (by omega)).symm, e9.trans (g5 9 (by omega)).symm, eo.trans (congrArg nI (k_out_cong (m := M 9) (g5 10 (by omega)) (fun i hi => g5 _ (by omega)))).symm, ets.trans (g5 10 (by omega)).symm, gw, gts, ess.trans (g5 12 (by omega)).symm⟩, fun i hi => ⟨(hth i hi).1.trans (g5 _ (by omega)).symm, (hth i hi).2.trans (g5 _ (by omega)).symm⟩, gth, fun i hi => ⟨(hse i hi).1.trans (g5 _ (by omega)).symm, (hse i hi).2.1.trans (g5 _ (by omega)).symm, (hse i hi).2.2.1.trans (g5 _ (by omega)).symm, (hse i hi).2.2.2.1.trans (g5 _ (by omega)).symm, (hse i hi).2.2.2.2.1.trans (g5 _ (by omega)).symm, (hse i hi).2.2.2.2.2.1.trans (g5 _ (by omega)).symm, (hse i hi).2.2.2.2.2.2.1.trans (g5 _ (by omega)).symm, (hse i hi).2.2.2.2.2.2.2.trans (g5 _ (by omega)).symm⟩, gI⟩, hk0, hk1, hk2, hp⟩
  · unfold pX_tackle; rw [g1]; rfl
  · unfold pM_tackle; rw [g2]; rfl
end
section
/-! ===== a seam more ===== -/
def m_seam (m : Nat → Int32) (a1 a2 a3 a4 a5 a6 : Int32) : Nat → Int32 := upd (upd (upd (upd (upd (upd (upd (upd (upd m (73 + s_ns m) a1) (85 + s_ns m) a2) (97 + s_ns m) a3) (109 + s_ns m) a4) (121 + s_ns m) a5) (133 + s_ns m) a6) (145 + s_ns m) 0) (157 + s_ns m) 0) 12 (m 12 + 1)
theorem m_seam_at {m : Nat → Int32} {a1 a2 a3 a4 a5 a6 : Int32} {k : Nat} (h : k ≠ 12) (hk : k ≠ 73 + s_ns m ∧ k ≠ 85 + s_ns m ∧ k ≠ 97 + s_ns m ∧ k ≠ 109 + s_ns m ∧ k ≠ 121 + s_ns m ∧ k ≠ 133 + s_ns m ∧ k ≠ 145 + s_ns m ∧ k ≠ 157 + s_ns m) : m_seam m a1 a2 a3 a4 a5 a6 k = m k := by
  obtain ⟨k0, k1, k2, k3, k4, k5, k6, k7⟩ := hk
  unfold m_seam
  rw [upd_n h, upd_n k7, upd_n k6, upd_n k5, upd_n k4, upd_n k3, upd_n k2, upd_n k1, upd_n k0]
theorem m_seam_new {m : Nat → Int32} (hn : s_ns m < 12) (a1 a2 a3 a4 a5 a6 : Int32) : m_seam m a1 a2 a3 a4 a5 a6 (73 + s_ns m) = a1 ∧ m_seam m a1 a2 a3 a4 a5 a6 (85 + s_ns m) = a2 ∧ m_seam m a1 a2 a3 a4 a5 a6 (97 + s_ns m) = a3 ∧ m_seam m a1 a2 a3 a4 a5 a6 (109 + s_ns m) = a4 ∧ m_seam m a1 a2 a3 a4 a5 a6 (121 + s_ns m) = a5 ∧ m_seam m a1 a2 a3 a4 a5 a6 (133 + s_ns m) = a6 ∧ m_seam m a1 a2 a3 a4 a5 a6 (145 + s_ns m) = 0 ∧ m_seam m a1 a2 a3 a4 a5 a6 (157 + s_ns m) = 0 := by
  unfold m_seam
  simp (disch := omega) only [upd_n, upd_s, and_self]
theorem m_seam_inv {m : Nat → Int32} (h : k_Inv m) (hn : s_ns m < 12) {a1 a2 a3 a4 a5 a6 : Int32} (h1 : kr a1 1 10) (h2 : kr a2 0 1) (h3 : kr a3 1 6) (h4 : kr a4 1 4) (h5 : kr a5 0 50) (h6 : kr a6 1 100) : k_Inv (m_seam m a1 a2 a3 a4 a5 a6) := by
  obtain ⟨e12, -, e12'⟩ := s_ns_e h.1
  have er : k_Rng (m_seam m a1 a2 a3 a4 a5 a6) := by
    have l73 : ∀ i, i < 12 → k_lo (73 + i) = 0 ∧ k_hi (73 + i) = 10 := by decide
    have l85 : ∀ i, i < 12 → k_lo (85 + i) = 0 ∧ k_hi (85 + i) = 1 := by decide
    have l97 : ∀ i, i < 12 → k_lo (97 + i) = 0 ∧ k_hi (97 + i) = 6 := by decide
    have l109 : ∀ i, i < 12 → k_lo (109 + i) = 0 ∧ k_hi (109 + i) = 4 := by decide
    have l121 : ∀ i, i < 12 → k_lo (121 + i) = 0 ∧ k_hi (121 + i) = 50 := by decide
    have l133 : ∀ i, i < 12 → k_lo (133 + i) = 0 ∧ k_hi (133 + i) = 100 := by decide
    have l145 : ∀ i, i < 12 → k_lo (145 + i) = 0 ∧ k_hi (145 + i) = 2 := by decide
    have l157 : ∀ i, i < 12 → k_lo (157 + i) = 0 ∧ k_hi (157 + i) = 4 := by decide
    unfold m_seam
    refine k_Rng_upd (k_Rng_upd (k_Rng_upd (k_Rng_upd (k_Rng_upd (k_Rng_upd (k_Rng_upd (k_Rng_upd (k_Rng_upd h.1 ?_) ?_) ?_) ?_) ?_) ?_) ?_) ?_) ?_
    · rw [(l73 _ hn).1, (l73 _ hn).2]; exact ⟨by have := h1.1; omega, h1.2⟩
    · rw [(l85 _ hn).1, (l85 _ hn).2]; exact h2
    · rw [(l97 _ hn).1, (l97 _ hn).2]; exact ⟨by have := h3.1; omega, h3.2⟩
    · rw [(l109 _ hn).1, (l109 _ hn).2]; exact ⟨by have := h4.1; omega, h4.2⟩
    · rw [(l121 _ hn).1, (l121 _ hn).2]; exact h5
    · rw [(l133 _ hn).1, (l133 _ hn).2]; exact ⟨by have := h6.1; omega, h6.2⟩
    · rw [(l145 _ hn).1, (l145 _ hn).2]; exact ⟨by decide, by decide⟩
    · rw [(l157 _ hn).1, (l157 _ hn).2]; exact ⟨by decide, by decide⟩
    · rw [e12, nI_1]
      show 0 ≤ _ ∧ _ ≤ 12
      rw [q_ti (by omega)]; omega
  have e1 : m_seam m a1 a2 a3 a4 a5 a6 12 = nI (s_ns m + 1) := by unfold m_seam; rw [upd_s, e12, nI_1]
  have e12'' : (m_seam m a1 a2 a3 a4 a5 a6 12).toInt = (s_ns m : Int) + 1 := by rw [e1, q_ti (by omega)]; rfl
  have hn6 := (s_nt_e h.1).2
  have hn7 := (s_na_e h.1).2
  refine ⟨er, fun i hi => ?_, fun i hi => ?_, fun i hi => ?_⟩
  · rw [m_seam_at (by omega) (by omega)] at hi
    rw [m_seam_at (by omega) (by omega)]
    exact h.2.1 i hi
  · rw [m_seam_at (by omega) (by omega)] at hi
    rw [m_seam_at (by omega) (by omega)]
    exact h.2.2.1 i hi
  · rw [e12''] at hi
    by_cases c : i = s_ns m
    · subst c
      obtain ⟨-, -, -, n4, -, -, n7, n8⟩ := m_seam_new hn a1 a2 a3 a4 a5 a6
      rw [n7, n8, n4]
      exact ⟨fun _ => by decide, fun hh => absurd hh (by decide), h4.1⟩
    · rw [m_seam_at (by omega) (by omega), m_seam_at (by omega) (by omega), m_seam_at (by omega) (by omega)]
      exact h.2.2.2 i (by omega)
theorem t_seam {m sk sd hd lg tr wo sta dn : Nat → Int32} {ts : Int32} (h : k_Inv m) (ess : ts = m 12) (hse : ∀ i, i < 12 → sk i = m (73 + i) ∧ sd i = m (85 + i) ∧ hd i = m (97 + i) ∧ lg i = m (109 + i) ∧ tr i = m (121 + i) ∧ wo i = m (133 + i) ∧ sta i = m (145 + i) ∧ dn i = m (157 + i)) (a1 a2 a3 a4 a5 a6 : Int32) : ∃ r ts' sk' sd' hd' lg' tr' wo' sta' dn' m', p_X8_seam ts sk sd hd lg tr wo sta dn a1 a2 a3 a4 a5 a6 = some (r, ts', sk', sd', hd', lg', tr', wo', sta', dn') ∧ p_X9_seam m a1 a2 a3 a4 a5 a6 = some (r, 0, m') ∧ k_Inv m' ∧ ts' = m' 12 ∧ (∀ i, i < 12 → sk' i = m' (73 + i) ∧ sd' i = m' (85 + i) ∧ hd' i = m' (97 + i) ∧ lg' i = m' (109 + i) ∧ tr' i = m' (121 + i) ∧ wo' i = m' (133 + i) ∧ sta' i = m' (145 + i) ∧ dn' i = m' (157 + i)) ∧ (∀ k, (k ≠ 12 ∧ k < 73) → m' k = m k) := by
  obtain ⟨e12, hn, e12'⟩ := s_ns_e h.1
  subst ess
  unfold p_X8_seam p_X9_seam
  rw [e12]
  simp only [q_within, q_in_1_10, q_in_0_1, q_in_1_6, q_in_1_4, q_in_0_50, q_in_1_100, q_b1, q_ifp]
  have same : ∀ v : Int32, ∃ r ts' sk' sd' hd' lg' tr' wo' sta' dn' m', (some (v, nI (s_ns m), sk, sd, hd, lg, tr, wo, sta, dn) : Option (Int32 × Int32 × (Nat → Int32) × (Nat → Int32) × (Nat → Int32) × (Nat → Int32) × (Nat → Int32) × (Nat → Int32) × (Nat → Int32) × (Nat → Int32))) = some (r, ts', sk', sd', hd', lg', tr', wo', sta', dn') ∧ (some (v, 0, m) : Option (Int32 × Int32 × (Nat → Int32))) = some (r, 0, m') ∧ k_Inv m' ∧ ts' = m' 12 ∧ (∀ i, i < 12 → sk' i = m' (73 + i) ∧ sd' i = m' (85 + i) ∧ hd' i = m' (97 + i) ∧ lg' i = m' (109 + i) ∧ tr' i = m' (121 + i) ∧ wo' i = m' (133 + i) ∧ sta' i = m' (145 + i) ∧ dn' i = m' (157 + i)) ∧ (∀ k, (k ≠ 12 ∧ k < 73) → m' k = m k) :=
    fun v => ⟨v, _, _, _, _, _, _, _, _, _, m, rfl, rfl, h, e12.symm, hse, fun _ _ => rfl⟩
  by_cases h1 : 1 ≤ a1 ∧ a1 ≤ 10
  · simp only [if_pos h1]
    by_cases h2 : 0 ≤ a2 ∧ a2 ≤ 1
    · simp only [if_pos h2]
      by_cases h3 : 1 ≤ a3 ∧ a3 ≤ 6
      · simp only [if_pos h3]
        by_cases h4 : 1 ≤ a4 ∧ a4 ≤ 4
        · simp only [if_pos h4]
          by_cases h5 : 0 ≤ a5 ∧ a5 ≤ 50
          · simp only [if_pos h5]
            by_cases h6 : 1 ≤ a6 ∧ a6 ≤ 100
            · simp only [if_pos h6]
              by_cases c : s_ns m < 12
              · have i1 := m_seam_inv h c (q_kr h1) (q_kr h2) (q_kr h3) (q_kr h4) (q_kr h5) (q_kr h6)
                obtain ⟨n1, n2, n3, n4, n5, n6, n7, n8⟩ := m_seam_new c a1 a2 a3 a4 a5 a6
                refine ⟨nI (s_ns m), nI (s_ns m + 1), upd sk (s_ns m) a1, upd sd (s_ns m) a2, upd hd (s_ns m) a3, upd lg (s_ns m) a4, upd tr (s_ns m) a5, upd wo (s_ns m) a6, upd sta (s_ns m) 0, upd dn (s_ns m) 0, m_seam m a1 a2 a3 a4 a5 a6, ?_, ?_, i1, ?_, fun i hi => ?_, fun k k1 => ?_⟩
                · rw [if_pos (show nI (s_ns m) < 12 from nI_lt (b := 12) c (by omega))]
                  unfold p_X3_add
                  simp (disch := omega) only [q_ix, q_cl]
                  rw [nI_1, nI_pred]; rfl
                · rw [if_neg (by rw [show (12 : Int32) = nI 12 from rfl, q_eqI (by omega) (by omega)]; omega)]
                  simp (disch := omega) only [q_o73, q_o85, q_o97, q_o109, q_o121, q_o133, q_o145, q_o157, q_ix, q_cl, upd_n]
                  unfold m_seam; rw [e12]
                · unfold m_seam; rw [upd_s, e12, nI_1]
                · by_cases c2 : i = s_ns m
                  · subst c2
                    rw [n1, n2, n3, n4, n5, n6, n7, n8]
                    simp only [upd_s, and_self]
                  · obtain ⟨z0, z1, z2, z3, z4, z5, z6, z7⟩ := hse i hi
                    simp only [upd_n c2]
                    exact ⟨z0.trans (m_seam_at (by omega) (by omega)).symm, z1.trans (m_seam_at (by omega) (by omega)).symm, z2.trans (m_seam_at (by omega) (by omega)).symm, z3.trans (m_seam_at (by omega) (by omega)).symm, z4.trans (m_seam_at (by omega) (by omega)).symm, z5.trans (m_seam_at (by omega) (by omega)).symm, z6.trans (m_seam_at (by omega) (by omega)).symm, z7.trans (m_seam_at (by omega) (by omega)).symm⟩
                · exact m_seam_at k1.1 (by omega)
              · have : s_ns m = 12 := by omega
                rw [if_neg (by rw [this]; decide), if_pos (by rw [this]; rfl)]
                exact same _
            · simp only [if_neg h6]; exact same _
          · simp only [if_neg h5]; exact same _
        · simp only [if_neg h4]; exact same _
      · simp only [if_neg h3]; exact same _
    · simp only [if_neg h2]; exact same _
  · simp only [if_neg h1]; exact same _
theorem sim_seam : k_Sim_seam R_all := by
  intro S L M a1 a2 a3 a4 a5 a6 hR
  obtain ⟨hc, ht, hrn, hru, hs, hk0, hk1, hk2, hp⟩ := hR
  obtain ⟨⟨e0, e1, e2, e5, e3, e4, e6, e7, e8, e9, eo, ets, ew, eta, ess⟩, hth, hta, hse, hI⟩ := hs
  obtain ⟨r, ts', sk', sd', hd', lg', tr', wo', sta', dn', m', g1, g2, gI, gts, gse, g5⟩ := t_seam hI ess hse a1 a2 a3 a4 a5 a6
  refine ⟨r, (k_su (k_su (k_su (k_su (k_su (k_su (k_su (k_su (k_su S 23 (fun _ => ts')) 24 sk') 25 sd') 26 hd') 27 lg') 28 tr') 29 wo') 30 sta') 31 dn'), L, k_su (k_su M 0 (fun _ => 0)) 9 m', ?_, ?_, hc, ht, hrn, hru, ⟨⟨e0.trans (g5 0 (by omega)).symm, e1.trans (g5 1 (by omega)).symm, e2.trans (g5 2 (by omega)).symm, e5.trans (g5 5 (by omega)).symm, e3.trans (g5 3 (by omega)).symm, e4.trans (g5 4 (by omega)).symm, e6.trans (g5 6 (by omega)).symm, e7.trans (g5 7 (by omega)).symm, e8.trans (g5 8 (by omega)).symm, e9.trans (g5 9 (by omega)).symm, eo.trans (congrArg nI (k_out_cong (m := M 9) (g5 10 (by omega)) (fun i hi => g5 _ (by omega)))).symm, ets.trans (g5 10 (by omega)).symm, ew.trans (congrArg nI (k_wh_cong (m := M 9) (g5 11 (by omega)) (fun i hi => g5 _ (by omega)))).symm, eta.trans (g5 11 (by omega)).symm, gts⟩, fun i hi => ⟨(hth i hi).1.trans (g5 _ (by omega)).symm, (hth i hi).2.trans (g5 _ (by omega)).symm⟩, fun i hi => ⟨(hta i hi).1.trans (g5 _ (by omega)).symm, (hta i hi).2.1.trans (g5 _ (by omega)).symm, (hta i hi).2.2.trans (g5 _ (by omega)).symm⟩, gse, gI⟩, hk0, hk1, hk2, hp⟩
  · unfold pX_seam; rw [g1]; rfl
  · unfold pM_seam; rw [g2]; rfl
end
section
/-! ===== what is told ===== -/
theorem q_asN {c : Prop} [Decidable c] : (if (if c then (1 : Int32) else 0) = 0 then (0 : Int32) else 1) = if c then 1 else 0 := by
  by_cases h : c <;> simp [h]
theorem x_lost (w : Int32) : p_X4_isLost w = some (if w ≤ 100 then 0 else 1) := by
  unfold p_X4_isLost
  by_cases c : w ≤ 100 <;> simp [c]
theorem y_lost (m : Nat → Int32) : p_X9_isLost m = some (if m 2 ≤ 100 then 0 else 1) := by
  unfold p_X9_isLost
  by_cases c : m 2 ≤ 100 <;> simp [c]
theorem s_hour {m : Nat → Int32} (h : k_Rng m) : ∃ o : Nat, m 0 = nI o ∧ o ≤ 96 := by
  obtain ⟨o, h1, -, h2, -⟩ := kr_nI (rg_ho h) (by decide) (by decide)
  exact ⟨o, h1, by omega⟩
/-- a seam's numbers -/
def s_bare (m td : Nat → Int32) (s o : Nat) : Bool := !decide ((4 * m (73 + s)) + (if m (85 + s) = 0 then 3 * m 1 else (-3) * m 1) ≤ td (min o 95))
theorem x_isBare {m td sk sd : Nat → Int32} {s o : Nat} (hs : s < 12) (ho : o < 1000) (h1 : sk s = m (73 + s)) (h2 : sd s = m (85 + s)) : p_X4_isBare (m 1) td sk sd (nI s) (nI o) = some (if s_bare m td s o = true then 1 else 0) := by
  unfold p_X4_isBare p_X3_isBare s_bare
  rw [x_tideIn td ho, q_b1, q_ix _ (by omega) (by omega), q_ix _ (by omega) (by omega), q_cl (by omega), h1, h2]
  by_cases c : m (85 + s) = 0
  · rw [if_pos c, if_pos c]
    by_cases c2 : 4 * m (73 + s) + 3 * m 1 ≤ td (min o 95)
    · rw [if_pos c2, q_b1]; simp [c2]; rfl
    · rw [if_neg c2, q_b1]; simp [c2]; rfl
  · rw [if_neg c, if_neg c]
    by_cases c2 : 4 * m (73 + s) + (-3) * m 1 ≤ td (min o 95)
    · rw [if_pos c2, q_b1]; simp [c2]; rfl
    · rw [if_neg c2, q_b1]; simp [c2]; rfl
theorem y_isBare (m td : Nat → Int32) {s o : Nat} (hs : s < 12) (ho : o < 1000) : p_X9_isBare m td (nI s) (nI o) = some (if s_bare m td s o = true then 1 else 0) := by
  unfold p_X9_isBare s_bare
  rw [y_tideIn td ho, q_b1, q_b1, q_o73, q_o85, q_ix _ (by omega) (by omega), q_ix _ (by omega) (by omega), q_cl (by omega), q_cl (by omega)]
  by_cases c : m (85 + s) = 0
  · rw [if_pos c, if_pos c]
    by_cases c2 : 4 * m (73 + s) + 3 * m 1 ≤ td (min o 95) <;> simp [c2]
  · rw [if_neg c, if_neg c]
    by_cases c2 : 4 * m (73 + s) + (-3) * m 1 ≤ td (min o 95) <;> simp [c2]
/-- how many SEAMS are so -/
def s_st (m : Nat → Int32) (a : Int32) : Nat := fb_ct (fun i => decide (m (145 + i) = a)) (s_ns m)
theorem y_states {m : Nat → Int32} (h : k_Rng m) (a : Int32) : p_X9_states m a = some (nI (s_st m a)) := by
  obtain ⟨e12, hn, -⟩ := s_ns_e h
  have key : k_lp (fun s : Int32 × Int32 => lb_X9_states_4 m a s.1 s.2) k_fuel (0, 0) = some (0 + q_sum (fun i => if decide (m (145 + i) = a) then 1 else 0) (s_ns m)) := by
    refine q_sumlp _ (s_ns m) 0 (fun i x hi => ?_) (fun x => ?_) (by omega)
    · show lb_X9_states_4 m a x (nI i) = _
      unfold lb_X9_states_4
      rw [e12]
      simp (disch := omega) only [q_ifge, q_ifle, q_o5, q_o13, q_o25, q_o37, q_o49, q_o55, q_o61, q_o67, q_o73, q_o85, q_o97, q_o109, q_o121, q_o133, q_o145, q_o157, q_ix, q_cl, q_b1, q_b2, q_hasBit, q_ifp, Nat.le_refl]
      by_cases c : m (145 + i) = a <;> simp [c]
    · show lb_X9_states_4 m a x (nI (s_ns m)) = _
      unfold lb_X9_states_4
      rw [e12]
      simp (disch := omega) only [q_ifge, q_ifle, q_o5, q_o13, q_o25, q_o37, q_o49, q_o55, q_o61, q_o67, q_o73, q_o85, q_o97, q_o109, q_o121, q_o133, q_o145, q_o157, q_ix, q_cl, q_b1, q_b2, q_hasBit, q_ifp, Nat.le_refl]
  unfold p_X9_states
  rw [key, q_b1, Int32.zero_add, q_sum_cnt (p := fun i => decide (m (145 + i) = a)) (fun i hi => rfl)]
  rfl
def s_orf (m : Nat → Int32) (a : Int32) (i : Nat) (x : Int32) : Int32 := if m (145 + i) = a then x ||| (1 <<< (nI i &&& 31)) else x ||| 0
theorem x_bitsOf {m sta : Nat → Int32} {ss : Int32} (h : k_Rng m) (hs : ss = m 12) (h1 : ∀ i, i < 12 → sta i = m (145 + i)) (a : Int32) : ∃ x, p_X3_bitsOf ss sta a = some x ∧ ∀ i, i < 32 → bt x i = (decide (i < s_ns m) && decide (m (145 + i) = a)) := by
  obtain ⟨e12, hn, -⟩ := s_ns_e h
  subst hs
  have key : k_lp (fun s : Int32 × Int32 => lb_X3_bitsOf_4 (m 12) sta a s.1 s.2) k_fuel (0, 0) = some (q_fold (s_orf m a) 0 (s_ns m)) := by
    refine q_foldlp _ (s_ns m) 0 (fun i x hi => ?_) (fun x => ?_) (by omega)
    · show lb_X3_bitsOf_4 (m 12) sta a x (nI i) = _
      unfold lb_X3_bitsOf_4
      rw [e12]
      simp (disch := omega) only [q_ifge, q_ifle, q_o5, q_o13, q_o25, q_o37, q_o49, q_o55, q_o61, q_o67, q_o73, q_o85, q_o97, q_o109, q_o121, q_o133, q_o145, q_o157, q_ix, q_cl, q_b1, q_b2, q_hasBit, q_ifp, Nat.le_refl]
      rw [h1 i (by omega)]
      unfold s_orf
      by_cases c : m (145 + i) = a
      · rw [if_pos c, if_pos c]
      · rw [if_neg c, if_neg c]
    · show lb_X3_bitsOf_4 (m 12) sta a x (nI (s_ns m)) = _
      unfold lb_X3_bitsOf_4
      rw [e12]
      simp (disch := omega) only [q_ifge, q_ifle, q_o5, q_o13, q_o25, q_o37, q_o49, q_o55, q_o61, q_o67, q_o73, q_o85, q_o97, q_o109, q_o121, q_o133, q_o145, q_o157, q_ix, q_cl, q_b1, q_b2, q_hasBit, q_ifp, Nat.le_refl]
  refine ⟨_, by unfold p_X3_bitsOf; rw [key, q_b1], ?_⟩
  have gen : ∀ n, n ≤ 12 → ∀ i, i < 32 → bt (q_fold (s_orf m a) 0 n) i = (decide (i < n) && decide (m (145 + i) = a)) := by
    intro n
    induction n with
    | zero => intro _ i hi; show bt 0 i = _; rw [b_0]; simp
    | succ n ih =>
      intro hn2 i hi
      have ih := ih (by omega) i hi
      show bt (s_orf m a n (q_fold (s_orf m a) 0 n)) i = _
      generalize q_fold (s_orf m a) 0 n = x at ih ⊢
      unfold s_orf
      by_cases c : m (145 + n) = a
      · rw [if_pos c, b_or, ih, bt_one n (by omega) hi]
        by_cases c2 : i = n
        · subst c2; simp [c]
        · by_cases c3 : i < n
          · simp [c2, c3, show i < n + 1 from by omega]
          · simp [c2, c3, show ¬ i < n + 1 from by omega]
      · rw [if_neg c, b_or, ih, b_0, Bool.or_false]
        by_cases c2 : i = n
        · subst c2; simp [c]
        · by_cases c3 : i < n
          · simp [c3, show i < n + 1 from by omega]
          · simp [c3, show ¬ i < n + 1 from by omega]
  exact gen (s_ns m) hn
theorem s_st_0 {m : Nat → Int32} (h : k_Rng m) {x a : Int32} (hx : ∀ i, i < 32 → bt x i = (decide (i < s_ns m) && decide (m (145 + i) = a))) : (x = 0) = (s_st m a = 0) := by
  have hn := (s_ns_e h).2.1
  refine propext ⟨fun e => ?_, fun e => ?_⟩
  · unfold s_st
    rw [fb_ct_zero]
    intro i hi
    have := hx i (by omega)
    rw [e, b_0, decide_eq_true hi, Bool.true_and] at this
    exact this.symm
  · unfold s_st at e
    rw [fb_ct_zero] at e
    refine b_ext fun i hi => ?_
    rw [hx i hi, b_0]
    by_cases c : i < s_ns m
    · rw [e i c, Bool.and_false]
    · simp [c]
theorem sim_ship : k_Sim_ship R_all := by
  intro S L M a1 hR
  obtain ⟨hc, ht, ⟨hrn, hrn2⟩, hru, hs, hk0, hk1, hk2, hp⟩ := hR
  obtain ⟨⟨e0, e1, e2, e5, e3, e4, e6, e7, e8, e9, eo, ets, ew, eta, ess⟩, hth, hta, hse, hI⟩ := id hs
  obtain ⟨hrl, hpos⟩ := R_rule_rl hru
  obtain ⟨o, eo0, hoo⟩ := s_hour hI.1
  have tot := x_total (ru := M 14) hI.1 hrl.1 eo ets (fun i hi => (hth i hi).1)
  have frc := fun a => x_force (ru := M 14) hI.1 hrl.1 eo ets (fun i hi => (hth i hi).1) a
  have key : ∃ r, p_X8_ship (S 4 0) (S 5 0) (S 6 0) (S 3) (S 14 0) (S 15 0) (S 16) (S 1) (S 23 0) (S 30) (S 2) (S 18 0) (S 19 0) (S 21) (S 22) (S 20) a1 = some r ∧ p_X9_ship (M 14) (M 9) (M 12) (M 13) a1 = some (r, 0) := by
    unfold p_X8_ship p_X9_ship
    rw [tot, y_total hI.1, frc, y_force hI.1, e0, e1, e2, x_lost, y_lost]
    simp only [q_b1, q_asNumber]
    by_cases c0 : a1 = 0
    · simp only [if_pos c0]; exact ⟨_, rfl, rfl⟩
    simp only [if_neg c0]
    by_cases c1 : a1 = 1
    · simp only [if_pos c1]; exact ⟨_, rfl, rfl⟩
    simp only [if_neg c1]
    by_cases c2 : a1 = 2
    · simp only [if_pos c2]; exact ⟨_, rfl, rfl⟩
    simp only [if_neg c2]
    by_cases c3 : a1 = 3
    · simp only [if_pos c3]; exact ⟨_, rfl, rfl⟩
    simp only [if_neg c3]
    by_cases c4 : a1 = 4
    · simp only [if_pos c4]; exact ⟨_, rfl, rfl⟩
    simp only [if_neg c4]
    by_cases c5 : a1 = 5
    · simp only [if_pos c5]
      obtain ⟨x, hx1, hx2⟩ := x_bitsOf hI.1 ess (fun i hi => (hse i hi).2.2.2.2.2.2.1) 1
      have hz := s_st_0 hI.1 hx2
      have hw := Nat.le_trans (fb_ct_le (fun i => decide (M 9 (145 + i) = 1)) (s_ns (M 9))) (s_ns_e hI.1).2.1
      have hw : s_st (M 9) 1 ≤ 12 := hw
      unfold p_X4_floats p_X9_floats p_X5_tideNeeded p_X8_draught
      rw [tot, eo0, show S 1 = M 12 from ht, x_tideIn _ (by omega), y_tideIn _ (by omega), y_states hI.1, hx1]
      simp only [q_b1]
      have er0 : S 3 0 = M 14 0 := hru.1.1
      have er2 : S 3 2 = M 14 2 := hru.1.2.2.1
      rw [er0, er2]
      have hz2 : (nI (s_st (M 9) 1) = 0) = (s_st (M 9) 1 = 0) := by
        rw [show (0 : Int32) = nI 0 from rfl, q_eqI (by omega) (by omega)]
      by_cases d1 : s_total (M 9) (M 14) < M 14 2
      · simp only [if_pos d1, q_b1, q_asNumber]
        by_cases d3 : M 9 1 = 0
        · simp only [if_pos d3, hz2]
          by_cases d4 : s_st (M 9) 1 = 0
          · simp only [if_pos d4]; exact ⟨_, rfl, rfl⟩
          · simp only [if_neg d4]; exact ⟨_, rfl, rfl⟩
        · simp only [if_neg d3]; exact ⟨_, rfl, rfl⟩
      · simp only [if_neg d1]
        by_cases d2 : M 12 (min o 95) < s_total (M 9) (M 14) / 20 + M 14 0
        · simp only [if_pos d2, q_b1, q_asNumber]
          by_cases d3 : M 9 1 = 0
          · simp only [if_pos d3, hz2]
            by_cases d4 : s_st (M 9) 1 = 0
            · simp only [if_pos d4]; exact ⟨_, rfl, rfl⟩
            · simp only [if_neg d4]; exact ⟨_, rfl, rfl⟩
          · simp only [if_neg d3]; exact ⟨_, rfl, rfl⟩
        · simp only [if_neg d2]
          by_cases d3 : M 9 1 = 0
          · simp only [if_pos d3, hz, hz2]
            by_cases d4 : s_st (M 9) 1 = 0
            · simp only [if_pos d4, q_b1, q_asNumber]; exact ⟨_, rfl, rfl⟩
            · simp only [if_neg d4, q_b1, q_asNumber]; exact ⟨_, rfl, rfl⟩
          · simp only [if_neg d3, q_b1, q_asNumber]; exact ⟨_, rfl, rfl⟩
    simp only [if_neg c5]
    by_cases c6 : a1 = 6
    · simp only [if_pos c6]
      rw [eo0, hrn, x_rainsIn hrn2 (by omega), y_rains hrn2 (by omega), q_b1, q_b1, ew, x_holds hI.1 hI.2.2.1 hrl eo ets (fun i hi => (hth i hi).1) eta (fun i hi => (hta i hi).1) (fun i hi => (hta i hi).2.1) (fun i hi => (hta i hi).2.2), y_holds hI.1 hI.2.2.1 hpos (rg_he hI.1), q_b1, q_b1]
      cases s_holds (M 9) (M 14) (M 9 1) (M 13 (min o 95)) <;> exact ⟨_, rfl, rfl⟩
    simp only [if_neg c6]
    by_cases c7 : a1 = 7
    · simp only [if_pos c7]
      by_cases cw : M 9 2 ≤ 100
      · rw [if_pos cw]; exact ⟨_, rfl, rfl⟩
      · rw [if_neg cw]; exact ⟨_, rfl, rfl⟩
    simp only [if_neg c7]
    exact ⟨_, rfl, rfl⟩
  obtain ⟨r, g1, g2⟩ := key
  refine ⟨r, S, L, k_su M 0 (fun _ => 0), ?_, ?_, hc, ht, ⟨hrn, hrn2⟩, hru, hs, hk0, hk1, hk2, hp⟩
  · unfold pX_ship; rw [g1]; rfl
  · unfold pM_ship; rw [g2]; rfl
end
section
theorem sim_greatest : k_Sim_greatest R_all := by
  intro S L M a1 hR h2
  obtain ⟨hc, ht, hrn, hru, hs, hk0, hk1, hk2, hp⟩ := hR
  obtain ⟨⟨e0, e1, e2, e5, e3, e4, e6, e7, e8, e9, eo, ets, ew, eta, ess⟩, hth, hta, hse, hI⟩ := id hs
  obtain ⟨hrl, hpos⟩ := R_rule_rl hru
  have xh := fun a => x_holds (ru := M 14) hI.1 hI.2.2.1 hrl eo ets (fun i hi => (hth i hi).1) eta (fun i hi => (hta i hi).1) (fun i hi => (hta i hi).2.1) (fun i hi => (hta i hi).2.2) a a1
  have key : ∃ k : Nat, k_lp (fun s : Int32 => lb_X8_greatest_3 (S 3) (S 14 0) (S 15 0) (S 16) (S 18 0) (S 19 0) (S 21) (S 22) (S 20) a1 s) k_fuel 9 = some (nI k) ∧ k_lp (fun s : Int32 => lb_X9_greatest_8 (M 9) (M 14) a1 s) k_fuel 9 = some (nI k) := by
    have gen : ∀ n : Nat, n ≤ 9 → ∃ k : Nat, (∀ F, n < F → k_lp (fun s : Int32 => lb_X8_greatest_3 (S 3) (S 14 0) (S 15 0) (S 16) (S 18 0) (S 19 0) (S 21) (S 22) (S 20) a1 s) F (nI n) = some (nI k)) ∧ (∀ F, n < F → k_lp (fun s : Int32 => lb_X9_greatest_8 (M 9) (M 14) a1 s) F (nI n) = some (nI k)) := by
      intro n
      induction n with
      | zero =>
        intro _
        refine ⟨0, fun F hF => ?_, fun F hF => ?_⟩
        · obtain ⟨F, rfl⟩ : ∃ f, F = f + 1 := ⟨F - 1, by omega⟩
          unfold k_lp lb_X8_greatest_3
          rw [if_pos (by decide)]
        · obtain ⟨F, rfl⟩ : ∃ f, F = f + 1 := ⟨F - 1, by omega⟩
          unfold k_lp lb_X9_greatest_8
          rw [show nI 0 = 0 from rfl, y_holds hI.1 hI.2.2.1 hpos ⟨by decide, by decide⟩, q_b1, s_holds_0 (s_force_0 _ _)]
          rfl
      | succ n ih =>
        intro hn
        obtain ⟨k, k1, k2⟩ := ih (by omega)
        have hd : nI (n + 1) + (-1) = nI n := pk_m1 n
        cases hh : s_holds (M 9) (M 14) (nI (n + 1)) a1 with
        | true =>
          refine ⟨n + 1, fun F hF => ?_, fun F hF => ?_⟩
          · obtain ⟨F, rfl⟩ : ∃ f, F = f + 1 := ⟨F - 1, by omega⟩
            unfold k_lp lb_X8_greatest_3
            rw [if_neg (nI_nle (by omega) (by omega)), ew, xh, q_b1, hh]
            rfl
          · obtain ⟨F, rfl⟩ : ∃ f, F = f + 1 := ⟨F - 1, by omega⟩
            unfold k_lp lb_X9_greatest_8
            rw [y_holds hI.1 hI.2.2.1 hpos ⟨by rw [q_ti (by omega)]; omega, by rw [q_ti (by omega)]; omega⟩, q_b1, hh]
            rfl
        | false =>
          refine ⟨k, fun F hF => ?_, fun F hF => ?_⟩
          · obtain ⟨F, rfl⟩ : ∃ f, F = f + 1 := ⟨F - 1, by omega⟩
            unfold k_lp lb_X8_greatest_3
            rw [if_neg (nI_nle (by omega) (by omega)), ew, xh, q_b1, hh, hd, ← ew]
            exact k1 F (by omega)
          · obtain ⟨F, rfl⟩ : ∃ f, F = f + 1 := ⟨F - 1, by omega⟩
            unfold k_lp lb_X9_greatest_8
            rw [y_holds hI.1 hI.2.2.1 hpos ⟨by rw [q_ti (by omega)]; omega, by rw [q_ti (by omega)]; omega⟩, q_b1, hh, hd]
            exact k2 F (by omega)
    obtain ⟨k, k1, k2⟩ := gen 9 (by omega)
    exact ⟨k, k1 k_fuel (by show 9 < 100000; omega), k2 k_fuel (by show 9 < 100000; omega)⟩
  obtain ⟨k, k1, k2⟩ := key
  refine ⟨nI k, S, L, k_su M 0 (fun _ => 0), ?_, ?_, hc, ht, hrn, hru, hs, hk0, hk1, hk2, hp⟩
  · unfold pX_greatest p_X8_greatest; rw [k1]; rfl
  · unfold pM_greatest p_X9_greatest; rw [k2]; rfl
theorem sim_tackleTold : k_Sim_tackleTold R_all := by
  intro S L M a1 a2 hR
  obtain ⟨hc, ht, ⟨hrn, hrn2⟩, hru, hs, hk0, hk1, hk2, hp⟩ := hR
  obtain ⟨⟨e0, e1, e2, e5, e3, e4, e6, e7, e8, e9, eo, ets, ew, eta, ess⟩, hth, hta, hse, hI⟩ := id hs
  obtain ⟨hrl, hpos⟩ := R_rule_rl hru
  obtain ⟨o, eo0, hoo⟩ := s_hour hI.1
  obtain ⟨e11, hn, -⟩ := s_na_e hI.1
  have frc := fun a => x_force (ru := M 14) hI.1 hrl.1 eo ets (fun i hi => (hth i hi).1) a
  have key : ∃ r, p_X8_tackleTold (S 4 0) (S 5 0) (S 18 0) (S 19 0) (S 3) (S 14 0) (S 15 0) (S 16) (S 21) (S 2) (S 22) a1 a2 = some r ∧ p_X9_tackleTold (M 9) (M 13) (M 14) a1 a2 = some (r, 0) := by
    unfold p_X8_tackleTold p_X9_tackleTold
    rw [frc, eta, ew, e0, e1, e11, eo0]
    simp only [q_within, q_in_0_c, q_in_0_3, q_b1, q_ifp]
    by_cases h1 : 0 ≤ a1 ∧ a1 ≤ nI (s_na (M 9)) - 1
    · simp only [if_pos h1]
      obtain ⟨j, hj, rfl⟩ := q_idx (by omega) h1
      by_cases h2 : 0 ≤ a2 ∧ a2 ≤ 3
      · simp only [if_pos h2]
        rw [q_hasBit _ (by omega), k_wh_bt hI.1 (by omega), decide_eq_true hj, Bool.true_and, q_b1, q_ifp, q_o67, q_ix _ (by omega) (by omega), q_cl (by omega)]
        by_cases c : M 9 (67 + j) = 1
        · have c' : ¬ M 9 (67 + j) = 0 := by rw [q_wh1 hI.1 (by omega)]; exact fun hh => hh c
          rw [if_pos (by simpa using c), if_neg c', x_share hI.1, y_takes hI.1, q_b1, q_b1, x_ropeTakes hI.1 hI.2.2.1 hj (hta j (by omega)).2.1, y_ropeOf hI.1 hI.2.2.1 _ hj, hrn, x_rainsIn hrn2 (by omega), y_rains hrn2 (by omega)]
          simp only [q_b1]
          rw [x_ropeMay (by omega) (hta j (by omega)).2.2, y_may (by omega)]
          simp only [q_b1]
          by_cases d0 : a2 = 0
          · simp only [if_pos d0]; exact ⟨_, rfl, rfl⟩
          simp only [if_neg d0]
          by_cases d1 : a2 = 1
          · simp only [if_pos d1]; exact ⟨_, rfl, rfl⟩
          simp only [if_neg d1]
          by_cases d2 : a2 = 2
          · simp only [if_pos d2]; exact ⟨_, rfl, rfl⟩
          simp only [if_neg d2]
          exact ⟨_, rfl, rfl⟩
        · have c' : M 9 (67 + j) = 0 := by rw [q_wh1 hI.1 (by omega)]; exact c
          rw [if_neg (by simpa using c), if_pos c']
          exact ⟨_, rfl, rfl⟩
      · simp only [if_neg h2]; exact ⟨_, rfl, rfl⟩
    · simp only [if_neg h1]; exact ⟨_, rfl, rfl⟩
  obtain ⟨r, g1, g2⟩ := key
  refine ⟨r, S, L, k_su M 0 (fun _ => 0), ?_, ?_, hc, ht, ⟨hrn, hrn2⟩, hru, hs, hk0, hk1, hk2, hp⟩
  · unfold pX_tackleTold; rw [g1]; rfl
  · unfold pM_tackleTold; rw [g2]; rfl
theorem sim_seamTold : k_Sim_seamTold R_all := by
  intro S L M a1 a2 hR
  obtain ⟨hc, ht, hrn, hru, hs, hk0, hk1, hk2, hp⟩ := hR
  obtain ⟨⟨e0, e1, e2, e5, e3, e4, e6, e7, e8, e9, eo, ets, ew, eta, ess⟩, hth, hta, hse, hI⟩ := id hs
  obtain ⟨o, eo0, hoo⟩ := s_hour hI.1
  obtain ⟨e12, hn, -⟩ := s_ns_e hI.1
  have key : ∃ r, p_X8_seamTold (S 4 0) (S 5 0) (S 23 0) (S 30) (S 1) (S 24) (S 25) (S 31) a1 a2 = some r ∧ p_X9_seamTold (M 9) (M 12) a1 a2 = some (r, 0) := by
    unfold p_X8_seamTold p_X9_seamTold p_X4_hoursBare
    rw [ess, e0, e1, e12, eo0, show S 1 = M 12 from ht]
    simp only [q_within, q_in_0_c, q_in_0_3, q_b1, q_ifp]
    by_cases h1 : 0 ≤ a1 ∧ a1 ≤ nI (s_ns (M 9)) - 1
    · simp only [if_pos h1]
      obtain ⟨j, hj, rfl⟩ := q_idx (by omega) h1
      obtain ⟨z0, z1, -, -, -, -, z6, z7⟩ := hse j (by omega)
      have lp : ∃ k : Nat, k_lp (fun s : Int32 => lb_X4_hoursBare_5 (M 9 1) (M 12) (S 24) (S 25) (nI j) s) k_fuel (nI o) = some (nI (o + k)) ∧ k_lp (fun s : Int32 => lb_X9_seamTold_100 (M 9) (M 12) (nI j) s) k_fuel 0 = some (nI k) := by
        have gen : ∀ d k : Nat, o + k + d = 96 → ∃ k2 : Nat, (∀ F, d < F → k_lp (fun s : Int32 => lb_X4_hoursBare_5 (M 9 1) (M 12) (S 24) (S 25) (nI j) s) F (nI (o + k)) = some (nI (o + k2))) ∧ (∀ F, d < F → k_lp (fun s : Int32 => lb_X9_seamTold_100 (M 9) (M 12) (nI j) s) F (nI k) = some (nI k2)) := by
          intro d
          induction d with
          | zero =>
            intro k hk
            refine ⟨k, fun F hF => ?_, fun F hF => ?_⟩
            · obtain ⟨F, rfl⟩ : ∃ f, F = f + 1 := ⟨F - 1, by omega⟩
              unfold k_lp lb_X4_hoursBare_5
              rw [show o + k = 96 from by omega, if_pos (by decide)]
            · obtain ⟨F, rfl⟩ : ∃ f, F = f + 1 := ⟨F - 1, by omega⟩
              unfold k_lp lb_X9_seamTold_100
              rw [eo0, nI_add, show o + k = 96 from by omega, if_pos (by decide)]
          | succ d ih =>
            intro k hk
            obtain ⟨k2, i1, i2⟩ := ih (k + 1) (by omega)
            have hlt : ¬ (96 : Int32) ≤ nI (o + k) := nI_ge (b := 96) (by omega) (by omega)
            cases hb : s_bare (M 9) (M 12) j (o + k) with
            | true =>
              refine ⟨k2, fun F hF => ?_, fun F hF => ?_⟩
              · obtain ⟨F, rfl⟩ : ∃ f, F = f + 1 := ⟨F - 1, by omega⟩
                unfold k_lp lb_X4_hoursBare_5
                rw [if_neg hlt, x_isBare (by omega) (by omega) z0 z1, q_b1, hb]
                show k_lp _ F (nI (o + k) + 1) = _
                rw [nI_1]
                exact i1 F (by omega)
              · obtain ⟨F, rfl⟩ : ∃ f, F = f + 1 := ⟨F - 1, by omega⟩
                have hb2 : lb_X9_seamTold_100 (M 9) (M 12) (nI j) (nI k) = some (.inl (nI (k + 1))) := by
                  unfold lb_X9_seamTold_100
                  rw [eo0, nI_add, if_neg hlt, y_isBare _ _ (by omega) (by omega), q_b1, hb, ← nI_1]
                  rfl
                unfold k_lp
                rw [hb2]
                exact i2 F (by omega)
            | false =>
              refine ⟨k, fun F hF => ?_, fun F hF => ?_⟩
              · obtain ⟨F, rfl⟩ : ∃ f, F = f + 1 := ⟨F - 1, by omega⟩
                unfold k_lp lb_X4_hoursBare_5
                rw [if_neg hlt, x_isBare (by omega) (by omega) z0 z1, q_b1, hb]
                rfl
              · obtain ⟨F, rfl⟩ : ∃ f, F = f + 1 := ⟨F - 1, by omega⟩
                unfold k_lp lb_X9_seamTold_100
                rw [eo0, nI_add, if_neg hlt, y_isBare _ _ (by omega) (by omega), q_b1, hb]
                rfl
        obtain ⟨k2, i1, i2⟩ := gen (96 - o) 0 (by omega)
        exact ⟨k2, i1 k_fuel (by show _ < 100000; omega), i2 k_fuel (by show _ < 100000; omega)⟩
      obtain ⟨k, l1, l2⟩ := lp
      rw [l1, l2, x_isBare (by omega) (by omega) z0 z1, y_isBare _ _ (by omega) (by omega)]
      simp only [q_b1, q_asNumber, q_o145, q_o157]
      simp (disch := omega) only [q_ix, q_cl]
      rw [z6, z7]
      by_cases h2 : 0 ≤ a2 ∧ a2 ≤ 3
      · simp only [if_pos h2]
        obtain ⟨b, -, hb, rfl⟩ := q_rng (a := 0) (b := 3) (by omega) (by omega) h2
        match b, hb with
        | 0, _ => exact ⟨_, rfl, rfl⟩
        | 1, _ =>
          simp only [show (nI 1 = 0) = False from by decide, show (nI 1 = 1) = True from by decide, show ((3 : Int32) ≤ nI 1) = False from by decide, if_true, if_false]
          cases s_bare (M 9) (M 12) j o <;> exact ⟨_, rfl, rfl⟩
        | 2, _ => exact ⟨_, rfl, rfl⟩
        | 3, _ =>
          refine ⟨nI k, ?_, rfl⟩
          show some (nI (o + k) - nI o) = _
          rw [pk_sub (by omega), show o + k - o = k from by omega]
      · simp only [if_neg h2]
        have n0 : ¬ a2 = 0 := fun e => h2 (by rw [e]; decide)
        have n1 : ¬ a2 = 1 := fun e => h2 (by rw [e]; decide)
        have n2 : ¬ a2 = 2 := fun e => h2 (by rw [e]; decide)
        have n3 : ¬ a2 = 3 := fun e => h2 (by rw [e]; decide)
        simp only [if_neg n0, if_neg n1, if_neg n2, if_neg n3]
        exact ⟨_, rfl, rfl⟩
    · simp only [if_neg h1]; exact ⟨_, rfl, rfl⟩
  obtain ⟨r, g1, g2⟩ := key
  refine ⟨r, S, L, k_su M 0 (fun _ => 0), ?_, ?_, hc, ht, hrn, hru, hs, hk0, hk1, hk2, hp⟩
  · unfold pX_seamTold; rw [g1]; rfl
  · unfold pM_seamTold; rw [g2]; rfl
end
section
/-! ===== move, heel, rig ===== -/
theorem x_bears {m un : Nat → Int32} {n : Nat} (hn : n ≤ 12) (x : Int32) (h1 : ∀ i, i < 12 → un i = m (25 + i)) (a : Int32) : p_X7_bearsAny x (nI n) un a = some (if (q_find (fun i => if bt x i = false ∧ m (25 + i) = a then some () else none) n).isSome = true then 1 else 0) := by
  have key : k_lp (fun s : Int32 => lb_X7_bearsAny_2 (nI n) x un a s) k_fuel 0 = some (q_ans ((q_find (fun i => if bt x i = false ∧ m (25 + i) = a then some () else none) n).map fun _ => (1 : Int32))) := by
    have := q_findlp (body := fun s : Int32 => lb_X7_bearsAny_2 (nI n) x un a s) (fun i => if bt x i = false ∧ m (25 + i) = a then some (1 : Int32) else none) n (fun i hi => by
      show lb_X7_bearsAny_2 (nI n) x un a (nI i) = _
      unfold lb_X7_bearsAny_2
      simp (disch := omega) only [q_ifge, q_ifle, q_o5, q_o13, q_o25, q_o37, q_o49, q_o55, q_o61, q_o67, q_o73, q_o85, q_o97, q_o109, q_o121, q_o133, q_o145, q_o157, q_ix, q_cl, q_b1, q_b2, q_hasBit, q_ifp, Nat.le_refl]
      rw [h1 i (by omega)]
      by_cases c : bt x i = true
      · simp [c]
      · have c' : bt x i = false := by simpa using c
        by_cases c2 : m (25 + i) = a <;> simp [c', c2]) (by
      show lb_X7_bearsAny_2 (nI n) x un a (nI n) = _
      unfold lb_X7_bearsAny_2
      simp (disch := omega) only [q_ifge, q_ifle, q_o5, q_o13, q_o25, q_o37, q_o49, q_o55, q_o61, q_o67, q_o73, q_o85, q_o97, q_o109, q_o121, q_o133, q_o145, q_o157, q_ix, q_cl, q_b1, q_b2, q_hasBit, q_ifp, Nat.le_refl]) (by omega)
    rw [this]
    have e : ∀ k, q_find (fun i => if bt x i = false ∧ m (25 + i) = a then some (1 : Int32) else none) k = (q_find (fun i => if bt x i = false ∧ m (25 + i) = a then some () else none) k).map fun _ => (1 : Int32) := by
      intro k
      induction k with
      | zero => rfl
      | succ k ih =>
        cases hq : q_find (fun i => if bt x i = false ∧ m (25 + i) = a then some () else none) k with
        | some u =>
          rw [q_find_ss hq, q_find_ss (v := 1) (by rw [ih, hq]; rfl)]; rfl
        | none =>
          rw [q_find_sn hq, q_find_sn (by rw [ih, hq]; rfl)]
          by_cases c : bt x k = false ∧ m (25 + k) = a
          · rw [if_pos c, if_pos c]; rfl
          · rw [if_neg c, if_neg c]; rfl
    rw [e]
  unfold p_X7_bearsAny
  rw [key]
  cases q_find (fun i => if bt x i = false ∧ m (25 + i) = a then some () else none) n <;> rfl
theorem x_mayIn {un : Nat → Int32} {n : Nat} (hn : n ≤ 12) (x b : Int32) (hu : ∀ i, i < n → (un i = -1 ∨ ∃ j, j < n ∧ un i = nI j)) : p_X7_mayComeIn x (nI n) un b = some (if (∀ i, i < n → bt b i = true → ∀ j, j < n → un i = nI j → ¬ (bt x j = true ∧ bt b j = false)) then 1 else 0) := by
  have key : k_lp (fun s : Int32 => lb_X7_mayComeIn_11 (nI n) b un x s) k_fuel 0 = some (q_ans (q_find (fun i => if bt b i = true ∧ ∃ j, j < n ∧ un i = nI j ∧ (bt x j = true ∧ bt b j = false) then some (0 : Int32) else none) n)) := by
    refine q_findlp _ n (fun i hi => ?_) ?_ (by omega)
    · show lb_X7_mayComeIn_11 (nI n) b un x (nI i) = _
      unfold lb_X7_mayComeIn_11
      simp (disch := omega) only [q_ifge, q_ifle, q_o5, q_o13, q_o25, q_o37, q_o49, q_o55, q_o61, q_o67, q_o73, q_o85, q_o97, q_o109, q_o121, q_o133, q_o145, q_o157, q_ix, q_cl, q_b1, q_b2, q_hasBit, q_ifp, Nat.le_refl]
      by_cases c : bt b i = true
      · rw [if_pos c]
        rcases hu i hi with e | ⟨j, hj, e⟩
        · rw [e, if_pos (by decide)]
          have : ¬ (bt b i = true ∧ ∃ j, j < n ∧ (-1 : Int32) = nI j ∧ (bt x j = true ∧ bt b j = false)) := by
            rintro ⟨-, j, hj, e2, -⟩
            have := congrArg Int32.toInt e2
            rw [q_ti (by omega), show (-1 : Int32).toInt = -1 from by decide] at this
            omega
          simp only [if_neg this]
        · rw [e, if_neg (nI_pos (by omega)), q_hasBit _ (by omega), q_b1, q_ifp, b_and, bt_not _ (by omega)]
          by_cases c2 : bt x j = true ∧ bt b j = false
          · have : bt b i = true ∧ ∃ j', j' < n ∧ nI j = nI j' ∧ (bt x j' = true ∧ bt b j' = false) := ⟨c, j, hj, rfl, c2⟩
            simp only [if_pos this]
            rw [if_pos (by rw [c2.1, c2.2]; rfl)]
          · have : ¬ (bt b i = true ∧ ∃ j', j' < n ∧ nI j = nI j' ∧ (bt x j' = true ∧ bt b j' = false)) := by
              rintro ⟨-, j', hj', e2, h3⟩
              rw [nI_eq (by omega) (by omega)] at e2
              subst e2
              exact c2 h3
            simp only [if_neg this]
            rw [if_neg (fun hh => c2 (by
              simp only [Bool.and_eq_true, Bool.not_eq_true'] at hh
              exact hh))]
      · rw [if_neg c]
        have : ¬ (bt b i = true ∧ ∃ j, j < n ∧ un i = nI j ∧ (bt x j = true ∧ bt b j = false)) := fun hh => c hh.1
        simp only [if_neg this]
    · show lb_X7_mayComeIn_11 (nI n) b un x (nI n) = _
      unfold lb_X7_mayComeIn_11
      simp (disch := omega) only [q_ifge, q_ifle, q_o5, q_o13, q_o25, q_o37, q_o49, q_o55, q_o61, q_o67, q_o73, q_o85, q_o97, q_o109, q_o121, q_o133, q_o145, q_o157, q_ix, q_cl, q_b1, q_b2, q_hasBit, q_ifp, Nat.le_refl]
  unfold p_X7_mayComeIn
  rw [key]
  by_cases c : ∀ i, i < n → bt b i = true → ∀ j, j < n → un i = nI j → ¬ (bt x j = true ∧ bt b j = false)
  · rw [if_pos c]
    have : q_find (fun i => if bt b i = true ∧ ∃ j, j < n ∧ un i = nI j ∧ (bt x j = true ∧ bt b j = false) then some (0 : Int32) else none) n = none := by
      rw [q_find_none]
      intro i hi
      rw [if_neg]
      rintro ⟨h1, j, hj, h2, h3⟩
      exact c i hi h1 j hj h2 h3
    rw [this]; rfl
  · rw [if_neg c]
    cases hq : q_find (fun i => if bt b i = true ∧ ∃ j, j < n ∧ un i = nI j ∧ (bt x j = true ∧ bt b j = false) then some (0 : Int32) else none) n with
    | none =>
      rw [q_find_none] at hq
      refine absurd (fun i hi h1 j hj h2 h3 => ?_) c
      have := hq i hi
      rw [if_pos ⟨h1, j, hj, h2, h3⟩] at this
      cases this
    | some v =>
      obtain ⟨i, -, h2, -⟩ := q_find_some.mp hq
      split at h2
      · cases h2; rfl
      · cases h2
theorem q_und {m : Nat → Int32} (h : k_Inv m) {i : Nat} (hi : i < s_nt m) : m (25 + i) = -1 ∨ ∃ j, j < i ∧ m (25 + i) = nI j := by
  obtain ⟨e10, hn, e10'⟩ := s_nt_e h.1
  have h1 := (rg_un h.1 (i := i) (by omega)).1
  have h2 := h.2.1 i (by omega)
  by_cases c : (m (25 + i)).toInt = -1
  · exact Or.inl (Int32.toInt_inj.mp (by rw [c]; decide))
  · refine Or.inr ⟨(m (25 + i)).toInt.toNat, by omega, Int32.toInt_inj.mp ?_⟩
    rw [q_ti (by omega)]; omega
theorem q_und2 {m : Nat → Int32} (h : k_Inv m) {i : Nat} (hi : i < s_nt m) : m (25 + i) = -1 ∨ ∃ j, j < s_nt m ∧ m (25 + i) = nI j := by
  rcases q_und h hi with e | ⟨j, hj, e⟩
  · exact Or.inl e
  · exact Or.inr ⟨j, by omega, e⟩
def m_move (m : Nat → Int32) (j : Nat) : Nat → Int32 := upd (upd (upd m (37 + j) (1 - m (37 + j))) 3 1) 9 (m 9 + 1)
theorem m_move_at {m : Nat → Int32} {j k : Nat} (h : k ≠ 3 ∧ k ≠ 9 ∧ k ≠ 37 + j) : m_move m j k = m k := by
  unfold m_move; rw [upd_n h.2.1, upd_n h.1, upd_n h.2.2]
theorem m_move_inv {m : Nat → Int32} (h : k_Inv m) {j : Nat} (hj : j < s_nt m) : k_Inv (m_move m j) ∧ nI (k_out m) ^^^ (1 <<< (nI j &&& 31)) = nI (k_out (m_move m j)) := by
  obtain ⟨e10, hn, e10'⟩ := s_nt_e h.1
  have e37 : m_move m j (37 + j) = 1 - m (37 + j) := by unfold m_move; simp (disch := omega) only [upd_n, upd_s]
  have er : k_Rng (m_move m j) := by
    unfold m_move
    refine k_Rng_upd (k_Rng_upd (k_Rng_upd h.1 ?_) ⟨by decide, by decide⟩) ?_
    · have l37 : ∀ i, i < 12 → k_lo (37 + i) = 0 ∧ k_hi (37 + i) = 1 := by decide
      rw [(l37 j (by omega)).1, (l37 j (by omega)).2]
      rcases q_01 (rg_in h.1 (i := j) (by omega)) with e | e <;> rw [e] <;> exact ⟨by decide, by decide⟩
    · have := fb_rng (m 9 + 1)
      exact ⟨by show -2147483648 ≤ _; omega, by show _ ≤ 2147483647; omega⟩
  have fr : ∀ k, (k ≠ 3 ∧ k ≠ 9 ∧ k ≠ 37 + j) → m_move m j k = m k := fun k hk => m_move_at hk
  refine ⟨k_Inv_frame h er (fr _ (by omega)) (fr _ (by omega)) (fr _ (by omega)) (fun i hi => fr _ (by omega)) (fun i hi => fr _ (by omega)) (fun i hi => ⟨fr _ (by omega), fr _ (by omega), fr _ (by omega)⟩), ?_⟩
  refine k_out_of er fun i hi => ?_
  rw [b_xor, bt_one j (by omega) hi, k_out_bt h.1 hi, s_nt_cong (fr 10 (by omega))]
  by_cases c : i = j
  · subst c
    rw [e37]
    rcases q_01 (rg_in h.1 (i := i) (by omega)) with e | e <;> rw [e] <;> simp [hj] <;> decide
  · by_cases c2 : i < s_nt m
    · rw [fr _ (by omega)]; simp [c]
    · simp [c, c2]
theorem t_move {m ru ru' wt un : Nat → Int32} {ot ts : Int32} (h : k_Inv m) (hr : ru' 1 = ru 1) (eo : ot = nI (k_out m)) (ets : ts = m 10) (hth : ∀ i, i < 12 → wt i = m (13 + i) ∧ un i = m (25 + i)) (a1 : Int32) : ∃ r m', p_X8_move (m 2) (m 3) (m 9) ot ts un ru' wt a1 = some (r, m' 3, m' 9, nI (k_out m')) ∧ p_X9_move m ru a1 = some (r, 0, m') ∧ k_Inv m' ∧ ∀ k, (k ≠ 3 ∧ k ≠ 9 ∧ (k < 37 ∨ 49 ≤ k)) → m' k = m k := by
  obtain ⟨e10, hn, e10'⟩ := s_nt_e h.1
  subst eo; subst ets
  have same : ∀ v : Int32, ∃ r m', (some (v, m 3, m 9, nI (k_out m)) : Option (Int32 × Int32 × Int32 × Int32)) = some (r, m' 3, m' 9, nI (k_out m')) ∧ (some (v, 0, m) : Option (Int32 × Int32 × (Nat → Int32))) = some (r, 0, m') ∧ k_Inv m' ∧ ∀ k, (k ≠ 3 ∧ k ≠ 9 ∧ (k < 37 ∨ 49 ≤ k)) → m' k = m k :=
    fun v => ⟨v, m, rfl, rfl, h, fun _ _ => rfl⟩
  have same2 : ∀ v b : Int32, m 3 = b → ∃ r m', (some (v, b, m 9, nI (k_out m)) : Option (Int32 × Int32 × Int32 × Int32)) = some (r, m' 3, m' 9, nI (k_out m')) ∧ (some (v, 0, m) : Option (Int32 × Int32 × (Nat → Int32))) = some (r, 0, m') ∧ k_Inv m' ∧ ∀ k, (k ≠ 3 ∧ k ≠ 9 ∧ (k < 37 ∨ 49 ≤ k)) → m' k = m k := by
    intro v b hb; subst hb; exact same v
  unfold p_X8_move p_X9_move
  rw [e10, x_lost, y_lost]
  simp only [q_within, q_in_0_c, q_b1, q_ifp]
  by_cases h1 : 0 ≤ a1 ∧ a1 ≤ nI (s_nt m) - 1
  · simp only [if_pos h1]
    obtain ⟨j, hj, rfl⟩ := q_idx hn h1
    have done : ∃ r m', (k_b3 (p_X4_moveByBoat (m 9) (nI (k_out m)) (nI j)) fun w8 w9 w10 => k_b1 (p_X4_total ru' w10 (nI (s_nt m)) wt) fun r11 => some (r11, w8, w9, w10)) = some (r, m' 3, m' 9, nI (k_out m')) ∧ (k_b1 (p_X9_total ru (upd (upd (upd m (37 + j) (1 - (m (37 + j)))) 3 1) 9 ((m 9) + 1))) fun r33 => some (r33, 0, upd (upd (upd m (37 + j) (1 - (m (37 + j)))) 3 1) 9 ((m 9) + 1))) = some (r, (0 : Int32), m') ∧ k_Inv m' ∧ ∀ k, (k ≠ 3 ∧ k ≠ 9 ∧ (k < 37 ∨ 49 ≤ k)) → m' k = m k := by
      obtain ⟨i1, i2⟩ := m_move_inv h hj
      refine ⟨s_total (m_move m j) ru, m_move m j, ?_, ?_, i1, fun k hk => m_move_at (by omega)⟩
      · unfold p_X4_moveByBoat
        rw [q_b3, i2, x_total (ru := ru) i1.1 hr rfl (by rw [m_move_at (by omega), e10]) (fun i hi => by rw [(hth i hi).1, m_move_at (by omega)]), q_b1]
        have z3 : m_move m j 3 = 1 := by unfold m_move; simp (disch := omega) only [upd_n, upd_s]
        have z9 : m_move m j 9 = m 9 + 1 := by unfold m_move; rw [upd_s]
        rw [z3, z9]
      · show (k_b1 (p_X9_total ru (m_move m j)) fun r33 => some (r33, 0, m_move m j)) = _
        rw [y_total i1.1, q_b1]
    have hnx : (upd (upd m (37 + j) (1 - m (37 + j))) 3 1) 9 = m 9 := by rw [upd_n (by omega), upd_n (by omega)]
    simp (disch := omega) only [q_o37, q_o25, q_ix, q_cl]
    rw [hnx]
    rcases q_01 (rg_bo h.1) with b0 | b1
    · simp only [b0, if_true, show ((0 : Int32) = 1) = False from by decide, if_false]
      by_cases cw : m 2 ≤ 100
      · simp only [if_pos cw, if_true]
        unfold p_X7_mayMove
        rw [q_hasBit _ (by omega), q_b1, q_ifp, k_out_bt h.1 (by omega), decide_eq_true hj, Bool.true_and]
        by_cases cin : m (37 + j) = 1
        · have cin0 : ¬ m (37 + j) = 0 := by rw [q_in1 h.1 (by omega)]; exact fun hh => hh cin
          rw [if_pos cin, if_neg (by simpa using cin0), x_bears hn _ (fun i hi => (hth i hi).2), q_b1, q_ifp]
          have lp : k_lp (fun s : Int32 => lb_X9_move_61 m (nI j) s) k_fuel 0 = some (q_ans ((q_find (fun i => if bt (nI (k_out m)) i = false ∧ m (25 + i) = nI j then some () else none) (s_nt m)).map fun _ => ((-2 : Int32), (0 : Int32), m))) := by
            have := q_findlp (body := fun s : Int32 => lb_X9_move_61 m (nI j) s) (fun i => if bt (nI (k_out m)) i = false ∧ m (25 + i) = nI j then some ((-2 : Int32), (0 : Int32), m) else none) (s_nt m) (fun i hi => by
              show lb_X9_move_61 m (nI j) (nI i) = _
              unfold lb_X9_move_61
              rw [e10]
              simp (disch := omega) only [q_ifge, q_ifle, q_o5, q_o13, q_o25, q_o37, q_o49, q_o55, q_o61, q_o67, q_o73, q_o85, q_o97, q_o109, q_o121, q_o133, q_o145, q_o157, q_ix, q_cl, q_b1, q_b2, q_hasBit, q_ifp, Nat.le_refl]
              rw [k_out_bt h.1 (by omega), decide_eq_true hi, Bool.true_and]
              by_cases c : m (25 + i) = nI j
              · rw [if_pos c]
                by_cases c2 : m (37 + i) = 1
                · have c3 : ¬ m (37 + i) = 0 := by rw [q_in1 h.1 (by omega)]; exact fun hh => hh c2
                  simp [c, c2]
                · have c3 : m (37 + i) = 0 := by rw [q_in1 h.1 (by omega)]; exact c2
                  simp [c3]
              · rw [if_neg c]; simp [c]) (by
              show lb_X9_move_61 m (nI j) (nI (s_nt m)) = _
              unfold lb_X9_move_61
              rw [e10]
              simp (disch := omega) only [q_ifge, q_ifle, q_o5, q_o13, q_o25, q_o37, q_o49, q_o55, q_o61, q_o67, q_o73, q_o85, q_o97, q_o109, q_o121, q_o133, q_o145, q_o157, q_ix, q_cl, q_b1, q_b2, q_hasBit, q_ifp, Nat.le_refl]) (by omega)
            rw [this]
            have e : ∀ k, q_find (fun i => if bt (nI (k_out m)) i = false ∧ m (25 + i) = nI j then some ((-2 : Int32), (0 : Int32), m) else none) k = (q_find (fun i => if bt (nI (k_out m)) i = false ∧ m (25 + i) = nI j then some () else none) k).map fun _ => ((-2 : Int32), (0 : Int32), m) := by
              intro k
              induction k with
              | zero => rfl
              | succ k ih =>
                cases hq : q_find (fun i => if bt (nI (k_out m)) i = false ∧ m (25 + i) = nI j then some () else none) k with
                | some u =>
                  rw [q_find_ss hq, q_find_ss (v := ((-2 : Int32), (0 : Int32), m)) (by rw [ih, hq]; rfl)]; rfl
                | none =>
                  rw [q_find_sn hq, q_find_sn (by rw [ih, hq]; rfl)]
                  by_cases c : bt (nI (k_out m)) k = false ∧ m (25 + k) = nI j
                  · rw [if_pos c, if_pos c]; rfl
                  · rw [if_neg c, if_neg c]; rfl
            rw [e]
          rw [lp]
          cases hq : q_find (fun i => if bt (nI (k_out m)) i = false ∧ m (25 + i) = nI j then some () else none) (s_nt m) with
          | none => exact done
          | some u => exact same2 _ _ b0
        · have cin0 : m (37 + j) = 0 := by rw [q_in1 h.1 (by omega)]; exact cin
          rw [if_neg cin, if_pos (by simpa using cin0), x_mayIn hn _ _ (fun i hi => by rw [(hth i (by omega)).2]; exact q_und2 h hi), q_b1, q_ck01, q_b1, q_ifp]
          rcases q_und h hj with e | ⟨u, hu, e⟩
          · rw [if_pos (show m (25 + j) < 0 by rw [e]; decide), if_pos (fun i hi hb k hk e2 => by
              rw [bt_one j (by omega) (by omega)] at hb
              have : i = j := by simpa using hb
              subst this
              rw [(hth i (by omega)).2, e] at e2
              have := congrArg Int32.toInt e2
              rw [q_ti (by omega), show (-1 : Int32).toInt = -1 from by decide] at this
              omega)]
            exact done
          · rw [if_neg (show ¬ m (25 + j) < 0 by rw [e]; exact nI_pos (by omega)), e]
            simp (disch := omega) only [q_o37, q_ix, q_cl]
            by_cases cu : m (37 + u) = 0
            · rw [if_pos cu, if_neg (fun hall => by
                refine hall j hj (by rw [bt_one j (by omega) (by omega)]; simp) u (by omega) (by rw [(hth j (by omega)).2, e]) ⟨?_, ?_⟩
                · rw [k_out_bt h.1 (by omega), decide_eq_true (by omega)]; simp [cu]
                · rw [bt_one j (by omega) (by omega)]; simp; omega)]
              exact same2 _ _ b0
            · rw [if_neg cu, if_pos (fun i hi hb k hk e2 => by
                rw [bt_one j (by omega) (by omega)] at hb
                have : i = j := by simpa using hb
                subst this
                rw [(hth i (by omega)).2, e, nI_eq (by omega) (by omega)] at e2
                subst e2
                rintro ⟨h3, -⟩
                rw [k_out_bt h.1 (by omega)] at h3
                simp [cu] at h3)]
              exact done
      · simp only [if_neg cw, show ((1 : Int32) = 0) = False from by decide, if_false]
        exact same2 _ _ b0
    · simp only [b1, if_true, show ((1 : Int32) = 0) = False from by decide, if_false]
      exact same2 _ _ b1
  · simp only [if_neg h1]; exact same _
theorem sim_move : k_Sim_move R_all := by
  intro S L M a1 hR
  obtain ⟨hc, ht, hrn, hru, hs, hk0, hk1, hk2, hp⟩ := hR
  obtain ⟨⟨e0, e1, e2, e5, e3, e4, e6, e7, e8, e9, eo, ets, ew, eta, ess⟩, hth, hta, hse, hI⟩ := hs
  obtain ⟨r, m', g1, g2, gI, g5⟩ := t_move hI (R_rule_rl hru).1.1 eo ets hth a1
  refine ⟨r, k_su (k_su (k_su S 8 (fun _ => m' 3)) 13 (fun _ => m' 9)) 14 (fun _ => nI (k_out m')), L, k_su (k_su M 0 (fun _ => 0)) 9 m', ?_, ?_, hc, ht, hrn, hru, ⟨⟨e0.trans (g5 0 (by omega)).symm, e1.trans (g5 1 (by omega)).symm, e2.trans (g5 2 (by omega)).symm, e5.trans (g5 5 (by omega)).symm, rfl, e4.trans (g5 4 (by omega)).symm, e6.trans (g5 6 (by omega)).symm, e7.trans (g5 7 (by omega)).symm, e8.trans (g5 8 (by omega)).symm, rfl, rfl, ets.trans (g5 10 (by omega)).symm, ew.trans (congrArg nI (k_wh_cong (m := M 9) (g5 11 (by omega)) (fun i hi => g5 _ (by omega)))).symm, eta.trans (g5 11 (by omega)).symm, ess.trans (g5 12 (by omega)).symm⟩, fun i hi => ⟨(hth i hi).1.trans (g5 _ (by omega)).symm, (hth i hi).2.trans (g5 _ (by omega)).symm⟩, fun i hi => ⟨(hta i hi).1.trans (g5 _ (by omega)).symm, (hta i hi).2.1.trans (g5 _ (by omega)).symm, (hta i hi).2.2.trans (g5 _ (by omega)).symm⟩, fun i hi => ⟨(hse i hi).1.trans (g5 _ (by omega)).symm, (hse i hi).2.1.trans (g5 _ (by omega)).symm, (hse i hi).2.2.1.trans (g5 _ (by omega)).symm, (hse i hi).2.2.2.1.trans (g5 _ (by omega)).symm, (hse i hi).2.2.2.2.1.trans (g5 _ (by omega)).symm, (hse i hi).2.2.2.2.2.1.trans (g5 _ (by omega)).symm, (hse i hi).2.2.2.2.2.2.1.trans (g5 _ (by omega)).symm, (hse i hi).2.2.2.2.2.2.2.trans (g5 _ (by omega)).symm⟩, gI⟩, hk0, hk1, hk2, hp⟩
  · unfold pX_move; rw [e2, e3, e9, g1]; rfl
  · unfold pM_move; rw [g2]; rfl
def m_heel (m : Nat → Int32) (a : Int32) : Nat → Int32 := upd (upd m 1 a) 4 1
theorem m_heel_at {m : Nat → Int32} {a : Int32} {k : Nat} (h : k ≠ 1 ∧ k ≠ 4) : m_heel m a k = m k := by
  unfold m_heel; rw [upd_n h.2, upd_n h.1]
theorem m_heel_inv {m : Nat → Int32} (h : k_Inv m) {a : Int32} (ha : kr a (-9) 9) : k_Inv (m_heel m a) := by
  refine k_Inv_frame h ?_ (m_heel_at (by omega)) (m_heel_at (by omega)) (m_heel_at (by omega)) (fun i hi => m_heel_at (by omega)) (fun i hi => m_heel_at (by omega)) (fun i hi => ⟨m_heel_at (by omega), m_heel_at (by omega), m_heel_at (by omega)⟩)
  exact k_Rng_upd (k_Rng_upd h.1 ha) ⟨by decide, by decide⟩
theorem sim_heel : k_Sim_heel R_all := by
  intro S L M a1 hR
  obtain ⟨hc, ht, ⟨hrn, hrn2⟩, hru, hs, hk0, hk1, hk2, hp⟩ := hR
  obtain ⟨⟨e0, e1, e2, e5, e3, e4, e6, e7, e8, e9, eo, ets, ew, eta, ess⟩, hth, hta, hse, hI⟩ := hs
  obtain ⟨hrl, hpos⟩ := R_rule_rl hru
  obtain ⟨o, eo0, hoo⟩ := s_hour hI.1
  have xh := fun a w => x_holds (ru := M 14) hI.1 hI.2.2.1 hrl eo ets (fun i hi => (hth i hi).1) eta (fun i hi => (hta i hi).1) (fun i hi => (hta i hi).2.1) (fun i hi => (hta i hi).2.2) a w
  have key : ∃ r m', p_X8_heel (S 4 0) (S 5 0) (S 6 0) (S 9 0) (S 2) (S 3) (S 14 0) (S 15 0) (S 16) (S 18 0) (S 19 0) (S 21) (S 22) (S 20) a1 = some (r, m' 1, m' 4) ∧ p_X9_heel (M 9) (M 13) (M 14) a1 = some (r, 0, m') ∧ k_Inv m' ∧ ∀ k, (k ≠ 1 ∧ k ≠ 4) → m' k = M 9 k := by
    have same : ∀ v : Int32, ∃ r m', (some (v, M 9 1, M 9 4) : Option (Int32 × Int32 × Int32)) = some (r, m' 1, m' 4) ∧ (some (v, 0, M 9) : Option (Int32 × Int32 × (Nat → Int32))) = some (r, 0, m') ∧ k_Inv m' ∧ ∀ k, (k ≠ 1 ∧ k ≠ 4) → m' k = M 9 k :=
      fun v => ⟨v, M 9, rfl, rfl, hI, fun _ _ => rfl⟩
    have body : ∃ r m', (if M 9 4 = 0 then k_b1 (p_X4_isLost (M 9 2)) fun r3 => if r3 = 0 then k_b1 (p_X8_within (M 9 1 + a1) (-9) 9) fun r5 => if r5 = 0 then some ((-102), M 9 1, M 9 4) else k_b1 (p_X5_rainsIn (S 2) (M 9 0)) fun r7 => k_b1 (p_X4_holds (S 3) (S 14 0) (S 15 0) (S 16) (S 18 0) (S 19 0) (S 21) (S 22) (S 20) (M 9 1 + a1) r7) fun r8 => if r8 = 0 then some ((-102), M 9 1, M 9 4) else some (M 9 1 + a1, M 9 1 + a1, 1) else some ((-102), M 9 1, M 9 4) else some ((-102), M 9 1, M 9 4)) = some (r, m' 1, m' 4) ∧ (k_b1 (p_X9_isLost (M 9)) fun r2 => if r2 = 0 then if (M 9 4) = 1 then some ((-102), 0, M 9) else k_b1 (p_X9_in (((M 9 1) + a1).toInt64) (-9) 9) fun r5 => if r5 = 0 then some ((-102), 0, M 9) else k_b1 (p_X9_rains (M 13) (M 9 0)) fun r7 => k_b1 (p_X9_holds (M 9) (M 14) ((M 9 1) + a1) r7) fun r8 => if r8 = 0 then some ((-102), 0, M 9) else some ((M 9 1) + a1, 0, upd (upd (M 9) 1 ((M 9 1) + a1)) 4 1) else some ((-102), 0, M 9)) = some (r, (0 : Int32), m') ∧ k_Inv m' ∧ ∀ k, (k ≠ 1 ∧ k ≠ 4) → m' k = M 9 k := by
      rw [x_lost, y_lost, eo0, hrn, x_rainsIn hrn2 (by omega), y_rains hrn2 (by omega)]
      simp only [q_b1, q_within, q_in_m9_9, q_ifp]
      by_cases cw : M 9 2 ≤ 100
      · simp only [if_pos cw, if_true]
        rcases q_01 (rg_we hI.1) with b0 | b1
        · simp only [if_pos b0, if_neg (show ¬ M 9 4 = 1 by rw [b0]; decide)]
          by_cases c9 : -9 ≤ M 9 1 + a1 ∧ M 9 1 + a1 ≤ 9
          · simp only [if_pos c9]
            rw [ew, xh, y_holds hI.1 hI.2.2.1 hpos (q_kr c9), q_b1, q_b1, q_ifp, q_ifp]
            cases s_holds (M 9) (M 14) (M 9 1 + a1) (M 13 (min o 95)) with
            | true =>
              refine ⟨M 9 1 + a1, m_heel (M 9) (M 9 1 + a1), ?_, rfl, m_heel_inv hI (q_kr c9), fun k hk => m_heel_at hk⟩
              have z1 : m_heel (M 9) (M 9 1 + a1) 1 = M 9 1 + a1 := by unfold m_heel; simp (disch := omega) only [upd_n, upd_s]
              have z4 : m_heel (M 9) (M 9 1 + a1) 4 = 1 := by unfold m_heel; rw [upd_s]
              rw [z1, z4]; rfl
            | false => exact same _
          · simp only [if_neg c9]; exact same _
        · simp only [if_neg (show ¬ M 9 4 = 0 by rw [b1]; decide), if_pos b1]; exact same _
      · simp only [if_neg cw, show ((1 : Int32) = 0) = False from by decide, if_false]
        by_cases b : M 9 4 = 0
        · simp only [if_pos b]; exact same _
        · simp only [if_neg b]; exact same _
    unfold p_X8_heel p_X9_heel
    rw [e0, e1, e2, e4]
    by_cases c1 : a1 = 1
    · simp only [if_pos c1]; exact body
    · simp only [if_neg c1]
      by_cases c2 : a1 = -1
      · simp only [if_pos c2]; exact body
      · simp only [if_neg c2]; exact same _
  obtain ⟨r, m', g1, g2, gI, g5⟩ := key
  refine ⟨r, k_su (k_su S 5 (fun _ => m' 1)) 9 (fun _ => m' 4), L, k_su (k_su M 0 (fun _ => 0)) 9 m', ?_, ?_, hc, ht, ⟨hrn, hrn2⟩, hru, ⟨⟨e0.trans (g5 0 (by omega)).symm, rfl, e2.trans (g5 2 (by omega)).symm, e5.trans (g5 5 (by omega)).symm, e3.trans (g5 3 (by omega)).symm, rfl, e6.trans (g5 6 (by omega)).symm, e7.trans (g5 7 (by omega)).symm, e8.trans (g5 8 (by omega)).symm, e9.trans (g5 9 (by omega)).symm, eo.trans (congrArg nI (k_out_cong (m := M 9) (g5 10 (by omega)) (fun i hi => g5 _ (by omega)))).symm, ets.trans (g5 10 (by omega)).symm, ew.trans (congrArg nI (k_wh_cong (m := M 9) (g5 11 (by omega)) (fun i hi => g5 _ (by omega)))).symm, eta.trans (g5 11 (by omega)).symm, ess.trans (g5 12 (by omega)).symm⟩, fun i hi => ⟨(hth i hi).1.trans (g5 _ (by omega)).symm, (hth i hi).2.trans (g5 _ (by omega)).symm⟩, fun i hi => ⟨(hta i hi).1.trans (g5 _ (by omega)).symm, (hta i hi).2.1.trans (g5 _ (by omega)).symm, (hta i hi).2.2.trans (g5 _ (by omega)).symm⟩, fun i hi => ⟨(hse i hi).1.trans (g5 _ (by omega)).symm, (hse i hi).2.1.trans (g5 _ (by omega)).symm, (hse i hi).2.2.1.trans (g5 _ (by omega)).symm, (hse i hi).2.2.2.1.trans (g5 _ (by omega)).symm, (hse i hi).2.2.2.2.1.trans (g5 _ (by omega)).symm, (hse i hi).2.2.2.2.2.1.trans (g5 _ (by omega)).symm, (hse i hi).2.2.2.2.2.2.1.trans (g5 _ (by omega)).symm, (hse i hi).2.2.2.2.2.2.2.trans (g5 _ (by omega)).symm⟩, gI⟩, hk0, hk1, hk2, hp⟩
  · unfold pX_heel; rw [g1]; rfl
  · unfold pM_heel; rw [g2]; rfl
theorem upd67_inv {m : Nat → Int32} (h : k_Inv m) {j : Nat} (hj : j < 6) {a : Int32} (ha : a = 0 ∨ a = 1) : k_Inv (upd m (67 + j) a) := by
  refine k_Inv_frame h (k_Rng_upd h.1 ?_) (upd_n (by omega)) (upd_n (by omega)) (upd_n (by omega)) (fun i hi => upd_n (by omega)) (fun i hi => upd_n (by omega)) (fun i hi => ⟨upd_n (by omega), upd_n (by omega), upd_n (by omega)⟩)
  have l67 : ∀ i, i < 6 → k_lo (67 + i) = 0 ∧ k_hi (67 + i) = 1 := by decide
  rw [(l67 j hj).1, (l67 j hj).2]
  rcases ha with e | e <;> rw [e] <;> exact ⟨by decide, by decide⟩
theorem sim_rig : k_Sim_rig R_all := by
  intro S L M a1 a2 hR h2
  obtain ⟨hc, ht, ⟨hrn, hrn2⟩, hru, hs, hk0, hk1, hk2, hp⟩ := hR
  obtain ⟨⟨e0, e1, e2, e5, e3, e4, e6, e7, e8, e9, eo, ets, ew, eta, ess⟩, hth, hta, hse, hI⟩ := hs
  obtain ⟨hrl, hpos⟩ := R_rule_rl hru
  obtain ⟨o, eo0, hoo⟩ := s_hour hI.1
  obtain ⟨e11, hn, -⟩ := s_na_e hI.1
  have key : ∃ r m', p_X8_rig (S 4 0) (S 5 0) (S 18 0) (S 19 0) (S 2) (S 3) (S 14 0) (S 15 0) (S 16) (S 21) (S 22) (S 20) a1 a2 = some (r, nI (k_wh m')) ∧ p_X9_rig (M 9) (M 13) (M 14) a1 a2 = some (r, 0, m') ∧ k_Inv m' ∧ ∀ k, (k < 67 ∨ 73 ≤ k) → m' k = M 9 k := by
    unfold p_X8_rig p_X9_rig
    rw [ew, eta, e0, e1, e11]
    simp only [q_within, q_in_0_c, q_b1, q_ifp]
    by_cases h1 : 0 ≤ a1 ∧ a1 ≤ nI (s_na (M 9)) - 1
    · simp only [if_pos h1]
      obtain ⟨j, hj, rfl⟩ := q_idx (by omega) h1
      simp (disch := omega) only [q_o67, q_ix, q_cl, upd_n]
      have gen : ∀ (a wh' : Int32), (a = 0 ∨ a = 1) → wh' = nI (k_wh (upd (M 9) (67 + j) a)) → ∃ r m', (k_b1 (p_X5_rainsIn (S 2) (M 9 0)) fun r4 => k_b1 (p_X4_holds (S 3) (S 14 0) (S 15 0) (S 16) wh' (nI (s_na (M 9))) (S 21) (S 22) (S 20) (M 9 1) r4) fun r5 => if r5 = 0 then some ((-2), nI (k_wh (M 9))) else k_b1 (p_X8_hasBit (nI (k_wh (M 9))) (nI j)) fun r7 => k_b1 (p_X8_asNumber r7) fun r8 => some (r8, wh')) = some (r, nI (k_wh m')) ∧ (k_b1 (p_X9_rains (M 13) (M 9 0)) fun r6 => k_b1 (p_X9_holds (upd (M 9) (67 + j) a) (M 14) (M 9 1) r6) fun r7 => if r7 = 0 then some ((-2), 0, upd (upd (M 9) (67 + j) a) (67 + j) (M 9 (67 + j))) else some (M 9 (67 + j), 0, upd (M 9) (67 + j) a)) = some (r, (0 : Int32), m') ∧ k_Inv m' ∧ ∀ k, (k < 67 ∨ 73 ≤ k) → m' k = M 9 k := by
        intro a wh' ha hw
        have i1 := upd67_inv hI (j := j) (by omega) ha
        have e1' : upd (M 9) (67 + j) a 1 = M 9 1 := upd_n (by omega)
        have rg := rg_he hI.1
        have n11 : s_na (upd (M 9) (67 + j) a) = s_na (M 9) := s_na_cong (upd_n (by omega))
        rw [eo0, hrn, x_rainsIn hrn2 (by omega), y_rains hrn2 (by omega), q_b1, q_b1, hw, x_holds (ru := M 14) i1.1 i1.2.2.1 hrl (by rw [eo, k_out_cong (m := M 9) (m' := upd (M 9) (67 + j) a) (upd_n (by omega)) (fun i hi => upd_n (by omega))]) (by rw [ets, upd_n (by omega)]) (fun i hi => by rw [(hth i hi).1, upd_n (by omega)]) (by rw [upd_n (by omega), e11]) (fun i hi => by rw [(hta i hi).1, upd_n (by omega)]) (fun i hi => by rw [(hta i hi).2.1, upd_n (by omega)]) (fun i hi => by rw [(hta i hi).2.2, upd_n (by omega)]), y_holds i1.1 i1.2.2.1 hpos rg, q_b1, q_b1, q_ifp, q_ifp]
        cases s_holds (upd (M 9) (67 + j) a) (M 14) (M 9 1) (M 13 (min o 95)) with
        | false =>
          refine ⟨-2, M 9, rfl, ?_, hI, fun _ _ => rfl⟩
          show some ((-2 : Int32), (0 : Int32), upd (upd (M 9) (67 + j) a) (67 + j) (M 9 (67 + j))) = _
          rw [fa_upd_twice, fa_upd_same rfl]
        | true =>
          refine ⟨M 9 (67 + j), upd (M 9) (67 + j) a, ?_, rfl, i1, fun k hk => upd_n (by omega)⟩
          rw [if_pos rfl, q_hasBit _ (by omega), q_b1, q_asNumber, q_b1, k_wh_bt hI.1 (by omega), decide_eq_true hj, Bool.true_and]
          rcases q_01 (rg_wh hI.1 (i := j) (by omega)) with z | z <;> rw [z] <;> rfl
      rcases h2 with rfl | rfl
      · simp only [if_true]
        refine gen 0 _ (Or.inl rfl) ?_
        refine k_wh_of (upd67_inv hI (j := j) (by omega) (Or.inl rfl)).1 fun i hi => ?_
        rw [b_and, bt_not _ hi, bt_one j (by omega) hi, k_wh_bt hI.1 hi, s_na_cong (m := M 9) (upd_n (by omega))]
        by_cases c : i = j
        · subst c; rw [upd_s]; simp
        · rw [upd_n (by omega)]; simp [c]
      · simp only [show ((1 : Int32) = 0) = False from by decide, if_false]
        refine gen 1 _ (Or.inr rfl) ?_
        refine k_wh_of (upd67_inv hI (j := j) (by omega) (Or.inr rfl)).1 fun i hi => ?_
        rw [b_or, bt_one j (by omega) hi, k_wh_bt hI.1 hi, s_na_cong (m := M 9) (upd_n (by omega))]
        by_cases c : i = j
        · subst c; rw [upd_s]; simp [hj]
        · rw [upd_n (by omega)]; simp [c]
    · simp only [if_neg h1]; exact ⟨_, M 9, rfl, rfl, hI, fun _ _ => rfl⟩
  obtain ⟨r, m', g1, g2, gI, g5⟩ := key
  refine ⟨r, k_su S 18 (fun _ => nI (k_wh m')), L, k_su (k_su M 0 (fun _ => 0)) 9 m', ?_, ?_, hc, ht, ⟨hrn, hrn2⟩, hru, ⟨⟨e0.trans (g5 0 (by omega)).symm, e1.trans (g5 1 (by omega)).symm, e2.trans (g5 2 (by omega)).symm, e5.trans (g5 5 (by omega)).symm, e3.trans (g5 3 (by omega)).symm, e4.trans (g5 4 (by omega)).symm, e6.trans (g5 6 (by omega)).symm, e7.trans (g5 7 (by omega)).symm, e8.trans (g5 8 (by omega)).symm, e9.trans (g5 9 (by omega)).symm, eo.trans (congrArg nI (k_out_cong (m := M 9) (g5 10 (by omega)) (fun i hi => g5 _ (by omega)))).symm, ets.trans (g5 10 (by omega)).symm, rfl, eta.trans (g5 11 (by omega)).symm, ess.trans (g5 12 (by omega)).symm⟩, fun i hi => ⟨(hth i hi).1.trans (g5 _ (by omega)).symm, (hth i hi).2.trans (g5 _ (by omega)).symm⟩, fun i hi => ⟨(hta i hi).1.trans (g5 _ (by omega)).symm, (hta i hi).2.1.trans (g5 _ (by omega)).symm, (hta i hi).2.2.trans (g5 _ (by omega)).symm⟩, fun i hi => ⟨(hse i hi).1.trans (g5 _ (by omega)).symm, (hse i hi).2.1.trans (g5 _ (by omega)).symm, (hse i hi).2.2.1.trans (g5 _ (by omega)).symm, (hse i hi).2.2.2.1.trans (g5 _ (by omega)).symm, (hse i hi).2.2.2.2.1.trans (g5 _ (by omega)).symm, (hse i hi).2.2.2.2.2.1.trans (g5 _ (by omega)).symm, (hse i hi).2.2.2.2.2.2.1.trans (g5 _ (by omega)).symm, (hse i hi).2.2.2.2.2.2.2.trans (g5 _ (by omega)).symm⟩, gI⟩, hk0, hk1, hk2, hp⟩
  · unfold pX_rig; rw [g1]; rfl
  · unfold pM_rig; rw [g2]; rfl
end
section
/-! ===== book, count ===== -/
theorem xy_worth {m sta wo : Nat → Int32} {ss : Int32} (h : k_Rng m) (hs : ss = m 12) (h1 : ∀ i, i < 12 → sta i = m (145 + i)) (h2 : ∀ i, i < 12 → wo i = m (133 + i)) : ∃ v, p_X3_worthTight ss sta wo = some v ∧ k_lp (fun s : Int32 × Int32 => lb_X9_book_80 m s.1 s.2) k_fuel (0, 0) = some v := by
  obtain ⟨e12, hn, -⟩ := s_ns_e h
  subst hs
  have k1 : k_lp (fun s : Int32 × Int32 => lb_X3_worthTight_4 (m 12) sta wo s.1 s.2) k_fuel (0, 0) = some (0 + q_sum (fun i => if m (145 + i) = 2 then m (133 + i) else 0) (s_ns m)) := by
    refine q_sumlp _ (s_ns m) 0 (fun i x hi => ?_) (fun x => ?_) (by omega)
    · show lb_X3_worthTight_4 (m 12) sta wo x (nI i) = _
      unfold lb_X3_worthTight_4
      rw [e12]
      simp (disch := omega) only [q_ifge, q_ifle, q_o5, q_o13, q_o25, q_o37, q_o49, q_o55, q_o61, q_o67, q_o73, q_o85, q_o97, q_o109, q_o121, q_o133, q_o145, q_o157, q_ix, q_cl, q_b1, q_b2, q_hasBit, q_ifp, Nat.le_refl]
      rw [h1 i (by omega), h2 i (by omega)]
      by_cases c : m (145 + i) = 2 <;> simp [c]
    · show lb_X3_worthTight_4 (m 12) sta wo x (nI (s_ns m)) = _
      unfold lb_X3_worthTight_4
      rw [e12]
      simp (disch := omega) only [q_ifge, q_ifle, q_o5, q_o13, q_o25, q_o37, q_o49, q_o55, q_o61, q_o67, q_o73, q_o85, q_o97, q_o109, q_o121, q_o133, q_o145, q_o157, q_ix, q_cl, q_b1, q_b2, q_hasBit, q_ifp, Nat.le_refl]
  have k2 : k_lp (fun s : Int32 × Int32 => lb_X9_book_80 m s.1 s.2) k_fuel (0, 0) = some (0 + q_sum (fun i => if m (145 + i) = 2 then m (133 + i) else 0) (s_ns m)) := by
    refine q_sumlp _ (s_ns m) 0 (fun i x hi => ?_) (fun x => ?_) (by omega)
    · show lb_X9_book_80 m x (nI i) = _
      unfold lb_X9_book_80
      rw [e12]
      simp (disch := omega) only [q_ifge, q_ifle, q_o5, q_o13, q_o25, q_o37, q_o49, q_o55, q_o61, q_o67, q_o73, q_o85, q_o97, q_o109, q_o121, q_o133, q_o145, q_o157, q_ix, q_cl, q_b1, q_b2, q_hasBit, q_ifp, Nat.le_refl]
      by_cases c : m (145 + i) = 2 <;> simp [c]
    · show lb_X9_book_80 m x (nI (s_ns m)) = _
      unfold lb_X9_book_80
      rw [e12]
      simp (disch := omega) only [q_ifge, q_ifle, q_o5, q_o13, q_o25, q_o37, q_o49, q_o55, q_o61, q_o67, q_o73, q_o85, q_o97, q_o109, q_o121, q_o133, q_o145, q_o157, q_ix, q_cl, q_b1, q_b2, q_hasBit, q_ifp, Nat.le_refl]
  exact ⟨_, by unfold p_X3_worthTight; rw [k1, q_b1], k2⟩
theorem sim_book : k_Sim_book R_all := by
  intro S L M a1 hR
  obtain ⟨hc, ht, hrn, hru, hs, hk0, hk1, hk2, hp⟩ := hR
  obtain ⟨⟨e0, e1, e2, e5, e3, e4, e6, e7, e8, e9, eo, ets, ew, eta, ess⟩, hth, hta, hse, hI⟩ := id hs
  obtain ⟨v, v1, v2⟩ := xy_worth hI.1 ess (fun i hi => (hse i hi).2.2.2.2.2.2.1) (fun i hi => (hse i hi).2.2.2.2.2.1)
  have key : ∃ r, p_X8_book (S 7 0) (S 10 0) (S 11 0) (S 12 0) (S 13 0) (S 23 0) (S 30) (S 29) a1 = some r ∧ p_X9_book (M 9) a1 = some (r, 0) := by
    unfold p_X8_book p_X9_book
    rw [v1, v2, e5, e6, e7, e8, e9]
    simp only [q_b1]
    by_cases c0 : a1 = 0
    · simp only [if_pos c0]; exact ⟨_, rfl, rfl⟩
    simp only [if_neg c0]
    by_cases c1 : a1 = 1
    · simp only [if_pos c1]; exact ⟨_, rfl, rfl⟩
    simp only [if_neg c1]
    by_cases c2 : a1 = 2
    · simp only [if_pos c2]; exact ⟨_, rfl, rfl⟩
    simp only [if_neg c2]
    by_cases c3 : a1 = 3
    · simp only [if_pos c3]; exact ⟨_, rfl, rfl⟩
    simp only [if_neg c3]
    by_cases c4 : a1 = 4
    · simp only [if_pos c4]; exact ⟨_, rfl, rfl⟩
    simp only [if_neg c4]
    by_cases c5 : a1 = 5
    · simp only [if_pos c5]; exact ⟨_, rfl, rfl⟩
    simp only [if_neg c5]
    exact ⟨_, rfl, rfl⟩
  obtain ⟨r, g1, g2⟩ := key
  refine ⟨r, S, L, k_su M 0 (fun _ => 0), ?_, ?_, hc, ht, hrn, hru, hs, hk0, hk1, hk2, hp⟩
  · unfold pX_book; rw [g1]; rfl
  · unfold pM_book; rw [g2]; rfl
theorem x_outs {m : Nat → Int32} (h : k_Rng m) : p_J6_bitCount_0f7a4 (nI (k_out m)) = some (nI (fb_ct (fun i => decide (m (37 + i) = 0)) (s_nt m))) :=
  q_bitCount (s_nt_e h).2.1 (fun i hi => k_out_bt h hi)
theorem y_ins {m : Nat → Int32} (h : k_Rng m) : k_lp (fun s : Int32 × Int32 => lb_X9_count_70 m s.1 s.2) k_fuel (0, 0) = some (nI (fb_ct (fun i => !decide (m (37 + i) = 0)) (s_nt m))) := by
  obtain ⟨e10, hn, -⟩ := s_nt_e h
  have key : k_lp (fun s : Int32 × Int32 => lb_X9_count_70 m s.1 s.2) k_fuel (0, 0) = some (0 + q_sum (fun i => m (37 + i)) (s_nt m)) := by
    refine q_sumlp _ (s_nt m) 0 (fun i x hi => ?_) (fun x => ?_) (by omega)
    · show lb_X9_count_70 m x (nI i) = _
      unfold lb_X9_count_70
      rw [e10]
      simp (disch := omega) only [q_ifge, q_ifle, q_o5, q_o13, q_o25, q_o37, q_o49, q_o55, q_o61, q_o67, q_o73, q_o85, q_o97, q_o109, q_o121, q_o133, q_o145, q_o157, q_ix, q_cl, q_b1, q_b2, q_hasBit, q_ifp, Nat.le_refl]
    · show lb_X9_count_70 m x (nI (s_nt m)) = _
      unfold lb_X9_count_70
      rw [e10]
      simp (disch := omega) only [q_ifge, q_ifle, q_o5, q_o13, q_o25, q_o37, q_o49, q_o55, q_o61, q_o67, q_o73, q_o85, q_o97, q_o109, q_o121, q_o133, q_o145, q_o157, q_ix, q_cl, q_b1, q_b2, q_hasBit, q_ifp, Nat.le_refl]
  rw [key, Int32.zero_add, q_sum_cnt (p := fun i => !decide (m (37 + i) = 0)) (fun i hi => by
    rcases q_01 (rg_in h (i := i) (by omega)) with e | e <;> simp [e])]
theorem sim_count : k_Sim_count R_all := by
  intro S L M a1 hR
  obtain ⟨hc, ht, hrn, hru, hs, hk0, hk1, hk2, hp⟩ := hR
  obtain ⟨⟨e0, e1, e2, e5, e3, e4, e6, e7, e8, e9, eo, ets, ew, eta, ess⟩, hth, hta, hse, hI⟩ := id hs
  obtain ⟨x1, x11, x12⟩ := x_bitsOf hI.1 ess (fun i hi => (hse i hi).2.2.2.2.2.2.1) 1
  obtain ⟨x2, x21, x22⟩ := x_bitsOf hI.1 ess (fun i hi => (hse i hi).2.2.2.2.2.2.1) 2
  obtain ⟨e10, hn, -⟩ := s_nt_e hI.1
  have hb1 := q_bitCount (s_ns_e hI.1).2.1 x12
  have hb2 := q_bitCount (s_ns_e hI.1).2.1 x22
  have key : ∃ r, p_X8_count (S 0 0) (S 4 0) (S 14 0) (S 15 0) (S 18 0) (S 19 0) (S 23 0) (S 30) a1 = some r ∧ p_X9_count (M 1 0) (M 9) a1 = some (r, 0) := by
    unfold p_X8_count p_X9_count
    rw [x11, x21, eo, ew, x_outs hI.1, x_count hI.1, y_ins hI.1, y_wholes hI.1, y_states hI.1, y_states hI.1, hc.1, e0, ets, eta, ess]
    simp only [q_b1]
    rw [hb1, hb2]
    simp only [q_b1]
    by_cases c0 : a1 = 0
    · simp only [if_pos c0]; exact ⟨_, rfl, rfl⟩
    simp only [if_neg c0]
    by_cases c1 : a1 = 1
    · simp only [if_pos c1]
      refine ⟨_, ?_, rfl⟩
      have hct := fb_ct_not (fun i => decide (M 9 (37 + i) = 0)) (s_nt (M 9))
      rw [e10, pk_sub (fb_ct_le _ _)]
      have : s_nt (M 9) - fb_ct (fun i => decide (M 9 (37 + i) = 0)) (s_nt (M 9)) = fb_ct (fun i => !decide (M 9 (37 + i) = 0)) (s_nt (M 9)) := by omega
      rw [this]
    simp only [if_neg c1]
    by_cases c2 : a1 = 2
    · simp only [if_pos c2]; exact ⟨_, rfl, rfl⟩
    simp only [if_neg c2]
    by_cases c3 : a1 = 3
    · simp only [if_pos c3]; exact ⟨_, rfl, rfl⟩
    simp only [if_neg c3]
    by_cases c4 : a1 = 4
    · simp only [if_pos c4]; exact ⟨_, rfl, rfl⟩
    simp only [if_neg c4]
    by_cases c5 : a1 = 5
    · simp only [if_pos c5]; exact ⟨_, rfl, rfl⟩
    simp only [if_neg c5]
    by_cases c6 : a1 = 6
    · simp only [if_pos c6]; exact ⟨_, rfl, rfl⟩
    simp only [if_neg c6]
    by_cases c7 : a1 = 7
    · simp only [if_pos c7]; exact ⟨_, rfl, rfl⟩
    simp only [if_neg c7]
    by_cases c8 : a1 = 8
    · simp only [if_pos c8]; exact ⟨_, rfl, rfl⟩
    simp only [if_neg c8]
    exact ⟨_, rfl, rfl⟩
  obtain ⟨r, g1, g2⟩ := key
  refine ⟨r, S, L, k_su M 0 (fun _ => 0), ?_, ?_, hc, ht, hrn, hru, hs, hk0, hk1, hk2, hp⟩
  · unfold pX_count; rw [g1]; rfl
  · unfold pM_count; rw [g2]; rfl
/-! ===== worm ===== -/
theorem q_pl {t : Nat → Int32} (ht : ∀ p, p < 30 → kr (t p) (-1) 1) {i : Nat} (hi : i < 30) : t i = -1 ∨ t i = 0 ∨ t i = 1 := by
  obtain ⟨h1, h2⟩ := ht i hi
  have : (t i).toInt = -1 ∨ (t i).toInt = 0 ∨ (t i).toInt = 1 := by omega
  rcases this with e | e | e
  · exact Or.inl (Int32.toInt_inj.mp (by rw [e]; decide))
  · exact Or.inr (Or.inl (Int32.toInt_inj.mp (by rw [e]; decide)))
  · exact Or.inr (Or.inr (Int32.toInt_inj.mp (by rw [e]; decide)))
theorem xy_least {t : Nat → Int32} (ht : ∀ p, p < 30 → kr (t p) (-1) 1) {n : Nat} (hn : n ≤ 30) : ∃ v, p_X1_least t (nI n) = some v ∧ k_lp (fun s : Int32 × Int32 => lb_X9_worm_41 (nI n) t 0 s.1 s.2) k_fuel (0, 0) = some v := by
  have k1 : k_lp (fun s : Int32 × Int32 => lb_X1_least_4 (nI n) t s.1 s.2) k_fuel (0, 0) = some (0 + q_sum (fun i => if t i = 1 then 1 else 0) n) := by
    refine q_sumlp _ n 0 (fun i x hi => ?_) (fun x => ?_) (by omega)
    · show lb_X1_least_4 (nI n) t x (nI i) = _
      unfold lb_X1_least_4
      simp (disch := omega) only [q_ifge, q_ifle, q_o5, q_o13, q_o25, q_o37, q_o49, q_o55, q_o61, q_o67, q_o73, q_o85, q_o97, q_o109, q_o121, q_o133, q_o145, q_o157, q_ix, q_cl, q_b1, q_b2, q_hasBit, q_ifp, Nat.le_refl]
      by_cases c : t i = 1 <;> simp [c]
    · show lb_X1_least_4 (nI n) t x (nI n) = _
      unfold lb_X1_least_4
      simp (disch := omega) only [q_ifge, q_ifle, q_o5, q_o13, q_o25, q_o37, q_o49, q_o55, q_o61, q_o67, q_o73, q_o85, q_o97, q_o109, q_o121, q_o133, q_o145, q_o157, q_ix, q_cl, q_b1, q_b2, q_hasBit, q_ifp, Nat.le_refl]
  have k2 : k_lp (fun s : Int32 × Int32 => lb_X9_worm_41 (nI n) t 0 s.1 s.2) k_fuel (0, 0) = some (0 + q_sum (fun i => if t i = 1 then 1 else 0) n) := by
    refine q_sumlp _ n 0 (fun i x hi => ?_) (fun x => ?_) (by omega)
    · show lb_X9_worm_41 (nI n) t 0 x (nI i) = _
      unfold lb_X9_worm_41
      simp (disch := omega) only [q_ifge, q_ifle, q_o5, q_o13, q_o25, q_o37, q_o49, q_o55, q_o61, q_o67, q_o73, q_o85, q_o97, q_o109, q_o121, q_o133, q_o145, q_o157, q_ix, q_cl, q_b1, q_b2, q_hasBit, q_ifp, Nat.le_refl]
      by_cases c : t i = 1 <;> simp [c]
    · show lb_X9_worm_41 (nI n) t 0 x (nI n) = _
      unfold lb_X9_worm_41
      simp (disch := omega) only [q_ifge, q_ifle, q_o5, q_o13, q_o25, q_o37, q_o49, q_o55, q_o61, q_o67, q_o73, q_o85, q_o97, q_o109, q_o121, q_o133, q_o145, q_o157, q_ix, q_cl, q_b1, q_b2, q_hasBit, q_ifp, Nat.le_refl]
  exact ⟨_, by unfold p_X1_least; rw [k1, q_b1], k2⟩
theorem xy_most {t : Nat → Int32} (ht : ∀ p, p < 30 → kr (t p) (-1) 1) {n : Nat} (hn : n ≤ 30) : ∃ v, p_X1_most t (nI n) = some v ∧ k_lp (fun s : Int32 × Int32 => lb_X9_worm_41 (nI n) t 1 s.1 s.2) k_fuel (0, 0) = some v := by
  have k1 : k_lp (fun s : Int32 × Int32 => lb_X1_most_4 (nI n) t s.1 s.2) k_fuel (0, 0) = some (0 + q_sum (fun i => if t i = 0 then 0 else 1) n) := by
    refine q_sumlp _ n 0 (fun i x hi => ?_) (fun x => ?_) (by omega)
    · show lb_X1_most_4 (nI n) t x (nI i) = _
      unfold lb_X1_most_4
      simp (disch := omega) only [q_ifge, q_ifle, q_o5, q_o13, q_o25, q_o37, q_o49, q_o55, q_o61, q_o67, q_o73, q_o85, q_o97, q_o109, q_o121, q_o133, q_o145, q_o157, q_ix, q_cl, q_b1, q_b2, q_hasBit, q_ifp, Nat.le_refl]
      by_cases c : t i = 0 <;> simp [c]
    · show lb_X1_most_4 (nI n) t x (nI n) = _
      unfold lb_X1_most_4
      simp (disch := omega) only [q_ifge, q_ifle, q_o5, q_o13, q_o25, q_o37, q_o49, q_o55, q_o61, q_o67, q_o73, q_o85, q_o97, q_o109, q_o121, q_o133, q_o145, q_o157, q_ix, q_cl, q_b1, q_b2, q_hasBit, q_ifp, Nat.le_refl]
  have k2 : k_lp (fun s : Int32 × Int32 => lb_X9_worm_41 (nI n) t 1 s.1 s.2) k_fuel (0, 0) = some (0 + q_sum (fun i => if t i = 0 then 0 else 1) n) := by
    refine q_sumlp _ n 0 (fun i x hi => ?_) (fun x => ?_) (by omega)
    · show lb_X9_worm_41 (nI n) t 1 x (nI i) = _
      unfold lb_X9_worm_41
      simp (disch := omega) only [q_ifge, q_ifle, q_o5, q_o13, q_o25, q_o37, q_o49, q_o55, q_o61, q_o67, q_o73, q_o85, q_o97, q_o109, q_o121, q_o133, q_o145, q_o157, q_ix, q_cl, q_b1, q_b2, q_hasBit, q_ifp, Nat.le_refl]
      rcases q_pl ht (i := i) (by omega) with c | c | c <;> simp [c]
    · show lb_X9_worm_41 (nI n) t 1 x (nI n) = _
      unfold lb_X9_worm_41
      simp (disch := omega) only [q_ifge, q_ifle, q_o5, q_o13, q_o25, q_o37, q_o49, q_o55, q_o61, q_o67, q_o73, q_o85, q_o97, q_o109, q_o121, q_o133, q_o145, q_o157, q_ix, q_cl, q_b1, q_b2, q_hasBit, q_ifp, Nat.le_refl]
  exact ⟨_, by unfold p_X1_most; rw [k1, q_b1], k2⟩
/-- the runs at least: so many, and whether the last plank is in one -/
def s_lr (t : Nat → Int32) : Nat → Nat × Bool
  | 0 => (0, false)
  | i + 1 => (if t i = 1 ∧ (s_lr t i).2 = false then (s_lr t i).1 + 1 else (s_lr t i).1, if t i = 1 then true else if t i = 0 then false else (s_lr t i).2)
theorem s_lr_le (t : Nat → Int32) : ∀ i, (s_lr t i).1 ≤ i
  | 0 => Nat.le_refl 0
  | i + 1 => by
    have ih := s_lr_le t i
    unfold s_lr
    split <;> omega
theorem q_min (a b : Int32) : (if a ≤ b then a else b) = (if b < a then b else a) := by
  by_cases c : a ≤ b
  · rw [if_pos c, if_neg (fun h => absurd c (q_nle.mpr h))]
  · rw [if_neg c, if_pos (q_nle.mp c)]
theorem x_leastRuns {t : Nat → Int32} {n : Nat} (hn : n ≤ 30) : p_X1_leastRuns t (nI n) = some (nI (s_lr t n).1) := by
  have k1 : k_lp (fun s : Int32 × Int32 × Int32 => lb_X1_leastRuns_7 (nI n) t s.1 s.2.1 s.2.2) k_fuel (0, 0, 0) = some (nI (s_lr t n).1) := by
    refine q_run (fun i => (nI (s_lr t i).1, (if (s_lr t i).2 = true then (1 : Int32) else 0), nI i)) _ n (fun i hi => ?_) ?_ (by omega)
    · show lb_X1_leastRuns_7 (nI n) t (nI (s_lr t i).1) (if (s_lr t i).2 = true then (1 : Int32) else 0) (nI i) = some (.inl (nI (s_lr t (i + 1)).1, (if (s_lr t (i + 1)).2 = true then (1 : Int32) else 0), nI (i + 1)))
      unfold lb_X1_leastRuns_7
      simp (disch := omega) only [q_ifge, q_ifle, q_o5, q_o13, q_o25, q_o37, q_o49, q_o55, q_o61, q_o67, q_o73, q_o85, q_o97, q_o109, q_o121, q_o133, q_o145, q_o157, q_ix, q_cl, q_b1, q_b2, q_hasBit, q_ifp, Nat.le_refl]
      have e1 : (s_lr t (i + 1)).1 = if t i = 1 ∧ (s_lr t i).2 = false then (s_lr t i).1 + 1 else (s_lr t i).1 := rfl
      have e2 : (s_lr t (i + 1)).2 = if t i = 1 then true else if t i = 0 then false else (s_lr t i).2 := rfl
      rw [e1, e2, nI_succ]
      by_cases c1 : t i = 1
      · cases hb : (s_lr t i).2 <;> simp [c1, nI_succ]
      · by_cases c0 : t i = 0
        · cases hb : (s_lr t i).2 <;> simp [c0]
        · cases hb : (s_lr t i).2 <;> simp [c1, c0]
    · show lb_X1_leastRuns_7 (nI n) t _ _ (nI n) = _
      unfold lb_X1_leastRuns_7
      simp (disch := omega) only [q_ifge, q_ifle, q_o5, q_o13, q_o25, q_o37, q_o49, q_o55, q_o61, q_o67, q_o73, q_o85, q_o97, q_o109, q_o121, q_o133, q_o145, q_o157, q_ix, q_cl, q_b1, q_b2, q_hasBit, q_ifp, Nat.le_refl]
  unfold p_X1_leastRuns
  rw [k1, q_b1]
theorem y_leastRuns {t : Nat → Int32} (ht : ∀ p, p < 30 → kr (t p) (-1) 1) {n : Nat} (hn : n ≤ 30) : ∃ x4, k_lp (fun s : Int32 × Int32 × Int32 => lb_X9_worm_111_1 (nI n) 2 t s.1 s.2.1 s.2.2) k_fuel (0, 1000, 0) = some x4 ∧ (if x4.2 ≤ x4.1 then x4.2 else x4.1) = nI (s_lr t n).1 := by
  refine q_lpI (body := fun s : Int32 × Int32 × Int32 => lb_X9_worm_111_1 (nI n) 2 t s.1 s.2.1 s.2.2) (fun i s => s.2.2 = nI i ∧ (((s_lr t i).2 = false ∧ s.1 = nI (s_lr t i).1 ∧ ∃ w, s.2.1 = nI w ∧ (s_lr t i).1 + 1 ≤ w ∧ w ≤ 1000) ∨ ((s_lr t i).2 = true ∧ s.2.1 = nI (s_lr t i).1 ∧ ∃ a, s.1 = nI a ∧ (s_lr t i).1 ≤ a ∧ a ≤ 1000))) (fun e => (if e.2 ≤ e.1 then e.2 else e.1) = nI (s_lr t n).1) n (fun i s hi hs => ?_) (fun s hs => ?_) (0, 1000, 0) ⟨rfl, Or.inl ⟨rfl, rfl, 1000, rfl, by show 0 + 1 ≤ 1000; omega, by omega⟩⟩ (by omega)
  · obtain ⟨s1, s2, s3⟩ := s
    obtain ⟨h3, h⟩ := hs
    have h3' : s3 = nI i := h3
    subst h3'
    have hle := s_lr_le t i
    have e1 : (s_lr t (i + 1)).1 = if t i = 1 ∧ (s_lr t i).2 = false then (s_lr t i).1 + 1 else (s_lr t i).1 := rfl
    have e2 : (s_lr t (i + 1)).2 = if t i = 1 then true else if t i = 0 then false else (s_lr t i).2 := rfl
    generalize s_lr t (i + 1) = q at e1 e2 ⊢
    generalize s_lr t i = p at hle e1 e2 h
    obtain ⟨r, b⟩ := p
    obtain ⟨r', b'⟩ := q
    simp only at e1 e2 h hle
    have hl1000 : (1000 : Int32) = nI 1000 := rfl
    rcases h with ⟨hb, ha, w, hw, hw1, hw2⟩ | ⟨hb, hw, a, ha, ha1, ha2⟩
    · subst hb
      have ha' : s1 = nI r := ha
      have hw' : s2 = nI w := hw
      subst ha'; subst hw'
      refine ⟨.inl (if t i = 1 then (1000 : Int32) else nI r, if t i = 0 then (1000 : Int32) else nI (r + 1), nI i + 1), ?_, Or.inl ⟨_, rfl, nI_1 i, ?_⟩⟩
      · show lb_X9_worm_111_1 (nI n) 2 t (nI r) (nI w) (nI i) = _
        unfold lb_X9_worm_111_1 lj_X9_worm_162_1 lj_X9_worm_196_1 lj_X9_worm_227_1 lj_X9_worm_259_1
        have hix : ∀ {α : Type} (k : Option α), k_ix (nI i) 30 k = k := fun k => q_ix k (by omega) (by omega)
        rw [q_ifge _ _ hi (by omega), nI_1, q_cl (by omega)]
        simp only [hix]
        simp only [if_true]
        have hc1 : (nI r ≤ nI w) := nI_le (by omega) (by omega)
        by_cases hc : w ≤ r + 1
        · have : w = r + 1 := by omega
          subst this
          simp only [if_pos (show nI (r + 1) ≤ nI (r + 1) from nI_le (by omega) (by omega)), if_pos hc1]
          rcases q_pl ht (i := i) (by omega) with c | c | c <;> simp [c]
        · simp only [if_neg (show ¬ nI w ≤ nI (r + 1) from nI_ge (by omega) (by omega)), if_pos hc1]
          rcases q_pl ht (i := i) (by omega) with c | c | c <;> simp [c]
      · rcases q_pl ht (i := i) (by omega) with c | c | c
        · simp [c] at e1 e2 ⊢
          subst e1; subst e2
          exact Or.inl ⟨rfl, rfl, _, rfl, by omega, by omega⟩
        · simp [c] at e1 e2 ⊢
          subst e1; subst e2
          exact Or.inl ⟨rfl, rfl, 1000, rfl, by omega, by omega⟩
        · simp [c] at e1 e2 ⊢
          subst e1; subst e2
          exact Or.inr ⟨rfl, rfl, 1000, rfl, by omega, by omega⟩
    · subst hb
      have ha' : s1 = nI a := ha
      have hw' : s2 = nI r := hw
      subst ha'; subst hw'
      refine ⟨.inl (if t i = 1 then (1000 : Int32) else nI r, if t i = 0 then (1000 : Int32) else nI r, nI i + 1), ?_, Or.inl ⟨_, rfl, nI_1 i, ?_⟩⟩
      · show lb_X9_worm_111_1 (nI n) 2 t (nI a) (nI r) (nI i) = _
        unfold lb_X9_worm_111_1 lj_X9_worm_162_1 lj_X9_worm_196_1 lj_X9_worm_227_1 lj_X9_worm_259_1
        have hix : ∀ {α : Type} (k : Option α), k_ix (nI i) 30 k = k := fun k => q_ix k (by omega) (by omega)
        rw [q_ifge _ _ hi (by omega), nI_1, q_cl (by omega)]
        simp only [hix]
        simp only [if_true, if_pos (show nI r ≤ nI (a + 1) from nI_le (by omega) (by omega))]
        by_cases hc : a ≤ r
        · have : a = r := by omega
          subst this
          simp only [if_pos (show nI a ≤ nI a from nI_le (by omega) (by omega))]
          rcases q_pl ht (i := i) (by omega) with c | c | c <;> simp [c]
        · simp only [if_neg (show ¬ nI a ≤ nI r from nI_ge (by omega) (by omega))]
          rcases q_pl ht (i := i) (by omega) with c | c | c <;> simp [c]
      · rcases q_pl ht (i := i) (by omega) with c | c | c
        · simp [c] at e1 e2 ⊢
          subst e1; subst e2
          exact Or.inr ⟨rfl, rfl, _, rfl, by omega, by omega⟩
        · simp [c] at e1 e2 ⊢
          subst e1; subst e2
          exact Or.inl ⟨rfl, rfl, 1000, rfl, by omega, by omega⟩
        · simp [c] at e1 e2 ⊢
          subst e1; subst e2
          exact Or.inr ⟨rfl, rfl, 1000, rfl, by omega, by omega⟩
  · obtain ⟨s1, s2, s3⟩ := s
    obtain ⟨h3, h⟩ := hs
    have h3' : s3 = nI n := h3
    subst h3'
    refine ⟨(s1, s2), ?_, ?_⟩
    · show lb_X9_worm_111_1 (nI n) 2 t s1 s2 (nI n) = _
      unfold lb_X9_worm_111_1
      rw [q_ifle _ _ (Nat.le_refl _) (by omega)]
    · show (if s2 ≤ s1 then s2 else s1) = _
      have hle := s_lr_le t n
      rcases h with ⟨hb, ha, w, hw, hw1, hw2⟩ | ⟨hb, hw, a, ha, ha1, ha2⟩
      · have ha' : s1 = nI (s_lr t n).1 := ha
        have hw' : s2 = nI w := hw
        rw [ha', hw', if_neg (nI_ge (by omega) (by omega))]
      · have ha' : s1 = nI a := ha
        have hw' : s2 = nI (s_lr t n).1 := hw
        rw [ha', hw', if_pos (nI_le (by omega) (by omega))]
/-- the runs at most: with WORM in the last plank, and without (none: it can't be) -/
def s_mw : Option Nat → Option Nat → Option Nat
  | none, none => none
  | none, some c => some (c + 1)
  | some w, none => some w
  | some w, some c => some (if w < c + 1 then c + 1 else w)
def s_mc2 : Option Nat → Option Nat → Option Nat
  | none, none => none
  | none, some c => some c
  | some w, none => some w
  | some w, some c => some (if w < c then c else w)
def s_mr (t : Nat → Int32) : Nat → Option Nat × Option Nat
  | 0 => (none, some 0)
  | i + 1 => (if t i = 0 then none else s_mw (s_mr t i).1 (s_mr t i).2, if t i = 1 then none else s_mc2 (s_mr t i).1 (s_mr t i).2)
def s_ok (o : Option Nat) (b : Nat) : Prop := ∀ v, o = some v → v ≤ b
theorem s_mr_inv (t : Nat → Int32) : ∀ i, s_ok (s_mr t i).1 i ∧ s_ok (s_mr t i).2 i ∧ ¬ ((s_mr t i).1 = none ∧ (s_mr t i).2 = none)
  | 0 => ⟨fun v h => (by cases h), fun v h => (by cases h; exact Nat.le_refl 0), fun h => (by cases h.2)⟩
  | i + 1 => by
    obtain ⟨h1, h2, h3⟩ := s_mr_inv t i
    have e1 : (s_mr t (i + 1)).1 = if t i = 0 then none else s_mw (s_mr t i).1 (s_mr t i).2 := rfl
    have e2 : (s_mr t (i + 1)).2 = if t i = 1 then none else s_mc2 (s_mr t i).1 (s_mr t i).2 := rfl
    rw [e1, e2]
    generalize (s_mr t i).1 = w at h1 h3 ⊢
    generalize (s_mr t i).2 = c at h2 h3 ⊢
    have g1 : s_ok (s_mw w c) (i + 1) := by
      intro v hv
      cases w with
      | none =>
        cases c with
        | none => cases hv
        | some c => have := h2 c rfl; cases hv; omega
      | some w =>
        have := h1 w rfl
        cases c with
        | none => cases hv; omega
        | some c =>
          have := h2 c rfl
          simp only [s_mw] at hv
          have hv' := Option.some.inj hv
          split at hv' <;> omega
    have g2 : s_ok (s_mc2 w c) (i + 1) := by
      intro v hv
      cases w with
      | none =>
        cases c with
        | none => cases hv
        | some c => have := h2 c rfl; cases hv; omega
      | some w =>
        have := h1 w rfl
        cases c with
        | none => cases hv; omega
        | some c =>
          have := h2 c rfl
          simp only [s_mc2] at hv
          have hv' := Option.some.inj hv
          split at hv' <;> omega
    have g3 : s_mw w c ≠ none := by
      intro hh
      cases w with
      | none =>
        cases c with
        | none => exact h3 ⟨rfl, rfl⟩
        | some c => cases hh
      | some w => cases c <;> cases hh
    have g4 : s_mc2 w c ≠ none := by
      intro hh
      cases w with
      | none =>
        cases c with
        | none => exact h3 ⟨rfl, rfl⟩
        | some c => cases hh
      | some w => cases c <;> cases hh
    refine ⟨?_, ?_, ?_⟩
    · by_cases c0 : t i = 0
      · rw [if_pos c0]; intro v hv; cases hv
      · rw [if_neg c0]; exact g1
    · by_cases c1 : t i = 1
      · rw [if_pos c1]; intro v hv; cases hv
      · rw [if_neg c1]; exact g2
    · by_cases c1 : t i = 1
      · rw [if_pos c1, if_neg (by rw [c1]; decide)]
        exact fun hh => g3 hh.1
      · rw [if_neg c1]
        exact fun hh => g4 hh.2
theorem q_mw {d : Int32} (hd : d.toInt ≤ -31 ∧ -1000 ≤ d.toInt) {w c : Option Nat} (hw : s_ok w 30) (hc : s_ok c 30) (h : ¬ (w = none ∧ c = none)) : (if q_enc d w < q_enc d c + 1 then q_enc d c + 1 else q_enc d w) = q_enc d (s_mw w c) ∧ (if q_enc d w < q_enc d c then q_enc d c else q_enc d w) = q_enc d (s_mc2 w c) := by
  have d1 : (d + 1).toInt = d.toInt + 1 := fb_addI (by rw [show (1 : Int32).toInt = 1 from by decide]; omega) (by rw [show (1 : Int32).toInt = 1 from by decide]; omega)
  have lo : ∀ k : Nat, k ≤ 31 → d < nI k ∧ ¬ nI k < d ∧ ¬ nI k < d + 1 := by
    intro k hk
    refine ⟨?_, ?_, ?_⟩
    · rw [Int32.lt_iff_toInt_lt, q_ti (by omega)]; omega
    · rw [Int32.lt_iff_toInt_lt, q_ti (by omega)]; omega
    · rw [Int32.lt_iff_toInt_lt, q_ti (by omega), d1]; omega
  cases w with
  | none =>
    cases c with
    | none => exact absurd ⟨rfl, rfl⟩ h
    | some c =>
      have := hc c rfl
      show (if d < nI c + 1 then nI c + 1 else d) = nI (c + 1) ∧ (if d < nI c then nI c else d) = nI c
      rw [nI_1, if_pos (lo (c + 1) (by omega)).1, if_pos (lo c (by omega)).1]
      exact ⟨rfl, rfl⟩
  | some w =>
    have := hw w rfl
    cases c with
    | none =>
      show (if nI w < d + 1 then d + 1 else nI w) = nI w ∧ (if nI w < d then d else nI w) = nI w
      rw [if_neg (lo w (by omega)).2.2, if_neg (lo w (by omega)).2.1]
      exact ⟨rfl, rfl⟩
    | some c =>
      have := hc c rfl
      show (if nI w < nI c + 1 then nI c + 1 else nI w) = nI (if w < c + 1 then c + 1 else w) ∧ (if nI w < nI c then nI c else nI w) = nI (if w < c then c else w)
      rw [nI_1]
      refine ⟨?_, ?_⟩
      · by_cases q : w < c + 1
        · rw [if_pos (nI_lt q (by omega)), if_pos q]
        · rw [if_neg (nI_nlt (by omega) (by omega)), if_neg q]
      · by_cases q : w < c
        · rw [if_pos (nI_lt q (by omega)), if_pos q]
        · rw [if_neg (nI_nlt (by omega) (by omega)), if_neg q]
theorem x_mostRuns {t : Nat → Int32} {n : Nat} (hn : n ≤ 30) : p_X1_mostRuns t (nI n) = some (q_enc (-31) (s_mc2 (s_mr t n).1 (s_mr t n).2)) := by
  have k1 : k_lp (fun s : Int32 × Int32 × Int32 => lb_X1_mostRuns_11 (nI n) t s.1 s.2.1 s.2.2) k_fuel ((-31), 0, 0) = some (q_enc (-31) (s_mr t n).1, q_enc (-31) (s_mr t n).2) := by
    refine q_run (fun i => (q_enc (-31) (s_mr t i).1, q_enc (-31) (s_mr t i).2, nI i)) _ n (fun i hi => ?_) ?_ (by omega)
    · show lb_X1_mostRuns_11 (nI n) t (q_enc (-31) (s_mr t i).1) (q_enc (-31) (s_mr t i).2) (nI i) = some (.inl (q_enc (-31) (s_mr t (i + 1)).1, q_enc (-31) (s_mr t (i + 1)).2, nI (i + 1)))
      obtain ⟨h1, h2, h3⟩ := s_mr_inv t i
      obtain ⟨a1, a2⟩ := q_mw (d := -31) ⟨by decide, by decide⟩ (w := (s_mr t i).1) (c := (s_mr t i).2) (fun v hv => by have := h1 v hv; omega) (fun v hv => by have := h2 v hv; omega) h3
      unfold lb_X1_mostRuns_11
      rw [a1, a2]
      simp (disch := omega) only [q_ifge, q_ifle, q_o5, q_o13, q_o25, q_o37, q_o49, q_o55, q_o61, q_o67, q_o73, q_o85, q_o97, q_o109, q_o121, q_o133, q_o145, q_o157, q_ix, q_cl, q_b1, q_b2, q_hasBit, q_ifp, Nat.le_refl]
      have e1 : (s_mr t (i + 1)).1 = if t i = 0 then none else s_mw (s_mr t i).1 (s_mr t i).2 := rfl
      have e2 : (s_mr t (i + 1)).2 = if t i = 1 then none else s_mc2 (s_mr t i).1 (s_mr t i).2 := rfl
      rw [e1, e2, nI_succ]
      by_cases c0 : t i = 0
      · simp [c0]; rfl
      · by_cases c1 : t i = 1
        · simp [c1]; rfl
        · simp [c0, c1]
    · show lb_X1_mostRuns_11 (nI n) t _ _ (nI n) = _
      unfold lb_X1_mostRuns_11
      simp (disch := omega) only [q_ifge, q_ifle, q_o5, q_o13, q_o25, q_o37, q_o49, q_o55, q_o61, q_o67, q_o73, q_o85, q_o97, q_o109, q_o121, q_o133, q_o145, q_o157, q_ix, q_cl, q_b1, q_b2, q_hasBit, q_ifp, Nat.le_refl]
  obtain ⟨h1, h2, h3⟩ := s_mr_inv t n
  obtain ⟨a1, a2⟩ := q_mw (d := -31) ⟨by decide, by decide⟩ (w := (s_mr t n).1) (c := (s_mr t n).2) (fun v hv => by have := h1 v hv; omega) (fun v hv => by have := h2 v hv; omega) h3
  unfold p_X1_mostRuns
  rw [k1, q_b2, a2]
theorem q_max (a b : Int32) : (if a ≤ b then b else a) = (if b < a then a else b) := by
  by_cases c : a ≤ b
  · rw [if_pos c, if_neg (fun h => absurd c (q_nle.mpr h))]
  · rw [if_neg c, if_pos (q_nle.mp c)]
theorem y_mostRuns {t : Nat → Int32} {n : Nat} (hn : n ≤ 30) : k_lp (fun s : Int32 × Int32 × Int32 => lb_X9_worm_111 (nI n) 3 t s.1 s.2.1 s.2.2) k_fuel (0, (-1000), 0) = some (q_enc (-1000) (s_mr t n).2, q_enc (-1000) (s_mr t n).1) := by
  refine q_run (fun i => (q_enc (-1000) (s_mr t i).2, q_enc (-1000) (s_mr t i).1, nI i)) _ n (fun i hi => ?_) ?_ (by omega)
  · show lb_X9_worm_111 (nI n) 3 t (q_enc (-1000) (s_mr t i).2) (q_enc (-1000) (s_mr t i).1) (nI i) = some (.inl (q_enc (-1000) (s_mr t (i + 1)).2, q_enc (-1000) (s_mr t (i + 1)).1, nI (i + 1)))
    obtain ⟨h1, h2, h3⟩ := s_mr_inv t i
    obtain ⟨a1, a2⟩ := q_mw (d := -1000) ⟨by decide, by decide⟩ (w := (s_mr t i).1) (c := (s_mr t i).2) (fun v hv => by have := h1 v hv; omega) (fun v hv => by have := h2 v hv; omega) h3
    have e1 : (s_mr t (i + 1)).1 = if t i = 0 then none else s_mw (s_mr t i).1 (s_mr t i).2 := rfl
    have e2 : (s_mr t (i + 1)).2 = if t i = 1 then none else s_mc2 (s_mr t i).1 (s_mr t i).2 := rfl
    rw [e1, e2, nI_succ]
    have p1 : ∀ A B : Int32, ∀ f : Int32 → Option ((Int32 × Int32 × Int32) ⊕ (Int32 × Int32)), (if A ≤ B then f B else f A) = f (if B < A then A else B) := by
      intro A B f
      rw [← q_max]
      by_cases c : A ≤ B
      · rw [if_pos c, if_pos c]
      · rw [if_neg c, if_neg c]
    have p2 : ∀ A B : Int32, ∀ f : Int32 → Option ((Int32 × Int32 × Int32) ⊕ (Int32 × Int32)), (if A ≤ B then f B else f A) = f (if B < A then A else B) := p1
    have last : ∀ nw nn : Option Nat, lj_X9_worm_196 (nI i) t 3 (q_enc (-1000) nw) (q_enc (-1000) nn) = some (.inl (q_enc (-1000) (if t i = 1 then none else nn), q_enc (-1000) (if t i = 0 then none else nw), nI i + 1)) := by
      intro nw nn
      unfold lj_X9_worm_196 lj_X9_worm_227 lj_X9_worm_259
      simp (disch := omega) only [q_ifge, q_ifle, q_o5, q_o13, q_o25, q_o37, q_o49, q_o55, q_o61, q_o67, q_o73, q_o85, q_o97, q_o109, q_o121, q_o133, q_o145, q_o157, q_ix, q_cl, q_b1, q_b2, q_hasBit, q_ifp, Nat.le_refl]
      by_cases c0 : t i = 0
      · simp [c0]; rfl
      · by_cases c1 : t i = 1
        · simp [c1]; rfl
        · simp [c0, c1]
    have mid : ∀ nw : Option Nat, lj_X9_worm_162 3 (q_enc (-1000) (s_mr t i).2) (q_enc (-1000) (s_mr t i).1) (nI i) t (q_enc (-1000) nw) = some (.inl (q_enc (-1000) (if t i = 1 then none else s_mc2 (s_mr t i).1 (s_mr t i).2), q_enc (-1000) (if t i = 0 then none else nw), nI i + 1)) := by
      intro nw
      unfold lj_X9_worm_162
      rw [if_neg (by decide)]
      have := p1 (q_enc (-1000) (s_mr t i).1) (q_enc (-1000) (s_mr t i).2) (fun z => lj_X9_worm_196 (nI i) t 3 (q_enc (-1000) nw) z)
      have h9 : (if q_enc (-1000) (s_mr t i).2 < q_enc (-1000) (s_mr t i).1 then q_enc (-1000) (s_mr t i).1 else q_enc (-1000) (s_mr t i).2) = q_enc (-1000) (s_mc2 (s_mr t i).1 (s_mr t i).2) := by
        rw [← a2]
        by_cases q1 : q_enc (-1000) (s_mr t i).1 < q_enc (-1000) (s_mr t i).2
        · rw [if_pos q1, if_neg (fun q2 => by rw [Int32.lt_iff_toInt_lt] at q1 q2; omega)]
        · rw [if_neg q1]
          by_cases q2 : q_enc (-1000) (s_mr t i).2 < q_enc (-1000) (s_mr t i).1
          · rw [if_pos q2]
          · rw [if_neg q2]; exact q_le_anti (q_nlt.mp q1) (q_nlt.mp q2)
      rw [h9] at this
      exact this.trans (last nw _)
    unfold lb_X9_worm_111
    rw [q_ifge _ _ hi (by omega), if_neg (by decide)]
    have := p1 (q_enc (-1000) (s_mr t i).2 + 1) (q_enc (-1000) (s_mr t i).1) (fun z => lj_X9_worm_162 3 (q_enc (-1000) (s_mr t i).2) (q_enc (-1000) (s_mr t i).1) (nI i) t z)
    rw [a1] at this
    exact this.trans (mid _)
  · show lb_X9_worm_111 (nI n) 3 t _ _ (nI n) = _
    unfold lb_X9_worm_111
    rw [q_ifle _ _ (Nat.le_refl _) (by omega)]
theorem sim_worm : k_Sim_worm R_all := by
  intro S L M a1 a2 hR
  obtain ⟨hc, ht, hrn, hru, hs, hk0, hk1, hk2, ⟨hp, hp2⟩⟩ := hR
  have key : ∃ r, p_X8_worm (S 156) a1 a2 = some r ∧ p_X9_worm (M 18) a1 a2 = some (r, 0) := by
    unfold p_X8_worm p_X9_worm
    rw [hp]
    simp only [q_within, q_in_1_30, q_in_0_3, q_b1, q_ifp]
    by_cases h1 : 1 ≤ a1 ∧ a1 ≤ 30
    · simp only [if_pos h1]
      obtain ⟨n, hn1, hn, rfl⟩ := q_rng (a := 1) (b := 30) (by omega) (by omega) h1
      by_cases h2 : 0 ≤ a2 ∧ a2 ≤ 3
      · simp only [if_pos h2]
        obtain ⟨b, -, hb, rfl⟩ := q_rng (a := 0) (b := 3) (by omega) (by omega) h2
        match b, hb with
        | 0, _ =>
          obtain ⟨v, v1, v2⟩ := xy_least hp2 hn
          rw [v1, show nI 0 = 0 from rfl, v2]
          exact ⟨v, rfl, rfl⟩
        | 1, _ =>
          obtain ⟨v, v1, v2⟩ := xy_most hp2 hn
          rw [v1, show nI 1 = 1 from rfl, v2]
          exact ⟨v, rfl, rfl⟩
        | 2, _ =>
          obtain ⟨x4, v2, v3⟩ := y_leastRuns hp2 hn
          rw [x_leastRuns hn, show nI 2 = 2 from rfl, v2]
          refine ⟨nI (s_lr (M 18) n).1, rfl, ?_⟩
          obtain ⟨p, q⟩ := x4
          show (if q ≤ p then lj_X9_worm_298_1 q else lj_X9_worm_298_1 p) = _
          rw [← v3]
          show _ = some ((if q ≤ p then q else p), (0 : Int32))
          by_cases c : q ≤ p
          · rw [if_pos c, if_pos c]; rfl
          · rw [if_neg c, if_neg c]; rfl
        | 3, _ =>
          rw [x_mostRuns hn, show nI 3 = 3 from rfl, y_mostRuns hn]
          obtain ⟨h1, h2, h3⟩ := s_mr_inv (M 18) n
          obtain ⟨a1, a2⟩ := q_mw (d := -1000) ⟨by decide, by decide⟩ (w := (s_mr (M 18) n).1) (c := (s_mr (M 18) n).2) (fun v hv => by have := h1 v hv; omega) (fun v hv => by have := h2 v hv; omega) h3
          refine ⟨q_enc (-31) (s_mc2 (s_mr (M 18) n).1 (s_mr (M 18) n).2), rfl, ?_⟩
          show (if q_enc (-1000) (s_mr (M 18) n).2 ≤ q_enc (-1000) (s_mr (M 18) n).1 then lj_X9_worm_298 (q_enc (-1000) (s_mr (M 18) n).1) else lj_X9_worm_298 (q_enc (-1000) (s_mr (M 18) n).2)) = _
          have hne : ∃ v, s_mc2 (s_mr (M 18) n).1 (s_mr (M 18) n).2 = some v := by
            cases hw : (s_mr (M 18) n).1 with
            | none =>
              cases hcc : (s_mr (M 18) n).2 with
              | none => exact absurd ⟨hw, hcc⟩ h3
              | some c => exact ⟨_, rfl⟩
            | some w => cases hcc : (s_mr (M 18) n).2 <;> exact ⟨_, rfl⟩
          obtain ⟨v, hv⟩ := hne
          rw [hv] at a2 ⊢
          have h9 : (if q_enc (-1000) (s_mr (M 18) n).2 ≤ q_enc (-1000) (s_mr (M 18) n).1 then q_enc (-1000) (s_mr (M 18) n).1 else q_enc (-1000) (s_mr (M 18) n).2) = nI v := by
            refine Eq.trans ?_ a2
            by_cases q1 : q_enc (-1000) (s_mr (M 18) n).1 < q_enc (-1000) (s_mr (M 18) n).2
            · rw [if_pos q1, if_neg (q_nle.mpr q1)]
            · rw [if_neg q1, if_pos (q_nlt.mp q1)]
          show _ = some (nI v, (0 : Int32))
          rw [← h9]
          by_cases c : q_enc (-1000) (s_mr (M 18) n).2 ≤ q_enc (-1000) (s_mr (M 18) n).1
          · rw [if_pos c, if_pos c]; rfl
          · rw [if_neg c, if_neg c]; rfl
      · simp only [if_neg h2]
        have n0 : ¬ a2 = 0 := fun e => h2 (by rw [e]; decide)
        have n1 : ¬ a2 = 1 := fun e => h2 (by rw [e]; decide)
        have n2 : ¬ a2 = 2 := fun e => h2 (by rw [e]; decide)
        have n3 : ¬ a2 = 3 := fun e => h2 (by rw [e]; decide)
        simp only [if_neg n0, if_neg n1, if_neg n2, if_neg n3]
        exact ⟨_, rfl, rfl⟩
    · simp only [if_neg h1]; exact ⟨_, rfl, rfl⟩
  obtain ⟨r, g1, g2⟩ := key
  refine ⟨r, S, L, k_su M 0 (fun _ => 0), ?_, ?_, hc, ht, hrn, hru, hs, hk0, hk1, hk2, ⟨hp, hp2⟩⟩
  · unfold pX_worm; rw [g1]; rfl
  · unfold pM_worm; rw [g2]; rfl
end
section
/-! ===== two loops side by side ===== -/
theorem q_lp2 {σ τ ε φ : Type} {b1 : σ → Option (σ ⊕ ε)} {b2 : τ → Option (τ ⊕ φ)} (I : Nat → σ → τ → Prop) (E : ε → φ → Prop) (n : Nat) (hs : ∀ i s t, i < n → I i s t → ∃ s' t', b1 s = some (.inl s') ∧ b2 t = some (.inl t') ∧ I (i + 1) s' t') (he : ∀ s t, I n s t → ∃ e f, b1 s = some (.inr e) ∧ b2 t = some (.inr f) ∧ E e f) (s : σ) (t : τ) (h0 : I 0 s t) (hn : n < 100000) : ∃ e f, k_lp b1 k_fuel s = some e ∧ k_lp b2 k_fuel t = some f ∧ E e f := by
  have key : ∀ m i F s t, i + m = n → m < F → I i s t → ∃ e f, k_lp b1 F s = some e ∧ k_lp b2 F t = some f ∧ E e f := by
    intro m
    induction m with
    | zero =>
      intro i F s t h1 h2 h3
      obtain ⟨F, rfl⟩ : ∃ f, F = f + 1 := ⟨F - 1, by omega⟩
      have : i = n := by omega
      subst this
      obtain ⟨e, f, g1, g2, g3⟩ := he s t h3
      exact ⟨e, f, by unfold k_lp; rw [g1], by unfold k_lp; rw [g2], g3⟩
    | succ m ih =>
      intro i F s t h1 h2 h3
      obtain ⟨F, rfl⟩ : ∃ f, F = f + 1 := ⟨F - 1, by omega⟩
      obtain ⟨s', t', g1, g2, g3⟩ := hs i s t (by omega) h3
      obtain ⟨e, f, k1, k2, k3⟩ := ih (i + 1) F s' t' (by omega) (by omega) g3
      exact ⟨e, f, by unfold k_lp; rw [g1]; exact k1, by unfold k_lp; rw [g2]; exact k2, k3⟩
  exact key n 0 k_fuel s t (by omega) hn h0
/-! ===== work on a seam ===== -/
def m_wk (m : Nat → Int32) (i : Nat) (p tk d s : Int32) : Nat → Int32 := upd (upd (upd (upd m 5 p) 6 tk) (157 + i) d) (145 + i) s
theorem m_wk_at {m : Nat → Int32} {i : Nat} {p tk d s : Int32} {k : Nat} (h : k ≠ 5 ∧ k ≠ 6 ∧ k ≠ 157 + i ∧ k ≠ 145 + i) : m_wk m i p tk d s k = m k := by
  obtain ⟨h1, h2, h3, h4⟩ := h
  unfold m_wk; rw [upd_n h4, upd_n h3, upd_n h2, upd_n h1]
theorem m_wk_5 {m : Nat → Int32} {i : Nat} {p tk d s : Int32} (hi : i < 12) : m_wk m i p tk d s 5 = p ∧ m_wk m i p tk d s 6 = tk ∧ m_wk m i p tk d s (157 + i) = d ∧ m_wk m i p tk d s (145 + i) = s := by
  unfold m_wk
  simp (disch := omega) only [upd_n, upd_s, and_self]
theorem m_wk_inv {m : Nat → Int32} (h : k_Inv m) {i : Nat} (hi : i < 12) {p tk d s : Int32} (hp : kr p 0 1000) (hd : kr d 0 4) (hs : kr s 0 2) (h0 : s.toInt = 0 → d.toInt = 0) (h1 : s.toInt = 1 → d.toInt < (m (109 + i)).toInt) : k_Inv (m_wk m i p tk d s) := by
  have er : k_Rng (m_wk m i p tk d s) := by
    have l157 : ∀ i, i < 12 → k_lo (157 + i) = 0 ∧ k_hi (157 + i) = 4 := by decide
    have l145 : ∀ i, i < 12 → k_lo (145 + i) = 0 ∧ k_hi (145 + i) = 2 := by decide
    unfold m_wk
    refine k_Rng_upd (k_Rng_upd (k_Rng_upd (k_Rng_upd h.1 hp) ?_) ?_) ?_
    · have := fb_rng tk
      exact ⟨by show -2147483648 ≤ _; omega, by show _ ≤ 2147483647; omega⟩
    · rw [(l157 i hi).1, (l157 i hi).2]; exact hd
    · rw [(l145 i hi).1, (l145 i hi).2]; exact hs
  obtain ⟨g1, g2, g3, g4⟩ := h
  obtain ⟨n5, n6, n157, n145⟩ := m_wk_5 (m := m) (p := p) (tk := tk) (d := d) (s := s) hi
  have e10 := s_nt_e g1
  have e11 := s_na_e g1
  have e12 := s_ns_e g1
  refine ⟨er, fun j hj => ?_, fun j hj => ?_, fun j hj => ?_⟩
  · rw [m_wk_at (by omega)] at hj
    rw [m_wk_at (by omega)]; exact g2 j hj
  · rw [m_wk_at (by omega)] at hj
    rw [m_wk_at (by omega)]; exact g3 j hj
  · rw [m_wk_at (by omega)] at hj
    by_cases c : j = i
    · subst c
      rw [n157, n145, m_wk_at (by omega)]
      exact ⟨h0, h1, (g4 j hj).2.2⟩
    · rw [m_wk_at (by omega), m_wk_at (by omega), m_wk_at (by omega)]; exact g4 j hj
/-- what the two sides hold between two seams -/
def W_rel (m ru : Nat → Int32) (i : Nat) (s : Int32 × Int32 × (Nat → Int32) × (Nat → Int32) × Int32 × Int32 × Int32) (t : Int32 × Int32 × (Nat → Int32)) : Prop :=
  s.1 = t.1 ∧ s.2.1 = nI i ∧ t.2.1 = nI i ∧ s.2.2.2.2.1 = m 7 + (ru 3 - t.1) ∧ s.2.2.2.2.2.1 = t.2.2 5 ∧ s.2.2.2.2.2.2 = t.2.2 6 ∧ (∀ j, j < 12 → s.2.2.1 j = t.2.2 (157 + j) ∧ s.2.2.2.1 j = t.2.2 (145 + j)) ∧ k_Inv t.2.2 ∧ ∀ k, (k ≠ 5 ∧ k ≠ 6 ∧ k < 145) → t.2.2 k = m k
theorem s_bare_cong {m m' td : Nat → Int32} {s o : Nat} (h1 : m' 1 = m 1) (h2 : m' (73 + s) = m (73 + s)) (h3 : m' (85 + s) = m (85 + s)) : s_bare m' td s o = s_bare m td s o := by
  unfold s_bare; rw [h1, h2, h3]
theorem q_hm (a r x h : Int32) : a + (r - x) + h = a + (r - (x - h)) := by
  have e : -(x + -h) = -x + h := by rw [Int32.neg_add, Int32.sub_eq_add_neg, Int32.neg_neg]
  rw [Int32.sub_eq_add_neg r x, Int32.sub_eq_add_neg x h, Int32.sub_eq_add_neg r, e, Int32.add_assoc a, Int32.add_assoc r]
theorem y_fin {c : Nat → Int32} {i : Nat} (hi : i < 12) (x : Int32) : lj_X9_pass_236 (nI i) x c = some (.inl (x - c (97 + i), nI i + 1, upd (upd c (157 + i) (c (157 + i) + 1)) (145 + i) (if c (157 + i) + 1 = c (109 + i) then 2 else 1))) := by
  unfold lj_X9_pass_236 lj_X9_pass_290
  simp (disch := omega) only [q_o97, q_o109, q_o145, q_o157, q_ix, q_cl, q_lt1, upd_s, upd_n]
  by_cases e : c (157 + i) + 1 = c (109 + i)
  · simp only [if_pos e]
  · simp only [if_neg e]
theorem y_fin1 {c : Nat → Int32} {i : Nat} (hi : i < 12) (x : Int32) : lj_X9_pass_236_1 (nI i) x c = some (.inl (x - c (97 + i), nI i + 1, upd (upd c (157 + i) (c (157 + i) + 1)) (145 + i) (if c (157 + i) + 1 = c (109 + i) then 2 else 1))) := by
  unfold lj_X9_pass_236_1 lj_X9_pass_290_1
  simp (disch := omega) only [q_o97, q_o109, q_o145, q_o157, q_ix, q_cl, q_lt1, upd_s, upd_n]
  by_cases e : c (157 + i) + 1 = c (109 + i)
  · simp only [if_pos e]
  · simp only [if_neg e]
theorem xy_work {m ru ru' td sk sd hd tr lg sta dn : Nat → Int32} {ss : Int32} {o : Nat} (h : k_Inv m) (hss : ss = m 12) (ho : m 0 = nI o) (ho2 : o < 1000) (hr3 : ru' 3 = ru 3) (hse : ∀ i, i < 12 → sk i = m (73 + i) ∧ sd i = m (85 + i) ∧ hd i = m (97 + i) ∧ lg i = m (109 + i) ∧ tr i = m (121 + i) ∧ sta i = m (145 + i) ∧ dn i = m (157 + i)) (a1 : Int32) : ∃ dn' sta' hm men c, k_lp (fun s => lb_X4_work_12 ss a1 (m 1) td sk sd (m 0) hd tr lg s.1 s.2.1 s.2.2.1 s.2.2.2.1 s.2.2.2.2.1 s.2.2.2.2.2.1 s.2.2.2.2.2.2) k_fuel (ru' 3, 0, dn, sta, m 7, m 5, m 6) = some (dn', sta', hm, c 5, c 6) ∧ k_lp (fun s => lb_X9_pass_21 a1 0 td s.1 s.2.1 s.2.2) k_fuel (ru 3, 0, m) = some (men, c) ∧ hm = m 7 + (ru 3 - men) ∧ (∀ j, j < 12 → dn' j = c (157 + j) ∧ sta' j = c (145 + j)) ∧ k_Inv c ∧ ∀ k, (k ≠ 5 ∧ k ≠ 6 ∧ k < 145) → c k = m k := by
  obtain ⟨e12, hn, -⟩ := s_ns_e h.1
  have hstep : ∀ (i : Nat) (s : Int32 × Int32 × (Nat → Int32) × (Nat → Int32) × Int32 × Int32 × Int32) (t : Int32 × Int32 × (Nat → Int32)), i < s_ns m → W_rel m ru i s t → ∃ s' t', lb_X4_work_12 ss a1 (m 1) td sk sd (m 0) hd tr lg s.1 s.2.1 s.2.2.1 s.2.2.2.1 s.2.2.2.2.1 s.2.2.2.2.2.1 s.2.2.2.2.2.2 = some (.inl s') ∧ lb_X9_pass_21 a1 0 td t.1 t.2.1 t.2.2 = some (.inl t') ∧ W_rel m ru (i + 1) s' t' := by
    intro i s t hi hW
    obtain ⟨x2, x3, dn1, sta1, hm, pi, tk⟩ := s
    obtain ⟨men, y3, c⟩ := t
    obtain ⟨w1, w2, w3, w4, w5, w6, w7, w8, w9⟩ := hW
    have w1' : x2 = men := w1
    have w2' : x3 = nI i := w2
    have w3' : y3 = nI i := w3
    have w5' : pi = c 5 := w5
    have w6' : tk = c 6 := w6
    have w4' : hm = m 7 + (ru 3 - men) := w4
    have w7' : ∀ j, j < 12 → dn1 j = c (157 + j) ∧ sta1 j = c (145 + j) := w7
    have w8' : k_Inv c := w8
    have w9' : ∀ k, (k ≠ 5 ∧ k ≠ 6 ∧ k < 145) → c k = m k := w9
    clear w1 w2 w3 w4 w5 w6 w7 w8 w9
    subst w1'; subst w2'; subst w3'; subst w5'; subst w6'
    have hi12 : i < 12 := by omega
    obtain ⟨z1, z2, z3, z4, z5, -, -⟩ := hse i hi12
    have c12 : c 12 = nI (s_ns m) := by rw [w9' 12 (by omega), e12]
    have c0 : c 0 = nI o := by rw [w9' 0 (by omega), ho]
    have hix12 : ∀ {α : Type} (k : Option α), k_ix (nI i) 12 k = k := fun k => q_ix k (by omega) (by omega)
    have skip : ∀ (Y : Option ((Int32 × Int32 × (Nat → Int32) × (Nat → Int32) × Int32 × Int32 × Int32) ⊕ ((Nat → Int32) × (Nat → Int32) × Int32 × Int32 × Int32))) (Z : Option ((Int32 × Int32 × (Nat → Int32)) ⊕ (Int32 × (Nat → Int32)))), Y = some (.inl (x2, nI i + 1, dn1, sta1, hm, c 5, c 6)) → Z = some (.inl (x2, nI i + 1, c)) → ∃ s' t', Y = some (.inl s') ∧ Z = some (.inl t') ∧ W_rel m ru (i + 1) s' t' :=
      fun Y Z hY hZ => ⟨_, _, hY, hZ, rfl, nI_1 i, nI_1 i, w4', rfl, rfl, w7', w8', w9'⟩
    have c97 : c (97 + i) = m (97 + i) := w9' _ (by omega)
    have go : ∀ (p tk d st : Int32) (dn' sta' : Nat → Int32) (Y : Option ((Int32 × Int32 × (Nat → Int32) × (Nat → Int32) × Int32 × Int32 × Int32) ⊕ ((Nat → Int32) × (Nat → Int32) × Int32 × Int32 × Int32))) (Z : Option ((Int32 × Int32 × (Nat → Int32)) ⊕ (Int32 × (Nat → Int32)))), k_Inv (m_wk c i p tk d st) → Y = some (.inl (x2 - m (97 + i), nI i + 1, dn', sta', hm + m (97 + i), p, tk)) → Z = some (.inl (x2 - m (97 + i), nI i + 1, m_wk c i p tk d st)) → (dn' i = d ∧ sta' i = st ∧ ∀ j, j ≠ i → dn' j = dn1 j ∧ sta' j = sta1 j) → ∃ s' t', Y = some (.inl s') ∧ Z = some (.inl t') ∧ W_rel m ru (i + 1) s' t' := by
      intro p tk d st dn' sta' Y Z hI hY hZ hds
      obtain ⟨n5, n6, n157, n145⟩ := m_wk_5 (m := c) (p := p) (tk := tk) (d := d) (s := st) hi12
      refine ⟨_, _, hY, hZ, rfl, nI_1 i, nI_1 i, ?_, n5.symm, n6.symm, fun j hj => ?_, hI, fun k hk => ?_⟩
      · show hm + m (97 + i) = m 7 + (ru 3 - (x2 - m (97 + i)))
        rw [w4', q_hm]
      · show dn' j = m_wk c i p tk d st (157 + j) ∧ sta' j = m_wk c i p tk d st (145 + j)
        by_cases e : j = i
        · subst e; rw [n157, n145]; exact ⟨hds.1, hds.2.1⟩
        · rw [m_wk_at (by omega), m_wk_at (by omega), (hds.2.2 j e).1, (hds.2.2 j e).2]; exact w7' j hj
      · show m_wk c i p tk d st k = m k
        rw [m_wk_at (by omega)]; exact w9' k hk
    have sea := w8'.2.2.2 i (by rw [c12, q_ti (by omega)]; omega)
    obtain ⟨D, eD, eD2, hD, -⟩ := kr_nI (rg_dn w8'.1 hi12) (by decide) (by decide)
    obtain ⟨LL, eL, eL2, hL, -⟩ := kr_nI (rg_lg w8'.1 hi12) (by decide) (by decide)
    obtain ⟨P, eP, eP2, hP, -⟩ := kr_nI (rg_pi w8'.1) (by decide) (by decide)
    obtain ⟨TT, eT, eT2, hT, -⟩ := kr_nI (rg_tr w8'.1 hi12) (by decide) (by decide)
    show ∃ s' t', lb_X4_work_12 ss a1 (m 1) td sk sd (m 0) hd tr lg x2 (nI i) dn1 sta1 hm (c 5) (c 6) = some (.inl s') ∧ lb_X9_pass_21 a1 0 td x2 (nI i) c = some (.inl t') ∧ W_rel m ru (i + 1) s' t'
    unfold lb_X4_work_12 lb_X9_pass_21
    rw [hss, e12, c12, q_ifge _ _ hi (by omega), q_ifge _ _ hi (by omega), hix12, q_hasBit _ (by omega), q_b1, q_ifp, ho, c0, x_isBare hi12 ho2 z1 z2, y_isBare c td hi12 ho2, q_b1, q_b1, q_ifp, q_ifp, s_bare_cong (m := m) (m' := c) (w9' 1 (by omega)) (w9' _ (by omega)) (w9' _ (by omega))]
    simp only [q_bit1 a1 (show i < 32 by omega), if_true]
    by_cases cb : bt a1 i = true
    · simp only [if_pos cb]
      by_cases cv : s_bare m td i o = true
      · simp only [if_pos cv]
        simp (disch := omega) only [q_o97, q_o145, q_o157, q_o121, q_ix, q_cl]
        rw [z3, w9' (97 + i) (by omega)]
        by_cases cm : x2 < m (97 + i)
        · simp only [if_pos cm]; exact skip _ _ rfl rfl
        · simp only [if_neg cm]
          unfold p_X4_isWorkDone p_X3_pitchLacking p_X3_hoursLacking
          simp (disch := omega) only [q_ix, q_cl]
          rw [(w7' i hi12).2]
          have hand : (upd c (145 + i) 1) (97 + i) = m (97 + i) := by rw [upd_n (by omega), w9' _ (by omega)]
          by_cases c2 : c (145 + i) = 2
          · have n0 : ¬ c (145 + i) = 0 := by rw [c2]; decide
            have n1 : ¬ c (145 + i) = 1 := by rw [c2]; decide
            simp only [if_pos c2, if_neg n0, if_neg n1]
            refine skip _ _ ?_ rfl
            by_cases cd : dn1 i ≤ 0
            · simp only [if_pos cd, q_b1, q_b5, if_true]
            · simp only [if_neg cd, q_b1, q_b5, if_true]
          · simp only [if_neg c2]
            by_cases c0' : c (145 + i) = 0
            · have hd0 := sea.1 (by rw [c0']; decide)
              refine go (c 5) (c 6) (c (157 + i)) 1 dn1 (upd sta1 i 1) _ _ (m_wk_inv w8' hi12 (rg_pi w8'.1) (rg_dn w8'.1 hi12) ⟨by decide, by decide⟩ (fun e => absurd e (by decide)) (fun _ => by have := sea.2.2; omega)) ?_ ?_ ⟨(w7' i hi12).1, upd_s, fun j hj => ⟨rfl, upd_n hj⟩⟩
              · simp only [if_pos c0', q_b5, if_neg (show ¬ (1 : Int32) = 0 by decide)]
              · simp only [if_pos c0', q_lt1]
                rw [upd_n (show 97 + i ≠ 145 + i by omega), c97]
                unfold m_wk
                rw [fa_upd_same (f := c) (i := 5) rfl, fa_upd_same (f := c) (i := 6) rfl, fa_upd_same (f := c) (i := 157 + i) rfl]
            · have c1 : c (145 + i) = 1 := by
                obtain ⟨r1, r2⟩ := rg_st w8'.1 hi12
                have t0 : (c (145 + i)).toInt ≠ 0 := fun e => c0' (Int32.toInt_inj.mp (by rw [e]; decide))
                have t2 : (c (145 + i)).toInt ≠ 2 := fun e => c2 (Int32.toInt_inj.mp (by rw [e]; decide))
                exact Int32.toInt_inj.mp (by rw [show (1 : Int32).toInt = 1 from by decide]; omega)
              have hlt := sea.2.1 (by rw [c1]; decide)
              have hDL : D < LL := by omega
              simp only [if_neg c0', c1, if_true, upd_s, (w7' i hi12).1, z4, z5]
              have ct : m (121 + i) = c (121 + i) := (w9' _ (by omega)).symm
              have cl : m (109 + i) = c (109 + i) := (w9' _ (by omega)).symm
              rw [ct, cl, eD, eL, eT, eP]
              have lack : (0 + nI LL - (nI D + 1) = 0) = (D + 1 = LL) := by
                rw [Int32.zero_add, nI_1, pk_sub (by omega), show (0 : Int32) = nI 0 from rfl, q_eqI (by omega) (by omega)]
                exact propext ⟨fun e => by omega, fun e => by omega⟩
              have same : (nI D + 1 = nI LL) = (D + 1 = LL) := by rw [nI_1, q_eqI (by omega) (by omega)]
              have kd : kr (nI (D + 1)) 0 4 := ⟨by rw [q_ti (by omega)]; omega, by rw [q_ti (by omega)]; omega⟩
              have kst : ∀ st : Int32, (st = 2 ∨ (st = 1 ∧ D + 1 < LL)) → ∀ p tk : Int32, kr p 0 1000 → k_Inv (m_wk c i p tk (nI (D + 1)) st) := by
                intro st hst p tk hp
                refine m_wk_inv w8' hi12 hp kd ?_ ?_ ?_
                · rcases hst with e | ⟨e, -⟩ <;> rw [e] <;> exact ⟨by decide, by decide⟩
                · intro e0
                  rcases hst with e | ⟨e, -⟩ <;> rw [e] at e0 <;> exact absurd e0 (by decide)
                · intro e0
                  rcases hst with e | ⟨e, hh⟩
                  · rw [e] at e0; exact absurd e0 (by decide)
                  · rw [eL, q_ti (by omega), q_ti (by omega)]; omega
              rcases Nat.eq_zero_or_pos D with hz | hz
              · -- the first HOUR of work takes its PITCH
                subst hz
                simp only [show (nI 0 ≤ (0 : Int32)) = True from by decide, show ((0 : Int32) < nI 0) = False from by decide, show (nI 0 = (0 : Int32)) = True from by decide, if_true, if_false, q_b1]
                by_cases cp : TT ≤ P
                · simp only [if_pos (show nI TT ≤ nI P from nI_le cp (by omega)), if_neg (show ¬ nI P < nI TT from nI_nlt cp (by omega)), q_b1]
                  have kp : kr (nI P - nI TT) 0 1000 := by rw [pk_sub cp]; exact ⟨by rw [q_ti (by omega)]; omega, by rw [q_ti (by omega)]; omega⟩
                  have hc' : (upd (upd c 5 (nI P - nI TT)) 6 ((upd c 5 (nI P - nI TT)) 6 + (upd c 5 (nI P - nI TT)) (121 + i))) = upd (upd c 5 (nI P - nI TT)) 6 (c 6 + nI TT) := by
                    rw [upd_n (show 6 ≠ 5 by omega), upd_n (show 121 + i ≠ 5 by omega), eT]
                  rw [hc', y_fin1 hi12]
                  have f1 : (upd (upd c 5 (nI P - nI TT)) 6 (c 6 + nI TT)) (97 + i) = m (97 + i) := by rw [upd_n (by omega), upd_n (by omega), c97]
                  have f2 : (upd (upd c 5 (nI P - nI TT)) 6 (c 6 + nI TT)) (157 + i) = nI 0 := by rw [upd_n (by omega), upd_n (by omega), eD]
                  have f3 : (upd (upd c 5 (nI P - nI TT)) 6 (c 6 + nI TT)) (109 + i) = nI LL := by rw [upd_n (by omega), upd_n (by omega), eL]
                  rw [f1, f2, f3]
                  by_cases cc : 0 + 1 = LL
                  · have l1 : (0 + nI LL - (nI 0 + 1) = 0) := by rw [lack]; exact cc
                    have l2 : nI 0 + 1 = nI LL := by rw [same]; exact cc
                    refine go (nI P - nI TT) (c 6 + nI TT) (nI (0 + 1)) 2 (upd dn1 i (nI 0 + 1)) (upd sta1 i 2) _ _ (kst 2 (Or.inl rfl) _ _ kp) ?_ ?_ ⟨by rw [upd_s, nI_1], upd_s, fun j hj => ⟨upd_n hj, upd_n hj⟩⟩
                    · simp only [q_b1, if_pos l1, q_b5, if_neg (show ¬ (1 : Int32) = 0 by decide)]
                    · rw [if_pos l2, nI_1 0]; rfl
                  · have l1 : ¬ (0 + nI LL - (nI 0 + 1) = 0) := by rw [lack]; exact cc
                    have l2 : ¬ nI 0 + 1 = nI LL := by rw [same]; exact cc
                    refine go (nI P - nI TT) (c 6 + nI TT) (nI (0 + 1)) 1 (upd dn1 i (nI 0 + 1)) sta1 _ _ (kst 1 (Or.inr ⟨rfl, by omega⟩) _ _ kp) ?_ ?_ ⟨by rw [upd_s, nI_1], by rw [(w7' i hi12).2, c1], fun j hj => ⟨upd_n hj, rfl⟩⟩
                    · simp only [q_b1, if_neg l1, q_b5, if_neg (show ¬ (1 : Int32) = 0 by decide)]
                    · rw [if_neg l2, nI_1 0]; rfl
                · simp only [if_neg (show ¬ nI TT ≤ nI P from nI_ge (by omega) (by omega)), if_pos (show nI P < nI TT from nI_lt (by omega) (by omega)), q_b5, if_true]
                  exact skip _ _ (by simp only [eP, if_neg (show ¬ (1 : Int32) = 0 by decide), q_b5, if_true]) rfl
              · simp only [if_neg (show ¬ nI D ≤ 0 from nI_nle hz (by omega)), if_pos (show (0 : Int32) < nI D from nI_lt (a := 0) hz (by omega)), if_neg (nI_ne0 hz (show D < 2 ^ 31 by omega)), if_pos (show (0 : Int32) ≤ nI P from nI_pos' (by omega)), q_b1]
                rw [y_fin hi12, c97, eD, eL]
                have kp : kr (c 5) 0 1000 := rg_pi w8'.1
                by_cases cc : D + 1 = LL
                · have l1 : (0 + nI LL - (nI D + 1) = 0) := by rw [lack]; exact cc
                  have l2 : nI D + 1 = nI LL := by rw [same]; exact cc
                  refine go (c 5) (c 6) (nI (D + 1)) 2 (upd dn1 i (nI D + 1)) (upd sta1 i 2) _ _ (kst 2 (Or.inl rfl) _ _ kp) ?_ ?_ ⟨by rw [upd_s, nI_1], upd_s, fun j hj => ⟨upd_n hj, upd_n hj⟩⟩
                  · simp only [q_b1, if_pos l1, q_b5, if_neg (show ¬ (1 : Int32) = 0 by decide), Int32.sub_zero, Int32.add_zero, eP]
                  · rw [if_neg (show ¬ (1 : Int32) = 0 by decide), if_pos l2, nI_1 D]
                    unfold m_wk
                    rw [fa_upd_same (f := c) (i := 5) rfl, fa_upd_same (f := c) (i := 6) rfl]
                · have l1 : ¬ (0 + nI LL - (nI D + 1) = 0) := by rw [lack]; exact cc
                  have l2 : ¬ nI D + 1 = nI LL := by rw [same]; exact cc
                  refine go (c 5) (c 6) (nI (D + 1)) 1 (upd dn1 i (nI D + 1)) sta1 _ _ (kst 1 (Or.inr ⟨rfl, by omega⟩) _ _ kp) ?_ ?_ ⟨by rw [upd_s, nI_1], by rw [(w7' i hi12).2, c1], fun j hj => ⟨upd_n hj, rfl⟩⟩
                  · simp only [q_b1, if_neg l1, q_b5, if_neg (show ¬ (1 : Int32) = 0 by decide), Int32.sub_zero, Int32.add_zero, eP]
                  · rw [if_neg (show ¬ (1 : Int32) = 0 by decide), if_neg l2, nI_1 D]
                    unfold m_wk
                    rw [fa_upd_same (f := c) (i := 5) rfl, fa_upd_same (f := c) (i := 6) rfl]
      · simp only [if_neg cv]; exact skip _ _ rfl rfl
    · simp only [if_neg cb]; exact skip _ _ rfl rfl
  have hend : ∀ (s : Int32 × Int32 × (Nat → Int32) × (Nat → Int32) × Int32 × Int32 × Int32) (t : Int32 × Int32 × (Nat → Int32)), W_rel m ru (s_ns m) s t → ∃ (e : (Nat → Int32) × (Nat → Int32) × Int32 × Int32 × Int32) (f : Int32 × (Nat → Int32)), lb_X4_work_12 ss a1 (m 1) td sk sd (m 0) hd tr lg s.1 s.2.1 s.2.2.1 s.2.2.2.1 s.2.2.2.2.1 s.2.2.2.2.2.1 s.2.2.2.2.2.2 = some (.inr e) ∧ lb_X9_pass_21 a1 0 td t.1 t.2.1 t.2.2 = some (.inr f) ∧ (e.2.2.1 = m 7 + (ru 3 - f.1) ∧ e.2.2.2.1 = f.2 5 ∧ e.2.2.2.2 = f.2 6 ∧ (∀ j, j < 12 → e.1 j = f.2 (157 + j) ∧ e.2.1 j = f.2 (145 + j)) ∧ k_Inv f.2 ∧ ∀ k, (k ≠ 5 ∧ k ≠ 6 ∧ k < 145) → f.2 k = m k) := by
    intro s t hW
    obtain ⟨x2, x3, dn1, sta1, hm, pi, tk⟩ := s
    obtain ⟨men, y3, c⟩ := t
    obtain ⟨w1, w2, w3, w4, w5, w6, w7, w8, w9⟩ := hW
    have w2' : x3 = nI (s_ns m) := w2
    have w3' : y3 = nI (s_ns m) := w3
    subst w2'; subst w3'
    have c12 : c 12 = nI (s_ns m) := (w9 12 (by omega)).trans e12
    refine ⟨(dn1, sta1, hm, pi, tk), (men, c), ?_, ?_, w4, w5, w6, w7, w8, w9⟩
    · show lb_X4_work_12 ss a1 (m 1) td sk sd (m 0) hd tr lg x2 (nI (s_ns m)) dn1 sta1 hm pi tk = _
      unfold lb_X4_work_12
      rw [hss, e12, q_ifle _ _ (Nat.le_refl _) (by omega)]
    · show lb_X9_pass_21 a1 0 td men (nI (s_ns m)) c = _
      unfold lb_X9_pass_21
      rw [c12, q_ifle _ _ (Nat.le_refl _) (by omega)]
  obtain ⟨e, f, g1, g2, g3⟩ := q_lp2 (b1 := fun s : Int32 × Int32 × (Nat → Int32) × (Nat → Int32) × Int32 × Int32 × Int32 => lb_X4_work_12 ss a1 (m 1) td sk sd (m 0) hd tr lg s.1 s.2.1 s.2.2.1 s.2.2.2.1 s.2.2.2.2.1 s.2.2.2.2.2.1 s.2.2.2.2.2.2) (b2 := fun s : Int32 × Int32 × (Nat → Int32) => lb_X9_pass_21 a1 0 td s.1 s.2.1 s.2.2) (W_rel m ru) (fun e f => e.2.2.1 = m 7 + (ru 3 - f.1) ∧ e.2.2.2.1 = f.2 5 ∧ e.2.2.2.2 = f.2 6 ∧ (∀ j, j < 12 → e.1 j = f.2 (157 + j) ∧ e.2.1 j = f.2 (145 + j)) ∧ k_Inv f.2 ∧ ∀ k, (k ≠ 5 ∧ k ≠ 6 ∧ k < 145) → f.2 k = m k) (s_ns m) hstep hend (ru' 3, 0, dn, sta, m 7, m 5, m 6) (ru 3, 0, m) ⟨hr3, rfl, rfl, by show m 7 = m 7 + (ru 3 - ru 3); rw [Int32.sub_self, Int32.add_zero], rfl, rfl, fun j hj => ⟨(hse j hj).2.2.2.2.2.2, (hse j hj).2.2.2.2.2.1⟩, h, fun _ _ => rfl⟩ (by omega)
  obtain ⟨d1, d2, d3, d4, d5⟩ := e
  obtain ⟨men, c⟩ := f
  obtain ⟨k1, k2, k3, k4, k5, k6⟩ := g3
  have k2' : d4 = c 5 := k2
  have k3' : d5 = c 6 := k3
  subst k2'; subst k3'
  exact ⟨d1, d2, d3, men, c, g1, g2, k1, k4, k5, k6⟩
end
section
/-! ===== in RAIN nobody works ===== -/
theorem y_nowork {m td : Nat → Int32} (h : k_Rng m) (a1 wet x : Int32) (hw : ¬ wet = 0) : k_lp (fun s : Int32 × Int32 × (Nat → Int32) => lb_X9_pass_21 a1 wet td s.1 s.2.1 s.2.2) k_fuel (x, 0, m) = some (x, m) := by
  obtain ⟨e12, hn, -⟩ := s_ns_e h
  refine q_run (body := fun s : Int32 × Int32 × (Nat → Int32) => lb_X9_pass_21 a1 wet td s.1 s.2.1 s.2.2) (fun i => (x, nI i, m)) (x, m) (s_ns m) (fun i hi => ?_) ?_ (by omega)
  · show lb_X9_pass_21 a1 wet td x (nI i) m = some (.inl (x, nI (i + 1), m))
    unfold lb_X9_pass_21
    rw [e12, q_ifge _ _ hi (by omega), if_neg hw, nI_succ]
    by_cases c : (a1 >>> (nI i &&& 31)) &&& 1 = 1
    · rw [if_pos c]
    · rw [if_neg c]
  · show lb_X9_pass_21 a1 wet td x (nI (s_ns m)) m = _
    unfold lb_X9_pass_21
    rw [e12, q_ifle _ _ (Nat.le_refl _) (by omega)]
/-! ===== the flood ===== -/
def s_fl (m td : Nat → Int32) (o : Nat) : Nat := fb_ct (fun i => decide (m (145 + i) = 1) && !s_bare m td i o) (s_ns m)
theorem x_floodlp {m td sk sd sta : Nat → Int32} {ss : Int32} (h : k_Rng m) (hss : ss = m 12) {o : Nat} (ho2 : o < 1000) (h1 : ∀ i, i < 12 → sk i = m (73 + i) ∧ sd i = m (85 + i) ∧ sta i = m (145 + i)) : k_lp (fun s : Int32 × Int32 => lb_X4_flood_4 ss sta (m 1) td sk sd (nI o) s.1 s.2) k_fuel (0, 0) = some (nI (s_fl m td o)) := by
  obtain ⟨e12, hn, -⟩ := s_ns_e h
  have key : k_lp (fun s : Int32 × Int32 => lb_X4_flood_4 ss sta (m 1) td sk sd (nI o) s.1 s.2) k_fuel (0, 0) = some (0 + q_sum (fun i => if (decide (m (145 + i) = 1) && !s_bare m td i o) then 1 else 0) (s_ns m)) := by
    refine q_sumlp _ (s_ns m) 0 (fun i x hi => ?_) (fun x => ?_) (by omega)
    · show lb_X4_flood_4 ss sta (m 1) td sk sd (nI o) x (nI i) = _
      unfold lb_X4_flood_4
      rw [hss, e12, q_ifge _ _ hi (by omega), q_ix _ (by omega) (by omega), q_cl (by omega), x_isBare (by omega) ho2 (h1 i (by omega)).1 (h1 i (by omega)).2.1, q_b1, q_ifp, (h1 i (by omega)).2.2]
      by_cases c : m (145 + i) = 1
      · cases hb : s_bare m td i o <;> simp [c]
      · simp [c]
    · show lb_X4_flood_4 ss sta (m 1) td sk sd (nI o) x (nI (s_ns m)) = _
      unfold lb_X4_flood_4
      rw [hss, e12, q_ifle _ _ (Nat.le_refl _) (by omega)]
  rw [key, Int32.zero_add, q_sum_cnt (p := fun i => decide (m (145 + i) = 1) && !s_bare m td i o) (fun i hi => rfl)]
  rfl
theorem y_floodlp {c td ru : Nat → Int32} {men : Int32} (h : k_Rng c) {o : Nat} (ho : c 0 = nI o) (ho2 : o < 1000) : k_lp (fun s : Int32 × Int32 => lb_X9_pass_334 c ru men td s.1 s.2) k_fuel (0, 0) = some (nI (10 * s_fl c td o)) := by
  obtain ⟨e12, hn, -⟩ := s_ns_e h
  have key : k_lp (fun s : Int32 × Int32 => lb_X9_pass_334 c ru men td s.1 s.2) k_fuel (0, 0) = some (0 + q_sum (fun i => if (decide (c (145 + i) = 1) && !s_bare c td i o) then 10 else 0) (s_ns c)) := by
    refine q_sumlp _ (s_ns c) 0 (fun i x hi => ?_) (fun x => ?_) (by omega)
    · show lb_X9_pass_334 c ru men td x (nI i) = _
      unfold lb_X9_pass_334
      rw [upd_n (show (12 : Nat) ≠ 7 by omega), upd_n (show (0 : Nat) ≠ 7 by omega), e12, ho, q_ifge _ _ hi (by omega), q_o145, q_ix _ (by omega) (by omega), q_cl (by omega), upd_n (show 145 + i ≠ 7 by omega), y_isBare _ td (by omega) ho2, s_bare_cong (m := c) (upd_n (by omega)) (upd_n (by omega)) (upd_n (by omega)), q_b1, q_ifp]
      by_cases c1 : c (145 + i) = 1
      · cases hb : s_bare c td i o <;> simp [c1]
      · simp [c1]
    · show lb_X9_pass_334 c ru men td x (nI (s_ns c)) = _
      unfold lb_X9_pass_334
      rw [upd_n (show (12 : Nat) ≠ 7 by omega), e12, q_ifle _ _ (Nat.le_refl _) (by omega)]
  rw [key, Int32.zero_add, q_sum_mul, show (10 : Int32) = nI 10 from rfl, pk_mul, Nat.mul_comm]
  rfl
theorem s_fl_le {m td : Nat → Int32} {o : Nat} (h : k_Rng m) : s_fl m td o ≤ 12 := Nat.le_trans (fb_ct_le _ _) (s_ns_e h).2.1
/-! ===== an HOUR goes by ===== -/
theorem updk_inv {m : Nat → Int32} (h : k_Inv m) {k : Nat} {a : Int32} (hk : k < 10) (ha : kr a (k_lo k) (k_hi k)) : k_Inv (upd m k a) :=
  k_Inv_frame h (k_Rng_upd h.1 ha) (upd_n (by omega)) (upd_n (by omega)) (upd_n (by omega)) (fun j hj => upd_n (by omega)) (fun j hj => upd_n (by omega)) (fun j hj => ⟨upd_n (by omega), upd_n (by omega), upd_n (by omega)⟩)
theorem xy_pass {m rn ru ru' td wt ma pr sg sk sd hd lg tr sta dn : Nat → Int32} {ot ts tas ss : Int32} {o : Nat} (h : k_Inv m) (hrn : ∀ h, h < 96 → kr (rn h) 0 1) (hrl : R_rl ru' ru) (hpos : R_pos ru) (hr3 : ru' 3 = ru 3) (ho : m 0 = nI o) (ho2 : o < 96) (hw : m 2 ≤ 100) (hot : ot = nI (k_out m)) (hts : ts = m 10) (hwt : ∀ i, i < 12 → wt i = m (13 + i)) (htas : tas = m 11) (hta : ∀ i, i < 6 → ma i = m (49 + i) ∧ pr i = m (55 + i) ∧ sg i = m (61 + i)) (hss : ss = m 12) (hse : ∀ i, i < 12 → sk i = m (73 + i) ∧ sd i = m (85 + i) ∧ hd i = m (97 + i) ∧ lg i = m (109 + i) ∧ tr i = m (121 + i) ∧ sta i = m (145 + i) ∧ dn i = m (157 + i)) (a1 : Int32) : ∃ m' sta' dn', p_X4_passHour (m 0) (m 1) (m 2) (m 5) (m 6) (m 7) (m 8) rn ss sta td sk sd ru' ot ts wt (nI (k_wh m)) tas pr sg ma hd dn tr lg a1 = some (m' 0, m' 1, m' 2, m' 5, m' 3, m' 4, m' 6, m' 7, m' 8, sta', nI (k_wh m'), dn') ∧ p_X9_pass m rn ru td a1 = some m' ∧ k_Inv m' ∧ (∀ j, j < 12 → sta' j = m' (145 + j) ∧ dn' j = m' (157 + j)) ∧ m' 0 = nI (o + 1) ∧ m' 3 = 0 ∧ m' 4 = 0 ∧ ∀ k, ((9 ≤ k ∧ k < 67) ∨ (73 ≤ k ∧ k < 145)) → m' k = m k := by
  -- what work leaves: c, men
  have work : ∃ dn' sta' hm men c, (if rn (min o 95) = 0 then p_X4_work (m 0) (m 1) (m 5) (m 6) (m 7) ru' ss hd td sk sd sta dn tr lg a1 else some (m 5, m 6, m 7, sta, dn)) = some (c 5, c 6, hm, sta', dn') ∧ k_lp (fun s => lb_X9_pass_21 a1 (rn (min o 95)) td s.1 s.2.1 s.2.2) k_fuel (ru 3, 0, m) = some (men, c) ∧ hm = m 7 + (ru 3 - men) ∧ (∀ j, j < 12 → dn' j = c (157 + j) ∧ sta' j = c (145 + j)) ∧ k_Inv c ∧ ∀ k, (k ≠ 5 ∧ k ≠ 6 ∧ k < 145) → c k = m k := by
    by_cases cw : rn (min o 95) = 0
    · obtain ⟨dn', sta', hm, men, c, g1, g2, g3, g4, g5, g6⟩ := xy_work (ru := ru) h hss ho (by omega) hr3 hse a1
      refine ⟨dn', sta', hm, men, c, ?_, ?_, g3, g4, g5, g6⟩
      · rw [if_pos cw]; unfold p_X4_work; rw [g1, q_b5]
      · rw [cw]; exact g2
    · exact ⟨dn, sta, m 7, ru 3, m, by rw [if_neg cw], y_nowork h.1 a1 _ (ru 3) cw, by rw [Int32.sub_self, Int32.add_zero], fun j hj => ⟨(hse j hj).2.2.2.2.2.2, (hse j hj).2.2.2.2.2.1⟩, h, fun _ _ => rfl⟩
  obtain ⟨dn', sta', hm, men, c, w1, w2, w3, w4, w5, w6⟩ := work
  obtain ⟨W, eW, eW2, hW, -⟩ := kr_nI (rg_wa h.1) (by decide) (by decide)
  have hW100 : W ≤ 100 := by
    rw [eW, show (100 : Int32) = nI 100 from rfl, q_leI (by omega) (by omega)] at hw; exact hw
  have c0 : c 0 = nI o := by rw [w6 0 (by omega), ho]
  have c2 : c 2 = nI W := by rw [w6 2 (by omega), eW]
  have hfl := s_fl_le (td := td) (o := o) w5.1
  -- the new WATER
  have flood : ∃ t : Int32, ∃ V : Nat, V ≤ 220 ∧ nI W + t = nI V ∧ p_X4_flood (nI o) (m 1) (nI W) ss sta' td sk sd = some (nI V) ∧ p_X9_pass m rn ru td a1 = lj_X9_pass_432 ru (rn (min o 95)) c men t := by
    have fx := x_floodlp (m := c) (td := td) (sk := sk) (sd := sd) (sta := sta') (ss := ss) w5.1 (by rw [hss, w6 12 (by omega)]) (o := o) (by omega) (fun i hi => ⟨by rw [(hse i hi).1, w6 _ (by omega)], by rw [(hse i hi).2.1, w6 _ (by omega)], (w4 i hi).2⟩)
    rw [w6 1 (by omega)] at fx
    have fy := y_floodlp (c := c) (td := td) (ru := ru) (men := men) w5.1 c0 (by omega)
    unfold p_X4_flood p_X9_pass
    rw [fx, ho, y_rains hrn (by omega), q_b1, q_b1, w2, q_b2, fy, q_b1]
    rcases Nat.eq_zero_or_pos (s_fl c td o) with z | z
    · rw [z, if_pos (show nI 0 ≤ 0 by decide), if_pos (show nI (10 * 0) ≤ 0 by decide), upd_n (show (2 : Nat) ≠ 7 by omega), c2]
      by_cases c5 : 5 ≤ W
      · refine ⟨-5, W - 5, by omega, ?_, ?_, ?_⟩
        · have : nI W + (-5 : Int32) = nI W - nI 5 := by rw [Int32.sub_eq_add_neg]; rfl
          rw [this, pk_sub c5]
        · have e5 : nI W - 5 = nI (W - 5) := pk_sub (b := 5) c5
          rw [e5]
          rcases Nat.eq_zero_or_pos (W - 5) with z5 | z5
          · rw [z5]; rfl
          · rw [if_pos (show (0 : Int32) < nI (W - 5) from nI_lt (a := 0) z5 (by omega))]
        · rw [if_pos (show (5 : Int32) ≤ nI W from nI_le (a := 5) c5 (by omega))]
      · refine ⟨-(nI W), 0, by omega, ?_, ?_, ?_⟩
        · rw [← Int32.sub_eq_add_neg, Int32.sub_self]; rfl
        · rw [if_neg]
          · rfl
          · rw [Int32.lt_iff_toInt_lt, show (5 : Int32) = nI 5 from rfl, pk_sub_toInt (by omega) (by omega), show (0 : Int32).toInt = 0 from by decide]
            omega
        · rw [if_neg (show ¬ (5 : Int32) ≤ nI W from nI_ge (b := 5) (by omega) (by omega))]
    · refine ⟨nI (10 * s_fl c td o), W + 10 * s_fl c td o, by omega, nI_add _ _, ?_, ?_⟩
      · rw [if_neg (nI_nle z (by omega)), show (10 : Int32) = nI 10 from rfl, pk_mul, nI_add]
      · rw [if_neg (nI_nle (by omega) (by omega))]
  obtain ⟨t, V, hV, hVt, fX, fY⟩ := flood
  -- the row behind the flood
  have fr8 : ∀ k, k ≠ 2 → k ≠ 7 → (upd (upd c 7 ((c 7) + ((ru 3) - men))) 2 (nI V)) k = c k := fun k a b => by rw [upd_n a, upd_n b]
  have I8 : k_Inv (upd (upd c 7 ((c 7) + ((ru 3) - men))) 2 (nI V)) := by
    refine updk_inv (updk_inv w5 (by omega) ?_) (by omega) ?_
    · have := fb_rng ((c 7) + ((ru 3) - men))
      exact ⟨by show -2147483648 ≤ _; omega, by show _ ≤ 2147483647; omega⟩
    · show 0 ≤ _ ∧ _ ≤ 220
      rw [q_ti (by omega)]; omega
  have r8 : (upd (upd c 7 ((c 7) + ((ru 3) - men))) 2 (((upd c 7 ((c 7) + ((ru 3) - men))) 2) + t)) = upd (upd c 7 ((c 7) + ((ru 3) - men))) 2 (nI V) := by
    rw [upd_n (show (2 : Nat) ≠ 7 by omega), c2, hVt]
  have fr8m : ∀ k, (k ≠ 2 ∧ k ≠ 5 ∧ k ≠ 6 ∧ k ≠ 7 ∧ k < 145) → (upd (upd c 7 ((c 7) + ((ru 3) - men))) 2 (nI V)) k = m k := fun k hk => by rw [fr8 k (by omega) (by omega), w6 k (by omega)]
  obtain ⟨m', t1, t2, t3, t4, t5⟩ := xy_tackles (ru := ru) (ru' := ru') (wt := wt) (ma := ma) (pr := pr) (sg := sg) (ot := ot) (ts := ts) (tas := tas) (he := m 1) (wet := rn (min o 95)) hrl hpos (rg_he h.1) (s_W (upd (upd c 7 ((c 7) + ((ru 3) - men))) 2 (nI V))) (upd (upd c 7 ((c 7) + ((ru 3) - men))) 2 (nI V)) 0 rfl (by have := s_W_le I8.1; omega) I8 (fr8m 1 (by omega)) (by rw [hot, k_out_cong (m := m) (fr8m 10 (by omega)) (fun i hi => fr8m _ (by omega))]) (by rw [hts, fr8m 10 (by omega)]) (fun i hi => by rw [hwt i hi, fr8m _ (by omega)]) (by rw [htas, fr8m 11 (by omega)]) (fun i hi => by rw [(hta i hi).1, fr8m _ (by omega)]) (fun i hi => by rw [(hta i hi).2.1, fr8m _ (by omega)]) (fun i hi => by rw [(hta i hi).2.2, fr8m _ (by omega)])
  have hF : s_W (upd (upd c 7 ((c 7) + ((ru 3) - men))) 2 (nI V)) + 2 < 100000 := by have := s_W_le I8.1; omega
  have t1' := t1 k_fuel hF
  have t2' := t2 k_fuel hF
  rw [k_wh_cong (m := m) (m' := upd (upd c 7 ((c 7) + ((ru 3) - men))) 2 (nI V)) (fr8m 11 (by omega)) (fun i hi => fr8m _ (by omega)), fr8m 8 (by omega)] at t2'
  have at' : ∀ k, (k ≠ 1 ∧ k ≠ 8 ∧ (k < 67 ∨ 73 ≤ k)) → m' k = (upd (upd c 7 ((c 7) + ((ru 3) - men))) 2 (nI V)) k := fun k hk => t5 k hk.1 hk.2.1 hk.2.2
  have tack : p_X4_partTackles (nI o) (m 1) (m 8) rn ru' ot ts wt (nI (k_wh m)) tas pr sg ma = some (m' 1, m' 8, nI (k_wh m')) := by
    unfold p_X4_partTackles
    rw [x_rainsIn hrn (by omega), q_b1]
    have : k_lp (fun s : Int32 × Int32 × Int32 => lb_X4_partTackles_14 ru' ot ts wt (m 1) tas pr sg ma (rn (min o 95)) s.1 s.2.1 s.2.2) k_fuel (0, nI (k_wh m), m 8) = some (nI (k_wh m'), m' 8) := t2'
    rw [this, q_b2, t3]
    by_cases z : nI (k_wh m') = 0
    · rw [if_pos z, if_pos z]
    · rw [if_neg z, if_neg z]
  have e0' : m' 0 = nI o := by rw [at' 0 (by omega), fr8m 0 (by omega), ho]
  refine ⟨upd (upd (upd m' 0 ((m' 0) + 1)) 3 0) 4 0, sta', dn', ?_, ?_, ?_, fun j hj => ?_, ?_, ?_, ?_, fun k hk => ?_⟩
  · have z0 : (upd (upd (upd m' 0 ((m' 0) + 1)) 3 0) 4 0) 0 = nI o + 1 := by simp (disch := omega) only [upd_n, upd_s]; rw [e0']
    have z1 : (upd (upd (upd m' 0 ((m' 0) + 1)) 3 0) 4 0) 1 = m' 1 := by simp (disch := omega) only [upd_n]
    have z2 : (upd (upd (upd m' 0 ((m' 0) + 1)) 3 0) 4 0) 2 = nI V := by simp (disch := omega) only [upd_n]; rw [at' 2 (by omega), upd_s]
    have z3 : (upd (upd (upd m' 0 ((m' 0) + 1)) 3 0) 4 0) 3 = 0 := by simp (disch := omega) only [upd_n, upd_s]
    have z4 : (upd (upd (upd m' 0 ((m' 0) + 1)) 3 0) 4 0) 4 = 0 := by rw [upd_s]
    have z5 : (upd (upd (upd m' 0 ((m' 0) + 1)) 3 0) 4 0) 5 = c 5 := by simp (disch := omega) only [upd_n]; rw [at' 5 (by omega), fr8 5 (by omega) (by omega)]
    have z6 : (upd (upd (upd m' 0 ((m' 0) + 1)) 3 0) 4 0) 6 = c 6 := by simp (disch := omega) only [upd_n]; rw [at' 6 (by omega), fr8 6 (by omega) (by omega)]
    have z7 : (upd (upd (upd m' 0 ((m' 0) + 1)) 3 0) 4 0) 7 = hm := by simp (disch := omega) only [upd_n]; rw [at' 7 (by omega), upd_n (by omega), upd_s, w3, w6 7 (by omega)]
    have z8 : (upd (upd (upd m' 0 ((m' 0) + 1)) 3 0) 4 0) 8 = m' 8 := by simp (disch := omega) only [upd_n]
    have zw : k_wh (upd (upd (upd m' 0 ((m' 0) + 1)) 3 0) 4 0) = k_wh m' := k_wh_cong (by simp (disch := omega) only [upd_n]) (fun i hi => by simp (disch := omega) only [upd_n])
    rw [z0, z1, z2, z3, z4, z5, z6, z7, z8, zw]
    unfold p_X4_passHour
    rw [ho, eW, x_rainsIn hrn (by omega), q_b1]
    rw [ho] at w1
    by_cases cw : rn (min o 95) = 0
    · rw [if_pos cw] at w1 ⊢
      rw [w1, q_b5, fX, q_b1, tack, q_b3]
    · rw [if_neg cw] at w1 ⊢
      have hh := Option.some.inj w1
      simp only [Prod.mk.injEq] at hh
      obtain ⟨q1, q2, q3, q4, q5⟩ := hh
      rw [q1, q2, q3, q4, q5, fX, q_b1, tack, q_b3]
  · rw [fY]
    unfold lj_X9_pass_432
    rw [r8]
    have : k_lp (fun s => lb_X9_pass_434 ru (rn (min o 95)) s) k_fuel (upd (upd c 7 ((c 7) + ((ru 3) - men))) 2 (nI V)) = some m' := t1'
    rw [this, q_b1]
  · refine updk_inv (updk_inv (updk_inv t4 (by omega) ?_) (by omega) ⟨by decide, by decide⟩) (by omega) ⟨by decide, by decide⟩
    show 0 ≤ _ ∧ _ ≤ 96
    rw [e0', nI_1, q_ti (by omega)]; omega
  · simp (disch := omega) only [upd_n]
    rw [at' _ (by omega), at' _ (by omega), fr8 _ (by omega) (by omega), fr8 _ (by omega) (by omega)]
    exact ⟨(w4 j hj).2, (w4 j hj).1⟩
  · simp (disch := omega) only [upd_n, upd_s]
    rw [e0', nI_1]
  · simp (disch := omega) only [upd_n, upd_s]
  · rw [upd_s]
  · simp (disch := omega) only [upd_n]
    rw [at' k (by omega), fr8m k (by omega)]
end
section
theorem q_one : ∀ n, n < 13 → (1 : Int32) <<< (nI n &&& 31) = nI (2 ^ n) := by decide +kernel
theorem q_ord {n : Nat} (hn : n ≤ 12) (a : Int32) : ((a.toUInt32 >>> ((nI n).toUInt32 &&& Int32.toUInt32 31)).toInt32 = 0) = (0 ≤ a ∧ a ≤ (1 <<< (nI n &&& 31)) - 1) := by
  have hp : 0 < 2 ^ n := Nat.two_pow_pos n
  have hp2 : 2 ^ n ≤ 2 ^ 12 := Nat.pow_le_pow_right (by omega) hn
  have h12 : (2 : Nat) ^ 12 = 4096 := by decide
  rw [q_one n (by omega)]
  have es : nI (2 ^ n) - 1 = nI (2 ^ n - 1) := pk_sub (b := 1) hp
  rw [es]
  refine propext ⟨fun h => ?_, fun h => ?_⟩
  · obtain ⟨k, hk, e, -⟩ := q_ofbits (x := a) (n := n) (by omega) (fun i hi h2 => by
      have h3 : bt ((a.toUInt32 >>> ((nI n).toUInt32 &&& Int32.toUInt32 31)).toInt32) (i - n) = bt 0 (i - n) := by rw [h]
      rw [b_ushr n (by omega), b_0, show n + (i - n) = i from by omega] at h3
      exact h3)
    rw [e]
    exact ⟨nI_pos' (by omega), nI_le (by omega) (by omega)⟩
  · obtain ⟨k, -, hk, rfl⟩ := q_rng (a := 0) (b := 2 ^ n - 1) (by omega) (by omega) h
    refine b_ext fun i hi => ?_
    rw [b_ushr n (by omega), b_0]
    rcases Nat.lt_or_ge (n + i) 32 with h2 | h2
    · rw [bt_nI _ h2]
      apply Nat.testBit_lt_two_pow
      have : 2 ^ n ≤ 2 ^ (n + i) := Nat.pow_le_pow_right (by omega) (by omega)
      omega
    · exact b_big h2
theorem sim_hour : k_Sim_hour R_all := by
  intro S L M a1 hR
  obtain ⟨hc, ht, ⟨hrn, hrn2⟩, hru, hs, hk0, hk1, hk2, hp⟩ := hR
  obtain ⟨⟨e0, e1, e2, e5, e3, e4, e6, e7, e8, e9, eo, ets, ew, eta, ess⟩, hth, hta, hse, hI⟩ := hs
  obtain ⟨hrl, hpos⟩ := R_rule_rl hru
  obtain ⟨o, eo0, hoo⟩ := s_hour hI.1
  obtain ⟨e12, hn, -⟩ := s_ns_e hI.1
  have key : ∃ r m' sta' dn', p_X8_hour (S 4 0) (S 5 0) (S 6 0) (S 7 0) (S 8 0) (S 9 0) (S 10 0) (S 11 0) (S 12 0) (S 23 0) (S 2) (S 30) (S 1) (S 24) (S 25) (S 3) (S 14 0) (S 15 0) (S 16) (S 18 0) (S 19 0) (S 21) (S 22) (S 20) (S 26) (S 31) (S 28) (S 27) a1 = some (r, m' 0, m' 1, m' 2, m' 5, m' 3, m' 4, m' 6, m' 7, m' 8, sta', nI (k_wh m'), dn') ∧ p_X9_hour (M 9) (M 13) (M 14) (M 12) a1 = some (r, 0, m') ∧ k_Inv m' ∧ (∀ j, j < 12 → sta' j = m' (145 + j) ∧ dn' j = m' (157 + j)) ∧ ∀ k, ((9 ≤ k ∧ k < 67) ∨ (73 ≤ k ∧ k < 145)) → m' k = M 9 k := by
    have same : ∀ v : Int32, ∃ r m' sta' dn', (some (v, M 9 0, M 9 1, M 9 2, M 9 5, M 9 3, M 9 4, M 9 6, M 9 7, M 9 8, S 30, nI (k_wh (M 9)), S 31) : Option (Int32 × Int32 × Int32 × Int32 × Int32 × Int32 × Int32 × Int32 × Int32 × Int32 × (Nat → Int32) × Int32 × (Nat → Int32))) = some (r, m' 0, m' 1, m' 2, m' 5, m' 3, m' 4, m' 6, m' 7, m' 8, sta', nI (k_wh m'), dn') ∧ (some (v, 0, M 9) : Option (Int32 × Int32 × (Nat → Int32))) = some (r, 0, m') ∧ k_Inv m' ∧ (∀ j, j < 12 → sta' j = m' (145 + j) ∧ dn' j = m' (157 + j)) ∧ ∀ k, ((9 ≤ k ∧ k < 67) ∨ (73 ≤ k ∧ k < 145)) → m' k = M 9 k :=
      fun v => ⟨v, M 9, S 30, S 31, rfl, rfl, hI, fun j hj => ⟨(hse j hj).2.2.2.2.2.2.1, (hse j hj).2.2.2.2.2.2.2⟩, fun _ _ => rfl⟩
    unfold p_X8_hour p_X9_hour
    rw [e0, e1, e2, e3, e4, e5, e6, e7, e8, ew, ess, e12, x_lost, y_lost, q_in_0_c, hrn, show S 1 = M 12 from ht]
    simp only [q_b1, q_ifp, q_ord hn a1]
    by_cases ca : 0 ≤ a1 ∧ a1 ≤ (1 <<< (nI (s_ns (M 9)) &&& 31)) - 1
    · simp only [if_pos ca]
      by_cases cw : M 9 2 ≤ 100
      · simp only [if_pos cw, if_true]
        by_cases co : o ≤ 95
        · have c1 : M 9 0 < 96 := by rw [eo0]; exact nI_lt (b := 96) (by omega) (by omega)
          have c2 : M 9 0 ≤ 95 := by rw [eo0]; exact nI_le (b := 95) co (by omega)
          simp only [if_pos c1, if_pos c2]
          obtain ⟨m', sta', dn', g1, g2, g3, g4, -, -, -, g5⟩ := xy_pass (m := M 9) (rn := M 13) (ru := M 14) (ru' := S 3) (td := M 12) (wt := S 16) (ma := S 20) (pr := S 21) (sg := S 22) (sk := S 24) (sd := S 25) (hd := S 26) (lg := S 27) (tr := S 28) (sta := S 30) (dn := S 31) (ot := S 14 0) (ts := S 15 0) (tas := S 19 0) (ss := nI (s_ns (M 9))) hI hrn2 hrl hpos hru.1.2.2.2.1 eo0 (by omega) cw eo ets (fun i hi => (hth i hi).1) eta hta e12.symm (fun i hi => by
            obtain ⟨z0, z1, z2, z3, z4, z5, z6, z7⟩ := hse i hi
            exact ⟨z0, z1, z2, z3, z4, z6, z7⟩) a1
          rw [g1, g2, q_b1]
          exact ⟨m' 2, m', sta', dn', rfl, rfl, g3, g4, g5⟩
        · have c1 : ¬ M 9 0 < 96 := by rw [eo0]; exact nI_nlt (b := 96) (by omega) (by omega)
          have c2 : ¬ M 9 0 ≤ 95 := by rw [eo0]; exact nI_ge (a := 95) (by omega) (by omega)
          simp only [if_neg c1, if_neg c2]
          exact same _
      · simp only [if_neg cw, show ((1 : Int32) = 0) = False from by decide, if_false]
        exact same _
    · simp only [if_neg ca]; exact same _
  obtain ⟨r, m', sta', dn', g1, g2, gI, g4, g5⟩ := key
  have eX : pX_hour S L a1 = some (r, (k_su (k_su (k_su (k_su (k_su (k_su (k_su (k_su (k_su (k_su (k_su (k_su S 4 (fun _ => m' 0)) 5 (fun _ => m' 1)) 6 (fun _ => m' 2)) 7 (fun _ => m' 5)) 8 (fun _ => m' 3)) 9 (fun _ => m' 4)) 10 (fun _ => m' 6)) 11 (fun _ => m' 7)) 12 (fun _ => m' 8)) 30 sta') 18 (fun _ => nI (k_wh m'))) 31 dn'), L) := by unfold pX_hour; rw [g1]; rfl
  have eM : pM_hour M a1 = some (r, k_su (k_su M 0 (fun _ => 0)) 9 m') := by unfold pM_hour; rw [g2]; rfl
  refine ⟨r, _, L, _, eX, eM, hc, ht, ⟨hrn, hrn2⟩, hru, ⟨⟨rfl, rfl, rfl, rfl, rfl, rfl, rfl, rfl, rfl, e9.trans (g5 9 (by omega)).symm, eo.trans (congrArg nI (k_out_cong (m := M 9) (g5 10 (by omega)) (fun i hi => g5 _ (by omega)))).symm, ets.trans (g5 10 (by omega)).symm, rfl, eta.trans (g5 11 (by omega)).symm, ess.trans (g5 12 (by omega)).symm⟩, fun i hi => ⟨(hth i hi).1.trans (g5 _ (by omega)).symm, (hth i hi).2.trans (g5 _ (by omega)).symm⟩, fun i hi => ⟨(hta i hi).1.trans (g5 _ (by omega)).symm, (hta i hi).2.1.trans (g5 _ (by omega)).symm, (hta i hi).2.2.trans (g5 _ (by omega)).symm⟩, fun i hi => ⟨(hse i hi).1.trans (g5 _ (by omega)).symm, (hse i hi).2.1.trans (g5 _ (by omega)).symm, (hse i hi).2.2.1.trans (g5 _ (by omega)).symm, (hse i hi).2.2.2.1.trans (g5 _ (by omega)).symm, (hse i hi).2.2.2.2.1.trans (g5 _ (by omega)).symm, (hse i hi).2.2.2.2.2.1.trans (g5 _ (by omega)).symm, (g4 i hi).1, (g4 i hi).2⟩, gI⟩, hk0, hk1, hk2, hp⟩
end
section
/-! ===== a ship copied ===== -/
theorem R_ship_copy {ho : Int32} {he : Int32} {wa : Int32} {pi : Int32} {bo : Int32} {we : Int32} {tk : Int32} {mn : Int32} {pa : Int32} {mv : Int32} {ot : Int32} {ts : Int32} {wt : Nat → Int32} {un : Nat → Int32} {wh : Int32} {tas : Int32} {ma : Nat → Int32} {pr : Nat → Int32} {sg : Nat → Int32} {ss : Int32} {sk : Nat → Int32} {sd : Nat → Int32} {hd : Nat → Int32} {lg : Nat → Int32} {tr : Nat → Int32} {wo : Nat → Int32} {sta : Nat → Int32} {dn : Nat → Int32} {wt' : Nat → Int32} {un' : Nat → Int32} {ma' : Nat → Int32} {pr' : Nat → Int32} {sg' : Nat → Int32} {sk' : Nat → Int32} {sd' : Nat → Int32} {hd' : Nat → Int32} {lg' : Nat → Int32} {tr' : Nat → Int32} {wo' : Nat → Int32} {sta' : Nat → Int32} {dn' : Nat → Int32} {m m' : Nat → Int32} (h : R_ship ho he wa pi bo we tk mn pa mv ot ts wt un wh tas ma pr sg ss sk sd hd lg tr wo sta dn m) (hm : ∀ k, k < 169 → m' k = m k) (h_wt : ∀ i, i < 12 → wt' i = wt i) (h_un : ∀ i, i < 12 → un' i = un i) (h_ma : ∀ i, i < 6 → ma' i = ma i) (h_pr : ∀ i, i < 6 → pr' i = pr i) (h_sg : ∀ i, i < 6 → sg' i = sg i) (h_sk : ∀ i, i < 12 → sk' i = sk i) (h_sd : ∀ i, i < 12 → sd' i = sd i) (h_hd : ∀ i, i < 12 → hd' i = hd i) (h_lg : ∀ i, i < 12 → lg' i = lg i) (h_tr : ∀ i, i < 12 → tr' i = tr i) (h_wo : ∀ i, i < 12 → wo' i = wo i) (h_sta : ∀ i, i < 12 → sta' i = sta i) (h_dn : ∀ i, i < 12 → dn' i = dn i) : R_ship ho he wa pi bo we tk mn pa mv ot ts wt' un' wh tas ma' pr' sg' ss sk' sd' hd' lg' tr' wo' sta' dn' m' := by
  obtain ⟨⟨e0, e1, e2, e5, e3, e4, e6, e7, e8, e9, eo, ets, ew, eta, ess⟩, hth, hta, hse, hI⟩ := h
  have hI' : k_Inv m' := by
    refine k_Inv_frame hI (fun k hk => by rw [hm k hk]; exact hI.1 k hk) (hm _ (by omega)) (hm _ (by omega)) (hm _ (by omega)) (fun j hj => hm _ (by omega)) (fun j hj => hm _ (by omega)) (fun j hj => ⟨hm _ (by omega), hm _ (by omega), hm _ (by omega)⟩)
  exact ⟨⟨e0.trans (hm 0 (by omega)).symm, e1.trans (hm 1 (by omega)).symm, e2.trans (hm 2 (by omega)).symm, e5.trans (hm 5 (by omega)).symm, e3.trans (hm 3 (by omega)).symm, e4.trans (hm 4 (by omega)).symm, e6.trans (hm 6 (by omega)).symm, e7.trans (hm 7 (by omega)).symm, e8.trans (hm 8 (by omega)).symm, e9.trans (hm 9 (by omega)).symm, eo.trans (congrArg nI (k_out_cong (m := m) (hm 10 (by omega)) (fun i hi => hm _ (by omega)))).symm, ets.trans (hm 10 (by omega)).symm, ew.trans (congrArg nI (k_wh_cong (m := m) (hm 11 (by omega)) (fun i hi => hm _ (by omega)))).symm, eta.trans (hm 11 (by omega)).symm, ess.trans (hm 12 (by omega)).symm⟩, fun i hi => ⟨(h_wt i hi).trans ((hth i hi).1.trans (hm _ (by omega)).symm), (h_un i hi).trans ((hth i hi).2.trans (hm _ (by omega)).symm)⟩, fun i hi => ⟨(h_ma i hi).trans ((hta i hi).1.trans (hm _ (by omega)).symm), (h_pr i hi).trans ((hta i hi).2.1.trans (hm _ (by omega)).symm), (h_sg i hi).trans ((hta i hi).2.2.trans (hm _ (by omega)).symm)⟩, fun i hi => ⟨(h_sk i hi).trans ((hse i hi).1.trans (hm _ (by omega)).symm), (h_sd i hi).trans ((hse i hi).2.1.trans (hm _ (by omega)).symm), (h_hd i hi).trans ((hse i hi).2.2.1.trans (hm _ (by omega)).symm), (h_lg i hi).trans ((hse i hi).2.2.2.1.trans (hm _ (by omega)).symm), (h_tr i hi).trans ((hse i hi).2.2.2.2.1.trans (hm _ (by omega)).symm), (h_wo i hi).trans ((hse i hi).2.2.2.2.2.1.trans (hm _ (by omega)).symm), (h_sta i hi).trans ((hse i hi).2.2.2.2.2.2.1.trans (hm _ (by omega)).symm), (h_dn i hi).trans ((hse i hi).2.2.2.2.2.2.2.trans (hm _ (by omega)).symm)⟩, hI'⟩
theorem q_cpy {f g : Nat → Int32} {n : Nat} : ∀ i, i < n → k_cpy n f g i = f i := fun i hi => if_pos hi
theorem x_copy {ho : Int32} {he : Int32} {wa : Int32} {pi : Int32} {bo : Int32} {we : Int32} {tk : Int32} {mn : Int32} {pa : Int32} {mv : Int32} {ot : Int32} {ts : Int32} {wt : Nat → Int32} {un : Nat → Int32} {wh : Int32} {tas : Int32} {ma : Nat → Int32} {pr : Nat → Int32} {sg : Nat → Int32} {ss : Int32} {sk : Nat → Int32} {sd : Nat → Int32} {hd : Nat → Int32} {lg : Nat → Int32} {tr : Nat → Int32} {wo : Nat → Int32} {sta : Nat → Int32} {dn : Nat → Int32} {g_wt : Nat → Int32} {g_un : Nat → Int32} {g_ma : Nat → Int32} {g_pr : Nat → Int32} {g_sg : Nat → Int32} {g_sk : Nat → Int32} {g_sd : Nat → Int32} {g_hd : Nat → Int32} {g_lg : Nat → Int32} {g_tr : Nat → Int32} {g_wo : Nat → Int32} {g_sta : Nat → Int32} {g_dn : Nat → Int32} (hb : bo = 0 ∨ bo = 1) (hw : we = 0 ∨ we = 1) : p_X4_copyFrom ho he wa pi bo we tk mn pa mv ot ts wt g_wt un g_un wh tas ma g_ma pr g_pr sg g_sg ss sk g_sk sd g_sd hd g_hd lg g_lg tr g_tr wo g_wo sta g_sta dn g_dn = some (ho, he, wa, pi, bo, we, tk, mn, pa, mv, ot, ts, k_cpy 12 wt g_wt, k_cpy 12 un g_un, wh, tas, k_cpy 6 ma g_ma, k_cpy 6 pr g_pr, k_cpy 6 sg g_sg, ss, k_cpy 12 sk g_sk, k_cpy 12 sd g_sd, k_cpy 12 hd g_hd, k_cpy 12 lg g_lg, k_cpy 12 tr g_tr, k_cpy 12 wo g_wo, k_cpy 12 sta g_sta, k_cpy 12 dn g_dn) := by
  unfold p_X4_copyFrom p_X7_copyFrom p_X6_copyFrom p_X3_copyFrom
  rw [q_b4, q_b5]
  show k_ck (bo = 0 ∨ bo = 1) (k_ck (we = 0 ∨ we = 1) _) = _
  rw [q_ck _ hb, q_ck _ hw]
theorem y_keep (now books : Nat → Int32) {j : Nat} (hj : j < 3) : k_lp (fun s : Int32 × (Nat → Int32) => lb_X9_keep_18 (nI j) now s.1 s.2) k_fuel (0, books) = some (fb_put books now (169 * j) 169) := by
  have := q_run (body := fun s : Int32 × (Nat → Int32) => lb_X9_keep_18 (nI j) now s.1 s.2) (fun i => (nI i, fb_put books now (169 * j) i)) (fb_put books now (169 * j) 169) 169 (fun i hi => by
    show lb_X9_keep_18 (nI j) now (nI i) (fb_put books now (169 * j) i) = some (.inl (nI (i + 1), fb_put books now (169 * j) (i + 1)))
    unfold lb_X9_keep_18
    rw [show (169 : Int32) = nI 169 from rfl, q_ifge _ _ hi (by omega), pk_mul, nI_add, q_ix _ (by omega) (by omega), q_ix _ (by omega) (by omega), q_cl (by omega), q_cl (by omega), nI_1, fb_put_succ]) (by
    show lb_X9_keep_18 (nI j) now (nI 169) _ = _
    unfold lb_X9_keep_18
    rw [show (169 : Int32) = nI 169 from rfl, q_ifle _ _ (Nat.le_refl _) (by omega)]) (by omega)
  rw [fb_put_0] at this
  exact this
theorem y_back (now books : Nat → Int32) {j : Nat} (hj : j < 3) : k_lp (fun s : Int32 × (Nat → Int32) => lb_X9_back_27 (nI (j + 1)) books s.1 s.2) k_fuel (0, now) = some (fb_put now (fun i => books (169 * j + i)) 0 169) := by
  have := q_run (body := fun s : Int32 × (Nat → Int32) => lb_X9_back_27 (nI (j + 1)) books s.1 s.2) (fun i => (nI i, fb_put now (fun i => books (169 * j + i)) 0 i)) (fb_put now (fun i => books (169 * j + i)) 0 169) 169 (fun i hi => by
    show lb_X9_back_27 (nI (j + 1)) books (nI i) (fb_put now (fun i => books (169 * j + i)) 0 i) = some (.inl (nI (i + 1), fb_put now (fun i => books (169 * j + i)) 0 (i + 1)))
    unfold lb_X9_back_27
    have e : upd (fb_put now (fun i => books (169 * j + i)) 0 i) i (books (169 * j + i)) = fb_put now (fun i => books (169 * j + i)) 0 (i + 1) := by
      have := fb_put_succ now (fun i => books (169 * j + i)) 0 i
      rw [Nat.zero_add] at this
      exact this
    rw [show (169 : Int32) = nI 169 from rfl, q_ifge _ _ hi (by omega), nI_pred, pk_mul, nI_add, q_ix _ (by omega) (by omega), q_ix _ (by omega) (by omega), q_cl (by omega), q_cl (by omega), nI_1, e]) (by
    show lb_X9_back_27 (nI (j + 1)) books (nI 169) _ = _
    unfold lb_X9_back_27
    rw [show (169 : Int32) = nI 169 from rfl, q_ifle _ _ (Nat.le_refl _) (by omega)]) (by omega)
  rw [fb_put_0] at this
  exact this
theorem q_k3 {x : Int32} (h : kr x 0 3) : x = 0 ∨ x = 1 ∨ x = 2 ∨ x = 3 := by
  obtain ⟨h1, h2⟩ := h
  have : x.toInt = 0 ∨ x.toInt = 1 ∨ x.toInt = 2 ∨ x.toInt = 3 := by omega
  rcases this with e | e | e | e
  · exact Or.inl (Int32.toInt_inj.mp (by rw [e]; decide))
  · exact Or.inr (Or.inl (Int32.toInt_inj.mp (by rw [e]; decide)))
  · exact Or.inr (Or.inr (Or.inl (Int32.toInt_inj.mp (by rw [e]; decide))))
  · exact Or.inr (Or.inr (Or.inr (Int32.toInt_inj.mp (by rw [e]; decide))))
theorem sim_keep : k_Sim_keep R_all := by
  intro S L M hR
  obtain ⟨⟨hc, hc2⟩, ht, hrn, hru, hs, hk0, hk1, hk2, hp⟩ := hR
  have hbo := q_01 (rg_bo hs.2.2.2.2.1)
  have hwe := q_01 (rg_we hs.2.2.2.2.1)
  have hbo2 : S 8 0 = 0 ∨ S 8 0 = 1 := by rw [show S 8 0 = M 9 3 from hs.1.2.2.2.2.1]; exact hbo
  have hwe2 : S 9 0 = 0 ∨ S 9 0 = 1 := by rw [show S 9 0 = M 9 4 from hs.1.2.2.2.2.2.1]; exact hwe
  rcases q_k3 hc2 with e | e | e | e
  · have eM : pM_keep M = some (1, k_su (k_su (k_su M 0 (fun _ => 0)) 1 (fun _ => 1)) 11 (fb_put (M 11) (M 9) (169 * 0) 169)) := by
      unfold pM_keep p_X9_keep
      have hl : k_lp (fun s : Int32 × (Nat → Int32) => lb_X9_keep_18 0 (M 9) s.1 s.2) k_fuel (0, M 11) = some (fb_put (M 11) (M 9) (169 * 0) 169) := y_keep (M 9) (M 11) (j := 0) (by omega)
      rw [e, if_neg (by decide), hl, q_b1]; rfl
    have eX : pX_keep S L = some (1, (k_su (k_su (k_su (k_su (k_su (k_su (k_su (k_su (k_su (k_su (k_su (k_su (k_su (k_su (k_su (k_su (k_su (k_su (k_su (k_su (k_su (k_su (k_su (k_su (k_su (k_su (k_su (k_su (k_su S 0 (fun _ => 1)) 32 (fun _ => S 4 0)) 33 (fun _ => S 5 0)) 34 (fun _ => S 6 0)) 35 (fun _ => S 7 0)) 36 (fun _ => S 8 0)) 37 (fun _ => S 9 0)) 38 (fun _ => S 10 0)) 39 (fun _ => S 11 0)) 40 (fun _ => S 12 0)) 41 (fun _ => S 13 0)) 42 (fun _ => S 14 0)) 43 (fun _ => S 15 0)) 44 (k_cpy 12 (S 16) (S 44))) 45 (k_cpy 12 (S 17) (S 45))) 46 (fun _ => S 18 0)) 47 (fun _ => S 19 0)) 48 (k_cpy 6 (S 20) (S 48))) 49 (k_cpy 6 (S 21) (S 49))) 50 (k_cpy 6 (S 22) (S 50))) 51 (fun _ => S 23 0)) 52 (k_cpy 12 (S 24) (S 52))) 53 (k_cpy 12 (S 25) (S 53))) 54 (k_cpy 12 (S 26) (S 54))) 55 (k_cpy 12 (S 27) (S 55))) 56 (k_cpy 12 (S 28) (S 56))) 57 (k_cpy 12 (S 29) (S 57))) 58 (k_cpy 12 (S 30) (S 58))) 59 (k_cpy 12 (S 31) (S 59))), L) := by
      unfold pX_keep
      rw [if_pos (by rw [hc, e])]
      unfold p_X8_keep_0
      rw [x_copy hbo2 hwe2]; rfl
    exact ⟨_, _, _, _, eX, eM, ⟨rfl, ⟨by show (0 : Int) ≤ (1 : Int32).toInt; decide, by show (1 : Int32).toInt ≤ 3; decide⟩⟩, ht, hrn, hru, hs, fun _ => R_ship_copy hs (fun k hk => (fb_put_in (f := M 11) (g := M 9) (a := 0) (n := 169) (k := k) (by omega) (by omega)).trans (congrArg (M 9) (by omega))) q_cpy q_cpy q_cpy q_cpy q_cpy q_cpy q_cpy q_cpy q_cpy q_cpy q_cpy q_cpy q_cpy, fun hh => absurd hh (by show ¬ ((1 : Int) < (1 : Int32).toInt); decide), fun hh => absurd hh (by show ¬ ((2 : Int) < (1 : Int32).toInt); decide), hp⟩
  · have eM : pM_keep M = some (2, k_su (k_su (k_su M 0 (fun _ => 0)) 1 (fun _ => 2)) 11 (fb_put (M 11) (M 9) (169 * 1) 169)) := by
      unfold pM_keep p_X9_keep
      have hl : k_lp (fun s : Int32 × (Nat → Int32) => lb_X9_keep_18 1 (M 9) s.1 s.2) k_fuel (0, M 11) = some (fb_put (M 11) (M 9) (169 * 1) 169) := y_keep (M 9) (M 11) (j := 1) (by omega)
      rw [e, if_neg (by decide), hl, q_b1]; rfl
    have eX : pX_keep S L = some (2, (k_su (k_su (k_su (k_su (k_su (k_su (k_su (k_su (k_su (k_su (k_su (k_su (k_su (k_su (k_su (k_su (k_su (k_su (k_su (k_su (k_su (k_su (k_su (k_su (k_su (k_su (k_su (k_su (k_su S 0 (fun _ => 2)) 60 (fun _ => S 4 0)) 61 (fun _ => S 5 0)) 62 (fun _ => S 6 0)) 63 (fun _ => S 7 0)) 64 (fun _ => S 8 0)) 65 (fun _ => S 9 0)) 66 (fun _ => S 10 0)) 67 (fun _ => S 11 0)) 68 (fun _ => S 12 0)) 69 (fun _ => S 13 0)) 70 (fun _ => S 14 0)) 71 (fun _ => S 15 0)) 72 (k_cpy 12 (S 16) (S 72))) 73 (k_cpy 12 (S 17) (S 73))) 74 (fun _ => S 18 0)) 75 (fun _ => S 19 0)) 76 (k_cpy 6 (S 20) (S 76))) 77 (k_cpy 6 (S 21) (S 77))) 78 (k_cpy 6 (S 22) (S 78))) 79 (fun _ => S 23 0)) 80 (k_cpy 12 (S 24) (S 80))) 81 (k_cpy 12 (S 25) (S 81))) 82 (k_cpy 12 (S 26) (S 82))) 83 (k_cpy 12 (S 27) (S 83))) 84 (k_cpy 12 (S 28) (S 84))) 85 (k_cpy 12 (S 29) (S 85))) 86 (k_cpy 12 (S 30) (S 86))) 87 (k_cpy 12 (S 31) (S 87))), L) := by
      unfold pX_keep
      rw [if_neg (by rw [hc, e]; decide)]
      rw [if_pos (by rw [hc, e])]
      unfold p_X8_keep_1
      rw [x_copy hbo2 hwe2]; rfl
    exact ⟨_, _, _, _, eX, eM, ⟨rfl, ⟨by show (0 : Int) ≤ (2 : Int32).toInt; decide, by show (2 : Int32).toInt ≤ 3; decide⟩⟩, ht, hrn, hru, hs, fun _ => R_ship_copy (hk0 (by rw [e]; decide)) (fun k hk => fb_put_out (f := M 11) (by omega)) (fun _ _ => rfl) (fun _ _ => rfl) (fun _ _ => rfl) (fun _ _ => rfl) (fun _ _ => rfl) (fun _ _ => rfl) (fun _ _ => rfl) (fun _ _ => rfl) (fun _ _ => rfl) (fun _ _ => rfl) (fun _ _ => rfl) (fun _ _ => rfl) (fun _ _ => rfl), fun _ => R_ship_copy hs (fun k hk => (fb_put_in (f := M 11) (g := M 9) (a := 169) (n := 169) (k := 169 + k) (by omega) (by omega)).trans (congrArg (M 9) (by omega))) q_cpy q_cpy q_cpy q_cpy q_cpy q_cpy q_cpy q_cpy q_cpy q_cpy q_cpy q_cpy q_cpy, fun hh => absurd hh (by show ¬ ((2 : Int) < (2 : Int32).toInt); decide), hp⟩
  · have eM : pM_keep M = some (3, k_su (k_su (k_su M 0 (fun _ => 0)) 1 (fun _ => 3)) 11 (fb_put (M 11) (M 9) (169 * 2) 169)) := by
      unfold pM_keep p_X9_keep
      have hl : k_lp (fun s : Int32 × (Nat → Int32) => lb_X9_keep_18 2 (M 9) s.1 s.2) k_fuel (0, M 11) = some (fb_put (M 11) (M 9) (169 * 2) 169) := y_keep (M 9) (M 11) (j := 2) (by omega)
      rw [e, if_neg (by decide), hl, q_b1]; rfl
    have eX : pX_keep S L = some (3, (k_su (k_su (k_su (k_su (k_su (k_su (k_su (k_su (k_su (k_su (k_su (k_su (k_su (k_su (k_su (k_su (k_su (k_su (k_su (k_su (k_su (k_su (k_su (k_su (k_su (k_su (k_su (k_su (k_su S 0 (fun _ => 3)) 88 (fun _ => S 4 0)) 89 (fun _ => S 5 0)) 90 (fun _ => S 6 0)) 91 (fun _ => S 7 0)) 92 (fun _ => S 8 0)) 93 (fun _ => S 9 0)) 94 (fun _ => S 10 0)) 95 (fun _ => S 11 0)) 96 (fun _ => S 12 0)) 97 (fun _ => S 13 0)) 98 (fun _ => S 14 0)) 99 (fun _ => S 15 0)) 100 (k_cpy 12 (S 16) (S 100))) 101 (k_cpy 12 (S 17) (S 101))) 102 (fun _ => S 18 0)) 103 (fun _ => S 19 0)) 104 (k_cpy 6 (S 20) (S 104))) 105 (k_cpy 6 (S 21) (S 105))) 106 (k_cpy 6 (S 22) (S 106))) 107 (fun _ => S 23 0)) 108 (k_cpy 12 (S 24) (S 108))) 109 (k_cpy 12 (S 25) (S 109))) 110 (k_cpy 12 (S 26) (S 110))) 111 (k_cpy 12 (S 27) (S 111))) 112 (k_cpy 12 (S 28) (S 112))) 113 (k_cpy 12 (S 29) (S 113))) 114 (k_cpy 12 (S 30) (S 114))) 115 (k_cpy 12 (S 31) (S 115))), L) := by
      unfold pX_keep
      rw [if_neg (by rw [hc, e]; decide)]
      rw [if_neg (by rw [hc, e]; decide)]
      rw [if_pos (by rw [hc, e])]
      unfold p_X8_keep_2
      rw [x_copy hbo2 hwe2]; rfl
    exact ⟨_, _, _, _, eX, eM, ⟨rfl, ⟨by show (0 : Int) ≤ (3 : Int32).toInt; decide, by show (3 : Int32).toInt ≤ 3; decide⟩⟩, ht, hrn, hru, hs, fun _ => R_ship_copy (hk0 (by rw [e]; decide)) (fun k hk => fb_put_out (f := M 11) (by omega)) (fun _ _ => rfl) (fun _ _ => rfl) (fun _ _ => rfl) (fun _ _ => rfl) (fun _ _ => rfl) (fun _ _ => rfl) (fun _ _ => rfl) (fun _ _ => rfl) (fun _ _ => rfl) (fun _ _ => rfl) (fun _ _ => rfl) (fun _ _ => rfl) (fun _ _ => rfl), fun _ => R_ship_copy (hk1 (by rw [e]; decide)) (fun k hk => fb_put_out (f := M 11) (by omega)) (fun _ _ => rfl) (fun _ _ => rfl) (fun _ _ => rfl) (fun _ _ => rfl) (fun _ _ => rfl) (fun _ _ => rfl) (fun _ _ => rfl) (fun _ _ => rfl) (fun _ _ => rfl) (fun _ _ => rfl) (fun _ _ => rfl) (fun _ _ => rfl) (fun _ _ => rfl), fun _ => R_ship_copy hs (fun k hk => (fb_put_in (f := M 11) (g := M 9) (a := 338) (n := 169) (k := 338 + k) (by omega) (by omega)).trans (congrArg (M 9) (by omega))) q_cpy q_cpy q_cpy q_cpy q_cpy q_cpy q_cpy q_cpy q_cpy q_cpy q_cpy q_cpy q_cpy, hp⟩
  · have eM : pM_keep M = some (-3, k_su (k_su (k_su M 0 (fun _ => 0)) 1 (fun _ => M 1 0)) 11 (M 11)) := by
      unfold pM_keep p_X9_keep
      rw [if_pos e]; rfl
    have eX : pX_keep S L = some (-3, k_su S 0 (fun _ => 3), L) := by
      unfold pX_keep
      rw [if_neg (by rw [hc, e]; decide), if_neg (by rw [hc, e]; decide), if_neg (by rw [hc, e]; decide), if_pos (by rw [hc, e])]; rfl
    exact ⟨_, _, _, _, eX, eM, ⟨e.symm, hc2⟩, ht, hrn, hru, hs, hk0, hk1, hk2, hp⟩
theorem sim_back : k_Sim_back R_all := by
  intro S L M hR
  obtain ⟨⟨hc, hc2⟩, ht, hrn, hru, hs, hk0, hk1, hk2, hp⟩ := hR
  rcases q_k3 hc2 with e | e | e | e
  · have eM : pM_back M = some (-2, k_su (k_su (k_su M 0 (fun _ => 0)) 1 (fun _ => M 1 0)) 9 (M 9)) := by
      unfold pM_back p_X9_back
      rw [if_pos e]; rfl
    have eX : pX_back S L = some (-2, k_su S 0 (fun _ => 0), L) := by
      unfold pX_back
      rw [if_pos (by rw [hc, e])]; rfl
    exact ⟨_, _, _, _, eX, eM, ⟨e.symm, hc2⟩, ht, hrn, hru, hs, hk0, hk1, hk2, hp⟩
  · have hk := hk0 (by rw [e]; decide)
    have hbo : S 36 0 = 0 ∨ S 36 0 = 1 := by rw [show S 36 0 = M 11 (3) from hk.1.2.2.2.2.1]; exact q_01 (rg_bo hk.2.2.2.2.1)
    have hwe : S 37 0 = 0 ∨ S 37 0 = 1 := by rw [show S 37 0 = M 11 (4) from hk.1.2.2.2.2.2.1]; exact q_01 (rg_we hk.2.2.2.2.1)
    have eM : pM_back M = some (0, k_su (k_su (k_su M 0 (fun _ => 0)) 1 (fun _ => 0)) 9 (fb_put (M 9) (fun i => M 11 (169 * 0 + i)) 0 169)) := by
      unfold pM_back p_X9_back
      have hl : k_lp (fun s : Int32 × (Nat → Int32) => lb_X9_back_27 1 (M 11) s.1 s.2) k_fuel (0, M 9) = some (fb_put (M 9) (fun i => M 11 (169 * 0 + i)) 0 169) := y_back (M 9) (M 11) (j := 0) (by omega)
      rw [e, if_neg (by decide), hl, q_b1]; rfl
    have eX : pX_back S L = some (0, (k_su (k_su (k_su (k_su (k_su (k_su (k_su (k_su (k_su (k_su (k_su (k_su (k_su (k_su (k_su (k_su (k_su (k_su (k_su (k_su (k_su (k_su (k_su (k_su (k_su (k_su (k_su (k_su (k_su S 0 (fun _ => 0)) 4 (fun _ => S 32 0)) 5 (fun _ => S 33 0)) 6 (fun _ => S 34 0)) 7 (fun _ => S 35 0)) 8 (fun _ => S 36 0)) 9 (fun _ => S 37 0)) 10 (fun _ => S 38 0)) 11 (fun _ => S 39 0)) 12 (fun _ => S 40 0)) 13 (fun _ => S 41 0)) 14 (fun _ => S 42 0)) 15 (fun _ => S 43 0)) 16 (k_cpy 12 (S 44) (S 16))) 17 (k_cpy 12 (S 45) (S 17))) 18 (fun _ => S 46 0)) 19 (fun _ => S 47 0)) 20 (k_cpy 6 (S 48) (S 20))) 21 (k_cpy 6 (S 49) (S 21))) 22 (k_cpy 6 (S 50) (S 22))) 23 (fun _ => S 51 0)) 24 (k_cpy 12 (S 52) (S 24))) 25 (k_cpy 12 (S 53) (S 25))) 26 (k_cpy 12 (S 54) (S 26))) 27 (k_cpy 12 (S 55) (S 27))) 28 (k_cpy 12 (S 56) (S 28))) 29 (k_cpy 12 (S 57) (S 29))) 30 (k_cpy 12 (S 58) (S 30))) 31 (k_cpy 12 (S 59) (S 31))), L) := by
      unfold pX_back
      rw [if_neg (by rw [hc, e]; decide)]
      rw [if_pos (by rw [hc, e])]
      unfold p_X8_back_1
      rw [x_copy hbo hwe]; rfl
    exact ⟨_, _, _, _, eX, eM, ⟨rfl, ⟨by show (0 : Int) ≤ (0 : Int32).toInt; decide, by show (0 : Int32).toInt ≤ 3; decide⟩⟩, ht, hrn, hru, R_ship_copy hk (fun k hk => (fb_put_in (f := M 9) (g := fun i => M 11 (169 * 0 + i)) (a := 0) (n := 169) (k := k) (by omega) (by omega)).trans (congrArg (M 11) (by omega))) q_cpy q_cpy q_cpy q_cpy q_cpy q_cpy q_cpy q_cpy q_cpy q_cpy q_cpy q_cpy q_cpy, fun hh => absurd hh (by show ¬ ((0 : Int) < (0 : Int32).toInt); decide), fun hh => absurd hh (by show ¬ ((1 : Int) < (0 : Int32).toInt); decide), fun hh => absurd hh (by show ¬ ((2 : Int) < (0 : Int32).toInt); decide), hp⟩
  · have hk := hk1 (by rw [e]; decide)
    have hbo : S 64 0 = 0 ∨ S 64 0 = 1 := by rw [show S 64 0 = M 11 (169 + 3) from hk.1.2.2.2.2.1]; exact q_01 (rg_bo hk.2.2.2.2.1)
    have hwe : S 65 0 = 0 ∨ S 65 0 = 1 := by rw [show S 65 0 = M 11 (169 + 4) from hk.1.2.2.2.2.2.1]; exact q_01 (rg_we hk.2.2.2.2.1)
    have eM : pM_back M = some (1, k_su (k_su (k_su M 0 (fun _ => 0)) 1 (fun _ => 1)) 9 (fb_put (M 9) (fun i => M 11 (169 * 1 + i)) 0 169)) := by
      unfold pM_back p_X9_back
      have hl : k_lp (fun s : Int32 × (Nat → Int32) => lb_X9_back_27 2 (M 11) s.1 s.2) k_fuel (0, M 9) = some (fb_put (M 9) (fun i => M 11 (169 * 1 + i)) 0 169) := y_back (M 9) (M 11) (j := 1) (by omega)
      rw [e, if_neg (by decide), hl, q_b1]; rfl
    have eX : pX_back S L = some (1, (k_su (k_su (k_su (k_su (k_su (k_su (k_su (k_su (k_su (k_su (k_su (k_su (k_su (k_su (k_su (k_su (k_su (k_su (k_su (k_su (k_su (k_su (k_su (k_su (k_su (k_su (k_su (k_su (k_su S 0 (fun _ => 1)) 4 (fun _ => S 60 0)) 5 (fun _ => S 61 0)) 6 (fun _ => S 62 0)) 7 (fun _ => S 63 0)) 8 (fun _ => S 64 0)) 9 (fun _ => S 65 0)) 10 (fun _ => S 66 0)) 11 (fun _ => S 67 0)) 12 (fun _ => S 68 0)) 13 (fun _ => S 69 0)) 14 (fun _ => S 70 0)) 15 (fun _ => S 71 0)) 16 (k_cpy 12 (S 72) (S 16))) 17 (k_cpy 12 (S 73) (S 17))) 18 (fun _ => S 74 0)) 19 (fun _ => S 75 0)) 20 (k_cpy 6 (S 76) (S 20))) 21 (k_cpy 6 (S 77) (S 21))) 22 (k_cpy 6 (S 78) (S 22))) 23 (fun _ => S 79 0)) 24 (k_cpy 12 (S 80) (S 24))) 25 (k_cpy 12 (S 81) (S 25))) 26 (k_cpy 12 (S 82) (S 26))) 27 (k_cpy 12 (S 83) (S 27))) 28 (k_cpy 12 (S 84) (S 28))) 29 (k_cpy 12 (S 85) (S 29))) 30 (k_cpy 12 (S 86) (S 30))) 31 (k_cpy 12 (S 87) (S 31))), L) := by
      unfold pX_back
      rw [if_neg (by rw [hc, e]; decide)]
      rw [if_neg (by rw [hc, e]; decide)]
      rw [if_pos (by rw [hc, e])]
      unfold p_X8_back_2
      rw [x_copy hbo hwe]; rfl
    exact ⟨_, _, _, _, eX, eM, ⟨rfl, ⟨by show (0 : Int) ≤ (1 : Int32).toInt; decide, by show (1 : Int32).toInt ≤ 3; decide⟩⟩, ht, hrn, hru, R_ship_copy hk (fun k hk => (fb_put_in (f := M 9) (g := fun i => M 11 (169 * 1 + i)) (a := 0) (n := 169) (k := k) (by omega) (by omega)).trans (congrArg (M 11) (by omega))) q_cpy q_cpy q_cpy q_cpy q_cpy q_cpy q_cpy q_cpy q_cpy q_cpy q_cpy q_cpy q_cpy, fun _ => hk0 (by rw [e]; decide), fun hh => absurd hh (by show ¬ ((1 : Int) < (1 : Int32).toInt); decide), fun hh => absurd hh (by show ¬ ((2 : Int) < (1 : Int32).toInt); decide), hp⟩
  · have hk := hk2 (by rw [e]; decide)
    have hbo : S 92 0 = 0 ∨ S 92 0 = 1 := by rw [show S 92 0 = M 11 (338 + 3) from hk.1.2.2.2.2.1]; exact q_01 (rg_bo hk.2.2.2.2.1)
    have hwe : S 93 0 = 0 ∨ S 93 0 = 1 := by rw [show S 93 0 = M 11 (338 + 4) from hk.1.2.2.2.2.2.1]; exact q_01 (rg_we hk.2.2.2.2.1)
    have eM : pM_back M = some (2, k_su (k_su (k_su M 0 (fun _ => 0)) 1 (fun _ => 2)) 9 (fb_put (M 9) (fun i => M 11 (169 * 2 + i)) 0 169)) := by
      unfold pM_back p_X9_back
      have hl : k_lp (fun s : Int32 × (Nat → Int32) => lb_X9_back_27 3 (M 11) s.1 s.2) k_fuel (0, M 9) = some (fb_put (M 9) (fun i => M 11 (169 * 2 + i)) 0 169) := y_back (M 9) (M 11) (j := 2) (by omega)
      rw [e, if_neg (by decide), hl, q_b1]; rfl
    have eX : pX_back S L = some (2, (k_su (k_su (k_su (k_su (k_su (k_su (k_su (k_su (k_su (k_su (k_su (k_su (k_su (k_su (k_su (k_su (k_su (k_su (k_su (k_su (k_su (k_su (k_su (k_su (k_su (k_su (k_su (k_su (k_su S 0 (fun _ => 2)) 4 (fun _ => S 88 0)) 5 (fun _ => S 89 0)) 6 (fun _ => S 90 0)) 7 (fun _ => S 91 0)) 8 (fun _ => S 92 0)) 9 (fun _ => S 93 0)) 10 (fun _ => S 94 0)) 11 (fun _ => S 95 0)) 12 (fun _ => S 96 0)) 13 (fun _ => S 97 0)) 14 (fun _ => S 98 0)) 15 (fun _ => S 99 0)) 16 (k_cpy 12 (S 100) (S 16))) 17 (k_cpy 12 (S 101) (S 17))) 18 (fun _ => S 102 0)) 19 (fun _ => S 103 0)) 20 (k_cpy 6 (S 104) (S 20))) 21 (k_cpy 6 (S 105) (S 21))) 22 (k_cpy 6 (S 106) (S 22))) 23 (fun _ => S 107 0)) 24 (k_cpy 12 (S 108) (S 24))) 25 (k_cpy 12 (S 109) (S 25))) 26 (k_cpy 12 (S 110) (S 26))) 27 (k_cpy 12 (S 111) (S 27))) 28 (k_cpy 12 (S 112) (S 28))) 29 (k_cpy 12 (S 113) (S 29))) 30 (k_cpy 12 (S 114) (S 30))) 31 (k_cpy 12 (S 115) (S 31))), L) := by
      unfold pX_back
      rw [if_neg (by rw [hc, e]; decide)]
      rw [if_neg (by rw [hc, e]; decide)]
      rw [if_neg (by rw [hc, e]; decide)]
      rw [if_pos (by rw [hc, e])]
      unfold p_X8_back_3
      rw [x_copy hbo hwe]; rfl
    exact ⟨_, _, _, _, eX, eM, ⟨rfl, ⟨by show (0 : Int) ≤ (2 : Int32).toInt; decide, by show (2 : Int32).toInt ≤ 3; decide⟩⟩, ht, hrn, hru, R_ship_copy hk (fun k hk => (fb_put_in (f := M 9) (g := fun i => M 11 (169 * 2 + i)) (a := 0) (n := 169) (k := k) (by omega) (by omega)).trans (congrArg (M 11) (by omega))) q_cpy q_cpy q_cpy q_cpy q_cpy q_cpy q_cpy q_cpy q_cpy q_cpy q_cpy q_cpy q_cpy, fun _ => hk0 (by rw [e]; decide), fun _ => hk1 (by rw [e]; decide), fun hh => absurd hh (by show ¬ ((2 : Int) < (2 : Int32).toInt); decide), hp⟩
end
section
/-! ===== lN n to 2^64: shifts, and, or, masks, one bit ===== -/
theorem wb_tb (n : Nat) : (lN n).toBitVec = BitVec.ofNat 64 n := rfl
theorem wb_inj {a b : Int64} (h : a.toBitVec = b.toBitVec) : a = b := Int64.toBitVec_inj.mp h
theorem wb_tn {n : Nat} (h : n < 2 ^ 64) : (lN n).toBitVec.toNat = n := by rw [wb_tb, BitVec.toNat_ofNat, Nat.mod_eq_of_lt h]
theorem wb_of (x : Int64) : ∃ n, n < 2 ^ 64 ∧ x = lN n := ⟨x.toBitVec.toNat, x.toBitVec.isLt, wb_inj (by rw [wb_tb]; simp)⟩
theorem wb_of32 (x : Int32) : ∃ n, n < 2 ^ 32 ∧ x = nI n := ⟨x.toBitVec.toNat, x.toBitVec.isLt, Int32.toBitVec_inj.mp (by show _ = BitVec.ofNat 32 _; simp)⟩
theorem wb_c : ∀ k, k < 64 → ((nI k).toInt64 &&& 63) = lN k := by decide +kernel
theorem wb_cu : ∀ k, k < 64 → ((nI k).toInt64.toUInt64 &&& Int64.toUInt64 63) = UInt64.ofNat k := by decide +kernel
theorem wb_sm : ∀ k, k < 64 → (BitVec.ofNat 64 k).smod 64 = BitVec.ofNat 64 k := by decide +kernel
theorem wb_pw {a b : Nat} (h : a ≤ b) : 2 ^ b = 2 ^ a * 2 ^ (b - a) := by rw [← Nat.pow_add]; congr 1; omega
theorem wb_lt2 {a b : Nat} (h : a < b) : 2 ^ a < 2 ^ b := Nat.pow_lt_pow_right (by decide) h
theorem wb_mod (n : Nat) : lN n = lN (n % 2 ^ 64) := wb_inj (by rw [wb_tb, wb_tb]; apply BitVec.eq_of_toNat_eq; rw [BitVec.toNat_ofNat, BitVec.toNat_ofNat, Nat.mod_mod])
theorem wb_shr {n k : Nat} (hn : n < 2 ^ 64) (hk : k < 64) : ((lN n).toUInt64 >>> ((nI k).toInt64.toUInt64 &&& Int64.toUInt64 63)).toInt64 = lN (n / 2 ^ k) := by
  rw [wb_cu k hk]
  apply wb_inj
  apply BitVec.eq_of_toNat_eq
  show ((lN n).toUInt64 >>> UInt64.ofNat k).toNat = (BitVec.ofNat 64 _).toNat
  have h1 : (UInt64.ofNat k).toNat = k := by
    show (BitVec.ofNat 64 k).toNat = k
    rw [BitVec.toNat_ofNat, Nat.mod_eq_of_lt (by omega)]
  have h2 : (lN n).toUInt64.toNat = n := wb_tn hn
  rw [UInt64.toNat_shiftRight, h1, h2, Nat.mod_eq_of_lt hk, Nat.shiftRight_eq_div_pow, BitVec.toNat_ofNat, Nat.mod_eq_of_lt (Nat.lt_of_le_of_lt (Nat.div_le_self _ _) hn)]
theorem wb_shl (n : Nat) {k : Nat} (hk : k < 64) : lN n <<< ((nI k).toInt64 &&& 63) = lN (n * 2 ^ k) := by
  rw [wb_c k hk]
  apply wb_inj
  rw [Int64.toBitVec_shiftLeft, wb_tb, wb_tb, wb_tb, wb_sm k hk]
  apply BitVec.eq_of_toNat_eq
  rw [BitVec.shiftLeft_eq', BitVec.toNat_shiftLeft, BitVec.toNat_ofNat, BitVec.toNat_ofNat, BitVec.toNat_ofNat, Nat.mod_eq_of_lt (show k < 2 ^ 64 by omega), Nat.shiftLeft_eq, Nat.mul_mod, Nat.mod_mod, ← Nat.mul_mod]
theorem wb_and {a b : Nat} (ha : a < 2 ^ 64) (hb : b < 2 ^ 64) : lN a &&& lN b = lN (a &&& b) := by
  apply wb_inj
  rw [Int64.toBitVec_and, wb_tb, wb_tb, wb_tb]
  apply BitVec.eq_of_toNat_eq
  rw [BitVec.toNat_and, BitVec.toNat_ofNat, BitVec.toNat_ofNat, BitVec.toNat_ofNat, Nat.mod_eq_of_lt ha, Nat.mod_eq_of_lt hb, Nat.mod_eq_of_lt (Nat.and_lt_two_pow _ hb)]
theorem wb_or {a b : Nat} (ha : a < 2 ^ 64) (hb : b < 2 ^ 64) : lN a ||| lN b = lN (a ||| b) := by
  apply wb_inj
  rw [Int64.toBitVec_or, wb_tb, wb_tb, wb_tb]
  apply BitVec.eq_of_toNat_eq
  rw [BitVec.toNat_or, BitVec.toNat_ofNat, BitVec.toNat_ofNat, BitVec.toNat_ofNat, Nat.mod_eq_of_lt ha, Nat.mod_eq_of_lt hb, Nat.mod_eq_of_lt (Nat.or_lt_two_pow ha hb)]
theorem wb_mask {n k : Nat} (hn : n < 2 ^ 64) (hk : k < 64) : lN n &&& lN (2 ^ k - 1) = lN (n % 2 ^ k) := by
  rw [wb_and hn (by have := wb_lt2 hk; omega), Nat.and_two_pow_sub_one_eq_mod]
theorem wb_a1 {n : Nat} (hn : n < 2 ^ 64) : lN n &&& 1 = lN (n % 2) := wb_mask (k := 1) hn (by decide)
theorem wb_bit {n k : Nat} (hn : n < 2 ^ 64) (hk : k < 64) : ((lN n).toUInt64 >>> ((nI k).toInt64.toUInt64 &&& Int64.toUInt64 63)).toInt64 &&& 1 = lN (n / 2 ^ k % 2) := by
  rw [wb_shr hn hk, wb_a1 (Nat.lt_of_le_of_lt (Nat.div_le_self _ _) hn)]
theorem wb_xor {q k : Nat} (hk : k < 63) (h : 2 ^ k ≤ q) (h2 : q < 2 ^ (k + 1)) : lN q ^^^ lN (2 ^ k) = lN (q - 2 ^ k) := by
  obtain ⟨r, rfl⟩ : ∃ r, q = 2 ^ k + r := ⟨q - 2 ^ k, by omega⟩
  have hr : r < 2 ^ k := by rw [Nat.pow_succ] at h2; omega
  have hx : (2 ^ k + r) ^^^ 2 ^ k = r := by
    apply Nat.eq_of_testBit_eq
    intro i
    rw [Nat.testBit_xor, Nat.testBit_two_pow]
    rcases Nat.lt_trichotomy i k with h | h | h
    · rw [Nat.testBit_two_pow_add_gt h]
      simp [show ¬ k = i by omega]
    · subst h
      rw [Nat.testBit_two_pow_add_eq]
      simp
    · have a1 : 2 ^ (k + 1) ≤ 2 ^ i := Nat.pow_le_pow_right (by decide) h
      rw [Nat.testBit_lt_two_pow (show 2 ^ k + r < 2 ^ i by omega), Nat.testBit_lt_two_pow (show r < 2 ^ i by omega)]
      simp [show ¬ k = i by omega]
  have b1 := wb_lt2 (show k + 1 < 64 by omega)
  have b2 := wb_lt2 (show k < 64 by omega)
  apply wb_inj
  rw [Int64.toBitVec_xor, wb_tb, wb_tb, wb_tb]
  apply BitVec.eq_of_toNat_eq
  rw [BitVec.toNat_xor, BitVec.toNat_ofNat, BitVec.toNat_ofNat, BitVec.toNat_ofNat, Nat.mod_eq_of_lt (by omega : 2 ^ k + r < 2 ^ 64), Nat.mod_eq_of_lt b2, hx, Nat.add_sub_cancel_left, Nat.mod_eq_of_lt (by omega)]
end
section
/-! ===== tides ===== -/
def s_by (n i : Nat) : Nat := n / 2 ^ (8 * i) % 256
theorem b255L : ∀ i, i < 64 → (255 : Int64).toBitVec.getLsbD i = decide (i < 8) := by decide +kernel
theorem w_shr {n k : Nat} (hn : n < 2 ^ 64) (hk : k ≤ 56) : (lN n >>> ((nI k).toInt64 &&& 63)) &&& 255 = lN (n / 2 ^ k % 256) := by
  rw [wb_c k (by omega)]
  apply wb_inj
  rw [Int64.toBitVec_and, Int64.toBitVec_shiftRight]
  show ((lN n).toBitVec.sshiftRight ((lN k).toBitVec.smod 64).toNat) &&& (255 : Int64).toBitVec = (lN (n / 2 ^ k % 256)).toBitVec
  have e1 : ((lN k).toBitVec.smod 64).toNat = k := by
    rw [wb_tb, wb_sm k (by omega), BitVec.toNat_ofNat]
    exact Nat.mod_eq_of_lt (by omega)
  rw [e1, wb_tb, wb_tb]
  apply BitVec.eq_of_getLsbD_eq
  intro i hi
  rw [BitVec.getLsbD_and, b255L i hi, BitVec.getLsbD_sshiftRight, show (256 : Nat) = 2 ^ 8 from rfl]
  by_cases c : i < 8
  · rw [if_pos (show k + i < 64 by omega), BitVec.getLsbD_ofNat, BitVec.getLsbD_ofNat, Nat.testBit_mod_two_pow, Nat.testBit_div_two_pow]
    have h1 : ¬ 64 ≤ i := by omega
    simp [c, hi, h1, Nat.add_comm, show k + i < 64 by omega, show i + k < 64 by omega]
  · have z : (n / 2 ^ k % 2 ^ 8).testBit i = false := by rw [Nat.testBit_mod_two_pow, decide_eq_false c, Bool.false_and]
    rw [decide_eq_false c, Bool.and_false, BitVec.getLsbD_ofNat, z, Bool.and_false]
theorem x_eight {n i : Nat} (hn : n < 2 ^ 64) (hi : i < 8) : p_X8_eightBits (lN n) (nI i) = some (nI (s_by n i)) := by
  unfold p_X8_eightBits s_by
  rw [show (8 : Int32) = nI 8 from rfl, pk_mul, wb_shr hn (by omega), lN_i, pk_and _ (m := 255) 8 (by decide)]
  show some (nI ((BitVec.ofNat 32 (n / 2 ^ (8 * i))).toNat % 2 ^ 8)) = _
  rw [BitVec.toNat_ofNat, Nat.mod_mod_of_dvd _ (show 2 ^ 8 ∣ 2 ^ 32 from ⟨2 ^ 24, by decide⟩)]
theorem y_eight {n i : Nat} (hn : n < 2 ^ 64) (hi : i < 8) : (lN n >>> ((8 * nI i).toInt64 &&& 63)) &&& 255 = lN (s_by n i) := by
  rw [show (8 : Int32) = nI 8 from rfl, pk_mul, w_shr hn (by omega)]; rfl
theorem s_by_lt (n i : Nat) : s_by n i < 256 := Nat.mod_lt _ (by decide)
def s_okT (n c i : Nat) : Bool := decide (s_by n i ≤ if i < c then 60 else 0)
theorem x_areTides {n c : Nat} (hn : n < 2 ^ 64) (hc : c ≤ 8) : p_X8_areTides (nI c) (lN n) = some (if q_all (s_okT n c) 8 = true then 1 else 0) := by
  have key : k_lp (fun s : Int32 => lb_X8_areTides_2 (lN n) (nI c) s) k_fuel 0 = some (q_ans (q_find (fun i => if s_okT n c i = true then none else some (0 : Int32)) 8)) := by
    refine q_findlp _ 8 (fun i hi => ?_) ?_ (by omega)
    · show lb_X8_areTides_2 (lN n) (nI c) (nI i) = _
      have hb := s_by_lt n i
      unfold lb_X8_areTides_2 s_okT
      rw [show (8 : Int32) = nI 8 from rfl, q_ifge _ _ hi (by omega), x_eight hn hi, q_b1]
      by_cases c1 : i < c
      · rw [if_neg (nI_ge c1 (by omega))]
        by_cases c2 : s_by n i ≤ 60
        · rw [if_pos (show nI (s_by n i) ≤ 60 from nI_le (b := 60) c2 (by omega))]; simp [c1, c2]
        · rw [if_neg (show ¬ nI (s_by n i) ≤ 60 from nI_ge (a := 60) (by omega) (by omega))]; simp [c1, c2]
      · rw [if_pos (nI_le (by omega) (by omega))]
        by_cases c2 : s_by n i ≤ 0
        · rw [if_pos (show nI (s_by n i) ≤ 0 from nI_le (b := 0) c2 (by omega))]
          have c3 : s_by n i = 0 := by omega
          simp [c1, c3]
        · rw [if_neg (show ¬ nI (s_by n i) ≤ 0 from nI_ge (a := 0) (by omega) (by omega))]
          have c3 : ¬ s_by n i = 0 := by omega
          simp [c1, c3]
    · show lb_X8_areTides_2 (lN n) (nI c) (nI 8) = _
      unfold lb_X8_areTides_2
      rw [show (8 : Int32) = nI 8 from rfl, q_ifle _ _ (Nat.le_refl _) (by omega)]
  unfold p_X8_areTides
  rw [key]
  by_cases c1 : q_all (s_okT n c) 8 = true
  · rw [if_pos c1]
    rw [q_all_iff] at c1
    have : q_find (fun i => if s_okT n c i = true then none else some (0 : Int32)) 8 = none := by
      rw [q_find_none]; intro i hi; rw [if_pos (c1 i hi)]
    rw [this]; rfl
  · rw [if_neg c1]
    cases hq : q_find (fun i => if s_okT n c i = true then none else some (0 : Int32)) 8 with
    | none =>
      rw [q_find_none] at hq
      refine absurd (q_all_iff.mpr fun i hi => ?_) c1
      have := hq i hi
      cases hb : s_okT n c i with
      | true => rfl
      | false => rw [hb] at this; cases this
    | some v =>
      obtain ⟨i, -, h2, -⟩ := q_find_some.mp hq
      split at h2
      · cases h2
      · cases h2; rfl
theorem s_okT_iff0 {n c : Nat} (hn : n < 2 ^ 64) (hc1 : 1 ≤ c) (hc : c ≤ 8) : (∀ i, i < 8 → s_okT n c i = true) ↔ ((8 ≤ c ∨ n / 2 ^ (8 * c) = 0) ∧ ∀ i, i < c → s_by n i ≤ 60) := by
  have e0 : s_by n 0 = n % 256 := by unfold s_by; rw [show 2 ^ (8 * 0) = 1 from by decide, Nat.div_one]
  have e1 : s_by n 1 = n / 256 % 256 := rfl
  have e2 : s_by n 2 = n / 65536 % 256 := rfl
  have e3 : s_by n 3 = n / 16777216 % 256 := rfl
  have e4 : s_by n 4 = n / 4294967296 % 256 := rfl
  have e5 : s_by n 5 = n / 1099511627776 % 256 := rfl
  have e6 : s_by n 6 = n / 281474976710656 % 256 := rfl
  have e7 : s_by n 7 = n / 72057594037927936 % 256 := rfl
  have hn' : n < 18446744073709551616 := hn
  have all8 : (∀ i, i < 8 → s_okT n c i = true) ↔ (s_by n 0 ≤ (if 0 < c then 60 else 0) ∧ s_by n 1 ≤ (if 1 < c then 60 else 0) ∧ s_by n 2 ≤ (if 2 < c then 60 else 0) ∧ s_by n 3 ≤ (if 3 < c then 60 else 0) ∧ s_by n 4 ≤ (if 4 < c then 60 else 0) ∧ s_by n 5 ≤ (if 5 < c then 60 else 0) ∧ s_by n 6 ≤ (if 6 < c then 60 else 0) ∧ s_by n 7 ≤ (if 7 < c then 60 else 0)) := by
    unfold s_okT
    constructor
    · intro h
      exact ⟨of_decide_eq_true (h 0 (by omega)), of_decide_eq_true (h 1 (by omega)), of_decide_eq_true (h 2 (by omega)), of_decide_eq_true (h 3 (by omega)), of_decide_eq_true (h 4 (by omega)), of_decide_eq_true (h 5 (by omega)), of_decide_eq_true (h 6 (by omega)), of_decide_eq_true (h 7 (by omega))⟩
    · rintro ⟨h0, h1, h2, h3, h4, h5, h6, h7⟩ i hi
      match i, hi with
      | 0, _ => exact decide_eq_true h0
      | 1, _ => exact decide_eq_true h1
      | 2, _ => exact decide_eq_true h2
      | 3, _ => exact decide_eq_true h3
      | 4, _ => exact decide_eq_true h4
      | 5, _ => exact decide_eq_true h5
      | 6, _ => exact decide_eq_true h6
      | 7, _ => exact decide_eq_true h7
  rw [all8, e0, e1, e2, e3, e4, e5, e6, e7]
  have un : ∀ P : Nat → Prop, ∀ k, (∀ i, i < k + 1 → P i) ↔ ((∀ i, i < k → P i) ∧ P k) := by
    intro P k
    constructor
    · intro h; exact ⟨fun i hi => h i (by omega), h k (by omega)⟩
    · rintro ⟨h1, h2⟩ i hi
      by_cases e : i = k
      · subst e; exact h2
      · exact h1 i (by omega)
  have u0 : ∀ P : Nat → Prop, (∀ i, i < 0 → P i) ↔ True := fun P => ⟨fun _ => trivial, fun _ i hi => absurd hi (by omega)⟩
  match c, hc1, hc with
  | 1, _, _ =>
    rw [show 2 ^ (8 * 1) = 256 from by decide, un, u0, e0]; simp; omega
  | 2, _, _ =>
    rw [show 2 ^ (8 * 2) = 65536 from by decide, un, un, u0, e0, e1]; simp; omega
  | 3, _, _ =>
    rw [show 2 ^ (8 * 3) = 16777216 from by decide, un, un, un, u0, e0, e1, e2]; simp; omega
  | 4, _, _ =>
    rw [show 2 ^ (8 * 4) = 4294967296 from by decide, un, un, un, un, u0, e0, e1, e2, e3]; simp; omega
  | 5, _, _ =>
    rw [show 2 ^ (8 * 5) = 1099511627776 from by decide, un, un, un, un, un, u0, e0, e1, e2, e3, e4]; simp; omega
  | 6, _, _ =>
    rw [show 2 ^ (8 * 6) = 281474976710656 from by decide, un, un, un, un, un, un, u0, e0, e1, e2, e3, e4, e5]; simp; omega
  | 7, _, _ =>
    rw [show 2 ^ (8 * 7) = 72057594037927936 from by decide, un, un, un, un, un, un, un, u0, e0, e1, e2, e3, e4, e5, e6]; simp; omega
  | 8, _, _ =>
    rw [un, un, un, un, un, un, un, un, u0, e0, e1, e2, e3, e4, e5, e6, e7]; simp; omega
theorem s_okT_iff {n c : Nat} (hn : n < 2 ^ 64) (hc1 : 1 ≤ c) (hc : c ≤ 8) : (q_all (s_okT n c) 8 = true) ↔ ((8 ≤ c ∨ n / 2 ^ (8 * c) = 0) ∧ q_all (fun i => decide (s_by n i ≤ 60)) c = true) := by
  rw [q_all_iff, q_all_iff, s_okT_iff0 hn hc1 hc]
  simp only [decide_eq_true_eq]
def s_wr (n h : Nat) (td : Nat → Int32) : Nat → Nat → Int32 := q_fold (fun i f => upd f (h + i) (nI (s_by n i))) td
theorem t_tides (td : Nat → Int32) (a1 a2 : Int32) (v : Int64) : ∃ r td', p_X8_tides td a1 a2 v = some (r, td') ∧ p_X9_tides td a1 a2 v = some (r, 0, td') := by
  obtain ⟨n, hn, rfl⟩ := wb_of v
  unfold p_X8_tides p_X9_tides
  rw [q_isHour]
  simp only [q_within, q_in_1_8, q_b1, q_ifp]
  by_cases h1 : 0 ≤ a1 ∧ a1 ≤ 95
  · simp only [if_pos h1]
    obtain ⟨o, -, ho, rfl⟩ := q_rng (a := 0) (b := 95) (by omega) (by omega) h1
    by_cases h2 : 1 ≤ a2 ∧ a2 ≤ 8
    · simp only [if_pos h2]
      obtain ⟨c, hc1, hc, rfl⟩ := q_rng (a := 1) (b := 8) (by omega) (by omega) h2
      rw [nI_add]
      by_cases h3 : 96 < o + c
      · rw [if_pos (show (96 : Int32) < nI (o + c) from nI_lt (a := 96) h3 (by omega)), if_pos (show (96 : Int32) < nI (o + c) from nI_lt (a := 96) h3 (by omega))]
        exact ⟨_, _, rfl, rfl⟩
      · rw [if_neg (show ¬ (96 : Int32) < nI (o + c) from nI_nlt (a := 96) (by omega) (by omega)), if_neg (show ¬ (96 : Int32) < nI (o + c) from nI_nlt (a := 96) (by omega) (by omega))]
        rw [x_areTides hn hc, q_b1, q_ifp]
        have lpx : k_lp (fun s : Int32 × (Nat → Int32) => lb_X8_tides_41 (nI c) (lN n) (nI o) s.1 s.2) k_fuel (0, td) = some (s_wr n o td c) := by
          refine q_run (body := fun s : Int32 × (Nat → Int32) => lb_X8_tides_41 (nI c) (lN n) (nI o) s.1 s.2) (fun i => (nI i, s_wr n o td i)) _ c (fun i hi => ?_) ?_ (by omega)
          · show lb_X8_tides_41 (nI c) (lN n) (nI o) (nI i) (s_wr n o td i) = some (.inl (nI (i + 1), upd (s_wr n o td i) (o + i) (nI (s_by n i))))
            unfold lb_X8_tides_41
            rw [q_ifge _ _ hi (by omega), x_eight hn (by omega), q_b1, nI_add, q_ix _ (by omega) (by omega), q_cl (by omega), nI_1]
          · show lb_X8_tides_41 (nI c) (lN n) (nI o) (nI c) _ = _
            unfold lb_X8_tides_41
            rw [q_ifle _ _ (Nat.le_refl _) (by omega)]
        have lpy : k_lp (fun s : Int32 × (Nat → Int32) => lb_X9_tides_89 (nI c) (nI o) (lN n) s.1 s.2) k_fuel (0, td) = some (s_wr n o td c) := by
          refine q_run (body := fun s : Int32 × (Nat → Int32) => lb_X9_tides_89 (nI c) (nI o) (lN n) s.1 s.2) (fun i => (nI i, s_wr n o td i)) _ c (fun i hi => ?_) ?_ (by omega)
          · show lb_X9_tides_89 (nI c) (nI o) (lN n) (nI i) (s_wr n o td i) = some (.inl (nI (i + 1), upd (s_wr n o td i) (o + i) (nI (s_by n i))))
            unfold lb_X9_tides_89
            rw [q_ifge _ _ hi (by omega), y_eight hn (by omega), lN_i, nI_add, q_ix _ (by omega) (by omega), q_cl (by omega), nI_1]
          · show lb_X9_tides_89 (nI c) (nI o) (lN n) (nI c) _ = _
            unfold lb_X9_tides_89
            rw [q_ifle _ _ (Nat.le_refl _) (by omega)]
        have lpf : k_lp (fun s : Int32 => lb_X9_tides_54 (nI c) (lN n) td s) k_fuel 0 = some (q_ans (q_find (fun i => if s_by n i ≤ 60 then none else some ((-1 : Int32), (0 : Int32), td)) c)) := by
          refine q_findlp _ c (fun i hi => ?_) ?_ (by omega)
          · show lb_X9_tides_54 (nI c) (lN n) td (nI i) = _
            have hb := s_by_lt n i
            unfold lb_X9_tides_54
            rw [q_ifge _ _ hi (by omega), y_eight hn (by omega)]
            have e : (lg_cmp (lN (s_by n i)) 60 ≤ 0) = (s_by n i ≤ 60) := propext ((lg_cmp_le _ _).trans (lN_le (b := 60) (by omega) (by omega)))
            by_cases c2 : s_by n i ≤ 60
            · rw [if_pos (by rw [e]; exact c2)]; simp [c2]
            · rw [if_neg (by rw [e]; exact c2)]; simp [c2]
          · show lb_X9_tides_54 (nI c) (lN n) td (nI c) = _
            unfold lb_X9_tides_54
            rw [q_ifle _ _ (Nat.le_refl _) (by omega)]
        have hlj : lj_X9_tides_51 (nI c) (lN n) td (nI o) = if q_all (fun i => decide (s_by n i ≤ 60)) c = true then some (nI c, 0, s_wr n o td c) else some (-1, 0, td) := by
          unfold lj_X9_tides_51
          rw [lpf]
          by_cases c1 : q_all (fun i => decide (s_by n i ≤ 60)) c = true
          · rw [if_pos c1]
            have : q_find (fun i => if s_by n i ≤ 60 then none else some ((-1 : Int32), (0 : Int32), td)) c = none := by
              rw [q_find_none]; intro i hi; rw [if_pos (of_decide_eq_true (q_all_iff.mp c1 i hi))]
            rw [this]
            show k_b1 (k_lp (fun s : Int32 × (Nat → Int32) => lb_X9_tides_89 (nI c) (nI o) (lN n) s.1 s.2) k_fuel (0, td)) _ = _
            rw [lpy, q_b1]
          · rw [if_neg c1]
            cases hq : q_find (fun i => if s_by n i ≤ 60 then none else some ((-1 : Int32), (0 : Int32), td)) c with
            | none =>
              rw [q_find_none] at hq
              refine absurd (q_all_iff.mpr fun i hi => ?_) c1
              have := hq i hi
              by_cases c2 : s_by n i ≤ 60
              · exact decide_eq_true c2
              · rw [if_neg c2] at this; cases this
            | some w =>
              obtain ⟨i, -, h2, -⟩ := q_find_some.mp hq
              split at h2
              · cases h2
              · cases h2; rfl
        have hd : n / 2 ^ (8 * c) < 18446744073709551616 := Nat.lt_of_le_of_lt (Nat.div_le_self _ _) hn
        have hz : c < 8 → (lg_cmp (((lN n).toUInt64 >>> ((8 * nI c).toInt64.toUInt64 &&& Int64.toUInt64 63)).toInt64) 0 = 0) = (n / 2 ^ (8 * c) = 0) := by
          intro hc8
          rw [show (8 : Int32) = nI 8 from rfl, pk_mul, wb_shr hn (by omega)]
          refine propext ((lg_cmp_eq _ _).trans ⟨fun e => ?_, fun e => by rw [e]; rfl⟩)
          have := congrArg (fun z : Int64 => z.toBitVec.toNat) e
          have h9 : (lN (n / 2 ^ (8 * c))).toBitVec.toNat = (0 : Int64).toBitVec.toNat := this
          rw [wb_tn hd] at h9
          exact h9
        rw [hlj, lpx]
        have iff := s_okT_iff hn hc1 hc
        by_cases c8 : 8 ≤ c
        · rw [if_pos (show (8 : Int32) ≤ nI c from nI_le (a := 8) c8 (by omega))]
          by_cases c1 : q_all (fun i => decide (s_by n i ≤ 60)) c = true
          · rw [if_pos (iff.mpr ⟨Or.inl c8, c1⟩), if_pos c1, q_b1]
            exact ⟨_, _, rfl, rfl⟩
          · rw [if_neg (fun hh => c1 (iff.mp hh).2), if_neg c1]
            exact ⟨_, _, rfl, rfl⟩
        · rw [if_neg (show ¬ (8 : Int32) ≤ nI c from nI_ge (b := 8) (by omega) (by omega))]
          by_cases cz : n / 2 ^ (8 * c) = 0
          · have cz2 : lg_cmp (((lN n).toUInt64 >>> ((8 * nI c).toInt64.toUInt64 &&& Int64.toUInt64 63)).toInt64) 0 = 0 := by rw [hz (by omega)]; exact cz
            simp only [if_pos cz2]
            by_cases c1 : q_all (fun i => decide (s_by n i ≤ 60)) c = true
            · rw [if_pos (iff.mpr ⟨Or.inr cz, c1⟩), if_pos c1, q_b1]
              exact ⟨_, _, rfl, rfl⟩
            · rw [if_neg (fun hh => c1 (iff.mp hh).2), if_neg c1]
              exact ⟨_, _, rfl, rfl⟩
          · have cz2 : ¬ lg_cmp (((lN n).toUInt64 >>> ((8 * nI c).toInt64.toUInt64 &&& Int64.toUInt64 63)).toInt64) 0 = 0 := by rw [hz (by omega)]; exact cz
            simp only [if_neg cz2]
            rw [if_neg (fun hh => (iff.mp hh).1.elim c8 cz)]
            exact ⟨_, _, rfl, rfl⟩
    · simp only [if_neg h2]; exact ⟨_, _, rfl, rfl⟩
  · simp only [if_neg h1]; exact ⟨_, _, rfl, rfl⟩
theorem sim_tides : k_Sim_tides R_all := by
  intro S L M a1 a2 a3 hR
  obtain ⟨hc, ht, hrn, hru, hs, hk0, hk1, hk2, hp⟩ := hR
  obtain ⟨r, t', g1, g2⟩ := t_tides (M 12) a1 a2 a3
  refine ⟨r, k_su S 1 t', L, k_su (k_su M 0 (fun _ => 0)) 12 t', ?_, ?_, hc, rfl, hrn, hru, hs, hk0, hk1, hk2, hp⟩
  · unfold pX_tides; rw [show S 1 = M 12 from ht, g1]; rfl
  · unfold pM_tides; rw [g2]; rfl
end
section
/-! ===== the start ===== -/
def s_td0 : Nat → Int32 := q_fold (fun i f => upd f i 30) (fun _ => 0) 96
def s_ru0 : Nat → Int32 := q_fold (fun i f => upd f i (k_r0 i)) (fun _ => 0) 8
def s_pl0 : Nat → Int32 := q_fold (fun i f => upd f i (-1)) (fun _ => 0) 30
theorem x_init : p_X8_init = some (s_td0, s_ru0, s_pl0) := by
  have l1 : k_lp (fun s : Int32 × (Nat → Int32) => lb_X5_init_32 s.1 s.2) k_fuel (0, (fun _ => 0)) = some s_td0 := by
    refine q_run (body := fun s : Int32 × (Nat → Int32) => lb_X5_init_32 s.1 s.2) (fun i => (nI i, q_fold (fun i f => upd f i 30) (fun _ => 0) i)) _ 96 (fun i hi => ?_) ?_ (by omega)
    · show lb_X5_init_32 (nI i) (q_fold (fun i f => upd f i 30) (fun _ => 0) i) = some (.inl (nI (i + 1), upd (q_fold (fun i f => upd f i 30) (fun _ => 0) i) i 30))
      unfold lb_X5_init_32
      rw [show (96 : Int32) = nI 96 from rfl, q_ifge _ _ hi (by omega), q_ix _ (by omega) (by omega), q_cl (by omega), nI_1]
    · show lb_X5_init_32 (nI 96) _ = _
      unfold lb_X5_init_32
      rw [show (96 : Int32) = nI 96 from rfl, q_ifle _ _ (Nat.le_refl _) (by omega)]; rfl
  have l2 : k_lp (fun s : Int32 × (Nat → Int32) => lb_X5_init_54 s.1 s.2) k_fuel (0, (fun _ => 0)) = some s_ru0 := by
    refine q_run (body := fun s : Int32 × (Nat → Int32) => lb_X5_init_54 s.1 s.2) (fun i => (nI i, q_fold (fun i f => upd f i (k_r0 i)) (fun _ => 0) i)) _ 8 (fun i hi => ?_) ?_ (by omega)
    · show lb_X5_init_54 (nI i) (q_fold (fun i f => upd f i (k_r0 i)) (fun _ => 0) i) = some (.inl (nI (i + 1), upd (q_fold (fun i f => upd f i (k_r0 i)) (fun _ => 0) i) i (k_r0 i)))
      unfold lb_X5_init_54
      rw [show (8 : Int32) = nI 8 from rfl, q_ifge _ _ hi (by omega), q_ix _ (by omega) (by omega), q_ix _ (by omega) (by omega), q_cl (by omega), nI_1]
    · show lb_X5_init_54 (nI 8) _ = _
      unfold lb_X5_init_54
      rw [show (8 : Int32) = nI 8 from rfl, q_ifle _ _ (Nat.le_refl _) (by omega)]; rfl
  have l3 : k_lp (fun s : Int32 × (Nat → Int32) => lb_X1_init_14 s.1 s.2) k_fuel (0, (fun _ => 0)) = some s_pl0 := by
    refine q_run (body := fun s : Int32 × (Nat → Int32) => lb_X1_init_14 s.1 s.2) (fun i => (nI i, q_fold (fun i f => upd f i (-1)) (fun _ => 0) i)) _ 30 (fun i hi => ?_) ?_ (by omega)
    · show lb_X1_init_14 (nI i) (q_fold (fun i f => upd f i (-1)) (fun _ => 0) i) = some (.inl (nI (i + 1), upd (q_fold (fun i f => upd f i (-1)) (fun _ => 0) i) i (-1)))
      unfold lb_X1_init_14
      rw [show (30 : Int32) = nI 30 from rfl, q_ifge _ _ hi (by omega), q_ix _ (by omega) (by omega), q_cl (by omega), nI_1]
    · show lb_X1_init_14 (nI 30) _ = _
      unfold lb_X1_init_14
      rw [show (30 : Int32) = nI 30 from rfl, q_ifle _ _ (Nat.le_refl _) (by omega)]; rfl
  unfold p_X8_init p_X5_init p_X1_init
  rw [l1, q_b1, l2, q_b1, q_b2, l3, q_b1, q_b1]
theorem y_init : p_X9_init = some s_td0 := by
  have l1 : k_lp (fun s : Int32 × (Nat → Int32) => lb_X9_init_275 s.1 s.2) k_fuel (0, (fun _ => 0)) = some s_td0 := by
    refine q_run (body := fun s : Int32 × (Nat → Int32) => lb_X9_init_275 s.1 s.2) (fun i => (nI i, q_fold (fun i f => upd f i 30) (fun _ => 0) i)) _ 96 (fun i hi => ?_) ?_ (by omega)
    · show lb_X9_init_275 (nI i) (q_fold (fun i f => upd f i 30) (fun _ => 0) i) = some (.inl (nI (i + 1), upd (q_fold (fun i f => upd f i 30) (fun _ => 0) i) i 30))
      unfold lb_X9_init_275
      rw [show (96 : Int32) = nI 96 from rfl, q_ifge _ _ hi (by omega), q_ix _ (by omega) (by omega), q_cl (by omega), nI_1]
    · show lb_X9_init_275 (nI 96) _ = _
      unfold lb_X9_init_275
      rw [show (96 : Int32) = nI 96 from rfl, q_ifle _ _ (Nat.le_refl _) (by omega)]; rfl
  unfold p_X9_init
  rw [l1, q_b1]
def m_0 : Nat → Int32 := upd (fun _ => 0) 5 100
theorem m_0_rng : ∀ k, k < 169 → (k_lo k ≤ (m_0 k).toInt ∧ (m_0 k).toInt ≤ k_hi k) := by decide +kernel
theorem m_0_inv : k_Inv m_0 := by
  have z : ∀ i : Nat, ¬ ((i : Int) < (0 : Int32).toInt) := fun i h => by
    rw [show (0 : Int32).toInt = 0 from by decide] at h; omega
  exact ⟨fun k hk => m_0_rng k hk, fun i hi => absurd hi (z i), fun i hi => absurd hi (z i), fun i hi => absurd hi (z i)⟩
theorem m_0_out : k_out m_0 = 0 ∧ k_wh m_0 = 0 := by decide +kernel
theorem s_pl0_all : ∀ p, p < 30 → s_pl0 p = -1 := by decide +kernel
theorem R_start : R_all (k_S0 s_td0 s_ru0 s_pl0) k_L0 (k_M0 s_td0) := by
  have n0 : ∀ k : Int, 0 ≤ k → ¬ (k < (0 : Int32).toInt) := fun k hk h => by
    rw [show (0 : Int32).toInt = 0 from by decide] at h; omega
  refine ⟨⟨rfl, ⟨by decide, by decide⟩⟩, rfl, ⟨rfl, fun h hh => ⟨by show (0 : Int) ≤ (0 : Int32).toInt; decide, by show (0 : Int32).toInt ≤ 1; decide⟩⟩, ⟨⟨rfl, rfl, rfl, rfl, rfl, rfl, rfl⟩, ⟨by decide, by decide⟩, ⟨by decide, by decide⟩, ⟨by decide, by decide⟩, ⟨by decide, by decide⟩, ⟨by decide, by decide⟩, ⟨by decide, by decide⟩, ⟨by decide, by decide⟩⟩, ⟨⟨rfl, rfl, rfl, rfl, rfl, rfl, rfl, rfl, rfl, rfl, ?_, rfl, ?_, rfl, rfl⟩, fun i hi => ⟨?_, ?_⟩, fun i hi => ⟨?_, ?_, ?_⟩, fun i hi => ⟨?_, ?_, ?_, ?_, ?_, ?_, ?_, ?_⟩, m_0_inv⟩, fun h => absurd h (n0 0 (by omega)), fun h => absurd h (n0 1 (by omega)), fun h => absurd h (n0 2 (by omega)), ⟨rfl, fun p hp => ?_⟩⟩
  · show (0 : Int32) = nI (k_out m_0); rw [m_0_out.1]; rfl
  · show (0 : Int32) = nI (k_wh m_0); rw [m_0_out.2]; rfl
  all_goals first
    | (show (0 : Int32) = m_0 _; unfold m_0; rw [upd_n (by omega)])
    | (show kr (s_pl0 p) (-1) 1; rw [s_pl0_all p hp]; exact ⟨by decide, by decide⟩)
end
section
/-! ===== the subsets of a set of bits, upwards ===== -/
def d_all : Nat → (Nat → Bool) → Nat
  | 0, _ => 0
  | n + 1, p => (if p 0 = true then 1 else 0) + 2 * d_all n (fun i => p (i + 1))
def d_cnt : Nat → (Nat → Bool) → Nat
  | 0, _ => 0
  | n + 1, p => (if p 0 = true then 1 else 0) + d_cnt n (fun i => p (i + 1))
def d_dep : Nat → (Nat → Bool) → Nat → Nat
  | 0, _, _ => 0
  | n + 1, p, i => if p 0 = true then i % 2 + 2 * d_dep n (fun i => p (i + 1)) (i / 2) else 2 * d_dep n (fun i => p (i + 1)) i
theorem d_all_t (n : Nat) {p : Nat → Bool} (h : p 0 = true) : d_all (n + 1) p = 1 + 2 * d_all n (fun i => p (i + 1)) := by rw [d_all, if_pos h]
theorem d_all_f (n : Nat) {p : Nat → Bool} (h : ¬ p 0 = true) : d_all (n + 1) p = 2 * d_all n (fun i => p (i + 1)) := by rw [d_all, if_neg h, Nat.zero_add]
theorem d_dep_t (n i : Nat) {p : Nat → Bool} (h : p 0 = true) : d_dep (n + 1) p i = i % 2 + 2 * d_dep n (fun i => p (i + 1)) (i / 2) := by rw [d_dep, if_pos h]
theorem d_dep_f (n i : Nat) {p : Nat → Bool} (h : ¬ p 0 = true) : d_dep (n + 1) p i = 2 * d_dep n (fun i => p (i + 1)) i := by rw [d_dep, if_neg h]
theorem d_cnt_t (n : Nat) {p : Nat → Bool} (h : p 0 = true) : d_cnt (n + 1) p = 1 + d_cnt n (fun i => p (i + 1)) := by rw [d_cnt, if_pos h]
theorem d_cnt_f (n : Nat) {p : Nat → Bool} (h : ¬ p 0 = true) : d_cnt (n + 1) p = d_cnt n (fun i => p (i + 1)) := by rw [d_cnt, if_neg h, Nat.zero_add]
theorem tb_0 (b x : Nat) (hb : b ≤ 1) : (b + 2 * x).testBit 0 = decide (b = 1) := by
  rw [Nat.testBit_zero]
  congr 1
  exact propext ⟨fun h => by omega, fun h => by omega⟩
theorem tb_s (b x j : Nat) (hb : b ≤ 1) : (b + 2 * x).testBit (j + 1) = x.testBit j := by
  rw [Nat.testBit_succ, show (b + 2 * x) / 2 = x from by omega]
theorem tb_0' (x : Nat) : (2 * x).testBit 0 = false := by
  have := tb_0 0 x (by omega); rw [Nat.zero_add] at this; rw [this]; rfl
theorem tb_s' (x j : Nat) : (2 * x).testBit (j + 1) = x.testBit j := by
  have := tb_s 0 x j (by omega); rw [Nat.zero_add] at this; exact this
theorem d_all_tb : ∀ (n : Nat) (p : Nat → Bool) (j : Nat), (d_all n p).testBit j = (decide (j < n) && p j)
  | 0, p, j => by simp [d_all]
  | n + 1, p, j => by
    have ih := d_all_tb n (fun i => p (i + 1))
    by_cases h : p 0 = true
    · rw [d_all_t n h]
      cases j with
      | zero => rw [tb_0 _ _ (by omega)]; simp [h]
      | succ j => rw [tb_s _ _ _ (by omega), ih j]; simp
    · rw [d_all_f n h]
      cases j with
      | zero => rw [tb_0']; simp [h]
      | succ j => rw [tb_s', ih j]; simp
theorem d_dep_sub : ∀ (n : Nat) (p : Nat → Bool) (i j : Nat), (d_dep n p i).testBit j = true → j < n ∧ p j = true
  | 0, p, i, j => fun h => by simp [d_dep] at h
  | n + 1, p, i, j => fun h => by
    have ih := d_dep_sub n (fun i => p (i + 1))
    by_cases hp : p 0 = true
    · rw [d_dep_t n i hp] at h
      cases j with
      | zero => exact ⟨by omega, hp⟩
      | succ j =>
        rw [tb_s _ _ _ (by omega)] at h
        obtain ⟨h1, h2⟩ := ih _ j h
        exact ⟨by omega, h2⟩
    · rw [d_dep_f n i hp] at h
      cases j with
      | zero => rw [tb_0'] at h; cases h
      | succ j =>
        rw [tb_s'] at h
        obtain ⟨h1, h2⟩ := ih _ j h
        exact ⟨by omega, h2⟩
theorem d_dep_le : ∀ (n : Nat) (p : Nat → Bool) (i : Nat), d_dep n p i ≤ d_all n p
  | 0, p, i => Nat.le_refl 0
  | n + 1, p, i => by
    have ih := d_dep_le n (fun i => p (i + 1))
    by_cases hp : p 0 = true
    · rw [d_dep_t n i hp, d_all_t n hp]
      have := ih (i / 2)
      omega
    · rw [d_dep_f n i hp, d_all_f n hp]
      have := ih i
      omega
theorem d_all_lt : ∀ (n : Nat) (p : Nat → Bool), d_all n p < 2 ^ n
  | 0, p => by simp [d_all]
  | n + 1, p => by
    have ih := d_all_lt n (fun i => p (i + 1))
    have e : 2 ^ (n + 1) = 2 * 2 ^ n := by rw [Nat.pow_succ]; omega
    by_cases hp : p 0 = true
    · rw [d_all_t n hp]; omega
    · rw [d_all_f n hp]; omega
theorem d_diff : ∀ (n : Nat) (p : Nat → Bool) (i j : Nat), (d_all n p - d_dep n p i).testBit j = ((d_all n p).testBit j && !(d_dep n p i).testBit j)
  | 0, p, i, j => by simp [d_all, d_dep]
  | n + 1, p, i, j => by
    have ih := d_diff n (fun i => p (i + 1))
    by_cases hp : p 0 = true
    · rw [d_dep_t n i hp, d_all_t n hp]
      have hle := d_dep_le n (fun i => p (i + 1)) (i / 2)
      rcases Nat.mod_two_eq_zero_or_one i with h | h
      · rw [h, show 1 + 2 * d_all n (fun i => p (i + 1)) - (0 + 2 * d_dep n (fun i => p (i + 1)) (i / 2)) = 1 + 2 * (d_all n (fun i => p (i + 1)) - d_dep n (fun i => p (i + 1)) (i / 2)) from by omega]
        cases j with
        | zero => rw [tb_0 _ _ (by omega), tb_0 _ _ (by omega), tb_0 _ _ (by omega)]; rfl
        | succ j => rw [tb_s _ _ _ (by omega), tb_s _ _ _ (by omega), tb_s _ _ _ (by omega)]; exact ih _ j
      · rw [h, show 1 + 2 * d_all n (fun i => p (i + 1)) - (1 + 2 * d_dep n (fun i => p (i + 1)) (i / 2)) = 2 * (d_all n (fun i => p (i + 1)) - d_dep n (fun i => p (i + 1)) (i / 2)) from by omega]
        cases j with
        | zero => rw [tb_0', tb_0 _ _ (by omega), tb_0 _ _ (by omega)]; rfl
        | succ j => rw [tb_s', tb_s _ _ _ (by omega), tb_s _ _ _ (by omega)]; exact ih _ j
    · rw [d_dep_f n i hp, d_all_f n hp, ← Nat.mul_sub]
      cases j with
      | zero => rw [tb_0', tb_0', tb_0']; rfl
      | succ j => rw [tb_s', tb_s', tb_s']; exact ih _ j
theorem d_next : ∀ (n : Nat) (p : Nat → Bool) (i : Nat), i + 1 < 2 ^ d_cnt n p → d_dep n p i < d_all n p ∧ ∀ j, (d_dep n p (i + 1)).testBit j = ((d_all n p).testBit j && !(d_all n p - d_dep n p i - 1).testBit j)
  | 0, p, i, h => by rw [d_cnt] at h; omega
  | n + 1, p, i, h => by
    have ih := d_next n (fun i => p (i + 1))
    by_cases hp : p 0 = true
    · rw [d_cnt_t n hp, Nat.pow_add] at h
      rw [d_dep_t n i hp, d_all_t n hp, d_dep_t n (i + 1) hp]
      have hle := d_dep_le n (fun i => p (i + 1)) (i / 2)
      rcases Nat.mod_two_eq_zero_or_one i with hi | hi
      · rw [hi, show (i + 1) % 2 = 1 from by omega, show (i + 1) / 2 = i / 2 from by omega]
        refine ⟨by omega, fun j => ?_⟩
        rw [show 1 + 2 * d_all n (fun i => p (i + 1)) - (0 + 2 * d_dep n (fun i => p (i + 1)) (i / 2)) - 1 = 2 * (d_all n (fun i => p (i + 1)) - d_dep n (fun i => p (i + 1)) (i / 2)) from by omega]
        cases j with
        | zero => rw [tb_0 _ _ (by omega), tb_0 _ _ (by omega), tb_0']; rfl
        | succ j =>
          rw [tb_s _ _ _ (by omega), tb_s _ _ _ (by omega), tb_s', d_diff]
          cases hd : (d_dep n (fun i => p (i + 1)) (i / 2)).testBit j with
          | true =>
            obtain ⟨h1, h2⟩ := d_dep_sub _ _ _ _ hd
            rw [d_all_tb, decide_eq_true h1]
            have h2' : p (j + 1) = true := h2
            rw [h2']; rfl
          | false => cases (d_all n (fun i => p (i + 1))).testBit j <;> rfl
      · obtain ⟨i1, i2⟩ := ih (i / 2) (by omega)
        rw [hi, show (i + 1) % 2 = 0 from by omega, show (i + 1) / 2 = i / 2 + 1 from by omega]
        refine ⟨by omega, fun j => ?_⟩
        rw [show 1 + 2 * d_all n (fun i => p (i + 1)) - (1 + 2 * d_dep n (fun i => p (i + 1)) (i / 2)) - 1 = 1 + 2 * (d_all n (fun i => p (i + 1)) - d_dep n (fun i => p (i + 1)) (i / 2) - 1) from by omega]
        cases j with
        | zero => rw [tb_0 _ _ (by omega), tb_0 _ _ (by omega), tb_0 _ _ (by omega)]; rfl
        | succ j => rw [tb_s _ _ _ (by omega), tb_s _ _ _ (by omega), tb_s _ _ _ (by omega)]; exact i2 j
    · rw [d_cnt_f n hp] at h
      obtain ⟨i1, i2⟩ := ih i h
      rw [d_dep_f n i hp, d_all_f n hp, d_dep_f n (i + 1) hp]
      refine ⟨by omega, fun j => ?_⟩
      rw [show 2 * d_all n (fun i => p (i + 1)) - 2 * d_dep n (fun i => p (i + 1)) i - 1 = 1 + 2 * (d_all n (fun i => p (i + 1)) - d_dep n (fun i => p (i + 1)) i - 1) from by omega]
      cases j with
      | zero => rw [tb_0', tb_0']; rfl
      | succ j => rw [tb_s', tb_s', tb_s _ _ _ (by omega)]; exact i2 j
theorem d_mono : ∀ (n : Nat) (p : Nat → Bool) (i j : Nat), i < j → j < 2 ^ d_cnt n p → d_dep n p i < d_dep n p j
  | 0, p, i, j, h1, h2 => by rw [d_cnt] at h2; omega
  | n + 1, p, i, j, h1, h2 => by
    have ih := d_mono n (fun i => p (i + 1))
    by_cases hp : p 0 = true
    · rw [d_cnt_t n hp, Nat.pow_add] at h2
      rw [d_dep_t n i hp, d_dep_t n j hp]
      rcases Nat.lt_or_ge (i / 2) (j / 2) with h | h
      · have := ih _ _ h (by omega)
        omega
      · have e : i / 2 = j / 2 := by omega
        rw [e]; omega
    · rw [d_cnt_f n hp] at h2
      rw [d_dep_f n i hp, d_dep_f n j hp]
      have := ih i j h1 h2
      omega
theorem d_surj : ∀ (n : Nat) (p : Nat → Bool) (t : Nat), t < 2 ^ n → (∀ j, t.testBit j = true → p j = true) → ∃ i, i < 2 ^ d_cnt n p ∧ d_dep n p i = t
  | 0, p, t, h1, h2 => ⟨0, by rw [d_cnt]; decide, by rw [d_dep]; omega⟩
  | n + 1, p, t, h1, h2 => by
    have e : 2 ^ (n + 1) = 2 * 2 ^ n := by rw [Nat.pow_succ]; omega
    obtain ⟨i, i1, i2⟩ := d_surj n (fun i => p (i + 1)) (t / 2) (by omega) (fun j hj => h2 (j + 1) (by rw [Nat.testBit_succ]; exact hj))
    by_cases hp : p 0 = true
    · refine ⟨t % 2 + 2 * i, ?_, ?_⟩
      · rw [d_cnt_t n hp, Nat.pow_add]; omega
      · rw [d_dep_t n _ hp, show (t % 2 + 2 * i) / 2 = i from by omega, show (t % 2 + 2 * i) % 2 = t % 2 from by omega, i2]; omega
    · have h0 : t % 2 = 0 := by
        rcases Nat.mod_two_eq_zero_or_one t with h | h
        · exact h
        · exact absurd (h2 0 (by rw [Nat.testBit_zero, h]; rfl)) hp
      exact ⟨i, by rw [d_cnt_f n hp]; exact i1, by rw [d_dep_f n _ hp, i2]; omega⟩
theorem d_dep_0 : ∀ (n : Nat) (p : Nat → Bool), d_dep n p 0 = 0
  | 0, p => rfl
  | n + 1, p => by
    have ih := d_dep_0 n (fun i => p (i + 1))
    by_cases hp : p 0 = true
    · rw [d_dep_t n _ hp, Nat.zero_div, ih]
    · rw [d_dep_f n _ hp, ih]
theorem d_cnt_ct : ∀ (n : Nat) (p : Nat → Bool), d_cnt n p = fb_ct p n
  | 0, p => rfl
  | n + 1, p => by
    have ih := d_cnt_ct n (fun i => p (i + 1))
    rw [Nat.add_comm n 1, fb_ct_split p 1 n, Nat.add_comm 1 n]
    rw [d_cnt, ih]
    have e : fb_ct p 1 = if p 0 = true then 1 else 0 := by
      show 0 + (if p 0 = true then 1 else 0) = _
      rw [Nat.zero_add]
    rw [e]
    congr 1
    exact fb_ct_cong fun k hk => by rw [Nat.add_comm]
theorem q_subnot {D O : Nat} (h : D < O) (hO : O < 4096) : nI D - nI O = nI (O - D - 1) ^^^ (-1) := by
  apply Int32.toBitVec_inj.mp
  show BitVec.ofNat 32 D - BitVec.ofNat 32 O = BitVec.ofNat 32 (O - D - 1) ^^^ BitVec.allOnes 32
  rw [BitVec.xor_allOnes]
  apply BitVec.eq_of_toNat_eq
  rw [BitVec.toNat_sub, BitVec.toNat_not, BitVec.toNat_ofNat, BitVec.toNat_ofNat, BitVec.toNat_ofNat]
  omega
theorem q_nextset {n i : Nat} {p : Nat → Bool} (hn : n ≤ 12) (h : i + 1 < 2 ^ d_cnt n p) : (nI (d_dep n p i) - nI (d_all n p)) &&& nI (d_all n p) = nI (d_dep n p (i + 1)) := by
  obtain ⟨h1, h2⟩ := d_next n p i h
  have h3 : d_all n p < 4096 := by
    have a := d_all_lt n p
    have b : 2 ^ n ≤ 2 ^ 12 := Nat.pow_le_pow_right (by omega) hn
    omega
  refine b_ext fun j hj => ?_
  rw [b_and, q_subnot h1 h3, bt_not _ hj, bt_nI _ hj, bt_nI _ hj, bt_nI _ hj, h2 j, Bool.and_comm]
end
section
/-! ===== one set of THINGS ===== -/
def s_okt (m : Nat → Int32) (k t : Nat) : Bool := !k.testBit t || (decide (m (37 + t) = 0) && (decide (m (25 + t) < 0) || decide (m (37 + (m (25 + t)).toNatClampNeg) = 1) || k.testBit (m (25 + t)).toNatClampNeg))
def s_ok2 (m : Nat → Int32) (k : Nat) : Bool := q_all (s_okt m k) (s_nt m)
def s_cn (m : Nat → Int32) (k : Nat) : Nat := fb_ct (fun t => k.testBit t) (s_nt m)
def s_ws (m : Nat → Int32) (k : Nat) : Int32 := q_sum (fun t => if k.testBit t = true then m (13 + t) else 0) (s_nt m)
theorem y_set {m : Nat → Int32} (h : k_Inv m) {k : Nat} (hk : k < 4096) (T : Int32) : k_lp (fun s : Int32 × Int32 × Int32 × Int32 => lb_X9_findFloat_264 m (nI k) s.1 s.2.1 s.2.2.1 s.2.2.2) k_fuel (1, T, 0, 0) = some ((if s_ok2 m k = true then 1 else 0), T + s_ws m k, nI (s_cn m k)) := by
  obtain ⟨e10, hn, -⟩ := s_nt_e h.1
  have := q_run (body := fun s : Int32 × Int32 × Int32 × Int32 => lb_X9_findFloat_264 m (nI k) s.1 s.2.1 s.2.2.1 s.2.2.2) (fun i => ((if q_all (s_okt m k) i = true then (1 : Int32) else 0), T + q_sum (fun t => if k.testBit t = true then m (13 + t) else 0) i, nI (fb_ct (fun t => k.testBit t) i), nI i)) ((if s_ok2 m k = true then 1 else 0), T + s_ws m k, nI (s_cn m k)) (s_nt m) (fun i hi => by
    show lb_X9_findFloat_264 m (nI k) (if q_all (s_okt m k) i = true then (1 : Int32) else 0) (T + q_sum (fun t => if k.testBit t = true then m (13 + t) else 0) i) (nI (fb_ct (fun t => k.testBit t) i)) (nI i) = some (.inl ((if (q_all (s_okt m k) i && s_okt m k i) = true then (1 : Int32) else 0), T + (q_sum (fun t => if k.testBit t = true then m (13 + t) else 0) i + (if k.testBit i = true then m (13 + i) else 0)), nI (fb_ct (fun t => k.testBit t) i + (if k.testBit i = true then 1 else 0)), nI (i + 1)))
    generalize q_all (s_okt m k) i = bq
    unfold lb_X9_findFloat_264 lj_X9_findFloat_352
    rw [e10, q_ifge _ _ hi (by omega), ← Int32.add_assoc, nI_succ]
    simp only [q_bit1 (nI k) (show i < 32 by omega), bt_nI k (show i < 32 by omega)]
    unfold s_okt
    by_cases cb : k.testBit i = true
    · simp only [if_pos cb]
      simp (disch := omega) only [q_o13, q_o25, q_o37, q_ix, q_cl]
      rw [nI_1]
      cases bq with
      | false => simp [cb]
      | true =>
        rw [if_neg (show ¬ (if true = true then (1 : Int32) else 0) = 0 by decide)]
        by_cases c0 : m (37 + i) = 0
        · rcases q_und2 h hi with e | ⟨u, hu, e⟩
          · simp [c0, e, cb]
          · rw [if_pos c0, e, if_neg (nI_pos (by omega)), q_o37, q_ix _ (by omega) (by omega), q_cl (by omega), q_cl (by omega)]
            simp only [q_bit1 (nI k) (show u < 32 by omega), bt_nI k (show u < 32 by omega)]
            have hneg : ¬ nI u < 0 := nI_pos (by omega)
            by_cases c1 : m (37 + u) = 1
            · simp [c0, c1, cb, hneg]
            · by_cases c2 : k.testBit u = true <;> simp [c0, c1, c2, cb, hneg]
        · simp [c0, cb]
    · simp [cb, nI_1]) (by
    show lb_X9_findFloat_264 m (nI k) _ _ _ (nI (s_nt m)) = _
    unfold lb_X9_findFloat_264
    rw [e10, q_ifle _ _ (Nat.le_refl _) (by omega)]; rfl) (by omega)
  have h0 : ((if q_all (s_okt m k) 0 = true then (1 : Int32) else 0), T + q_sum (fun t => if k.testBit t = true then m (13 + t) else 0) 0, nI (fb_ct (fun t => k.testBit t) 0), nI 0) = (1, T, 0, 0) := by
    show ((1 : Int32), T + 0, nI 0, nI 0) = _
    rw [Int32.add_zero]; rfl
  rw [← h0]; exact this
/-! ===== the first HOUR in which she floats ===== -/
def s_flo (ru td : Nat → Int32) (all : Int32) (o : Nat) : Bool := decide (¬ all < ru 2) && decide (¬ td (min o 95) < all / 20 + ru 0)
theorem y_floats (ru td : Nat → Int32) (all : Int32) {o : Nat} (ho : o < 1000) : p_X9_floats ru td (nI o) all = some (if s_flo ru td all o = true then 1 else 0) := by
  unfold p_X9_floats s_flo
  rw [y_tideIn td ho, q_b1]
  by_cases c1 : all < ru 2
  · simp [c1]
  · by_cases c2 : td (min o 95) < all / 20 + ru 0 <;> simp [c1, c2]
def s_fh (ru td : Nat → Int32) (all : Int32) (fr : Nat) : Option Nat := q_find (fun d => if s_flo ru td all (fr + d) = true then some (fr + d) else none) (96 - fr)
theorem s_fh_lt {ru td : Nat → Int32} {all : Int32} {fr o : Nat} (h : s_fh ru td all fr = some o) : fr ≤ o ∧ o < 96 ∧ s_flo ru td all o = true ∧ ∀ j, fr ≤ j → j < o → s_flo ru td all j = false := by
  obtain ⟨d, hd, h1, h2⟩ := q_find_some.mp h
  by_cases c : s_flo ru td all (fr + d) = true
  · rw [if_pos c] at h1
    cases h1
    refine ⟨by omega, by omega, c, fun j hj1 hj2 => ?_⟩
    have := h2 (j - fr) (by omega)
    rw [show fr + (j - fr) = j from by omega] at this
    cases hb : s_flo ru td all j with
    | false => rfl
    | true => rw [hb] at this; cases this
  · rw [if_neg c] at h1; cases h1
theorem s_fh_no {ru td : Nat → Int32} {all : Int32} {fr : Nat} (h : s_fh ru td all fr = none) : ∀ j, fr ≤ j → j < 96 → s_flo ru td all j = false := by
  intro j h1 h2
  have := q_find_none.mp h (j - fr) (by omega)
  rw [show fr + (j - fr) = j from by omega] at this
  cases hb : s_flo ru td all j with
  | false => rfl
  | true => rw [hb] at this; cases this
/-- the better of what stands and one more -/
def s_up (b : Nat × Nat) (k : Nat) : Option Nat → Nat × Nat
  | none => b
  | some o => if o < b.1 then (o, k) else b
theorem s_up_some (b : Nat × Nat) (k o : Nat) : s_up b k (some o) = if o < b.1 then (o, k) else b := rfl
theorem y_hours {ru td : Nat → Int32} {all ls0 : Int32} {k fr : Nat} (hfr : fr ≤ 200) {b : Nat × Nat} (hb : b.1 ≤ 96) : k_lp (fun s : Int32 × Int32 × Int32 × Int32 => lb_X9_findFloat_405 1 ru td all (nI k) s.1 s.2.1 s.2.2.1 s.2.2.2) k_fuel (nI fr, 0, (if b.1 = 96 then -4 else nI b.1), (if b.1 = 96 then ls0 else nI b.2)) = some ((if (s_up b k (s_fh ru td all fr)).1 = 96 then -4 else nI (s_up b k (s_fh ru td all fr)).1), (if (s_up b k (s_fh ru td all fr)).1 = 96 then ls0 else nI (s_up b k (s_fh ru td all fr)).2)) := by
  have stop : ∀ o x y : Int32, (96 ≤ o ∨ True) → lb_X9_findFloat_405 1 ru td all (nI k) o 1 x y = some (.inr (x, y)) := by
    intro o x y _
    unfold lb_X9_findFloat_405
    by_cases c : 96 ≤ o
    · rw [if_pos c]
    · rw [if_neg c, if_neg (by decide), if_neg (by decide)]
  have none' : ∀ o : Nat, o < 96 → s_flo ru td all o = false → ∀ x y : Int32, lb_X9_findFloat_405 1 ru td all (nI k) (nI o) 0 x y = some (.inl (nI (o + 1), 0, x, y)) := by
    intro o ho hf x y
    unfold lb_X9_findFloat_405 lj_X9_findFloat_466
    rw [if_neg (show ¬ (96 : Int32) ≤ nI o from nI_ge (b := 96) ho (by omega)), if_neg (by decide), if_pos rfl, y_floats ru td all (by omega), q_b1, hf, nI_1]; rfl
  have yes' : ∀ o : Nat, o < 96 → s_flo ru td all o = true → lb_X9_findFloat_405 1 ru td all (nI k) (nI o) 0 (if b.1 = 96 then -4 else nI b.1) (if b.1 = 96 then ls0 else nI b.2) = some (.inl (nI (o + 1), 1, (if (s_up b k (some o)).1 = 96 then -4 else nI (s_up b k (some o)).1), (if (s_up b k (some o)).1 = 96 then ls0 else nI (s_up b k (some o)).2))) := by
    intro o ho hf
    rw [s_up_some]
    unfold lb_X9_findFloat_405 lj_X9_findFloat_466
    rw [if_neg (show ¬ (96 : Int32) ≤ nI o from nI_ge (b := 96) ho (by omega)), if_neg (by decide), if_pos rfl, y_floats ru td all (by omega), q_b1, hf, nI_1, if_neg (by decide)]
    by_cases c96 : b.1 = 96
    · rw [if_pos c96, if_pos rfl, if_pos (show o < b.1 by omega)]
      simp only [if_neg (show ¬ o = 96 by omega)]
    · have hne : ¬ nI b.1 = -4 := by
        intro e
        have := congrArg Int32.toInt e
        rw [q_ti (by omega), show (-4 : Int32).toInt = -4 from by decide] at this
        omega
      rw [if_neg c96, if_neg hne]
      by_cases c : b.1 ≤ o
      · rw [if_pos (nI_le c (by omega)), if_neg (show ¬ o < b.1 by omega), if_neg c96, if_neg c96]
      · rw [if_neg (nI_ge (by omega) (by omega)), if_pos (show o < b.1 by omega)]
        simp only [if_neg (show ¬ o = 96 by omega)]
  have gen : ∀ d o F : Nat, o + d = 96 → d + 2 < F → fr ≤ o → (∀ j, fr ≤ j → j < o → s_flo ru td all j = false) → k_lp (fun s : Int32 × Int32 × Int32 × Int32 => lb_X9_findFloat_405 1 ru td all (nI k) s.1 s.2.1 s.2.2.1 s.2.2.2) F (nI o, 0, (if b.1 = 96 then -4 else nI b.1), (if b.1 = 96 then ls0 else nI b.2)) = some ((if (s_up b k (s_fh ru td all fr)).1 = 96 then -4 else nI (s_up b k (s_fh ru td all fr)).1), (if (s_up b k (s_fh ru td all fr)).1 = 96 then ls0 else nI (s_up b k (s_fh ru td all fr)).2)) := by
    intro d
    induction d with
    | zero =>
      intro o F h1 h2 h3 h4
      obtain ⟨F, rfl⟩ : ∃ f, F = f + 1 := ⟨F - 1, by omega⟩
      have e : s_fh ru td all fr = none := by
        unfold s_fh
        rw [q_find_none]
        intro j hj
        rw [h4 (fr + j) (by omega) (by omega)]; rfl
      rw [e]
      unfold k_lp
      have : lb_X9_findFloat_405 1 ru td all (nI k) (nI o) 0 (if b.1 = 96 then -4 else nI b.1) (if b.1 = 96 then ls0 else nI b.2) = some (.inr ((if b.1 = 96 then -4 else nI b.1), (if b.1 = 96 then ls0 else nI b.2))) := by
        unfold lb_X9_findFloat_405
        rw [show o = 96 from by omega, if_pos (by decide)]
      rw [this]; rfl
    | succ d ih =>
      intro o F h1 h2 h3 h4
      obtain ⟨F, rfl⟩ : ∃ f, F = f + 1 := ⟨F - 1, by omega⟩
      cases hf : s_flo ru td all o with
      | false =>
        unfold k_lp
        rw [none' o (by omega) hf]
        exact ih (o + 1) F (by omega) (by omega) (by omega) (fun j h5 h6 => by
          by_cases e : j = o
          · subst e; exact hf
          · exact h4 j h5 (by omega))
      | true =>
        have e : s_fh ru td all fr = some o := by
          unfold s_fh
          rw [q_find_some]
          refine ⟨o - fr, by omega, ?_, fun j hj => ?_⟩
          · rw [show fr + (o - fr) = o from by omega, hf]; rfl
          · rw [h4 (fr + j) (by omega) (by omega)]; rfl
        rw [e]
        unfold k_lp
        rw [yes' o (by omega) hf]
        obtain ⟨F, rfl⟩ : ∃ f, F = f + 1 := ⟨F - 1, by omega⟩
        show k_lp (fun s : Int32 × Int32 × Int32 × Int32 => lb_X9_findFloat_405 1 ru td all (nI k) s.1 s.2.1 s.2.2.1 s.2.2.2) (F + 1) _ = _
        unfold k_lp
        rw [stop _ _ _ (Or.inr trivial)]
  by_cases c : fr ≤ 96
  · exact gen (96 - fr) fr k_fuel (by omega) (by show _ < 100000; omega) (Nat.le_refl _) (fun j h1 h2 => by omega)
  · have e : s_fh ru td all fr = none := by
      unfold s_fh
      rw [show 96 - fr = 0 from by omega]; rfl
    rw [e]
    show k_lp _ (99999 + 1) _ = _
    unfold k_lp
    have : lb_X9_findFloat_405 1 ru td all (nI k) (nI fr) 0 (if b.1 = 96 then -4 else nI b.1) (if b.1 = 96 then ls0 else nI b.2) = some (.inr ((if b.1 = 96 then -4 else nI b.1), (if b.1 = 96 then ls0 else nI b.2))) := by
      unfold lb_X9_findFloat_405
      rw [if_pos (show (96 : Int32) ≤ nI fr from nI_le (a := 96) (by omega) (by omega))]
    rw [this]; rfl
/-- the class's first hour, against what stands -/
theorem x_first2 {ru ru' td : Nat → Int32} {all th0 : Int32} {k fr : Nat} (hfr : fr ≤ 200) (h0 : ru' 0 = ru 0) (h2 : ru' 2 = ru 2) {b : Nat × Nat} (hb : b.1 ≤ 96) : (k_b1 (p_X0_firstHour (nI b.1) ru' td all (nI fr)) fun r35 => p_X0_takeIfSooner (nI b.1) (if b.1 = 96 then th0 else nI b.2) (nI k) r35) = some (nI (s_up b k (s_fh ru td all fr)).1, (if (s_up b k (s_fh ru td all fr)).1 = 96 then th0 else nI (s_up b k (s_fh ru td all fr)).2)) := by
  have take : ∀ o : Nat, o ≤ 1000 → p_X0_takeIfSooner (nI b.1) (if b.1 = 96 then th0 else nI b.2) (nI k) (nI o) = some (if o < b.1 then (nI o, nI k) else (nI b.1, (if b.1 = 96 then th0 else nI b.2))) := by
    intro o ho
    unfold p_X0_takeIfSooner
    by_cases c : b.1 ≤ o
    · rw [if_pos (nI_le c (by omega)), if_neg (show ¬ o < b.1 by omega)]
    · rw [if_neg (nI_ge (by omega) (by omega)), if_pos (show o < b.1 by omega)]
  unfold p_X0_firstHour p_X5_tideNeeded p_X8_draught
  rw [h0, h2, q_b1]
  by_cases cb : ru 2 ≤ all
  · rw [if_pos cb, q_b1]
    have nlt : ¬ all < ru 2 := fun hh => absurd cb (q_nle.mpr hh)
    have fl : ∀ o, s_flo ru td all o = decide (¬ td (min o 95) < all / 20 + ru 0) := fun o => by unfold s_flo; simp [nlt]
    have gen : ∀ d o F : Nat, o + d = max fr b.1 → d < F → fr ≤ o → (∀ j, fr ≤ j → j < o → s_flo ru td all j = false) → ∃ q : Nat, k_lp (fun s : Int32 => lb_X0_firstHour_23 (nI b.1) td (all / 20 + ru 0) s) F (nI o) = some (nI q) ∧ fr ≤ q ∧ (∀ j, fr ≤ j → j < q → s_flo ru td all j = false) ∧ (b.1 ≤ q ∨ s_flo ru td all q = true) ∧ q ≤ max fr b.1 := by
      intro d
      induction d with
      | zero =>
        intro o F h1 h2 h3 h4
        obtain ⟨F, rfl⟩ : ∃ f, F = f + 1 := ⟨F - 1, by omega⟩
        refine ⟨o, ?_, h3, h4, Or.inl (by omega), by omega⟩
        unfold k_lp lb_X0_firstHour_23
        rw [if_pos (nI_le (by omega) (by omega))]
      | succ d ih =>
        intro o F h1 h2 h3 h4
        obtain ⟨F, rfl⟩ : ∃ f, F = f + 1 := ⟨F - 1, by omega⟩
        by_cases c : b.1 ≤ o
        · refine ⟨o, ?_, h3, h4, Or.inl c, by omega⟩
          unfold k_lp lb_X0_firstHour_23
          rw [if_pos (nI_le c (by omega))]
        · cases hf : s_flo ru td all o with
          | true =>
            refine ⟨o, ?_, h3, h4, Or.inr hf, by omega⟩
            rw [fl] at hf
            unfold k_lp lb_X0_firstHour_23
            rw [if_neg (nI_ge (by omega) (by omega)), x_tideIn td (by omega), q_b1, if_pos (q_nlt.mp (of_decide_eq_true hf))]
          | false =>
            obtain ⟨q, q1, q2⟩ := ih (o + 1) F (by omega) (by omega) (by omega) (fun j h5 h6 => by
              by_cases e : j = o
              · subst e; exact hf
              · exact h4 j h5 (by omega))
            refine ⟨q, ?_, q2⟩
            rw [fl] at hf
            have hlt : td (min o 95) < all / 20 + ru 0 := Classical.byContradiction fun hh => by
              rw [decide_eq_true hh] at hf; cases hf
            have st : lb_X0_firstHour_23 (nI b.1) td (all / 20 + ru 0) (nI o) = some (.inl (nI (o + 1))) := by
              unfold lb_X0_firstHour_23
              rw [if_neg (nI_ge (by omega) (by omega)), x_tideIn td (by omega), q_b1, if_neg (q_nle.mpr hlt), nI_1]
            unfold k_lp
            rw [st]
            exact q1
    obtain ⟨q, q1, q2, q3, q4, q5⟩ := gen (max fr b.1 - fr) fr k_fuel (by omega) (by show _ < 100000; omega) (Nat.le_refl _) (fun j h1 h2 => by omega)
    rw [q1, q_b1, q_b1, take q (by omega)]
    cases hs : s_fh ru td all fr with
    | none =>
      have no := s_fh_no hs
      have : ¬ q < b.1 := fun hh => by
        rcases q4 with h4 | h4
        · omega
        · rw [no q q2 (by omega)] at h4; cases h4
      rw [if_neg this]; rfl
    | some o =>
      obtain ⟨o1, o2, o3, o4⟩ := s_fh_lt hs
      rw [s_up_some]
      by_cases c : o < b.1
      · have e : q = o := by
          rcases Nat.lt_trichotomy q o with h | h | h
          · rcases q4 with h4 | h4
            · omega
            · rw [o4 q q2 h] at h4; cases h4
          · exact h
          · rw [q3 o o1 h] at o3; cases o3
        rw [e, if_pos c, if_pos c]
        simp only [if_neg (show ¬ o = 96 by omega)]
      · have : ¬ q < b.1 := fun hh => by
          rcases q4 with h4 | h4
          · omega
          · rcases Nat.lt_or_ge q o with h | h
            · rw [o4 q q2 h] at h4; cases h4
            · omega
        rw [if_neg this, if_neg c]
  · rw [if_neg cb, q_b1]
    have e : s_fh ru td all fr = none := by
      unfold s_fh
      rw [q_find_none]
      intro j hj
      have : s_flo ru td all (fr + j) = false := by unfold s_flo; simp [q_nle.mp cb]
      rw [this]; rfl
    rw [e, show (96 : Int32) = nI 96 from rfl, take 96 (by omega), if_neg (show ¬ 96 < b.1 by omega)]; rfl
end
section
/-! ===== the best set ===== -/
def s_fr (m : Nat → Int32) (o U k : Nat) : Nat := max (o + s_cn m k) U
def s_res (m ru td : Nat → Int32) (o U k : Nat) : Option Nat := if s_ok2 m k = true then s_fh ru td (s_total m ru + s_ws m k) (s_fr m o U k) else none
def s_best (m ru td : Nat → Int32) (o U : Nat) : Nat → Nat × Nat
  | 0 => (96, 0)
  | k + 1 => s_up (s_best m ru td o U k) k (s_res m ru td o U k)
theorem s_best_le (m ru td : Nat → Int32) (o U : Nat) : ∀ k, (s_best m ru td o U k).1 ≤ 96 ∧ (s_best m ru td o U k).2 ≤ k
  | 0 => ⟨Nat.le_refl _, Nat.le_refl _⟩
  | k + 1 => by
    have ih := s_best_le m ru td o U k
    unfold s_best
    cases hr : s_res m ru td o U k with
    | none => exact ⟨ih.1, by have := ih.2; show (s_best m ru td o U k).2 ≤ k + 1; omega⟩
    | some q =>
      rw [s_up_some]
      by_cases c : q < (s_best m ru td o U k).1
      · rw [if_pos c]; exact ⟨by show q ≤ 96; omega, by show k ≤ k + 1; omega⟩
      · rw [if_neg c]; exact ⟨ih.1, by have := ih.2; omega⟩
theorem s_best_skip {m ru td : Nat → Int32} {o U a : Nat} : ∀ d : Nat, (∀ t, a ≤ t → t < a + d → s_ok2 m t = false) → s_best m ru td o U (a + d) = s_best m ru td o U a
  | 0, _ => rfl
  | d + 1, h => by
    have ih := s_best_skip (m := m) (ru := ru) (td := td) (o := o) (U := U) (a := a) d (fun t h1 h2 => h t h1 (by omega))
    show s_up (s_best m ru td o U (a + d)) (a + d) (s_res m ru td o U (a + d)) = _
    have : s_res m ru td o U (a + d) = none := by
      unfold s_res; rw [h (a + d) (by omega) (by omega)]; rfl
    rw [this, ih]; rfl
theorem s_cn_le {m : Nat → Int32} (h : k_Rng m) (k : Nat) : s_cn m k ≤ 12 := Nat.le_trans (fb_ct_le _ _) (s_nt_e h).2.1
theorem s_up_res {m ru td : Nat → Int32} {o U k : Nat} {b : Nat × Nat} (h : s_ok2 m k = false) : s_up b k (s_res m ru td o U k) = b := by
  unfold s_res; rw [h]; rfl
theorem y_best {m ru td : Nat → Int32} (h : k_Inv m) {o U : Nat} (ho : o ≤ 96) (hU : U ≤ 110) {t74 ls0 : Int32} {fnow c67 : Nat → Int32} (hn0 : fnow 0 = nI o) (hU0 : c67 0 + t74 = nI U) : k_lp (fun s : Int32 × Int32 × Int32 => lb_X9_findFloat_231 m 1 ru fnow c67 t74 td s.1 s.2.1 s.2.2) k_fuel (0, (-4), ls0) = some ((if (s_best m ru td o U (2 ^ s_nt m)).1 = 96 then -4 else nI (s_best m ru td o U (2 ^ s_nt m)).1), (if (s_best m ru td o U (2 ^ s_nt m)).1 = 96 then ls0 else nI (s_best m ru td o U (2 ^ s_nt m)).2)) := by
  obtain ⟨e10, hn, -⟩ := s_nt_e h.1
  have hp : 2 ^ s_nt m ≤ 2 ^ 12 := Nat.pow_le_pow_right (by omega) hn
  have h12 : (2 : Nat) ^ 12 = 4096 := by decide
  refine q_run (body := fun s : Int32 × Int32 × Int32 => lb_X9_findFloat_231 m 1 ru fnow c67 t74 td s.1 s.2.1 s.2.2) (fun k => (nI k, (if (s_best m ru td o U k).1 = 96 then -4 else nI (s_best m ru td o U k).1), (if (s_best m ru td o U k).1 = 96 then ls0 else nI (s_best m ru td o U k).2))) _ (2 ^ s_nt m) (fun k hk => ?_) ?_ (by omega)
  · show lb_X9_findFloat_231 m 1 ru fnow c67 t74 td (nI k) (if (s_best m ru td o U k).1 = 96 then -4 else nI (s_best m ru td o U k).1) (if (s_best m ru td o U k).1 = 96 then ls0 else nI (s_best m ru td o U k).2) = some (.inl (nI (k + 1), (if (s_up (s_best m ru td o U k) k (s_res m ru td o U k)).1 = 96 then -4 else nI (s_up (s_best m ru td o U k) k (s_res m ru td o U k)).1), (if (s_up (s_best m ru td o U k) k (s_res m ru td o U k)).1 = 96 then ls0 else nI (s_up (s_best m ru td o U k) k (s_res m ru td o U k)).2)))
    have hb := (s_best_le m ru td o U k).1
    have hcn := s_cn_le h.1 k
    have lj : ∀ x5 : Int32, ∀ fr : Nat, fr ≤ 200 → lj_X9_findFloat_396 x5 ru td (s_total m ru + s_ws m k) (nI k) (if (s_best m ru td o U k).1 = 96 then -4 else nI (s_best m ru td o U k).1) (if (s_best m ru td o U k).1 = 96 then ls0 else nI (s_best m ru td o U k).2) (nI fr) = if x5 = 0 then some (.inl (nI (k + 1), (if (s_best m ru td o U k).1 = 96 then -4 else nI (s_best m ru td o U k).1), (if (s_best m ru td o U k).1 = 96 then ls0 else nI (s_best m ru td o U k).2))) else if x5 = 1 then some (.inl (nI (k + 1), (if (s_up (s_best m ru td o U k) k (s_fh ru td (s_total m ru + s_ws m k) fr)).1 = 96 then -4 else nI (s_up (s_best m ru td o U k) k (s_fh ru td (s_total m ru + s_ws m k) fr)).1), (if (s_up (s_best m ru td o U k) k (s_fh ru td (s_total m ru + s_ws m k) fr)).1 = 96 then ls0 else nI (s_up (s_best m ru td o U k) k (s_fh ru td (s_total m ru + s_ws m k) fr)).2))) else lj_X9_findFloat_396 x5 ru td (s_total m ru + s_ws m k) (nI k) (if (s_best m ru td o U k).1 = 96 then -4 else nI (s_best m ru td o U k).1) (if (s_best m ru td o U k).1 = 96 then ls0 else nI (s_best m ru td o U k).2) (nI fr) := by
      intro x5 fr hfr
      by_cases c0 : x5 = 0
      · subst c0
        rw [if_pos rfl]
        unfold lj_X9_findFloat_396
        have : k_lp (fun s : Int32 × Int32 × Int32 × Int32 => lb_X9_findFloat_405 0 ru td (s_total m ru + s_ws m k) (nI k) s.1 s.2.1 s.2.2.1 s.2.2.2) k_fuel (nI fr, 0, (if (s_best m ru td o U k).1 = 96 then -4 else nI (s_best m ru td o U k).1), (if (s_best m ru td o U k).1 = 96 then ls0 else nI (s_best m ru td o U k).2)) = some ((if (s_best m ru td o U k).1 = 96 then -4 else nI (s_best m ru td o U k).1), (if (s_best m ru td o U k).1 = 96 then ls0 else nI (s_best m ru td o U k).2)) := by
          refine q_run (body := fun s : Int32 × Int32 × Int32 × Int32 => lb_X9_findFloat_405 0 ru td (s_total m ru + s_ws m k) (nI k) s.1 s.2.1 s.2.2.1 s.2.2.2) (fun _ => (nI fr, 0, (if (s_best m ru td o U k).1 = 96 then -4 else nI (s_best m ru td o U k).1), (if (s_best m ru td o U k).1 = 96 then ls0 else nI (s_best m ru td o U k).2))) _ 0 (fun j hj => absurd hj (by omega)) ?_ (by omega)
          show lb_X9_findFloat_405 0 ru td (s_total m ru + s_ws m k) (nI k) (nI fr) 0 _ _ = _
          unfold lb_X9_findFloat_405
          by_cases c : (96 : Int32) ≤ nI fr
          · rw [if_pos c]
          · rw [if_neg c, if_pos rfl]
        rw [this, q_b2, nI_1]
      · rw [if_neg c0]
        by_cases c1 : x5 = 1
        · subst c1
          rw [if_pos rfl]
          unfold lj_X9_findFloat_396
          rw [y_hours hfr hb, q_b2, nI_1]
        · rw [if_neg c1]
    unfold lb_X9_findFloat_231
    rw [e10, q_one _ (by omega), q_ifge _ _ hk (by omega), if_neg (by decide), y_total h.1, q_b1, y_set h (by omega), q_b3, hn0, hU0, nI_add]
    have fin : ∀ fr : Nat, fr = s_fr m o U k → lj_X9_findFloat_396 (if s_ok2 m k = true then 1 else 0) ru td (s_total m ru + s_ws m k) (nI k) (if (s_best m ru td o U k).1 = 96 then -4 else nI (s_best m ru td o U k).1) (if (s_best m ru td o U k).1 = 96 then ls0 else nI (s_best m ru td o U k).2) (nI fr) = some (.inl (nI (k + 1), (if (s_up (s_best m ru td o U k) k (s_res m ru td o U k)).1 = 96 then -4 else nI (s_up (s_best m ru td o U k) k (s_res m ru td o U k)).1), (if (s_up (s_best m ru td o U k) k (s_res m ru td o U k)).1 = 96 then ls0 else nI (s_up (s_best m ru td o U k) k (s_res m ru td o U k)).2))) := by
      intro fr hfr
      have hfr2 : fr ≤ 200 := by rw [hfr]; unfold s_fr; omega
      rw [lj _ fr hfr2]
      unfold s_res
      cases hok : s_ok2 m k with
      | true => rw [if_neg (show ¬ (if true = true then (1 : Int32) else 0) = 0 by decide), if_pos (show (if true = true then (1 : Int32) else 0) = 1 by decide), if_pos rfl, hfr]
      | false => rw [if_pos (show (if false = true then (1 : Int32) else 0) = 0 by decide), if_neg (show ¬ false = true by decide)]; rfl
    by_cases c : o + s_cn m k ≤ U
    · rw [if_pos (nI_le c (by omega))]
      exact fin U (by unfold s_fr; omega)
    · rw [if_neg (nI_ge (by omega) (by omega))]
      exact fin (o + s_cn m k) (by unfold s_fr; omega)
  · show lb_X9_findFloat_231 m 1 ru fnow c67 t74 td (nI (2 ^ s_nt m)) _ _ = _
    unfold lb_X9_findFloat_231
    rw [e10, q_one _ (by omega), q_ifle _ _ (Nat.le_refl _) (by omega)]
/-! ===== the class walks the subsets of those that are OUT ===== -/
def s_po (m : Nat → Int32) (i : Nat) : Bool := decide (m (37 + i) = 0)
theorem k_out_all {m : Nat → Int32} (h : k_Rng m) : nI (k_out m) = nI (d_all (s_nt m) (s_po m)) := by
  have hn := (s_nt_e h).2.1
  refine (k_out_of h fun i hi => ?_).symm
  rw [bt_nI _ hi, d_all_tb]; rfl
theorem s_ok2_sub {m : Nat → Int32} {t : Nat} (h : s_ok2 m t = true) (ht : t < 2 ^ s_nt m) : ∀ j, t.testBit j = true → s_po m j = true := by
  intro j hj
  have hjn : j < s_nt m := Classical.byContradiction fun hh => by
    have : t < 2 ^ j := Nat.lt_of_lt_of_le ht (Nat.pow_le_pow_right (by omega) (by omega))
    rw [Nat.testBit_lt_two_pow this] at hj; cases hj
  have := q_all_iff.mp h j hjn
  unfold s_okt at this
  rw [hj] at this
  unfold s_po
  cases hd : decide (m (37 + j) = 0) with
  | true => rfl
  | false => rw [hd] at this; cases this
theorem d_dep_lt {n i : Nat} {p : Nat → Bool} : d_dep n p i < 2 ^ n := Nat.lt_of_le_of_lt (d_dep_le n p i) (d_all_lt n p)
theorem x_mayIn2 {m un : Nat → Int32} (h : k_Inv m) (hu : ∀ i, i < 12 → un i = m (25 + i)) {k : Nat} (hk : k < 2 ^ s_nt m) (hs : ∀ j, k.testBit j = true → s_po m j = true) : p_X7_mayComeIn (nI (k_out m)) (nI (s_nt m)) un (nI k) = some (if s_ok2 m k = true then 1 else 0) := by
  obtain ⟨e10, hn, -⟩ := s_nt_e h.1
  rw [x_mayIn hn _ _ (fun i hi => by rw [hu i (by omega)]; exact q_und2 h hi)]
  have iff : (∀ i, i < s_nt m → bt (nI k) i = true → ∀ j, j < s_nt m → un i = nI j → ¬ (bt (nI (k_out m)) j = true ∧ bt (nI k) j = false)) ↔ s_ok2 m k = true := by
    unfold s_ok2
    rw [q_all_iff]
    constructor
    · intro hA i hi
      unfold s_okt
      cases hb : k.testBit i with
      | false => rfl
      | true =>
        have h0 : m (37 + i) = 0 := of_decide_eq_true (hs i hb)
        rcases q_und2 h hi with e | ⟨u, hu2, e⟩
        · rw [e, h0]; rfl
        · have := hA i hi (by rw [bt_nI _ (by omega)]; exact hb) u hu2 (by rw [hu i (by omega), e])
          rw [k_out_bt h.1 (by omega), bt_nI _ (by omega), decide_eq_true hu2, Bool.true_and] at this
          rw [e, h0, q_cl (by omega)]
          have hneg : ¬ nI u < 0 := nI_pos (by omega)
          by_cases c : m (37 + u) = 0
          · cases hku : k.testBit u with
            | true => simp
            | false => exact absurd ⟨decide_eq_true c, hku⟩ this
          · have c1 : m (37 + u) = 1 := by
              rcases q_01 (rg_in h.1 (i := u) (by omega)) with z | z
              · exact absurd z c
              · exact z
            simp [c1]
    · intro hA i hi hb j hj e
      rw [bt_nI _ (by omega)] at hb
      rw [hu i (by omega)] at e
      rintro ⟨g1, g2⟩
      rw [k_out_bt h.1 (by omega), decide_eq_true hj, Bool.true_and] at g1
      rw [bt_nI _ (by omega)] at g2
      have := hA i hi
      unfold s_okt at this
      have g1' : m (37 + j) = 0 := of_decide_eq_true g1
      rw [hb, e, q_cl (by omega), g2, g1'] at this
      have hneg : ¬ nI j < 0 := nI_pos (by omega)
      simp [hneg] at this
  by_cases c : s_ok2 m k = true
  · rw [if_pos (iff.mpr c), if_pos c]
  · rw [if_neg (fun hh => c (iff.mp hh)), if_neg c]
theorem x_best {m ru ru' td wt un : Nat → Int32} {ot ts th0 : Int32} (h : k_Inv m) (hrl : R_rl ru' ru) (h0 : ru' 0 = ru 0) (h2 : ru' 2 = ru 2) (hot : ot = nI (k_out m)) (hts : ts = m 10) (hth : ∀ i, i < 12 → wt i = m (13 + i) ∧ un i = m (25 + i)) (h8 : fb_ct (s_po m) (s_nt m) ≤ 8) {o U : Nat} (ho : o ≤ 96) (hU : U ≤ 110) : p_X0_findLeast th0 (nI o) ru' ot ts wt un td (nI U) = some (nI (s_best m ru td o U (2 ^ s_nt m)).1, (if (s_best m ru td o U (2 ^ s_nt m)).1 = 96 then th0 else nI (s_best m ru td o U (2 ^ s_nt m)).2)) := by
  obtain ⟨e10, hn, -⟩ := s_nt_e h.1
  have hp : 2 ^ s_nt m ≤ 2 ^ 12 := Nat.pow_le_pow_right (by omega) hn
  have h12 : (2 : Nat) ^ 12 = 4096 := by decide
  have hc : d_cnt (s_nt m) (s_po m) = fb_ct (s_po m) (s_nt m) := d_cnt_ct _ _
  have hbc : p_J6_bitCount_0f7a4 (nI (k_out m)) = some (nI (d_cnt (s_nt m) (s_po m))) := by rw [hc]; exact x_outs h.1
  have h28 : 2 ^ d_cnt (s_nt m) (s_po m) ≤ 2 ^ 8 := Nat.pow_le_pow_right (by omega) (by omega)
  have h256 : (2 : Nat) ^ 8 = 256 := by decide
  have hpos := Nat.two_pow_pos (d_cnt (s_nt m) (s_po m))
  have hsets : (1 : Int32) <<< ((if (8 : Int32) < nI (d_cnt (s_nt m) (s_po m)) then 8 else nI (d_cnt (s_nt m) (s_po m))) &&& 31) = nI (2 ^ d_cnt (s_nt m) (s_po m)) := by
    rw [if_neg (show ¬ (8 : Int32) < nI (d_cnt (s_nt m) (s_po m)) from nI_nlt (a := 8) (by omega) (by omega)), q_one _ (by omega)]
  -- B i : how many sets are behind
  have key : ∃ e, k_lp (fun s : Int32 × Int32 × Int32 × Int32 => lb_X0_findLeast_40 (nI (d_cnt (s_nt m) (s_po m))) ot ts un wt ru' td (s_total m ru) (nI U) (nI o) s.1 s.2.1 s.2.2.1 s.2.2.2) k_fuel (0, 0, 96, th0) = some e ∧ e = (nI (s_best m ru td o U (2 ^ s_nt m)).1, (if (s_best m ru td o U (2 ^ s_nt m)).1 = 96 then th0 else nI (s_best m ru td o U (2 ^ s_nt m)).2)) := by
    refine q_lpI (body := fun s : Int32 × Int32 × Int32 × Int32 => lb_X0_findLeast_40 (nI (d_cnt (s_nt m) (s_po m))) ot ts un wt ru' td (s_total m ru) (nI U) (nI o) s.1 s.2.1 s.2.2.1 s.2.2.2) (fun i s => s.2.1 = nI i ∧ (i < 2 ^ d_cnt (s_nt m) (s_po m) → s.1 = nI (d_dep (s_nt m) (s_po m) i)) ∧ s.2.2 = (nI (s_best m ru td o U (if i < 2 ^ d_cnt (s_nt m) (s_po m) then d_dep (s_nt m) (s_po m) i else 2 ^ s_nt m)).1, (if (s_best m ru td o U (if i < 2 ^ d_cnt (s_nt m) (s_po m) then d_dep (s_nt m) (s_po m) i else 2 ^ s_nt m)).1 = 96 then th0 else nI (s_best m ru td o U (if i < 2 ^ d_cnt (s_nt m) (s_po m) then d_dep (s_nt m) (s_po m) i else 2 ^ s_nt m)).2))) (fun e => e = (nI (s_best m ru td o U (2 ^ s_nt m)).1, (if (s_best m ru td o U (2 ^ s_nt m)).1 = 96 then th0 else nI (s_best m ru td o U (2 ^ s_nt m)).2))) (2 ^ d_cnt (s_nt m) (s_po m)) (fun i s hi hs => ?_) (fun s hs => ?_) (0, 0, 96, th0) ⟨rfl, fun _ => by rw [d_dep_0]; rfl, by rw [if_pos hpos, d_dep_0]; rfl⟩ (by omega)
    · obtain ⟨s1, s2, s34⟩ := s
      obtain ⟨q1, q2, q3⟩ := hs
      have q1' : s2 = nI i := q1
      have q2' : s1 = nI (d_dep (s_nt m) (s_po m) i) := q2 hi
      have q3' : s34 = (nI (s_best m ru td o U (d_dep (s_nt m) (s_po m) i)).1, (if (s_best m ru td o U (d_dep (s_nt m) (s_po m) i)).1 = 96 then th0 else nI (s_best m ru td o U (d_dep (s_nt m) (s_po m) i)).2)) := by
        have := q3
        rw [if_pos hi] at this
        exact this
      clear q1 q2 q3
      subst q1'; subst q2'; subst q3'
      generalize hk : d_dep (s_nt m) (s_po m) i = k
      have hk2 : k < 2 ^ s_nt m := by rw [← hk]; exact d_dep_lt
      have hsub : ∀ j, k.testBit j = true → s_po m j = true := fun j hj => by rw [← hk] at hj; exact (d_dep_sub _ _ _ _ hj).2
      have hb := (s_best_le m ru td o U k).1
      have hcn := s_cn_le h.1 k
      -- all sets between k and the next are none
      have gap : ∀ b, k < b → (∀ t, k < t → t < b → ¬ ∃ j, j < 2 ^ d_cnt (s_nt m) (s_po m) ∧ d_dep (s_nt m) (s_po m) j = t) → b ≤ 2 ^ s_nt m → s_best m ru td o U b = s_up (s_best m ru td o U k) k (s_res m ru td o U k) := by
        intro b hb1 hb2 hb3
        have := s_best_skip (m := m) (ru := ru) (td := td) (o := o) (U := U) (a := k + 1) (b - (k + 1)) (fun t t1 t2 => by
          cases hok : s_ok2 m t with
          | false => rfl
          | true =>
            exfalso
            exact hb2 t (by omega) (by omega) (d_surj _ _ _ (by omega) (s_ok2_sub hok (by omega))))
        rw [show k + 1 + (b - (k + 1)) = b from by omega] at this
        rw [this]; rfl
      have nextB : s_best m ru td o U (if i + 1 < 2 ^ d_cnt (s_nt m) (s_po m) then d_dep (s_nt m) (s_po m) (i + 1) else 2 ^ s_nt m) = s_up (s_best m ru td o U k) k (s_res m ru td o U k) := by
        by_cases c : i + 1 < 2 ^ d_cnt (s_nt m) (s_po m)
        · rw [if_pos c]
          refine gap _ (by rw [← hk]; exact d_mono _ _ _ _ (by omega) c) (fun t t1 t2 => ?_) (Nat.le_of_lt d_dep_lt)
          rintro ⟨j, j1, j2⟩
          rw [← hk, ← j2] at t1
          rw [← j2] at t2
          rcases Nat.lt_trichotomy j i with hh | hh | hh
          · have := d_mono _ _ _ _ hh hi; omega
          · rw [hh] at t1; omega
          · rcases Nat.lt_trichotomy j (i + 1) with h3 | h3 | h3
            · omega
            · rw [h3] at t2; omega
            · have := d_mono _ _ _ _ h3 j1; omega
        · rw [if_neg c]
          refine gap _ hk2 (fun t t1 t2 => ?_) (Nat.le_refl _)
          rintro ⟨j, j1, j2⟩
          rw [← hk, ← j2] at t1
          rcases Nat.lt_trichotomy j i with hh | hh | hh
          · have := d_mono _ _ _ _ hh hi; omega
          · rw [hh] at t1; omega
          · omega
      have nextS : i + 1 < 2 ^ d_cnt (s_nt m) (s_po m) → (nI k - ot) &&& ot = nI (d_dep (s_nt m) (s_po m) (i + 1)) := by
        intro c
        rw [hot, k_out_all h.1, ← hk]
        exact q_nextset hn c
      show ∃ X, lb_X0_findLeast_40 (nI (d_cnt (s_nt m) (s_po m))) ot ts un wt ru' td (s_total m ru) (nI U) (nI o) (nI k) (nI i) (nI (s_best m ru td o U k).1) (if (s_best m ru td o U k).1 = 96 then th0 else nI (s_best m ru td o U k).2) = some X ∧ _
      unfold lb_X0_findLeast_40
      rw [hsets, q_ifge _ _ hi (by omega), hts, e10]
      have may := x_mayIn2 h (fun i hi => (hth i hi).2) hk2 hsub
      rw [← hot] at may
      rw [may, q_b1, q_ifp]
      have cnt : p_J6_bitCount_0f7a4 (nI k) = some (nI (s_cn m k)) := q_bitCount hn (fun j hj => by
        rw [bt_nI _ hj]
        by_cases c : j < s_nt m
        · rw [decide_eq_true c, Bool.true_and]
        · rw [decide_eq_false c, Bool.false_and]
          exact Nat.testBit_lt_two_pow (Nat.lt_of_lt_of_le hk2 (Nat.pow_le_pow_right (by omega) (by omega))))
      have wgt : p_X7_weightOf (nI (s_nt m)) wt (nI k) = some (s_ws m k) := by
        rw [x_weightOf hn]
        unfold s_ws
        rw [q_sum_cong (f := fun i => if bt (nI k) i = true then wt i else 0) (g := fun t => if k.testBit t = true then m (13 + t) else 0) (fun j hj => by
          show (if bt (nI k) j = true then wt j else 0) = if k.testBit j = true then m (13 + j) else 0
          rw [bt_nI _ (by omega), (hth j (by omega)).1])]
      rw [cnt, wgt]
      simp only [q_b1]
      have hfr : (if nI U < nI o + nI (s_cn m k) then nI o + nI (s_cn m k) else nI U) = nI (s_fr m o U k) := by
        unfold s_fr
        rw [nI_add]
        by_cases c : U < o + s_cn m k
        · rw [if_pos (nI_lt c (by omega)), Nat.max_eq_left (by omega)]
        · rw [if_neg (nI_nlt (by omega) (by omega)), Nat.max_eq_right (by omega)]
      rw [hfr]
      have hfr2 : s_fr m o U k ≤ 200 := by unfold s_fr; omega
      cases hok : s_ok2 m k with
      | false =>
        rw [if_neg (show ¬ false = true by decide)]
        refine ⟨_, rfl, Or.inl ⟨_, rfl, nI_1 i, nextS, ?_⟩⟩
        show ((nI (s_best m ru td o U k).1, (if (s_best m ru td o U k).1 = 96 then th0 else nI (s_best m ru td o U k).2)) : Int32 × Int32) = _
        rw [nextB, s_up_res hok]
      | true =>
        rw [if_pos rfl]
        have xf := x_first2 (ru := ru) (ru' := ru') (td := td) (all := s_total m ru + s_ws m k) (th0 := th0) (k := k) hfr2 h0 h2 hb
        have hres : s_res m ru td o U k = s_fh ru td (s_total m ru + s_ws m k) (s_fr m o U k) := by unfold s_res; rw [hok]; rfl
        rw [← hres] at xf
        obtain ⟨r35, r1, r2⟩ := k_b1_some xf
        rw [r1, q_b1, r2, q_b2]
        refine ⟨_, rfl, Or.inl ⟨_, rfl, nI_1 i, nextS, ?_⟩⟩
        show ((nI (s_up (s_best m ru td o U k) k (s_res m ru td o U k)).1, (if (s_up (s_best m ru td o U k) k (s_res m ru td o U k)).1 = 96 then th0 else nI (s_up (s_best m ru td o U k) k (s_res m ru td o U k)).2)) : Int32 × Int32) = _
        rw [nextB]
    · obtain ⟨s1, s2, s34⟩ := s
      obtain ⟨q1, q2, q3⟩ := hs
      have q1' : s2 = nI (2 ^ d_cnt (s_nt m) (s_po m)) := q1
      have q3' := q3
      rw [if_neg (Nat.lt_irrefl _)] at q3'
      subst q1'
      refine ⟨s34, ?_, q3'⟩
      show lb_X0_findLeast_40 _ ot ts un wt ru' td (s_total m ru) (nI U) (nI o) s1 (nI (2 ^ d_cnt (s_nt m) (s_po m))) s34.1 s34.2 = _
      unfold lb_X0_findLeast_40
      rw [hsets, q_ifle _ _ (Nat.le_refl _) (by omega)]
  obtain ⟨e, k1, k2⟩ := key
  unfold p_X0_findLeast
  rw [x_total (ru := ru) h.1 hrl.1 hot hts (fun i hi => (hth i hi).1), q_b1, hot, hbc, q_b1, ← hot, k1, k2, q_b2]
end
section
/-! ===== the OPEN ones as ORDERS ===== -/
theorem xy_bits {c sta : Nat → Int32} {ss : Int32} (h : k_Rng c) (hs : ss = c 12) (h1 : ∀ i, i < 12 → sta i = c (145 + i)) : ∃ x, p_X3_bitsOf ss sta 1 = some x ∧ k_lp (fun s : Int32 × Int32 => lb_X9_findFloat_59 c s.1 s.2) k_fuel (0, 0) = some x ∧ (x = 0) = (s_st c 1 = 0) := by
  obtain ⟨e12, hn, -⟩ := s_ns_e h
  obtain ⟨x, x1, x2⟩ := x_bitsOf h hs h1 1
  have k1 : k_lp (fun s : Int32 × Int32 => lb_X3_bitsOf_4 ss sta 1 s.1 s.2) k_fuel (0, 0) = some (q_fold (s_orf c 1) 0 (s_ns c)) := by
    refine q_foldlp _ (s_ns c) 0 (fun i x hi => ?_) (fun x => ?_) (by omega)
    · show lb_X3_bitsOf_4 ss sta 1 x (nI i) = _
      unfold lb_X3_bitsOf_4
      rw [hs, e12]
      simp (disch := omega) only [q_ifge, q_ifle, q_o5, q_o13, q_o25, q_o37, q_o49, q_o55, q_o61, q_o67, q_o73, q_o85, q_o97, q_o109, q_o121, q_o133, q_o145, q_o157, q_ix, q_cl, q_b1, q_b2, q_hasBit, q_ifp, Nat.le_refl]
      rw [h1 i (by omega)]
      unfold s_orf
      by_cases q : c (145 + i) = 1
      · rw [if_pos q, if_pos q]
      · rw [if_neg q, if_neg q]
    · show lb_X3_bitsOf_4 ss sta 1 x (nI (s_ns c)) = _
      unfold lb_X3_bitsOf_4
      rw [hs, e12]
      simp (disch := omega) only [q_ifge, q_ifle, q_o5, q_o13, q_o25, q_o37, q_o49, q_o55, q_o61, q_o67, q_o73, q_o85, q_o97, q_o109, q_o121, q_o133, q_o145, q_o157, q_ix, q_cl, q_b1, q_b2, q_hasBit, q_ifp, Nat.le_refl]
  have k2 : k_lp (fun s : Int32 × Int32 => lb_X9_findFloat_59 c s.1 s.2) k_fuel (0, 0) = some (q_fold (s_orf c 1) 0 (s_ns c)) := by
    refine q_foldlp _ (s_ns c) 0 (fun i x hi => ?_) (fun x => ?_) (by omega)
    · show lb_X9_findFloat_59 c x (nI i) = _
      unfold lb_X9_findFloat_59
      rw [e12]
      simp (disch := omega) only [q_ifge, q_ifle, q_o5, q_o13, q_o25, q_o37, q_o49, q_o55, q_o61, q_o67, q_o73, q_o85, q_o97, q_o109, q_o121, q_o133, q_o145, q_o157, q_ix, q_cl, q_b1, q_b2, q_hasBit, q_ifp, Nat.le_refl]
      unfold s_orf
      by_cases q : c (145 + i) = 1
      · rw [if_pos q, if_pos q]
      · rw [if_neg q, if_neg q]
    · show lb_X9_findFloat_59 c x (nI (s_ns c)) = _
      unfold lb_X9_findFloat_59
      rw [e12]
      simp (disch := omega) only [q_ifge, q_ifle, q_o5, q_o13, q_o25, q_o37, q_o49, q_o55, q_o61, q_o67, q_o73, q_o85, q_o97, q_o109, q_o121, q_o133, q_o145, q_o157, q_ix, q_cl, q_b1, q_b2, q_hasBit, q_ifp, Nat.le_refl]
  have ex : x = q_fold (s_orf c 1) 0 (s_ns c) := by
    unfold p_X3_bitsOf at x1
    rw [k1, q_b1] at x1
    exact (Option.some.inj x1).symm
  exact ⟨x, x1, by rw [k2, ← ex], s_st_0 h x2⟩
/-! ===== the trial ===== -/
theorem xy_trial {m rn ru ru' td wt ma pr sg sk sd hd lg tr : Nat → Int32} {ot ts tas ss : Int32} (hrn : ∀ h, h < 96 → kr (rn h) 0 1) (hrl : R_rl ru' ru) (hpos : R_pos ru) (hr3 : ru' 3 = ru 3) (hot : ot = nI (k_out m)) (hts : ts = m 10) (hwt : ∀ i, i < 12 → wt i = m (13 + i)) (htas : tas = m 11) (hta : ∀ i, i < 6 → ma i = m (49 + i) ∧ pr i = m (55 + i) ∧ sg i = m (61 + i)) (hss : ss = m 12) (hse : ∀ i, i < 12 → sk i = m (73 + i) ∧ sd i = m (85 + i) ∧ hd i = m (97 + i) ∧ lg i = m (109 + i) ∧ tr i = m (121 + i)) : ∀ (d o : Nat), o + d = 96 → ∀ (c dn sta : Nat → Int32), k_Inv c → (∀ k, ((9 ≤ k ∧ k < 67) ∨ (73 ≤ k ∧ k < 145)) → c k = m k) → c 0 = nI o → (∀ j, j < 12 → sta j = c (145 + j) ∧ dn j = c (157 + j)) → ∃ cf dn' sta' x2, (∀ F, d + 2 < F → k_lp (fun s : Int32 × (Nat → Int32) × (Nat → Int32) × Int32 × Int32 × Int32 × Int32 × Int32 × Int32 × Int32 × Int32 × Int32 × Int32 => lb_X0_isFound_13 ss rn td sk sd ru' ot ts wt tas pr sg ma hd tr lg s.1 s.2.1 s.2.2.1 s.2.2.2.1 s.2.2.2.2.1 s.2.2.2.2.2.1 s.2.2.2.2.2.2.1 s.2.2.2.2.2.2.2.1 s.2.2.2.2.2.2.2.2.1 s.2.2.2.2.2.2.2.2.2.1 s.2.2.2.2.2.2.2.2.2.2.1 s.2.2.2.2.2.2.2.2.2.2.2.1 s.2.2.2.2.2.2.2.2.2.2.2.2) F (nI o, dn, sta, c 3, c 1, c 4, c 0, c 7, c 8, c 5, c 6, c 2, nI (k_wh c)) = some (dn', sta', cf 3, cf 1, cf 4, cf 0, cf 7, cf 8, cf 5, cf 6, cf 2, nI (k_wh cf))) ∧ (∀ F, d + 2 < F → k_lp (fun s : Int32 × (Nat → Int32) => lb_X9_findFloat_42 rn ru td s.1 s.2) F (1, c) = some (x2, cf)) ∧ k_Inv cf ∧ (∀ k, ((9 ≤ k ∧ k < 67) ∨ (73 ≤ k ∧ k < 145)) → cf k = m k) ∧ (∀ j, j < 12 → sta' j = cf (145 + j) ∧ dn' j = cf (157 + j)) ∧ ((x2 = 1 ∧ s_st cf 1 = 0) ∨ (x2 = 0 ∧ ¬ s_st cf 1 = 0)) := by
  intro d
  induction d with
  | zero =>
    intro o ho c dn sta hI hag hc0 hds
    have o96 : o = 96 := by omega
    subst o96
    obtain ⟨x, x1, x2, x3⟩ := xy_bits hI.1 (sta := sta) (ss := ss) (by rw [hss, hag 12 (by omega)]) (fun i hi => (hds i hi).1)
    have hw := Nat.le_trans (fb_ct_le (fun i => decide (c (145 + i) = 1)) (s_ns c)) (s_ns_e hI.1).2.1
    have hw : s_st c 1 ≤ 12 := hw
    have cls : ∀ F, 0 + 2 < F → k_lp (fun s : Int32 × (Nat → Int32) × (Nat → Int32) × Int32 × Int32 × Int32 × Int32 × Int32 × Int32 × Int32 × Int32 × Int32 × Int32 => lb_X0_isFound_13 ss rn td sk sd ru' ot ts wt tas pr sg ma hd tr lg s.1 s.2.1 s.2.2.1 s.2.2.2.1 s.2.2.2.2.1 s.2.2.2.2.2.1 s.2.2.2.2.2.2.1 s.2.2.2.2.2.2.2.1 s.2.2.2.2.2.2.2.2.1 s.2.2.2.2.2.2.2.2.2.1 s.2.2.2.2.2.2.2.2.2.2.1 s.2.2.2.2.2.2.2.2.2.2.2.1 s.2.2.2.2.2.2.2.2.2.2.2.2) F (nI 96, dn, sta, c 3, c 1, c 4, c 0, c 7, c 8, c 5, c 6, c 2, nI (k_wh c)) = some (dn, sta, c 3, c 1, c 4, c 0, c 7, c 8, c 5, c 6, c 2, nI (k_wh c)) := by
      intro F hF
      obtain ⟨F, rfl⟩ : ∃ f, F = f + 1 := ⟨F - 1, by omega⟩
      unfold k_lp
      have : lb_X0_isFound_13 ss rn td sk sd ru' ot ts wt tas pr sg ma hd tr lg (nI 96) dn sta (c 3) (c 1) (c 4) (c 0) (c 7) (c 8) (c 5) (c 6) (c 2) (nI (k_wh c)) = some (.inr (dn, sta, c 3, c 1, c 4, c 0, c 7, c 8, c 5, c 6, c 2, nI (k_wh c))) := by
        unfold lb_X0_isFound_13
        rw [if_pos (show (96 : Int32) ≤ nI 96 by decide)]
      rw [this]
    by_cases z : s_st c 1 = 0
    · refine ⟨c, dn, sta, 1, cls, fun F hF => ?_, hI, hag, hds, Or.inl ⟨rfl, z⟩⟩
      obtain ⟨F, rfl⟩ : ∃ f, F = f + 1 := ⟨F - 1, by omega⟩
      unfold k_lp
      have : lb_X9_findFloat_42 rn ru td 1 c = some (.inr (1, c)) := by
        unfold lb_X9_findFloat_42
        rw [if_neg (by decide), y_states hI.1, q_b1, z, if_pos (by decide)]
      rw [this]
    · refine ⟨c, dn, sta, 0, cls, fun F hF => ?_, hI, hag, hds, Or.inr ⟨rfl, z⟩⟩
      obtain ⟨F, rfl⟩ : ∃ f, F = f + 1 + 1 := ⟨F - 2, by omega⟩
      unfold k_lp
      have : lb_X9_findFloat_42 rn ru td 1 c = some (.inl (0, c)) := by
        unfold lb_X9_findFloat_42 lj_X9_findFloat_126
        rw [if_neg (by decide), y_states hI.1, q_b1, if_neg (nI_nle (by omega) (by omega)), x2, q_b1, y_lost, q_b1, hc0, if_pos (show (96 : Int32) ≤ nI 96 by decide)]
        by_cases cw : c 2 ≤ 100
        · rw [if_pos cw]; rfl
        · rw [if_neg cw]; rfl
      rw [this]
      show k_lp (fun s : Int32 × (Nat → Int32) => lb_X9_findFloat_42 rn ru td s.1 s.2) (F + 1) (0, c) = _
      unfold k_lp
      have : lb_X9_findFloat_42 rn ru td 0 c = some (.inr (0, c)) := by
        unfold lb_X9_findFloat_42
        rw [if_pos rfl]
      rw [this]
  | succ d ih =>
    intro o ho c dn sta hI hag hc0 hds
    obtain ⟨x, x1, x2, x3⟩ := xy_bits hI.1 (sta := sta) (ss := ss) (by rw [hss, hag 12 (by omega)]) (fun i hi => (hds i hi).1)
    have hw := Nat.le_trans (fb_ct_le (fun i => decide (c (145 + i) = 1)) (s_ns c)) (s_ns_e hI.1).2.1
    have hw : s_st c 1 ≤ 12 := hw
    have n96 : ¬ (96 : Int32) ≤ nI o := nI_ge (b := 96) (by omega) (by omega)
    have clsx : (¬ c 2 ≤ 100 ∨ s_st c 1 = 0) → ∀ F, d + 1 + 2 < F → k_lp (fun s : Int32 × (Nat → Int32) × (Nat → Int32) × Int32 × Int32 × Int32 × Int32 × Int32 × Int32 × Int32 × Int32 × Int32 × Int32 => lb_X0_isFound_13 ss rn td sk sd ru' ot ts wt tas pr sg ma hd tr lg s.1 s.2.1 s.2.2.1 s.2.2.2.1 s.2.2.2.2.1 s.2.2.2.2.2.1 s.2.2.2.2.2.2.1 s.2.2.2.2.2.2.2.1 s.2.2.2.2.2.2.2.2.1 s.2.2.2.2.2.2.2.2.2.1 s.2.2.2.2.2.2.2.2.2.2.1 s.2.2.2.2.2.2.2.2.2.2.2.1 s.2.2.2.2.2.2.2.2.2.2.2.2) F (nI o, dn, sta, c 3, c 1, c 4, c 0, c 7, c 8, c 5, c 6, c 2, nI (k_wh c)) = some (dn, sta, c 3, c 1, c 4, c 0, c 7, c 8, c 5, c 6, c 2, nI (k_wh c)) := by
      intro hx F hF
      obtain ⟨F, rfl⟩ : ∃ f, F = f + 1 := ⟨F - 1, by omega⟩
      unfold k_lp
      have : lb_X0_isFound_13 ss rn td sk sd ru' ot ts wt tas pr sg ma hd tr lg (nI o) dn sta (c 3) (c 1) (c 4) (c 0) (c 7) (c 8) (c 5) (c 6) (c 2) (nI (k_wh c)) = some (.inr (dn, sta, c 3, c 1, c 4, c 0, c 7, c 8, c 5, c 6, c 2, nI (k_wh c))) := by
        unfold lb_X0_isFound_13
        rw [if_neg n96, x_lost, q_b1]
        by_cases cw : c 2 ≤ 100
        · rw [if_pos cw, if_pos rfl, x1, q_b1, if_pos (by rw [x3]; exact hx.resolve_left (fun hh => hh cw))]
        · rw [if_neg cw, if_neg (by decide)]
      rw [this]
    by_cases z : s_st c 1 = 0
    · refine ⟨c, dn, sta, 1, clsx (Or.inr z), fun F hF => ?_, hI, hag, hds, Or.inl ⟨rfl, z⟩⟩
      obtain ⟨F, rfl⟩ : ∃ f, F = f + 1 := ⟨F - 1, by omega⟩
      unfold k_lp
      have : lb_X9_findFloat_42 rn ru td 1 c = some (.inr (1, c)) := by
        unfold lb_X9_findFloat_42
        rw [if_neg (by decide), y_states hI.1, q_b1, z, if_pos (by decide)]
      rw [this]
    · by_cases cw : c 2 ≤ 100
      · obtain ⟨c', sta', dn', g1, g2, g3, g4, g5, -, -, g8⟩ := xy_pass (m := c) (rn := rn) (ru := ru) (ru' := ru') (td := td) (wt := wt) (ma := ma) (pr := pr) (sg := sg) (sk := sk) (sd := sd) (hd := hd) (lg := lg) (tr := tr) (sta := sta) (dn := dn) (ot := ot) (ts := ts) (tas := tas) (ss := ss) hI hrn hrl hpos hr3 hc0 (by omega) cw (by rw [hot, k_out_cong (m := m) (m' := c) (hag 10 (by omega)) (fun i hi => hag _ (by omega))]) (by rw [hts, hag 10 (by omega)]) (fun i hi => by rw [hwt i hi, hag _ (by omega)]) (by rw [htas, hag 11 (by omega)]) (fun i hi => by rw [(hta i hi).1, (hta i hi).2.1, (hta i hi).2.2, hag _ (by omega), hag _ (by omega), hag _ (by omega)]; exact ⟨rfl, rfl, rfl⟩) (by rw [hss, hag 12 (by omega)]) (fun i hi => by
          obtain ⟨z0, z1, z2, z3, z4⟩ := hse i hi
          exact ⟨z0.trans (hag _ (by omega)).symm, z1.trans (hag _ (by omega)).symm, z2.trans (hag _ (by omega)).symm, z3.trans (hag _ (by omega)).symm, z4.trans (hag _ (by omega)).symm, (hds i hi).1, (hds i hi).2⟩) x
        obtain ⟨cf, dn2, sta2, y2, i1, i2, i3, i4, i5, i6⟩ := ih (o + 1) (by omega) c' dn' sta' g3 (fun k hk => (g8 k hk).trans (hag k hk)) g5 g4
        refine ⟨cf, dn2, sta2, y2, fun F hF => ?_, fun F hF => ?_, i3, i4, i5, i6⟩
        · obtain ⟨F, rfl⟩ : ∃ f, F = f + 1 := ⟨F - 1, by omega⟩
          unfold k_lp
          have : lb_X0_isFound_13 ss rn td sk sd ru' ot ts wt tas pr sg ma hd tr lg (nI o) dn sta (c 3) (c 1) (c 4) (c 0) (c 7) (c 8) (c 5) (c 6) (c 2) (nI (k_wh c)) = some (.inl (nI (o + 1), dn', sta', c' 3, c' 1, c' 4, c' 0, c' 7, c' 8, c' 5, c' 6, c' 2, nI (k_wh c'))) := by
            unfold lb_X0_isFound_13
            rw [if_neg n96, x_lost, q_b1, if_pos cw, if_pos rfl, x1, q_b1, if_neg (by rw [x3]; exact z), q_b1, g1, nI_1]
            rfl
          rw [this]
          exact i1 F (by omega)
        · obtain ⟨F, rfl⟩ : ∃ f, F = f + 1 := ⟨F - 1, by omega⟩
          unfold k_lp
          have : lb_X9_findFloat_42 rn ru td 1 c = some (.inl (1, c')) := by
            unfold lb_X9_findFloat_42 lj_X9_findFloat_126
            rw [if_neg (by decide), y_states hI.1, q_b1, if_neg (nI_nle (by omega) (by omega)), x2, q_b1, y_lost, q_b1, if_pos cw, if_pos rfl, hc0, if_neg n96, if_neg (by decide), g2, q_b1]
          rw [this]
          exact i2 F (by omega)
      · refine ⟨c, dn, sta, 0, clsx (Or.inl cw), fun F hF => ?_, hI, hag, hds, Or.inr ⟨rfl, z⟩⟩
        obtain ⟨F, rfl⟩ : ∃ f, F = f + 1 + 1 := ⟨F - 2, by omega⟩
        unfold k_lp
        have : lb_X9_findFloat_42 rn ru td 1 c = some (.inl (0, c)) := by
          unfold lb_X9_findFloat_42 lj_X9_findFloat_126
          rw [if_neg (by decide), y_states hI.1, q_b1, if_neg (nI_nle (by omega) (by omega)), x2, q_b1, y_lost, q_b1, if_neg cw]
          rfl
        rw [this]
        show k_lp (fun s : Int32 × (Nat → Int32) => lb_X9_findFloat_42 rn ru td s.1 s.2) (F + 1) (0, c) = _
        unfold k_lp
        have : lb_X9_findFloat_42 rn ru td 0 c = some (.inr (0, c)) := by
          unfold lb_X9_findFloat_42
          rw [if_pos rfl]
        rw [this]
end
section
theorem q_b12 {T0 T1 T2 T3 T4 T5 T6 T7 T8 T9 T10 T11 α : Type} (f : T0 → T1 → T2 → T3 → T4 → T5 → T6 → T7 → T8 → T9 → T10 → T11 → Option α) (v0 : T0) (v1 : T1) (v2 : T2) (v3 : T3) (v4 : T4) (v5 : T5) (v6 : T6) (v7 : T7) (v8 : T8) (v9 : T9) (v10 : T10) (v11 : T11) : k_b12 (some (v0, v1, v2, v3, v4, v5, v6, v7, v8, v9, v10, v11)) f = f v0 v1 v2 v3 v4 v5 v6 v7 v8 v9 v10 v11 := rfl
theorem q_b28 {T0 T1 T2 T3 T4 T5 T6 T7 T8 T9 T10 T11 T12 T13 T14 T15 T16 T17 T18 T19 T20 T21 T22 T23 T24 T25 T26 T27 α : Type} (f : T0 → T1 → T2 → T3 → T4 → T5 → T6 → T7 → T8 → T9 → T10 → T11 → T12 → T13 → T14 → T15 → T16 → T17 → T18 → T19 → T20 → T21 → T22 → T23 → T24 → T25 → T26 → T27 → Option α) (v0 : T0) (v1 : T1) (v2 : T2) (v3 : T3) (v4 : T4) (v5 : T5) (v6 : T6) (v7 : T7) (v8 : T8) (v9 : T9) (v10 : T10) (v11 : T11) (v12 : T12) (v13 : T13) (v14 : T14) (v15 : T15) (v16 : T16) (v17 : T17) (v18 : T18) (v19 : T19) (v20 : T20) (v21 : T21) (v22 : T22) (v23 : T23) (v24 : T24) (v25 : T25) (v26 : T26) (v27 : T27) : k_b28 (some (v0, v1, v2, v3, v4, v5, v6, v7, v8, v9, v10, v11, v12, v13, v14, v15, v16, v17, v18, v19, v20, v21, v22, v23, v24, v25, v26, v27)) f = f v0 v1 v2 v3 v4 v5 v6 v7 v8 v9 v10 v11 v12 v13 v14 v15 v16 v17 v18 v19 v20 v21 v22 v23 v24 v25 v26 v27 := rfl
theorem y_save (m a : Nat → Int32) : k_lp (fun s : Int32 × (Nat → Int32) => lb_X9_findFloat_9 m s.1 s.2) k_fuel (0, a) = some (fb_put a m 0 169) := by
  have := q_run (body := fun s : Int32 × (Nat → Int32) => lb_X9_findFloat_9 m s.1 s.2) (fun i => (nI i, fb_put a m 0 i)) (fb_put a m 0 169) 169 (fun i hi => by
    show lb_X9_findFloat_9 m (nI i) (fb_put a m 0 i) = some (.inl (nI (i + 1), fb_put a m 0 (i + 1)))
    unfold lb_X9_findFloat_9
    have e := fb_put_succ a m 0 i
    rw [Nat.zero_add] at e
    rw [show (169 : Int32) = nI 169 from rfl, q_ifge _ _ hi (by omega), q_ix _ (by omega) (by omega), q_ix _ (by omega) (by omega), q_cl (by omega), nI_1, e]) (by
    show lb_X9_findFloat_9 m (nI 169) _ = _
    unfold lb_X9_findFloat_9
    rw [show (169 : Int32) = nI 169 from rfl, q_ifle _ _ (Nat.le_refl _) (by omega)]) (by omega)
  rw [fb_put_0] at this
  exact this
theorem y_rest (a c : Nat → Int32) : k_lp (fun s : Int32 × (Nat → Int32) => lb_X9_findFloat_200 a s.1 s.2) k_fuel (0, c) = some (fb_put c a 0 169) := by
  have := q_run (body := fun s : Int32 × (Nat → Int32) => lb_X9_findFloat_200 a s.1 s.2) (fun i => (nI i, fb_put c a 0 i)) (fb_put c a 0 169) 169 (fun i hi => by
    show lb_X9_findFloat_200 a (nI i) (fb_put c a 0 i) = some (.inl (nI (i + 1), fb_put c a 0 (i + 1)))
    unfold lb_X9_findFloat_200
    have e := fb_put_succ c a 0 i
    rw [Nat.zero_add] at e
    rw [show (169 : Int32) = nI 169 from rfl, q_ifge _ _ hi (by omega), q_ix _ (by omega) (by omega), q_ix _ (by omega) (by omega), q_cl (by omega), nI_1, e]) (by
    show lb_X9_findFloat_200 a (nI 169) _ = _
    unfold lb_X9_findFloat_200
    rw [show (169 : Int32) = nI 169 from rfl, q_ifle _ _ (Nat.le_refl _) (by omega)]) (by omega)
  rw [fb_put_0] at this
  exact this
theorem y_195n {a c ru m td : Nat → Int32} {ls t74 : Int32} (hR : k_Inv (fb_put c a 0 169)) : lj_X9_findFloat_195 a c 0 ru m td ls t74 = some (-4, ls, c 0, fb_put c a 0 169, a) := by
  obtain ⟨e10, hn, -⟩ := s_nt_e hR.1
  have hp : 2 ^ s_nt (fb_put c a 0 169) ≤ 2 ^ 12 := Nat.pow_le_pow_right (by omega) hn
  have h12 : (2 : Nat) ^ 12 = 4096 := by decide
  have hpos := Nat.two_pow_pos (s_nt (fb_put c a 0 169))
  unfold lj_X9_findFloat_195
  rw [y_rest, q_b1]
  have : k_lp (fun s : Int32 × Int32 × Int32 => lb_X9_findFloat_231 (fb_put c a 0 169) 0 ru m c t74 td s.1 s.2.1 s.2.2) k_fuel (0, (-4), ls) = some (-4, ls) := by
    refine q_run (body := fun s : Int32 × Int32 × Int32 => lb_X9_findFloat_231 (fb_put c a 0 169) 0 ru m c t74 td s.1 s.2.1 s.2.2) (fun _ => (nI 0, (-4), ls)) _ 0 (fun j hj => absurd hj (by omega)) ?_ (by omega)
    show lb_X9_findFloat_231 (fb_put c a 0 169) 0 ru m c t74 td (nI 0) (-4) ls = _
    unfold lb_X9_findFloat_231
    rw [e10, q_one _ (by omega), q_ifge _ _ hpos (by omega), if_pos rfl]
  rw [this, q_b2]
theorem y_155n {a c ru m td : Nat → Int32} {ls : Int32} (hR : k_Inv (fb_put c a 0 169)) : lj_X9_findFloat_155 c a ru m td ls 0 = some (-4, ls, c 0, fb_put c a 0 169, a) := by
  unfold lj_X9_findFloat_155
  rw [y_195n hR, y_195n hR]
  by_cases q : 0 ≤ c 1
  · rw [if_pos q]
  · rw [if_neg q]
theorem y_155y {a c ru m td : Nat → Int32} {ls : Int32} (hR : k_Inv (fb_put c a 0 169)) {o U : Nat} (ho : o ≤ 96) (hU : U ≤ 110) (hm : m 0 = nI o) (hc : c 0 + (if 0 ≤ c 1 then c 1 else -(c 1)) = nI U) : lj_X9_findFloat_155 c a ru m td ls 1 = some ((if (s_best (fb_put c a 0 169) ru td o U (2 ^ s_nt (fb_put c a 0 169))).1 = 96 then -4 else nI (s_best (fb_put c a 0 169) ru td o U (2 ^ s_nt (fb_put c a 0 169))).1), (if (s_best (fb_put c a 0 169) ru td o U (2 ^ s_nt (fb_put c a 0 169))).1 = 96 then ls else nI (s_best (fb_put c a 0 169) ru td o U (2 ^ s_nt (fb_put c a 0 169))).2), c 0, fb_put c a 0 169, a) := by
  have gen : ∀ t74 : Int32, c 0 + t74 = nI U → lj_X9_findFloat_195 a c 1 ru m td ls t74 = some ((if (s_best (fb_put c a 0 169) ru td o U (2 ^ s_nt (fb_put c a 0 169))).1 = 96 then -4 else nI (s_best (fb_put c a 0 169) ru td o U (2 ^ s_nt (fb_put c a 0 169))).1), (if (s_best (fb_put c a 0 169) ru td o U (2 ^ s_nt (fb_put c a 0 169))).1 = 96 then ls else nI (s_best (fb_put c a 0 169) ru td o U (2 ^ s_nt (fb_put c a 0 169))).2), c 0, fb_put c a 0 169, a) := by
    intro t74 h74
    unfold lj_X9_findFloat_195
    rw [y_rest, q_b1, y_best hR ho hU hm h74, q_b2]
  unfold lj_X9_findFloat_155
  by_cases q : 0 ≤ c 1
  · rw [if_pos q] at hc ⊢
    exact gen _ hc
  · rw [if_neg q] at hc ⊢
    exact gen _ hc
theorem xy_found {m rn ru ru' td wt un ma pr sg sk sd hd lg tr wo sta dn g_wt g_un g_ma g_pr g_sg g_sk g_sd g_hd g_lg g_tr g_wo g_sta g_dn : Nat → Int32} {ot ts tas ss fh fth fsh ls0 : Int32} {aside : Nat → Int32} (hI : k_Inv m) (hrn : ∀ h, h < 96 → kr (rn h) 0 1) (hru : R_rule ru' ru) (hot : ot = nI (k_out m)) (hts : ts = m 10) (hth : ∀ i, i < 12 → wt i = m (13 + i) ∧ un i = m (25 + i)) (htas : tas = m 11) (hta : ∀ i, i < 6 → ma i = m (49 + i) ∧ pr i = m (55 + i) ∧ sg i = m (61 + i)) (hss : ss = m 12) (hse : ∀ i, i < 12 → sk i = m (73 + i) ∧ sd i = m (85 + i) ∧ hd i = m (97 + i) ∧ lg i = m (109 + i) ∧ tr i = m (121 + i) ∧ wo i = m (133 + i) ∧ sta i = m (145 + i) ∧ dn i = m (157 + i)) (h8 : fb_ct (fun i => decide (m (37 + i) = 0)) (s_nt m) ≤ 8) : ∃ bf ho' th' sh' w, p_X0_isFound fh fth fsh (m 0) (m 1) (m 2) (m 5) (m 3) (m 4) (m 6) (m 7) (m 8) (m 9) ot ts wt g_wt un g_un (nI (k_wh m)) tas ma g_ma pr g_pr sg g_sg ss sk g_sk sd g_sd hd g_hd lg g_lg tr g_tr wo g_wo sta g_sta dn g_dn rn td ru' = some (bf, ho', th', sh', w) ∧ ∃ lh ls sh2 now' aside', p_X9_findFloat ls0 m aside rn ru td = some (lh, ls, sh2, now', aside') ∧ (∀ k, k < 169 → now' k = m k) ∧ ((bf = 0 ∧ lh = -4) ∨ (bf = 1 ∧ ¬ lh = -4 ∧ ho' = lh ∧ th' = ls ∧ sh' = sh2)) := by
  obtain ⟨hrl, hpos⟩ := R_rule_rl hru
  obtain ⟨o, eo0, hoo⟩ := s_hour hI.1
  obtain ⟨e10, hn, -⟩ := s_nt_e hI.1
  obtain ⟨cf, dn', sta', x2, t1, t2, t3, t4, t5, t6⟩ := xy_trial (m := m) (rn := rn) (ru := ru) (ru' := ru') (td := td) (wt := (k_cpy 12 wt g_wt)) (ma := (k_cpy 6 ma g_ma)) (pr := (k_cpy 6 pr g_pr)) (sg := (k_cpy 6 sg g_sg)) (sk := (k_cpy 12 sk g_sk)) (sd := (k_cpy 12 sd g_sd)) (hd := (k_cpy 12 hd g_hd)) (lg := (k_cpy 12 lg g_lg)) (tr := (k_cpy 12 tr g_tr)) (ot := ot) (ts := ts) (tas := tas) (ss := ss) hrn hrl hpos hru.1.2.2.2.1 hot hts (fun i hi => (q_cpy i hi).trans (hth i hi).1) htas (fun i hi => ⟨(q_cpy i hi).trans (hta i hi).1, (q_cpy i hi).trans (hta i hi).2.1, (q_cpy i hi).trans (hta i hi).2.2⟩) hss (fun i hi => ⟨(q_cpy i hi).trans (hse i hi).1, (q_cpy i hi).trans (hse i hi).2.1, (q_cpy i hi).trans (hse i hi).2.2.1, (q_cpy i hi).trans (hse i hi).2.2.2.1, (q_cpy i hi).trans (hse i hi).2.2.2.2.1⟩) (96 - o) o (by omega) m (k_cpy 12 dn g_dn) (k_cpy 12 sta g_sta) hI (fun _ _ => rfl) eo0 (fun i hi => ⟨(q_cpy i hi).trans (hse i hi).2.2.2.2.2.2.1, (q_cpy i hi).trans (hse i hi).2.2.2.2.2.2.2⟩)
  have t1' := t1 k_fuel (by show _ < 100000; omega)
  have t2' := t2 k_fuel (by show _ < 100000; omega)
  rw [← eo0] at t1'
  obtain ⟨x, x1, -, x3⟩ := xy_bits t3.1 (sta := sta') (ss := ss) (by rw [hss, t4 12 (by omega)]) (fun i hi => (t5 i hi).1)
  have hput : ∀ k, k < 169 → fb_put cf (fb_put aside m 0 169) 0 169 k = m k := by
    intro k hk
    rw [fb_put_in (a := 0) (by omega) (by omega), fb_put_in (a := 0) (by omega) (by omega)]
    rfl
  have hR : k_Inv (fb_put cf (fb_put aside m 0 169) 0 169) := k_Inv_frame hI (fun k hk => by rw [hput k hk]; exact hI.1 k hk) (hput _ (by omega)) (hput _ (by omega)) (hput _ (by omega)) (fun j hj => hput _ (by omega)) (fun j hj => hput _ (by omega)) (fun j hj => ⟨hput _ (by omega), hput _ (by omega), hput _ (by omega)⟩)
  have hbo := q_01 (rg_bo hI.1)
  have hwe := q_01 (rg_we hI.1)
  have yF : p_X9_findFloat ls0 m aside rn ru td = if x2 = 0 then lj_X9_findFloat_155 cf (fb_put aside m 0 169) ru m td ls0 0 else if cf 2 ≤ 100 then lj_X9_findFloat_155 cf (fb_put aside m 0 169) ru m td ls0 1 else lj_X9_findFloat_155 cf (fb_put aside m 0 169) ru m td ls0 0 := by
    unfold p_X9_findFloat
    rw [y_save, q_b1, t2', q_b2, y_lost, q_b1]
    by_cases z : x2 = 0
    · rw [if_pos z, if_pos z]
    · rw [if_neg z, if_neg z]
      by_cases cw : cf 2 ≤ 100
      · rw [if_pos cw, if_pos cw]; rfl
      · rw [if_neg cw, if_neg cw]; rfl
  rw [yF, y_155n hR]
  unfold p_X0_isFound
  rw [x_copy hbo hwe, q_b28, t1', q_b12, x_lost, q_b1, x1, q_b1]
  by_cases cw : cf 2 ≤ 100
  · rw [if_pos cw, if_pos rfl, if_pos cw]
    rcases t6 with ⟨y1, y2⟩ | ⟨y1, y2⟩
    · have x0 : x = 0 := by rw [x3]; exact y2
      subst y1
      rw [if_pos x0, if_neg (show ¬ (1 : Int32) = 0 by decide)]
      obtain ⟨o2, eo2, ho2⟩ := s_hour t3.1
      obtain ⟨q, eq, hq, -⟩ := s_abs (rg_he t3.1)
      have hU : cf 0 + (if 0 ≤ cf 1 then cf 1 else -(cf 1)) = nI (o2 + q) := by rw [eo2, eq, nI_add]
      have hU2 : cf 0 + (if 0 ≤ cf 1 then cf 1 else 0 - cf 1) = nI (o2 + q) := by rw [Int32.zero_sub]; exact hU
      rw [hU2, eo0]
      have nt' : s_nt (fb_put cf (fb_put aside m 0 169) 0 169) = s_nt m := s_nt_cong (hput 10 (by omega))
      have xb := x_best (m := fb_put cf (fb_put aside m 0 169) 0 169) (ru := ru) (ru' := ru') (td := td) (wt := wt) (un := un) (ot := ot) (ts := ts) (th0 := fth) hR hrl hru.1.1 hru.1.2.2.1 (by rw [hot, k_out_cong (m := m) (m' := fb_put cf (fb_put aside m 0 169) 0 169) (hput 10 (by omega)) (fun i hi => hput _ (by omega))]) (by rw [hts, hput 10 (by omega)]) (fun i hi => by rw [(hth i hi).1, (hth i hi).2, hput _ (by omega), hput _ (by omega)]; exact ⟨rfl, rfl⟩) (by
        rw [nt', fb_ct_cong (p := s_po (fb_put cf (fb_put aside m 0 169) 0 169)) (q := fun i => decide (m (37 + i) = 0)) (fun j hj => by
          show decide (fb_put cf (fb_put aside m 0 169) 0 169 (37 + j) = 0) = _
          rw [hput _ (by omega)])]
        exact h8) (o := o) (U := o2 + q) hoo (by omega)
      have yb := y_155y (a := fb_put aside m 0 169) (c := cf) (ru := ru) (m := m) (td := td) (ls := ls0) hR hoo (U := o2 + q) (by omega) eo0 hU
      rw [xb, q_b2, yb]
      generalize hBe : s_best (fb_put cf (fb_put aside m 0 169) 0 169) ru td o (o2 + q) (2 ^ s_nt (fb_put cf (fb_put aside m 0 169) 0 169)) = B
      by_cases cB : B.1 = 96
      · rw [if_pos cB, if_pos cB, if_pos (show (96 : Int32) ≤ nI B.1 by rw [cB]; decide)]
        exact ⟨_, _, _, _, _, rfl, _, _, _, _, _, rfl, hput, Or.inl ⟨rfl, rfl⟩⟩
      · have hb := (s_best_le (fb_put cf (fb_put aside m 0 169) 0 169) ru td o (o2 + q) (2 ^ s_nt (fb_put cf (fb_put aside m 0 169) 0 169))).1
        rw [hBe] at hb
        have hne : ¬ nI B.1 = -4 := by
          intro e
          have := congrArg Int32.toInt e
          rw [q_ti (by omega), show (-4 : Int32).toInt = -4 from by decide] at this
          omega
        rw [if_neg cB, if_neg cB, if_neg cB, if_neg (show ¬ (96 : Int32) ≤ nI B.1 from nI_ge (b := 96) (by omega) (by omega))]
        exact ⟨_, _, _, _, _, rfl, _, _, _, _, _, rfl, hput, Or.inr ⟨rfl, hne, rfl, rfl, rfl⟩⟩
    · have x0 : ¬ x = 0 := by rw [x3]; exact y2
      subst y1
      rw [if_neg x0, if_pos rfl]
      exact ⟨_, _, _, _, _, rfl, _, _, _, _, _, rfl, hput, Or.inl ⟨rfl, rfl⟩⟩
  · rw [if_neg cw, if_neg (show ¬ (1 : Int32) = 0 by decide), if_neg cw]
    refine ⟨_, _, _, _, _, rfl, ?_⟩
    by_cases z : x2 = 0
    · rw [if_pos z]
      exact ⟨_, _, _, _, _, rfl, hput, Or.inl ⟨rfl, rfl⟩⟩
    · rw [if_neg z]
      exact ⟨_, _, _, _, _, rfl, hput, Or.inl ⟨rfl, rfl⟩⟩
theorem y_outs {m : Nat → Int32} (h : k_Rng m) : k_lp (fun s : Int32 × Int32 => lb_X9_toFloat_23 m s.1 s.2) k_fuel (0, 0) = some (nI (fb_ct (fun i => decide (m (37 + i) = 0)) (s_nt m))) := by
  obtain ⟨e10, hn, -⟩ := s_nt_e h
  have key : k_lp (fun s : Int32 × Int32 => lb_X9_toFloat_23 m s.1 s.2) k_fuel (0, 0) = some (0 + q_sum (fun i => 1 - m (37 + i)) (s_nt m)) := by
    refine q_sumlp _ (s_nt m) 0 (fun i x hi => ?_) (fun x => ?_) (by omega)
    · show lb_X9_toFloat_23 m x (nI i) = _
      unfold lb_X9_toFloat_23
      rw [e10]
      simp (disch := omega) only [q_ifge, q_ifle, q_o5, q_o13, q_o25, q_o37, q_o49, q_o55, q_o61, q_o67, q_o73, q_o85, q_o97, q_o109, q_o121, q_o133, q_o145, q_o157, q_ix, q_cl, q_b1, q_b2, q_hasBit, q_ifp, Nat.le_refl]
    · show lb_X9_toFloat_23 m x (nI (s_nt m)) = _
      unfold lb_X9_toFloat_23
      rw [e10]
      simp (disch := omega) only [q_ifge, q_ifle, q_o5, q_o13, q_o25, q_o37, q_o49, q_o55, q_o61, q_o67, q_o73, q_o85, q_o97, q_o109, q_o121, q_o133, q_o145, q_o157, q_ix, q_cl, q_b1, q_b2, q_hasBit, q_ifp, Nat.le_refl]
  rw [key, Int32.zero_add, q_sum_cnt (p := fun i => decide (m (37 + i) = 0)) (fun i hi => by
    rcases q_01 (rg_in h (i := i) (by omega)) with e | e <;> rw [e] <;> rfl)]
theorem sim_toFloat : k_Sim_toFloat R_all := by
  intro S L M a1 hR
  obtain ⟨hc, ht, ⟨hrn, hrn2⟩, hru, hs, hk0, hk1, hk2, hp⟩ := hR
  obtain ⟨⟨e0, e1, e2, e5, e3, e4, e6, e7, e8, e9, eo, ets, ew, eta, ess⟩, hth, hta, hse, hI⟩ := id hs
  obtain ⟨e10, hn, -⟩ := s_nt_e hI.1
  have key : ∃ r w, p_X8_toFloat (S 4 0) (S 5 0) (S 6 0) (S 7 0) (S 8 0) (S 9 0) (S 10 0) (S 11 0) (S 12 0) (S 13 0) (S 14 0) (S 15 0) (S 125 0) (S 126 0) (S 127 0) (S 128 0) (S 129 0) (S 130 0) (S 131 0) (S 132 0) (S 133 0) (S 134 0) (S 135 0) (S 136 0) (S 137 0) (S 138 0) (S 139 0) (S 16) (S 140) (S 17) (S 141) (S 142 0) (S 143 0) (S 18 0) (S 19 0) (S 20) (S 144) (S 21) (S 145) (S 22) (S 146) (S 147 0) (S 23 0) (S 24) (S 148) (S 25) (S 149) (S 26) (S 150) (S 27) (S 151) (S 28) (S 152) (S 29) (S 153) (S 30) (S 154) (S 31) (S 155) (S 2) (S 1) (S 3) a1 = some (r, w) ∧ ∃ lh ls sh now' aside', p_X9_toFloat (M 6 0) (M 7 0) (M 8 0) (M 9) (M 10) (M 13) (M 14) (M 12) a1 = some (r, 0, lh, ls, sh, now', aside') ∧ ∀ k, k < 169 → now' k = M 9 k := by
    unfold p_X8_toFloat p_X9_toFloat
    rw [eo, x_outs hI.1, y_outs hI.1, e2, x_lost, y_lost]
    simp only [q_within, q_in_0_2, q_b1, q_ifp]
    have hle := fb_ct_le (fun i => decide (M 9 (37 + i) = 0)) (s_nt (M 9))
    by_cases h1 : 0 ≤ a1 ∧ a1 ≤ 2
    · simp only [if_pos h1]
      by_cases c8 : fb_ct (fun i => decide (M 9 (37 + i) = 0)) (s_nt (M 9)) ≤ 8
      · have c8a : nI (fb_ct (fun i => decide (M 9 (37 + i) = 0)) (s_nt (M 9))) ≤ 8 := nI_le (b := 8) c8 (by omega)
        have c8b : ¬ (8 : Int32) < nI (fb_ct (fun i => decide (M 9 (37 + i) = 0)) (s_nt (M 9))) := nI_nlt (a := 8) c8 (by omega)
        simp only [if_pos c8a, if_neg c8b]
        by_cases cw : M 9 2 ≤ 100
        · simp only [if_pos cw, if_true]
          obtain ⟨bf, ho', th', sh', w, g1, lh, ls, sh2, now', aside', g2, g3, g4⟩ := xy_found (m := M 9) (rn := M 13) (ru := M 14) (ru' := S 3) (td := M 12) (wt := S 16) (g_wt := S 140) (un := S 17) (g_un := S 141) (ma := S 20) (g_ma := S 144) (pr := S 21) (g_pr := S 145) (sg := S 22) (g_sg := S 146) (sk := S 24) (g_sk := S 148) (sd := S 25) (g_sd := S 149) (hd := S 26) (g_hd := S 150) (lg := S 27) (g_lg := S 151) (tr := S 28) (g_tr := S 152) (wo := S 29) (g_wo := S 153) (sta := S 30) (g_sta := S 154) (dn := S 31) (g_dn := S 155) (ot := nI (k_out (M 9))) (ts := S 15 0) (tas := S 19 0) (ss := S 23 0) (fh := S 125 0) (fth := S 126 0) (fsh := S 127 0) (ls0 := M 7 0) (aside := M 10) hI hrn2 hru rfl ets hth eta hta ess hse c8
          rw [e0, e1, e3, e4, e5, e6, e7, e8, e9, ew, hrn, show S 1 = M 12 from ht, g1, g2]
          obtain ⟨w3, w4, w5, w6, w7, w8, w9, w10, w11, w12, w13, w14, w15, w16, w17, w18, w19, w20, w21, w22, w23, w24, w25, w26, w27, w28, w29, w30⟩ := w
          rcases g4 with ⟨b0, l4⟩ | ⟨b1, l4, q1, q2, q3⟩
          · subst b0; subst l4
            exact ⟨-4, _, rfl, -4, ls, sh2, now', aside', rfl, g3⟩
          · subst b1; subst q1; subst q2; subst q3
            rw [q_b5]
            simp only [if_neg l4]
            by_cases d0 : a1 = 0
            · subst d0
              exact ⟨_, _, rfl, _, _, _, _, _, rfl, g3⟩
            · by_cases d1 : a1 = 1
              · subst d1
                exact ⟨_, _, rfl, _, _, _, _, _, rfl, g3⟩
              · simp only [if_neg d0, if_neg d1]
                exact ⟨_, _, rfl, _, _, _, _, _, rfl, g3⟩
        · simp only [if_neg cw, show ((1 : Int32) = 0) = False from by decide, if_false]
          exact ⟨_, _, rfl, _, _, _, _, _, rfl, fun _ _ => rfl⟩
      · have c8a : ¬ nI (fb_ct (fun i => decide (M 9 (37 + i) = 0)) (s_nt (M 9))) ≤ 8 := nI_ge (a := 8) (by omega) (by omega)
        have c8b : (8 : Int32) < nI (fb_ct (fun i => decide (M 9 (37 + i) = 0)) (s_nt (M 9))) := nI_lt (a := 8) (by omega) (by omega)
        simp only [if_neg c8a, if_pos c8b]
        by_cases cw : M 9 2 ≤ 100
        · simp only [if_pos cw, if_true]
          exact ⟨_, _, rfl, _, _, _, _, _, rfl, fun _ _ => rfl⟩
        · simp only [if_neg cw, show ((1 : Int32) = 0) = False from by decide, if_false]
          exact ⟨_, _, rfl, _, _, _, _, _, rfl, fun _ _ => rfl⟩
    · simp only [if_neg h1]; exact ⟨_, _, rfl, _, _, _, _, _, rfl, fun _ _ => rfl⟩
  obtain ⟨r, w, g1, lh, ls, sh, now', aside', g2, g3⟩ := key
  obtain ⟨w0, w1, w2, w3, w4, w5, w6, w7, w8, w9, w10, w11, w12, w13, w14, w15, w16, w17, w18, w19, w20, w21, w22, w23, w24, w25, w26, w27, w28, w29, w30⟩ := w
  have eX : pX_toFloat S L a1 = some (r, (k_su (k_su (k_su (k_su (k_su (k_su (k_su (k_su (k_su (k_su (k_su (k_su (k_su (k_su (k_su (k_su (k_su (k_su (k_su (k_su (k_su (k_su (k_su (k_su (k_su (k_su (k_su (k_su (k_su (k_su (k_su S 125 (fun _ => w0)) 126 (fun _ => w1)) 127 (fun _ => w2)) 128 (fun _ => w3)) 129 (fun _ => w4)) 130 (fun _ => w5)) 131 (fun _ => w6)) 132 (fun _ => w7)) 133 (fun _ => w8)) 134 (fun _ => w9)) 135 (fun _ => w10)) 136 (fun _ => w11)) 137 (fun _ => w12)) 138 (fun _ => w13)) 139 (fun _ => w14)) 140 w15) 141 w16) 142 (fun _ => w17)) 143 (fun _ => w18)) 144 w19) 145 w20) 146 w21) 147 (fun _ => w22)) 148 w23) 149 w24) 150 w25) 151 w26) 152 w27) 153 w28) 154 w29) 155 w30), L) := by unfold pX_toFloat; rw [g1]; rfl
  have eM : pM_toFloat M a1 = some (r, (k_su (k_su (k_su (k_su (k_su (k_su M 0 (fun _ => 0)) 6 (fun _ => lh)) 7 (fun _ => ls)) 8 (fun _ => sh)) 9 now') 10 aside')) := by unfold pM_toFloat; rw [g2]; rfl
  exact ⟨_, _, _, _, eX, eM, hc, ht, ⟨hrn, hrn2⟩, hru, R_ship_copy hs g3 (fun _ _ => rfl) (fun _ _ => rfl) (fun _ _ => rfl) (fun _ _ => rfl) (fun _ _ => rfl) (fun _ _ => rfl) (fun _ _ => rfl) (fun _ _ => rfl) (fun _ _ => rfl) (fun _ _ => rfl) (fun _ _ => rfl) (fun _ _ => rfl) (fun _ _ => rfl), hk0, hk1, hk2, hp⟩
end
section
/-! ===== the SEAMS that count for a plan ===== -/
def s_g (m : Nat → Int32) : Nat → Nat × (Nat → Nat)
  | 0 => (0, fun _ => 0)
  | i + 1 => if (s_g m i).1 < 5 ∧ ¬ m (145 + i) = 2 then ((s_g m i).1 + 1, fun k => if k = (s_g m i).1 then i else (s_g m i).2 k) else s_g m i
theorem s_g_inv (m : Nat → Int32) : ∀ i, (s_g m i).1 ≤ 5 ∧ (s_g m i).1 ≤ i ∧ (∀ k, k < (s_g m i).1 → (s_g m i).2 k < i ∧ ¬ m (145 + (s_g m i).2 k) = 2) ∧ (∀ a b, a < b → b < (s_g m i).1 → (s_g m i).2 a < (s_g m i).2 b)
  | 0 => ⟨by show 0 ≤ 5; omega, by show 0 ≤ 0; omega, fun k hk => absurd hk (by show ¬ k < 0; omega), fun a b _ hb => absurd hb (by show ¬ b < 0; omega)⟩
  | i + 1 => by
    obtain ⟨h1, h2, h3, h4⟩ := s_g_inv m i
    have e : s_g m (i + 1) = if (s_g m i).1 < 5 ∧ ¬ m (145 + i) = 2 then ((s_g m i).1 + 1, fun k => if k = (s_g m i).1 then i else (s_g m i).2 k) else s_g m i := rfl
    by_cases c : (s_g m i).1 < 5 ∧ ¬ m (145 + i) = 2
    · rw [if_pos c] at e
      rw [e]
      refine ⟨by show (s_g m i).1 + 1 ≤ 5; omega, by show (s_g m i).1 + 1 ≤ i + 1; omega, fun k hk => ?_, fun a b hab hb => ?_⟩
      · have hk' : k < (s_g m i).1 + 1 := hk
        show (if k = (s_g m i).1 then i else (s_g m i).2 k) < i + 1 ∧ ¬ m (145 + (if k = (s_g m i).1 then i else (s_g m i).2 k)) = 2
        by_cases ck : k = (s_g m i).1
        · rw [if_pos ck]; exact ⟨by omega, c.2⟩
        · rw [if_neg ck]
          have := h3 k (by omega)
          exact ⟨by omega, this.2⟩
      · have hb' : b < (s_g m i).1 + 1 := hb
        show (if a = (s_g m i).1 then i else (s_g m i).2 a) < (if b = (s_g m i).1 then i else (s_g m i).2 b)
        rw [if_neg (show ¬ a = (s_g m i).1 by omega)]
        by_cases cb : b = (s_g m i).1
        · rw [if_pos cb]; exact (h3 a (by omega)).1
        · rw [if_neg cb]; exact h4 a b hab (by omega)
    · rw [if_neg c] at e
      rw [e]
      refine ⟨h1, by omega, fun k hk => ?_, h4⟩
      have := h3 k hk
      exact ⟨by omega, this.2⟩
def s_N (m : Nat → Int32) : Nat := (s_g m (s_ns m)).1
def s_c (m : Nat → Int32) : Nat → Nat := (s_g m (s_ns m)).2
theorem s_N_le (m : Nat → Int32) : s_N m ≤ 5 := (s_g_inv m _).1
theorem s_c_lt {m : Nat → Int32} {k : Nat} (hk : k < s_N m) : s_c m k < s_ns m ∧ ¬ m (145 + s_c m k) = 2 := (s_g_inv m _).2.2.1 k hk
theorem s_c_mono {m : Nat → Int32} {a b : Nat} (h : a < b) (hb : b < s_N m) : s_c m a < s_c m b := (s_g_inv m _).2.2.2 a b h hb
theorem y_gather {m : Nat → Int32} (h : k_Rng m) (ct0 : Nat → Int32) : ∃ ct, k_lp (fun s : Int32 × (Nat → Int32) × Int32 => lb_X9_findPlan_7 m s.1 s.2.1 s.2.2) k_fuel (0, ct0, 0) = some (ct, nI (s_N m)) ∧ ∀ k, k < s_N m → ct k = nI (s_c m k) := by
  obtain ⟨e12, hn, -⟩ := s_ns_e h
  obtain ⟨e, he, hE1, hE2⟩ := q_lpI (body := fun s : Int32 × (Nat → Int32) × Int32 => lb_X9_findPlan_7 m s.1 s.2.1 s.2.2) (fun i s => s.1 = nI i ∧ s.2.2 = nI (s_g m i).1 ∧ ∀ k, k < (s_g m i).1 → s.2.1 k = nI ((s_g m i).2 k)) (fun e => e.2 = nI (s_N m) ∧ ∀ k, k < s_N m → e.1 k = nI (s_c m k)) (s_ns m) (fun i s hi hs => by
    obtain ⟨s1, s2, s3⟩ := s
    obtain ⟨q1, q2, q3⟩ := hs
    have q1' : s1 = nI i := q1
    have q2' : s3 = nI (s_g m i).1 := q2
    have q3' : ∀ k, k < (s_g m i).1 → s2 k = nI ((s_g m i).2 k) := q3
    clear q1 q2 q3
    subst q1'; subst q2'
    have h5 := (s_g_inv m i).1
    have e : s_g m (i + 1) = if (s_g m i).1 < 5 ∧ ¬ m (145 + i) = 2 then ((s_g m i).1 + 1, fun k => if k = (s_g m i).1 then i else (s_g m i).2 k) else s_g m i := rfl
    show ∃ X, lb_X9_findPlan_7 m (nI i) s2 (nI (s_g m i).1) = some X ∧ _
    unfold lb_X9_findPlan_7
    rw [e12, q_ifge _ _ hi (by omega)]
    by_cases c5 : 5 ≤ (s_g m i).1
    · rw [if_pos (show (5 : Int32) ≤ nI (s_g m i).1 from nI_le (a := 5) c5 (by omega))]
      rw [if_neg (fun hh => by omega)] at e
      exact ⟨_, rfl, Or.inl ⟨_, rfl, nI_1 i, by rw [e], by rw [e]; exact q3'⟩⟩
    · rw [if_neg (show ¬ (5 : Int32) ≤ nI (s_g m i).1 from nI_ge (b := 5) (by omega) (by omega)), q_o145, q_ix _ (by omega) (by omega), q_cl (by omega)]
      by_cases c2 : m (145 + i) = 2
      · rw [if_pos c2]
        rw [if_neg (fun hh => hh.2 c2)] at e
        exact ⟨_, rfl, Or.inl ⟨_, rfl, nI_1 i, by rw [e], by rw [e]; exact q3'⟩⟩
      · rw [if_neg c2, q_ix _ (by omega) (by omega), q_cl (by omega)]
        rw [if_pos ⟨by omega, c2⟩] at e
        refine ⟨_, rfl, Or.inl ⟨_, rfl, nI_1 i, by rw [e]; exact nI_1 _, ?_⟩⟩
        rw [e]
        intro k hk
        have hk' : k < (s_g m i).1 + 1 := hk
        show upd s2 (s_g m i).1 (nI i) k = nI (if k = (s_g m i).1 then i else (s_g m i).2 k)
        by_cases ck : k = (s_g m i).1
        · rw [if_pos ck, ck, upd_s]
        · rw [if_neg ck, upd_n ck]; exact q3' k (by omega)) (fun s hs => by
    obtain ⟨s1, s2, s3⟩ := s
    obtain ⟨q1, q2, q3⟩ := hs
    have q1' : s1 = nI (s_ns m) := q1
    subst q1'
    refine ⟨(s2, s3), ?_, q2, q3⟩
    show lb_X9_findPlan_7 m (nI (s_ns m)) s2 s3 = _
    unfold lb_X9_findPlan_7
    rw [e12, q_ifle _ _ (Nat.le_refl _) (by omega)]) (0, ct0, 0) ⟨rfl, rfl, fun k hk => absurd hk (by show ¬ k < 0; omega)⟩ (by omega)
  obtain ⟨e1, e2⟩ := e
  have hE1' : e2 = nI (s_N m) := hE1
  subst hE1'
  exact ⟨e1, he, hE2⟩
/-! ===== what lacks, of a SEAM that counts ===== -/
def s_lk (m : Nat → Int32) (s : Nat) : Nat := (if m (145 + s) = 0 then 1 else 0) + (m (109 + s)).toNatClampNeg - (m (157 + s)).toNatClampNeg
theorem s_lk_e {m : Nat → Int32} (h : k_Inv m) {s : Nat} (hs : s < s_ns m) (h2 : ¬ m (145 + s) = 2) : 1 ≤ s_lk m s ∧ s_lk m s ≤ 5 ∧ (if m (145 + s) = 0 then 1 + m (109 + s) - m (157 + s) else 0 + m (109 + s) - m (157 + s)) = nI (s_lk m s) := by
  obtain ⟨e12, hn, e12'⟩ := s_ns_e h.1
  obtain ⟨D, eD, eD2, hD, -⟩ := kr_nI (rg_dn h.1 (i := s) (by omega)) (by decide) (by decide)
  obtain ⟨LL, eL, eL2, hL, -⟩ := kr_nI (rg_lg h.1 (i := s) (by omega)) (by decide) (by decide)
  have sea := h.2.2.2 s (by omega)
  unfold s_lk
  rw [eD, eL, q_cl (by omega), q_cl (by omega)]
  by_cases c0 : m (145 + s) = 0
  · have := sea.1 (by rw [c0]; decide)
    rw [if_pos c0, if_pos c0, show (1 : Int32) = nI 1 from rfl, nI_add, pk_sub (by omega)]
    exact ⟨by omega, by omega, rfl⟩
  · have c1 : m (145 + s) = 1 := by
      obtain ⟨r1, r2⟩ := rg_st h.1 (i := s) (by omega)
      have t0 : (m (145 + s)).toInt ≠ 0 := fun e => c0 (Int32.toInt_inj.mp (by rw [e]; decide))
      have t2 : (m (145 + s)).toInt ≠ 2 := fun e => h2 (Int32.toInt_inj.mp (by rw [e]; decide))
      exact Int32.toInt_inj.mp (by rw [show (1 : Int32).toInt = 1 from by decide]; omega)
    have := sea.2.1 (by rw [c1]; decide)
    rw [if_neg c0, if_neg c0, Int32.zero_add, pk_sub (by omega), Nat.zero_add]
    exact ⟨by omega, by omega, rfl⟩
theorem x_lack {m sta lg dn : Nat → Int32} (h : k_Inv m) (hse : ∀ i, i < 12 → sta i = m (145 + i) ∧ lg i = m (109 + i) ∧ dn i = m (157 + i)) {s : Nat} (hs : s < s_ns m) (h2 : ¬ m (145 + s) = 2) : p_X3_hoursLacking sta lg dn (nI s) = some (nI (s_lk m s)) := by
  have hn := (s_ns_e h.1).2.1
  obtain ⟨-, -, e⟩ := s_lk_e h hs h2
  obtain ⟨z1, z2, z3⟩ := hse s (by omega)
  unfold p_X3_hoursLacking
  simp (disch := omega) only [q_ix, q_cl]
  rw [z1, z2, z3, ← e]
  by_cases c0 : m (145 + s) = 0
  · rw [if_pos c0, if_pos c0]
  · rw [if_neg c0, if_neg c0]
theorem y_hoursFor {m : Nat → Int32} (h : k_Inv m) {s : Nat} (hs : s < s_ns m) (h2 : ¬ m (145 + s) = 2) : p_X9_hoursFor m (nI s) = some (nI (s_lk m s)) := by
  have hn := (s_ns_e h.1).2.1
  obtain ⟨-, -, e⟩ := s_lk_e h hs h2
  unfold p_X9_hoursFor
  simp (disch := omega) only [q_o145, q_o109, q_o157, q_ix, q_cl]
  rw [← e]
  by_cases c0 : m (145 + s) = 0
  · rw [if_pos c0, if_pos c0]
  · rw [if_neg c0, if_neg c0]
/-! ===== the beginnings that may be ===== -/
def s_dry (m rn td : Nat → Int32) (o s j : Nat) : Bool := decide (rn (min (o + j) 95) = 0) && s_bare m td s (o + j)
def s_row (p : Nat → Bool) : Nat → Nat
  | 0 => 0
  | i + 1 => if p i = true then s_row p i + 1 else 0
theorem s_row_le (p : Nat → Bool) : ∀ i, s_row p i ≤ i
  | 0 => Nat.le_refl 0
  | i + 1 => by
    have ih := s_row_le p i
    unfold s_row
    split <;> omega
theorem s_row_iff (p : Nat → Bool) : ∀ (i k : Nat), k ≤ s_row p i ↔ (k ≤ i ∧ ∀ j, i - k ≤ j → j < i → p j = true)
  | 0, k => by
    constructor
    · intro hk
      exact ⟨hk, fun j _ hj => absurd hj (by omega)⟩
    · intro hk; exact hk.1
  | i + 1, k => by
    have ih := s_row_iff p i (k - 1)
    have hle := s_row_le p i
    unfold s_row
    by_cases c : p i = true
    · rw [if_pos c]
      constructor
      · intro hk
        obtain ⟨h1, h2⟩ := ih.mp (by omega)
        refine ⟨by omega, fun j hj1 hj2 => ?_⟩
        by_cases e : j = i
        · subst e; exact c
        · exact h2 j (by omega) (by omega)
      · rintro ⟨h1, h2⟩
        have := ih.mpr ⟨by omega, fun j hj1 hj2 => h2 j (by omega) (by omega)⟩
        omega
    · rw [if_neg c]
      constructor
      · intro hk
        exact ⟨by omega, fun j hj1 hj2 => by omega⟩
      · rintro ⟨h1, h2⟩
        rcases Nat.eq_zero_or_pos k with z | z
        · omega
        · exact absurd (h2 i (by omega) (by omega)) c
theorem q_sa (a b : Int32) : a - b + 1 = a + 1 - b := by
  rw [Int32.sub_eq_add_neg, Int32.sub_eq_add_neg, Int32.add_assoc, Int32.add_assoc, Int32.add_comm (-b) 1]
def s_bgf (p : Nat → Bool) (k i : Nat) (x : Int32) : Int32 := if k ≤ s_row p (i + 1) then x ||| (1 <<< (nI (i + 1 - k) &&& 31)) else x
theorem s_bgf_bt (p : Nat → Bool) (k : Nat) (hk : 1 ≤ k) : ∀ n, n ≤ 6 → ∀ b, b < 32 → bt (q_fold (s_bgf p k) 0 n) b = (decide (b + k ≤ n) && q_all (fun j => p (b + j)) k)
  | 0, _, b, hb => by
    show bt 0 b = _
    rw [b_0, decide_eq_false (by omega), Bool.false_and]
  | n + 1, hn, b, hb => by
    have ih := s_bgf_bt p k hk n (by omega) b hb
    show bt (s_bgf p k n (q_fold (s_bgf p k) 0 n)) b = _
    generalize q_fold (s_bgf p k) 0 n = x at ih ⊢
    unfold s_bgf
    by_cases c : k ≤ s_row p (n + 1)
    · obtain ⟨c1, c2⟩ := (s_row_iff p (n + 1) k).mp c
      rw [if_pos c, b_or, ih, bt_one _ (by omega) hb]
      by_cases e : b = n + 1 - k
      · have hq : q_all (fun j => p (b + j)) k = true := q_all_iff.mpr fun j hj => c2 _ (by omega) (by omega)
        rw [hq, decide_eq_true e, decide_eq_true (show b + k ≤ n + 1 by omega)]; simp
      · rw [decide_eq_false e, Bool.or_false]
        by_cases c3 : b + k ≤ n
        · rw [decide_eq_true c3, decide_eq_true (show b + k ≤ n + 1 by omega)]
        · rw [decide_eq_false c3, decide_eq_false (show ¬ b + k ≤ n + 1 by omega)]
    · rw [if_neg c, ih]
      by_cases c3 : b + k ≤ n
      · rw [decide_eq_true c3, decide_eq_true (show b + k ≤ n + 1 by omega)]
      · rw [decide_eq_false c3, Bool.false_and]
        by_cases c4 : b + k ≤ n + 1
        · have hq : q_all (fun j => p (b + j)) k = false := by
            cases hqq : q_all (fun j => p (b + j)) k with
            | false => rfl
            | true =>
              exfalso
              refine c ((s_row_iff p (n + 1) k).mpr ⟨by omega, fun j h1 h2 => ?_⟩)
              have := q_all_iff.mp hqq (j - b) (by omega)
              have h5 : p (b + (j - b)) = true := this
              rw [show b + (j - b) = j from by omega] at h5
              exact h5
          rw [hq, Bool.and_false]
        · rw [decide_eq_false c4, Bool.false_and]
def s_okb (m rn td : Nat → Int32) (o n s b : Nat) : Bool := decide (b + s_lk m s ≤ n) && q_all (fun j => s_dry m rn td o s (b + j)) (s_lk m s)
theorem x_begins {m rn td sta lg dn sk sd : Nat → Int32} (h : k_Inv m) (hrn : ∀ h, h < 96 → kr (rn h) 0 1) (hse : ∀ i, i < 12 → sk i = m (73 + i) ∧ sd i = m (85 + i) ∧ sta i = m (145 + i) ∧ lg i = m (109 + i) ∧ dn i = m (157 + i)) {o n s : Nat} (ho : o ≤ 96) (hn6 : n ≤ 6) (hs : s < s_ns m) (h2 : ¬ m (145 + s) = 2) : ∃ x, p_X2_beginnings (nI o) (m 1) sta lg dn rn td sk sd (nI s) (nI n) = some x ∧ ∀ b, b < 32 → bt x b = s_okb m rn td o n s b := by
  have hn := (s_ns_e h.1).2.1
  obtain ⟨l1, l5, -⟩ := s_lk_e h hs h2
  have lk := x_lack (sta := sta) (lg := lg) (dn := dn) h (fun i hi => ⟨(hse i hi).2.2.1, (hse i hi).2.2.2.1, (hse i hi).2.2.2.2⟩) hs h2
  refine ⟨q_fold (s_bgf (s_dry m rn td o s) (s_lk m s)) 0 n, ?_, fun b hb => s_bgf_bt _ _ l1 n hn6 b hb⟩
  have key : k_lp (fun t : Int32 × Int32 × Int32 => lb_X2_beginnings_18 (nI n) rn (nI o) (m 1) td sk sd (nI s) (nI (s_lk m s)) t.1 t.2.1 t.2.2) k_fuel (0, 0, 0) = some (q_fold (s_bgf (s_dry m rn td o s) (s_lk m s)) 0 n) := by
    refine q_run (body := fun t : Int32 × Int32 × Int32 => lb_X2_beginnings_18 (nI n) rn (nI o) (m 1) td sk sd (nI s) (nI (s_lk m s)) t.1 t.2.1 t.2.2) (fun i => (q_fold (s_bgf (s_dry m rn td o s) (s_lk m s)) 0 i, nI (s_row (s_dry m rn td o s) i), nI i)) _ n (fun i hi => ?_) ?_ (by omega)
    · show lb_X2_beginnings_18 (nI n) rn (nI o) (m 1) td sk sd (nI s) (nI (s_lk m s)) (q_fold (s_bgf (s_dry m rn td o s) (s_lk m s)) 0 i) (nI (s_row (s_dry m rn td o s) i)) (nI i) = some (.inl (s_bgf (s_dry m rn td o s) (s_lk m s) i (q_fold (s_bgf (s_dry m rn td o s) (s_lk m s)) 0 i), nI (s_row (s_dry m rn td o s) (i + 1)), nI (i + 1)))
      generalize q_fold (s_bgf (s_dry m rn td o s) (s_lk m s)) 0 i = x
      have hrow := s_row_le (s_dry m rn td o s) i
      have er : s_row (s_dry m rn td o s) (i + 1) = if s_dry m rn td o s i = true then s_row (s_dry m rn td o s) i + 1 else 0 := rfl
      unfold lb_X2_beginnings_18 s_bgf
      rw [q_ifge _ _ hi (by omega), nI_add, x_rainsIn hrn (by omega), q_b1, x_isBare (by omega) (by omega) (hse s (by omega)).1 (hse s (by omega)).2.1, q_b1, q_ifp, if_pos (show (0 : Int32) < nI (s_lk m s) from nI_lt (a := 0) l1 (by omega)), er]
      have wet : ¬ s_dry m rn td o s i = true → (some (.inl (x, 0, nI i + 1)) : Option ((Int32 × Int32 × Int32) ⊕ Int32)) = some (.inl ((if s_lk m s ≤ (if s_dry m rn td o s i = true then s_row (s_dry m rn td o s) i + 1 else 0) then x ||| (1 <<< (nI (i + 1 - s_lk m s) &&& 31)) else x), nI (if s_dry m rn td o s i = true then s_row (s_dry m rn td o s) i + 1 else 0), nI (i + 1))) := by
        intro hd
        rw [if_neg hd, if_neg (show ¬ s_lk m s ≤ 0 by omega), nI_1]; rfl
      by_cases cr : rn (min (o + i) 95) = 0
      · rw [if_pos cr]
        by_cases cb : s_bare m td s (o + i) = true
        · have hd : s_dry m rn td o s i = true := by unfold s_dry; rw [decide_eq_true cr, cb]; rfl
          rw [if_pos cb, if_pos hd, nI_1, nI_1, q_sa, nI_1]
          by_cases cl : s_row (s_dry m rn td o s) i + 1 < s_lk m s
          · rw [if_pos (nI_lt cl (by omega)), if_neg (show ¬ s_lk m s ≤ s_row (s_dry m rn td o s) i + 1 by omega)]
          · rw [if_neg (nI_nlt (by omega) (by omega)), if_pos (show s_lk m s ≤ s_row (s_dry m rn td o s) i + 1 by omega), pk_sub (by omega)]
        · rw [if_neg cb]
          exact wet (by unfold s_dry; simp [cb])
      · rw [if_neg cr]
        exact wet (by unfold s_dry; simp [cr])
    · show lb_X2_beginnings_18 (nI n) rn (nI o) (m 1) td sk sd (nI s) (nI (s_lk m s)) _ _ (nI n) = _
      unfold lb_X2_beginnings_18
      rw [q_ifle _ _ (Nat.le_refl _) (by omega)]
  unfold p_X2_beginnings
  rw [lk, q_b1, key, q_b1]
end
section
/-! ===== eight numbers in one LONG ===== -/
def s_pk (f : Nat → Nat) : Nat := f 0 + 256 * f 1 + 65536 * f 2 + 16777216 * f 3 + 4294967296 * f 4 + 1099511627776 * f 5 + 281474976710656 * f 6 + 72057594037927936 * f 7
def s_r : Nat → Nat
  | 0 => 0
  | k + 1 => s_r k + 2 ^ (8 * k)
theorem s_r_lt {k hd : Nat} (hk : k ≤ 8) (hd6 : hd ≤ 6) : hd * s_r k < 2 ^ (8 * k) := by
  have h := (by decide +kernel : ∀ k, k < 9 → 6 * s_r k < 2 ^ (8 * k)) k (by omega)
  exact Nat.lt_of_le_of_lt (Nat.mul_le_mul_right _ hd6) h
theorem s_pk_in (hd b lk : Nat) (h : b + lk ≤ 8) : s_pk (fun h => if b ≤ h ∧ h < b + lk then hd else 0) = hd * s_r lk * 2 ^ (8 * b) := by
  have h1 := (by decide +kernel : ∀ b, b < 9 → ∀ lk, lk < 9 → b + lk ≤ 8 → s_pk (fun h => if b ≤ h ∧ h < b + lk then 1 else 0) = s_r lk * 2 ^ (8 * b)) b (by omega) lk (by omega) h
  rw [Nat.mul_assoc, ← h1]
  have e : ∀ h, (if b ≤ h ∧ h < b + lk then hd else 0) = hd * (if b ≤ h ∧ h < b + lk then 1 else 0) := fun h => by split <;> simp
  unfold s_pk
  simp only [e]
  generalize (if b ≤ 0 ∧ 0 < b + lk then 1 else 0) = a0
  generalize (if b ≤ 1 ∧ 1 < b + lk then 1 else 0) = a1
  generalize (if b ≤ 2 ∧ 2 < b + lk then 1 else 0) = a2
  generalize (if b ≤ 3 ∧ 3 < b + lk then 1 else 0) = a3
  generalize (if b ≤ 4 ∧ 4 < b + lk then 1 else 0) = a4
  generalize (if b ≤ 5 ∧ 5 < b + lk then 1 else 0) = a5
  generalize (if b ≤ 6 ∧ 6 < b + lk then 1 else 0) = a6
  generalize (if b ≤ 7 ∧ 7 < b + lk then 1 else 0) = a7
  simp only [Nat.mul_add, Nat.mul_left_comm hd]
theorem s_pk_add (f g : Nat → Nat) : s_pk (fun h => f h + g h) = s_pk f + s_pk g := by
  simp only [s_pk]
  omega
theorem s_pk_c (c : Nat) : s_pk (fun _ => c) = c * 72340172838076673 := by
  simp only [s_pk]
  omega
theorem s_pk_mask {f : Nat → Nat} (hf : ∀ h, h < 8 → f h < 256) : s_pk f &&& 9259542123273814144 = 0 ↔ ∀ h, h < 8 → f h < 128 := by
  have f0 := hf 0 (by omega)
  have f1 := hf 1 (by omega)
  have f2 := hf 2 (by omega)
  have f3 := hf 3 (by omega)
  have f4 := hf 4 (by omega)
  have f5 := hf 5 (by omega)
  have f6 := hf 6 (by omega)
  have f7 := hf 7 (by omega)
  have b0 : (s_pk f).testBit 7 = decide (128 ≤ f 0) := by rw [Nat.testBit_eq_decide_div_mod_eq]; exact decide_eq_decide.mpr (by unfold s_pk; omega)
  have b1 : (s_pk f).testBit 15 = decide (128 ≤ f 1) := by rw [Nat.testBit_eq_decide_div_mod_eq]; exact decide_eq_decide.mpr (by unfold s_pk; omega)
  have b2 : (s_pk f).testBit 23 = decide (128 ≤ f 2) := by rw [Nat.testBit_eq_decide_div_mod_eq]; exact decide_eq_decide.mpr (by unfold s_pk; omega)
  have b3 : (s_pk f).testBit 31 = decide (128 ≤ f 3) := by rw [Nat.testBit_eq_decide_div_mod_eq]; exact decide_eq_decide.mpr (by unfold s_pk; omega)
  have b4 : (s_pk f).testBit 39 = decide (128 ≤ f 4) := by rw [Nat.testBit_eq_decide_div_mod_eq]; exact decide_eq_decide.mpr (by unfold s_pk; omega)
  have b5 : (s_pk f).testBit 47 = decide (128 ≤ f 5) := by rw [Nat.testBit_eq_decide_div_mod_eq]; exact decide_eq_decide.mpr (by unfold s_pk; omega)
  have b6 : (s_pk f).testBit 55 = decide (128 ≤ f 6) := by rw [Nat.testBit_eq_decide_div_mod_eq]; exact decide_eq_decide.mpr (by unfold s_pk; omega)
  have b7 : (s_pk f).testBit 63 = decide (128 ≤ f 7) := by rw [Nat.testBit_eq_decide_div_mod_eq]; exact decide_eq_decide.mpr (by unfold s_pk; omega)
  constructor
  · intro h k hk
    have t : ∀ i, ((s_pk f).testBit i && (9259542123273814144 : Nat).testBit i) = false := fun i => by rw [← Nat.testBit_and, h, Nat.zero_testBit]
    have t0 := t 7
    have t1 := t 15
    have t2 := t 23
    have t3 := t 31
    have t4 := t 39
    have t5 := t 47
    have t6 := t 55
    have t7 := t 63
    rw [b0, (by decide +kernel : (9259542123273814144 : Nat).testBit 7 = true), Bool.and_true] at t0
    rw [b1, (by decide +kernel : (9259542123273814144 : Nat).testBit 15 = true), Bool.and_true] at t1
    rw [b2, (by decide +kernel : (9259542123273814144 : Nat).testBit 23 = true), Bool.and_true] at t2
    rw [b3, (by decide +kernel : (9259542123273814144 : Nat).testBit 31 = true), Bool.and_true] at t3
    rw [b4, (by decide +kernel : (9259542123273814144 : Nat).testBit 39 = true), Bool.and_true] at t4
    rw [b5, (by decide +kernel : (9259542123273814144 : Nat).testBit 47 = true), Bool.and_true] at t5
    rw [b6, (by decide +kernel : (9259542123273814144 : Nat).testBit 55 = true), Bool.and_true] at t6
    rw [b7, (by decide +kernel : (9259542123273814144 : Nat).testBit 63 = true), Bool.and_true] at t7
    have t0 := of_decide_eq_false t0
    have t1 := of_decide_eq_false t1
    have t2 := of_decide_eq_false t2
    have t3 := of_decide_eq_false t3
    have t4 := of_decide_eq_false t4
    have t5 := of_decide_eq_false t5
    have t6 := of_decide_eq_false t6
    have t7 := of_decide_eq_false t7
    rcases (by omega : k = 0 ∨ k = 1 ∨ k = 2 ∨ k = 3 ∨ k = 4 ∨ k = 5 ∨ k = 6 ∨ k = 7) with e | e | e | e | e | e | e | e <;> subst e <;> omega
  · intro h
    apply Nat.eq_of_testBit_eq
    intro i
    rw [Nat.testBit_and, Nat.zero_testBit]
    rcases Nat.lt_or_ge i 64 with hi | hi
    · rw [(by decide +kernel : ∀ i, i < 64 → (9259542123273814144 : Nat).testBit i = decide (i % 8 = 7)) i hi]
      by_cases c : i % 8 = 7
      · rw [decide_eq_true c, Bool.and_true]
        have h0 := h 0 (by omega)
        have h1 := h 1 (by omega)
        have h2 := h 2 (by omega)
        have h3 := h 3 (by omega)
        have h4 := h 4 (by omega)
        have h5 := h 5 (by omega)
        have h6 := h 6 (by omega)
        have h7 := h 7 (by omega)
        rcases (by omega : i = 7 ∨ i = 15 ∨ i = 23 ∨ i = 31 ∨ i = 39 ∨ i = 47 ∨ i = 55 ∨ i = 63) with e | e | e | e | e | e | e | e <;> subst e
        · rw [b0]; exact decide_eq_false (by omega)
        · rw [b1]; exact decide_eq_false (by omega)
        · rw [b2]; exact decide_eq_false (by omega)
        · rw [b3]; exact decide_eq_false (by omega)
        · rw [b4]; exact decide_eq_false (by omega)
        · rw [b5]; exact decide_eq_false (by omega)
        · rw [b6]; exact decide_eq_false (by omega)
        · rw [b7]; exact decide_eq_false (by omega)
      · rw [decide_eq_false c, Bool.and_false]
    · rw [Nat.testBit_lt_two_pow (x := 9259542123273814144) (Nat.lt_of_lt_of_le (by decide : (9259542123273814144 : Nat) < 2 ^ 64) (Nat.pow_le_pow_right (by decide) hi)), Bool.and_false]
def s_mo (men : Nat) (f : Nat → Nat) : Bool := q_all (fun h => decide (f h ≤ men)) 8
theorem x_men {f : Nat → Nat} {men : Nat} (hf : ∀ h, h < 8 → f h ≤ 100) (hm : men ≤ 100) : p_X2_areMenEnough (lN ((127 - men) * 72340172838076673)) (lN (s_pk f)) = some (if s_mo men f = true then 1 else 0) := by
  have hg : ∀ h, h < 8 → f h + (127 - men) < 256 := fun h hh => by have := hf h hh; omega
  have e := s_pk_mask (f := fun h => f h + (127 - men)) hg
  have key : (lg_cmp ((lN (s_pk f) + lN ((127 - men) * 72340172838076673)) &&& (-9187201950435737472)) 0 = 0) ↔ s_mo men f = true := by
    rw [lg_cmp_eq, lN_add, ← s_pk_c, ← s_pk_add, (by decide +kernel : (-9187201950435737472 : Int64) = lN 9259542123273814144), fb_andL]
    have hb : (s_pk (fun h => f h + (127 - men)) &&& 9259542123273814144) < 2 ^ 64 := Nat.and_lt_two_pow _ (by decide)
    have e2 : lN (s_pk (fun h => f h + (127 - men)) &&& 9259542123273814144) = 0 ↔ (s_pk (fun h => f h + (127 - men)) &&& 9259542123273814144) = 0 := by
      constructor
      · intro h
        have := congrArg (fun x : Int64 => x.toBitVec.toNat) h
        have h2 : (lN (s_pk (fun h => f h + (127 - men)) &&& 9259542123273814144)).toBitVec.toNat = (0 : Int64).toBitVec.toNat := this
        rw [wb_tn hb] at h2
        exact h2
      · intro h; rw [h]; rfl
    rw [e2, e]
    unfold s_mo
    rw [q_all_iff]
    constructor
    · intro h k hk
      have := h k hk
      exact decide_eq_true (by omega)
    · intro h k hk
      have := of_decide_eq_true (h k hk)
      show f k + (127 - men) < 128
      omega
  unfold p_X2_areMenEnough
  by_cases c : s_mo men f = true
  · rw [if_pos (key.mpr c), if_pos c]
  · rw [if_neg (fun h => c (key.mp h)), if_neg c]
theorem x_lanes {hrs hnd : Nat → Int32} {sz s lk hd : Nat} (hsz : sz < 5) (hs : s < 12) (hlk : lk ≤ 5) (hh : hnd s = nI hd) (hd6 : hd ≤ 6) (f0 : Nat → Int64) : ∃ f, k_lp (fun t : Int32 × (Nat → Int64) => lb_X2_gather_94 (nI sz) hrs (nI lk) (nI s) hnd t.1 t.2) k_fuel (0, vp_updL f0 sz 0) = some f ∧ f sz = lN (hd * s_r lk) ∧ ∀ k, ¬ k = sz → f k = f0 k := by
  obtain ⟨f, h1, h2⟩ := q_lpI (body := fun t : Int32 × (Nat → Int64) => lb_X2_gather_94 (nI sz) hrs (nI lk) (nI s) hnd t.1 t.2) (fun i t => t.1 = nI i ∧ t.2 sz = lN (hd * s_r i) ∧ ∀ k, ¬ k = sz → t.2 k = f0 k) (fun f => f sz = lN (hd * s_r lk) ∧ ∀ k, ¬ k = sz → f k = f0 k) lk (fun i t hi ht => by
    obtain ⟨t1, t2⟩ := t
    obtain ⟨h1, h2, h3⟩ := ht
    have h1' : t1 = nI i := h1
    have h2' : t2 sz = lN (hd * s_r i) := h2
    subst h1'
    show ∃ X, lb_X2_gather_94 (nI sz) hrs (nI lk) (nI s) hnd (nI i) t2 = some X ∧ _
    unfold lb_X2_gather_94
    rw [q_ix _ hsz (by omega), q_cl (by omega), upd_s, q_ifge _ _ hi (by omega), q_ix _ hsz (by omega), q_ix _ hs (by omega), q_ix _ hsz (by omega), q_cl (by omega), hh, h2', nI_l (by omega), show (8 : Int32) * nI i = nI (8 * i) from (Int32.ofNat_mul 8 i).symm, wb_shl _ (by omega), fb_orL]
    refine ⟨_, rfl, Or.inl ⟨_, rfl, nI_1 i, ?_, fun k hk => ?_⟩⟩
    · show (if sz = sz then _ else _) = _
      rw [if_pos rfl]
      have hb := s_r_lt (k := i) (by omega) hd6
      have ho := Nat.two_pow_add_eq_or_of_lt hb hd
      rw [Nat.or_comm, Nat.mul_comm hd (2 ^ (8 * i)), ← ho]
      congr 1
      show _ = hd * (s_r i + 2 ^ (8 * i))
      rw [Nat.mul_add, Nat.mul_comm hd (2 ^ (8 * i)), Nat.add_comm]
    · show (if k = sz then _ else t2 k) = _
      rw [if_neg hk]; exact h3 k hk) (fun t ht => by
    obtain ⟨t1, t2⟩ := t
    obtain ⟨h1, h2, h3⟩ := ht
    have h1' : t1 = nI lk := h1
    subst h1'
    refine ⟨t2, ?_, h2, h3⟩
    show lb_X2_gather_94 (nI sz) hrs (nI lk) (nI s) hnd (nI lk) t2 = _
    unfold lb_X2_gather_94
    rw [q_ix _ hsz (by omega), q_cl (by omega), upd_s, q_ifle _ _ (Nat.le_refl _) (by omega)]) (0, vp_updL f0 sz 0) ⟨rfl, by show (if sz = sz then (0 : Int64) else _) = lN (hd * 0); rw [if_pos rfl, Nat.mul_zero]; rfl, fun k hk => if_neg hk⟩ (by omega)
  exact ⟨f, h1, h2.1, h2.2⟩
end
section
/-! ===== the SEARCH for beginnings ===== -/
def s_F (p : Nat → Bool) (w : Nat) : Option Nat := if p w = true then some w else none
theorem s_F_none {p : Nat → Bool} {w : Nat} : s_F p w = none ↔ p w = false := by
  unfold s_F
  cases h : p w <;> simp
theorem s_F_some {p : Nat → Bool} {w v : Nat} : s_F p w = some v ↔ p w = true ∧ w = v := by
  unfold s_F
  cases h : p w <;> simp
theorem q_nest (F : Nat → Bool) (n q : Nat) (hq : 0 < q) : q_find (s_F F) (n * q) = q_find (fun b => (q_find (s_F fun r => F (b * q + r)) q).map (fun r => b * q + r)) n := by
  cases h : q_find (s_F F) (n * q) with
  | none =>
    symm
    refine q_find_none.mpr fun b hb => ?_
    have : q_find (s_F fun r => F (b * q + r)) q = none := by
      refine q_find_none.mpr fun r hr => ?_
      have hlt : b * q + r < n * q := by
        have : (b + 1) * q ≤ n * q := Nat.mul_le_mul_right q hb
        rw [Nat.add_mul, Nat.one_mul] at this
        omega
      exact s_F_none.mpr (s_F_none.mp (q_find_none.mp h _ hlt))
    rw [this]; rfl
  | some v =>
    symm
    obtain ⟨w, hw, hv, hf⟩ := q_find_some.mp h
    obtain ⟨hF, e⟩ := s_F_some.mp hv
    subst e
    have hdm : w / q * q + w % q = w := by rw [Nat.mul_comm]; exact Nat.div_add_mod w q
    have hmod := Nat.mod_lt w hq
    refine q_find_some.mpr ⟨w / q, (Nat.div_lt_iff_lt_mul hq).mpr hw, ?_, fun b hb => ?_⟩
    · have : q_find (s_F fun r => F (w / q * q + r)) q = some (w % q) := by
        refine q_find_some.mpr ⟨w % q, hmod, s_F_some.mpr ⟨?_, rfl⟩, fun j hj => s_F_none.mpr ?_⟩
        · show F (w / q * q + w % q) = true
          rw [hdm]; exact hF
        · exact s_F_none.mp (hf (w / q * q + j) (by omega))
      show Option.map _ (q_find (s_F fun r => F (w / q * q + r)) q) = _
      rw [this]
      show some (w / q * q + w % q) = some w
      rw [hdm]
    · have : q_find (s_F fun r => F (b * q + r)) q = none := by
        refine q_find_none.mpr fun r hr => s_F_none.mpr ?_
        have h2 : (b + 1) * q ≤ w / q * q := Nat.mul_le_mul_right q hb
        rw [Nat.add_mul, Nat.one_mul] at h2
        exact s_F_none.mp (hf (b * q + r) (by omega))
      show Option.map _ (q_find (s_F fun r => F (b * q + r)) q) = none
      rw [this]; rfl
def s_q (e : Nat → Bool) (N n : Nat) : Nat → Nat
  | 0 => 1
  | r + 1 => if e (N - (r + 1)) = true then n * s_q e N n r else s_q e N n r
theorem s_q_pos (e : Nat → Bool) (N : Nat) {n : Nat} (hn : 0 < n) : ∀ r, 0 < s_q e N n r
  | 0 => by show 0 < 1; omega
  | r + 1 => by
    have ih := s_q_pos e N hn r
    unfold s_q
    split
    · exact Nat.mul_pos hn ih
    · exact ih
theorem s_q_dvd (e : Nat → Bool) (N n : Nat) {t : Nat} (he : e (N - (t + 1)) = true) : ∀ r, t < r → ∃ m, s_q e N n r = s_q e N n t * (n * m)
  | 0, h => absurd h (by omega)
  | r + 1, h => by
    by_cases c : t = r
    · subst c
      refine ⟨1, ?_⟩
      rw [s_q, if_pos he, Nat.mul_one, Nat.mul_comm]
    · obtain ⟨m, hm⟩ := s_q_dvd e N n he r (by omega)
      rw [s_q]
      split
      · refine ⟨n * m, ?_⟩
        rw [hm, Nat.mul_left_comm]
      · exact ⟨m, hm⟩
def s_dg (e : Nat → Bool) (N n t w : Nat) : Nat := w / s_q e N n t % n
theorem s_dg_lt (e : Nat → Bool) (N : Nat) {n : Nat} (hn : 0 < n) (t w : Nat) : s_dg e N n t w < n := Nat.mod_lt _ hn
theorem s_dg_sh (e : Nat → Bool) (N : Nat) {n : Nat} (hn : 0 < n) {t r : Nat} (he : e (N - (t + 1)) = true) (h : t < r) (b x : Nat) : s_dg e N n t (b * s_q e N n r + x) = s_dg e N n t x := by
  obtain ⟨m, hm⟩ := s_q_dvd e N n he r h
  have hp := s_q_pos e N hn t
  unfold s_dg
  rw [hm, show b * (s_q e N n t * (n * m)) + x = s_q e N n t * (n * (b * m)) + x from by rw [Nat.mul_left_comm b, Nat.mul_left_comm b], Nat.mul_add_div hp, Nat.mul_add_mod]
theorem s_dg_top (e : Nat → Bool) (N : Nat) {n : Nat} (hn : 0 < n) (r : Nat) {b x : Nat} (hb : b < n) (hx : x < s_q e N n r) : s_dg e N n r (b * s_q e N n r + x) = b := by
  have hp := s_q_pos e N hn r
  unfold s_dg
  rw [Nat.mul_comm b, Nat.mul_add_div hp, Nat.div_eq_of_lt hx, Nat.add_zero, Nat.mod_eq_of_lt hb]
def s_ad (lk hd : Nat → Nat) (f : Nat → Nat) (i b : Nat) : Nat → Nat := fun h => f h + if b ≤ h ∧ h < b + lk i then hd i else 0
def s_V (e : Nat → Bool) (N n : Nat) (ok : Nat → Nat → Bool) (lk hd : Nat → Nat) (men : Nat) : Nat → (Nat → Nat) → Nat → Bool
  | 0, _, _ => true
  | r + 1, f, w => if e (N - (r + 1)) = true then (ok (N - (r + 1)) (s_dg e N n r w) && (s_mo men (s_ad lk hd f (N - (r + 1)) (s_dg e N n r w)) && s_V e N n ok lk hd men r (s_ad lk hd f (N - (r + 1)) (s_dg e N n r w)) w)) else s_V e N n ok lk hd men r f w
theorem s_V_sh (e : Nat → Bool) (N : Nat) {n : Nat} (hn : 0 < n) (ok : Nat → Nat → Bool) (lk hd : Nat → Nat) (men r b x : Nat) : ∀ t, t ≤ r → ∀ f, s_V e N n ok lk hd men t f (b * s_q e N n r + x) = s_V e N n ok lk hd men t f x
  | 0, _, _ => rfl
  | t + 1, h, f => by
    have ih := s_V_sh e N hn ok lk hd men r b x t (by omega)
    unfold s_V
    by_cases he : e (N - (t + 1)) = true
    · rw [if_pos he, if_pos he, s_dg_sh e N hn he (by omega), ih]
    · rw [if_neg he, if_neg he, ih]
theorem x_placed {e : Nat → Bool} {N n : Nat} {ok : Nat → Nat → Bool} {lk hd : Nat → Nat} {men : Nat} {c pl wo pi : Int32} {mb : Nat → Int32} {hn : Nat → Int64} (hN : N ≤ 5) (hn0 : 0 < n) (hn6 : n ≤ 6) (he : ∀ k, k < N → bt c k = e k) (hok : ∀ k, k < N → ∀ b, b < 6 → bt (mb k) b = ok k b) (hok2 : ∀ k, k < N → ∀ b, ok k b = true → b < n ∧ b + lk k ≤ 8) (hhn : ∀ k, k < N → hn k = lN (hd k * s_r (lk k))) (hd6 : ∀ k, k < N → hd k ≤ 6) (hm : men ≤ 100) : ∀ r, r ≤ N → ∀ d, r < d → ∀ f tr, (∀ h, h < 8 → f h ≤ 6 * (N - r)) → ∃ R tr', p_X2_isPlaced d (lN ((127 - men) * 72340172838076673)) (nI N) pl wo pi tr mb hn c (nI (N - r)) (lN (s_pk f)) = some (R, tr') ∧ (∀ k, k < N - r → tr' k = tr k) ∧ ((q_find (s_F (s_V e N n ok lk hd men r f)) (s_q e N n r) = none ∧ R = 0) ∨ ∃ w, q_find (s_F (s_V e N n ok lk hd men r f)) (s_q e N n r) = some w ∧ R = 1 ∧ ∀ t, t < r → e (N - (t + 1)) = true → tr' (N - (t + 1)) = nI (s_dg e N n t w)) := by
  intro r
  induction r with
  | zero =>
    intro _ d hd f tr _
    obtain ⟨d, rfl⟩ : ∃ d', d = d' + 1 := ⟨d - 1, by omega⟩
    refine ⟨1, tr, ?_, fun _ _ => rfl, Or.inr ⟨0, rfl, rfl, fun t ht => absurd ht (by omega)⟩⟩
    show pb_X2_isPlaced (p_X2_isPlaced d) _ _ _ _ _ _ _ _ _ _ _ = _
    unfold pb_X2_isPlaced
    rw [q_ifle _ _ (show N ≤ N - 0 by omega) (by omega)]
  | succ r ih =>
    intro hr d hdd f tr hf
    obtain ⟨d, rfl⟩ : ∃ d', d = d' + 1 := ⟨d - 1, by omega⟩
    have ih := ih (by omega) d (by omega)
    have ei : N - r = N - (r + 1) + 1 := by omega
    have hi : N - (r + 1) < N := by omega
    rw [ei] at ih
    generalize hii : N - (r + 1) = i at *
    have hi5 : i < 5 := by omega
    show ∃ R tr', pb_X2_isPlaced (p_X2_isPlaced d) _ _ _ _ _ _ _ _ _ _ _ = some (R, tr') ∧ _
    unfold pb_X2_isPlaced
    rw [q_ifge _ _ hi (by omega), if_pos (show nI i < (5 : Int32) from nI_lt (b := 5) hi5 (by omega)), q_hasBit _ (by omega), q_b1, q_ifp, he i hi, nI_1]
    by_cases ce : e i = true
    · rw [if_pos ce]
      have hq : s_q e N n (r + 1) = n * s_q e N n r := by rw [s_q, hii, if_pos ce]
      have hqp := s_q_pos e N hn0 r
      obtain ⟨C, hC⟩ : ∃ C : Nat → Option Nat, C = fun b => if (ok i b && s_mo men (s_ad lk hd f i b)) = true then (q_find (s_F (s_V e N n ok lk hd men r (s_ad lk hd f i b))) (s_q e N n r)).map (fun x => b * s_q e N n r + x) else none := ⟨_, rfl⟩
      have hCn : q_find (s_F (s_V e N n ok lk hd men (r + 1) f)) (s_q e N n (r + 1)) = q_find C n := by
        rw [hq, q_nest _ _ _ hqp]
        refine q_find_cong fun b hb => ?_
        rw [hC]
        have hin : q_find (s_F fun x => s_V e N n ok lk hd men (r + 1) f (b * s_q e N n r + x)) (s_q e N n r) = q_find (s_F fun x => ok i b && (s_mo men (s_ad lk hd f i b) && s_V e N n ok lk hd men r (s_ad lk hd f i b) x)) (s_q e N n r) := by
          refine q_find_cong fun x hx => ?_
          have : s_V e N n ok lk hd men (r + 1) f (b * s_q e N n r + x) = (ok i b && (s_mo men (s_ad lk hd f i b) && s_V e N n ok lk hd men r (s_ad lk hd f i b) x)) := by
            rw [s_V, hii, if_pos ce, s_dg_top e N hn0 r hb hx, s_V_sh e N hn0 ok lk hd men r b x r (Nat.le_refl _)]
          show (if s_V e N n ok lk hd men (r + 1) f (b * s_q e N n r + x) = true then some x else none) = (if (ok i b && (s_mo men (s_ad lk hd f i b) && s_V e N n ok lk hd men r (s_ad lk hd f i b) x)) = true then some x else none)
          rw [this]
        show Option.map _ (q_find (s_F fun x => s_V e N n ok lk hd men (r + 1) f (b * s_q e N n r + x)) (s_q e N n r)) = _
        rw [hin]
        by_cases c1 : (ok i b && s_mo men (s_ad lk hd f i b)) = true
        · have c1' := c1
          rw [Bool.and_eq_true] at c1'
          simp only [c1, c1'.1, c1'.2, Bool.true_and, if_true]
        · have : q_find (s_F fun x => ok i b && (s_mo men (s_ad lk hd f i b) && s_V e N n ok lk hd men r (s_ad lk hd f i b) x)) (s_q e N n r) = none := by
            refine q_find_none.mpr fun x hx => s_F_none.mpr ?_
            rw [← Bool.and_assoc, Bool.eq_false_iff.mpr c1, Bool.false_and]
          rw [this]
          exact (if_neg c1).symm
      rw [hCn]
      have loop := q_lpI (body := fun s : Int32 × (Nat → Int32) => lb_X2_isPlaced_36 (nI i) mb (lN ((127 - men) * 72340172838076673)) (lN (s_pk f)) hn (p_X2_isPlaced d) (nI N) pl wo pi c s.1 s.2) (fun b s => s.1 = nI b ∧ (∀ k, k < i → s.2 k = tr k) ∧ ∀ j, j < b → C j = none) (fun E => (∃ tr', E = .inr tr' ∧ (∀ k, k < i → tr' k = tr k) ∧ ∀ j, j < 6 → C j = none) ∨ ∃ tr', E = .inl (1, tr') ∧ (∀ k, k < i → tr' k = tr k) ∧ ∃ b w, b < n ∧ C b = some w ∧ (∀ j, j < b → C j = none) ∧ ∀ t, t < r + 1 → e (N - (t + 1)) = true → tr' (N - (t + 1)) = nI (s_dg e N n t w)) 6 (fun b s hb hs => by
        obtain ⟨s1, s2⟩ := s
        obtain ⟨h1, h2, h3⟩ := hs
        have h1' : s1 = nI b := h1
        have h2' : ∀ k, k < i → s2 k = tr k := h2
        subst h1'
        show ∃ X, lb_X2_isPlaced_36 (nI i) mb (lN ((127 - men) * 72340172838076673)) (lN (s_pk f)) hn (p_X2_isPlaced d) (nI N) pl wo pi c (nI b) s2 = some X ∧ _
        unfold lb_X2_isPlaced_36
        rw [if_neg (show ¬ (6 : Int32) ≤ nI b from nI_ge (b := 6) hb (by omega)), q_ix _ hi5 (by omega), q_ix _ hi5 (by omega), q_cl (by omega), q_hasBit _ (by omega), q_b1, q_ifp, hok i hi b hb]
        have next : C b = none → ∀ s2' : Nat → Int32, (∀ k, k < i → s2' k = tr k) → ∃ X : (Int32 × (Nat → Int32)) ⊕ ((Int32 × (Nat → Int32)) ⊕ (Nat → Int32)), some (Sum.inl (nI b + 1, s2')) = some X ∧ ((∃ s', X = .inl s' ∧ s'.1 = nI (b + 1) ∧ (∀ k, k < i → s'.2 k = tr k) ∧ ∀ j, j < b + 1 → C j = none) ∨ ∃ E, X = .inr E ∧ ((∃ tr', E = .inr tr' ∧ (∀ k, k < i → tr' k = tr k) ∧ ∀ j, j < 6 → C j = none) ∨ ∃ tr', E = .inl (1, tr') ∧ (∀ k, k < i → tr' k = tr k) ∧ ∃ b w, b < n ∧ C b = some w ∧ (∀ j, j < b → C j = none) ∧ ∀ t, t < r + 1 → e (N - (t + 1)) = true → tr' (N - (t + 1)) = nI (s_dg e N n t w))) := by
          intro hc s2' hs2
          refine ⟨_, rfl, Or.inl ⟨_, rfl, nI_1 b, hs2, fun j hj => ?_⟩⟩
          by_cases cj : j = b
          · subst cj; exact hc
          · exact h3 j (by omega)
        by_cases c1 : ok i b = true
        · rw [if_pos c1]
          obtain ⟨hbn, hbl⟩ := hok2 i hi b c1
          have ez : lN (s_pk f) + (hn i <<< ((8 * nI b).toInt64 &&& 63)) = lN (s_pk (s_ad lk hd f i b)) := by
            rw [hhn i hi, show (8 : Int32) * nI b = nI (8 * b) from (Int32.ofNat_mul 8 b).symm, wb_shl _ (by omega), lN_add, ← s_pk_in _ _ _ hbl, ← s_pk_add]; rfl
          have hf2 : ∀ h, h < 8 → s_ad lk hd f i b h ≤ 6 * (N - r) := fun h hh => by
            have h1 := hf h hh
            have h2 := hd6 i hi
            unfold s_ad
            split <;> omega
          rw [ez, x_men (fun h hh => by have := hf2 h hh; omega) hm, q_b1, q_ifp]
          by_cases c2 : s_mo men (s_ad lk hd f i b) = true
          · rw [if_pos c2, q_ix _ hi5 (by omega)]
            obtain ⟨R, tr', g1, g2, g3⟩ := ih (s_ad lk hd f i b) (upd s2 i (nI b)) (by rw [← ei]; exact hf2)
            rw [nI_1, g1, q_b2]
            have g2' : ∀ k, k < i → tr' k = tr k := fun k hk => by rw [g2 k (by omega), upd_n (by omega)]; exact h2' k hk
            have eC : C b = (q_find (s_F (s_V e N n ok lk hd men r (s_ad lk hd f i b))) (s_q e N n r)).map (fun x => b * s_q e N n r + x) := by
              rw [hC]
              show (if _ then _ else _) = _
              rw [if_pos (by rw [c1, c2]; rfl)]
            rcases g3 with ⟨g3, rfl⟩ | ⟨w, g3, rfl, g4⟩
            · rw [if_pos rfl]
              exact next (by rw [eC, g3]; rfl) tr' g2'
            · rw [if_neg (by decide)]
              obtain ⟨w', hw', hw2, -⟩ := q_find_some.mp g3
              obtain ⟨-, rfl⟩ := s_F_some.mp hw2
              refine ⟨_, rfl, Or.inr ⟨_, rfl, Or.inr ⟨tr', rfl, g2', b, b * s_q e N n r + w', hbn, by rw [eC, g3]; rfl, h3, fun t ht hte => ?_⟩⟩⟩
              by_cases ct : t = r
              · subst ct
                rw [hii, g2 i (by omega), upd_s, s_dg_top e N hn0 t hbn hw']
              · rw [s_dg_sh e N hn0 hte (by omega)]
                exact g4 t (by omega) hte
          · rw [if_neg c2]
            exact next (by rw [hC]; exact if_neg (by rw [c1, Bool.true_and]; exact c2)) s2 h2'
        · rw [if_neg c1]
          exact next (by rw [hC]; exact if_neg (by rw [Bool.eq_false_iff.mpr c1, Bool.false_and]; decide)) s2 h2') (fun s hs => by
        obtain ⟨s1, s2⟩ := s
        obtain ⟨h1, h2, h3⟩ := hs
        have h1' : s1 = nI 6 := h1
        subst h1'
        refine ⟨.inr s2, ?_, Or.inl ⟨s2, rfl, h2, h3⟩⟩
        show lb_X2_isPlaced_36 (nI i) mb (lN ((127 - men) * 72340172838076673)) (lN (s_pk f)) hn (p_X2_isPlaced d) (nI N) pl wo pi c (nI 6) s2 = _
        unfold lb_X2_isPlaced_36
        rw [if_pos (show (6 : Int32) ≤ nI 6 from Int32.le_refl _)]) (0, tr) ⟨rfl, fun _ _ => rfl, fun j hj => absurd hj (by omega)⟩ (by omega)
      obtain ⟨E, hE, hE2⟩ := loop
      rw [hE]
      rcases hE2 with ⟨tr', rfl, h1, h2⟩ | ⟨tr', rfl, h1, b, w, hb, hw, hj, ht⟩
      · exact ⟨0, tr', rfl, h1, Or.inl ⟨q_find_none.mpr fun j hj => h2 j (by omega), rfl⟩⟩
      · exact ⟨1, tr', rfl, h1, Or.inr ⟨w, q_find_some.mpr ⟨b, hb, hw, hj⟩, rfl, ht⟩⟩
    · rw [if_neg ce]
      obtain ⟨R, tr', g1, g2, g3⟩ := ih f tr (fun h hh => by have := hf h hh; omega)
      rw [g1, q_b2]
      have hR : R = 0 ∨ R = 1 := by
        rcases g3 with ⟨-, h⟩ | ⟨w, -, h, -⟩
        · exact Or.inl h
        · exact Or.inr h
      rw [q_ck _ hR]
      have hq : s_q e N n (r + 1) = s_q e N n r := by rw [s_q, hii, if_neg ce]
      have hV : s_F (s_V e N n ok lk hd men (r + 1) f) = s_F (s_V e N n ok lk hd men r f) := by
        funext w
        unfold s_F
        rw [s_V, hii, if_neg ce]
      rw [hq, hV]
      refine ⟨R, tr', rfl, fun k hk => g2 k (by omega), ?_⟩
      rcases g3 with g | ⟨w, h1, h2, h3⟩
      · exact Or.inl g
      · refine Or.inr ⟨w, h1, h2, fun t ht hte => h3 t ?_ hte⟩
        rcases Nat.lt_or_ge t r with c | c
        · exact c
        · exact absurd hte (by rw [show t = r from by omega, hii]; exact ce)
end
section
/-! ===== the class's gathering ===== -/
theorem s_g_full {m : Nat → Int32} {i : Nat} (h : (s_g m i).1 = 5) : ∀ j, s_g m (i + j) = s_g m i
  | 0 => rfl
  | j + 1 => by
    have ih := s_g_full h j
    show (if (s_g m (i + j)).1 < 5 ∧ ¬ m (145 + (i + j)) = 2 then _ else s_g m (i + j)) = _
    rw [ih, if_neg (fun c => by have := c.1; omega)]
def s_hd (m : Nat → Int32) (s : Nat) : Nat := (m (97 + s)).toNatClampNeg
theorem s_hd_e {m : Nat → Int32} (h : k_Rng m) {s : Nat} (hs : s < 12) : m (97 + s) = nI (s_hd m s) ∧ s_hd m s ≤ 6 := by
  obtain ⟨D, eD, -, hD, -⟩ := kr_nI (rg_hd h hs) (by decide) (by decide)
  unfold s_hd
  rw [eD, q_cl (by omega)]
  exact ⟨rfl, by omega⟩
def s_gI (m rn td : Nat → Int32) (o n : Nat) (N : Nat) (c : Nat → Nat) (se hr mb : Nat → Int32) (hn : Nat → Int64) : Prop := ∀ k, k < N → se k = nI (c k) ∧ hr k = nI (s_lk m (c k)) ∧ (∀ b, b < 32 → bt (mb k) b = s_okb m rn td o n (c k) b) ∧ hn k = lN (s_hd m (c k) * s_r (s_lk m (c k)))
theorem x_gather {m rn td sk sd hs lg tr sta dn : Nat → Int32} (h : k_Inv m) (hrn : ∀ h, h < 96 → kr (rn h) 0 1) (hse : ∀ i, i < 12 → sk i = m (73 + i) ∧ sd i = m (85 + i) ∧ hs i = m (97 + i) ∧ lg i = m (109 + i) ∧ sta i = m (145 + i) ∧ dn i = m (157 + i)) {o n : Nat} (ho : o ≤ 96) (hn6 : n ≤ 6) (se0 hr0 mb0 : Nat → Int32) (hn0 : Nat → Int64) : ∃ se hr mb hn, p_X2_gather (nI o) (m 1) (m 12) sta se0 lg dn hr0 rn td sk sd mb0 hn0 hs (nI n) = some (nI (s_N m), se, hr, mb, hn) ∧ s_gI m rn td o n (s_N m) (s_c m) se hr mb hn := by
  obtain ⟨e12, hn12, -⟩ := s_ns_e h.1
  obtain ⟨E, hE, E1, E2⟩ := q_lpI (body := fun s : Int32 × (Nat → Int64) × (Nat → Int32) × (Nat → Int32) × (Nat → Int32) × Int32 => lb_X2_gather_7 (m 12) sta lg dn (nI o) (m 1) rn td sk sd (nI n) hs s.1 s.2.1 s.2.2.1 s.2.2.2.1 s.2.2.2.2.1 s.2.2.2.2.2) (fun i s => s.1 = nI i ∧ s.2.2.2.2.2 = nI (s_g m i).1 ∧ s_gI m rn td o n (s_g m i).1 (s_g m i).2 s.2.2.2.2.1 s.2.2.1 s.2.2.2.1 s.2.1) (fun E => E.2.2.2.2 = nI (s_N m) ∧ s_gI m rn td o n (s_N m) (s_c m) E.2.2.2.1 E.2.1 E.2.2.1 E.1) (s_ns m) (fun i s hi hs' => by
    obtain ⟨s1, hn, hr, mb, se, sz⟩ := s
    obtain ⟨q1, q2, q3⟩ := hs'
    have q1' : s1 = nI i := q1
    have q2' : sz = nI (s_g m i).1 := q2
    have q3' : s_gI m rn td o n (s_g m i).1 (s_g m i).2 se hr mb hn := q3
    clear q1 q2 q3
    subst q1'; subst q2'
    have h5 := (s_g_inv m i).1
    have e : s_g m (i + 1) = if (s_g m i).1 < 5 ∧ ¬ m (145 + i) = 2 then ((s_g m i).1 + 1, fun k => if k = (s_g m i).1 then i else (s_g m i).2 k) else s_g m i := rfl
    show ∃ X, lb_X2_gather_7 (m 12) sta lg dn (nI o) (m 1) rn td sk sd (nI n) hs (nI i) hn hr mb se (nI (s_g m i).1) = some X ∧ _
    unfold lb_X2_gather_7
    rw [e12, q_ifge _ _ hi (by omega)]
    by_cases c5 : 5 ≤ (s_g m i).1
    · rw [if_pos (show (5 : Int32) ≤ nI (s_g m i).1 from nI_le (a := 5) c5 (by omega))]
      have ef := s_g_full (m := m) (i := i) (by omega) (s_ns m - i)
      rw [show i + (s_ns m - i) = s_ns m from by omega] at ef
      refine ⟨_, rfl, Or.inr ⟨_, rfl, ?_, ?_⟩⟩
      · show nI (s_g m i).1 = nI (s_g m (s_ns m)).1
        rw [ef]
      · show s_gI m rn td o n (s_g m (s_ns m)).1 (s_g m (s_ns m)).2 se hr mb hn
        rw [ef]; exact q3'
    · obtain ⟨z1, z2, z3, z4, z5, z6⟩ := hse i (by omega)
      rw [if_neg (show ¬ (5 : Int32) ≤ nI (s_g m i).1 from nI_ge (b := 5) (by omega) (by omega)), q_ix _ (by omega) (by omega), q_cl (n := i) (by omega), z5]
      by_cases c2 : m (145 + i) = 2
      · rw [if_pos c2]
        rw [if_neg (fun hh => hh.2 c2)] at e
        exact ⟨_, rfl, Or.inl ⟨_, rfl, nI_1 i, by rw [e], by rw [e]; exact q3'⟩⟩
      · obtain ⟨mb', b1, b2⟩ := x_begins (sta := sta) (lg := lg) (dn := dn) (sk := sk) (sd := sd) h hrn (fun i hi => ⟨(hse i hi).1, (hse i hi).2.1, (hse i hi).2.2.2.2.1, (hse i hi).2.2.2.1, (hse i hi).2.2.2.2.2⟩) (o := o) (n := n) ho hn6 hi c2
        have hlk := s_lk_e h hi c2
        obtain ⟨hd1, hd2⟩ := s_hd_e h.1 (s := i) (by omega)
        obtain ⟨hn', g1, g2, g3⟩ := x_lanes (hrs := hr) (hnd := hs) (sz := (s_g m i).1) (s := i) (lk := s_lk m i) (hd := s_hd m i) (by omega) (by omega) hlk.2.1 (by rw [z3, hd1]) hd2 hn
        rw [if_neg c2, q_ix _ (by omega) (by omega), x_lack (sta := sta) (lg := lg) (dn := dn) h (fun i hi => ⟨(hse i hi).2.2.2.2.1, (hse i hi).2.2.2.1, (hse i hi).2.2.2.2.2⟩) hi c2, q_b1, q_ix _ (by omega) (by omega), b1, q_b1, q_ix _ (by omega) (by omega), q_ix _ (by omega) (by omega), q_cl (by omega), g1, q_b1]
        rw [if_pos ⟨by omega, c2⟩] at e
        refine ⟨_, rfl, Or.inl ⟨_, rfl, nI_1 i, by rw [e]; exact nI_1 _, ?_⟩⟩
        rw [e]
        intro k hk
        have hk' : k < (s_g m i).1 + 1 := hk
        show upd se (s_g m i).1 (nI i) k = nI (if k = (s_g m i).1 then i else (s_g m i).2 k) ∧ upd hr (s_g m i).1 (nI (s_lk m i)) k = nI (s_lk m (if k = (s_g m i).1 then i else (s_g m i).2 k)) ∧ (∀ b, b < 32 → bt (upd mb (s_g m i).1 mb' k) b = s_okb m rn td o n (if k = (s_g m i).1 then i else (s_g m i).2 k) b) ∧ hn' k = lN (s_hd m (if k = (s_g m i).1 then i else (s_g m i).2 k) * s_r (s_lk m (if k = (s_g m i).1 then i else (s_g m i).2 k)))
        by_cases ck : k = (s_g m i).1
        · rw [if_pos ck, ck, upd_s, upd_s, upd_s]
          exact ⟨rfl, rfl, b2, g2⟩
        · rw [if_neg ck, upd_n ck, upd_n ck, upd_n ck, g3 k ck]
          exact q3' k (by omega)) (fun s hs' => by
    obtain ⟨s1, hn, hr, mb, se, sz⟩ := s
    obtain ⟨q1, q2, q3⟩ := hs'
    have q1' : s1 = nI (s_ns m) := q1
    subst q1'
    refine ⟨(hn, hr, mb, se, sz), ?_, q2, q3⟩
    show lb_X2_gather_7 (m 12) sta lg dn (nI o) (m 1) rn td sk sd (nI n) hs (nI (s_ns m)) hn hr mb se sz = _
    unfold lb_X2_gather_7
    rw [e12, q_ifle _ _ (Nat.le_refl _) (by omega)]) (0, hn0, hr0, mb0, se0, 0) ⟨rfl, rfl, fun k hk => absurd hk (by show ¬ k < 0; omega)⟩ (by omega)
  obtain ⟨hn, hr, mb, se, sz⟩ := E
  have E1' : sz = nI (s_N m) := E1
  subst E1'
  refine ⟨se, hr, mb, hn, ?_, E2⟩
  unfold p_X2_gather
  rw [hE, q_b5]
/-! ===== the bits of a set of SEAMS ===== -/
def s_bn (c : Nat → Nat) (j x : Nat) : Nat := fb_sm (fun k => if x.testBit k = true then 2 ^ c k else 0) j
theorem s_bn_s (c : Nat → Nat) (j x : Nat) : s_bn c (j + 1) x = s_bn c j x + (if x.testBit j = true then 2 ^ c j else 0) := fb_sm_succ _ _
theorem s_bn_lt {c : Nat → Nat} (x : Nat) : ∀ j, (∀ a b, a < b → b < j → c a < c b) → ∀ B, (∀ k, k < j → c k < B) → s_bn c j x < 2 ^ B
  | 0, _, B, _ => by show 0 < 2 ^ B; exact Nat.two_pow_pos B
  | j + 1, hc, B, hB => by
    have ih := s_bn_lt (c := c) x j (fun a b h1 h2 => hc a b h1 (by omega)) (c j) (fun k hk => hc k j hk (by omega))
    have h2 : 2 ^ (c j + 1) ≤ 2 ^ B := Nat.pow_le_pow_right (by decide) (hB j (by omega))
    rw [Nat.pow_succ] at h2
    rw [s_bn_s]
    split <;> omega
theorem s_bn_mono {c : Nat → Nat} {x y : Nat} : ∀ j, (∀ a b, a < b → b < j → c a < c b) → x % 2 ^ j ≤ y % 2 ^ j → s_bn c j x ≤ s_bn c j y
  | 0, _, _ => Nat.le_refl _
  | j + 1, hc, h => by
    have hc' : ∀ a b, a < b → b < j → c a < c b := fun a b h1 h2 => hc a b h1 (by omega)
    have ih := s_bn_mono (c := c) (x := x) (y := y) j hc'
    have hl := s_bn_lt (c := c) x j hc' (c j) (fun k hk => hc k j hk (by omega))
    rw [Nat.mod_pow_succ, Nat.mod_pow_succ] at h
    rw [s_bn_s, s_bn_s, Nat.testBit_eq_decide_div_mod_eq, Nat.testBit_eq_decide_div_mod_eq]
    have my := Nat.mod_lt y (Nat.two_pow_pos j)
    rcases Nat.mod_two_eq_zero_or_one (x / 2 ^ j) with a | a <;> rcases Nat.mod_two_eq_zero_or_one (y / 2 ^ j) with b | b <;> rw [a, b] at h
    · have := ih (by omega)
      rw [a, b]; simp; omega
    · rw [a, b]; simp; omega
    · omega
    · have := ih (by omega)
      rw [a, b]; simp; omega
def s_bI (c : Nat → Nat) (x k : Nat) (z : Int32) : Int32 := if x.testBit k = true then z ||| (1 <<< (nI (c k) &&& 31)) else z
theorem s_bI_e {c : Nat → Nat} (x : Nat) : ∀ j, (∀ a b, a < b → b < j → c a < c b) → (∀ k, k < j → c k < 12) → q_fold (s_bI c x) 0 j = nI (s_bn c j x)
  | 0, _, _ => rfl
  | j + 1, hc, h12 => by
    have hc' : ∀ a b, a < b → b < j → c a < c b := fun a b h1 h2 => hc a b h1 (by omega)
    have ih := s_bI_e (c := c) x j hc' (fun k hk => h12 k (by omega))
    have hl := s_bn_lt (c := c) x j hc' (c j) (fun k hk => hc k j hk (by omega))
    show s_bI c x j (q_fold (s_bI c x) 0 j) = _
    rw [ih, s_bn_s]
    unfold s_bI
    by_cases t : x.testBit j = true
    · rw [if_pos t, if_pos t]
      have ho := Nat.two_pow_add_eq_or_of_lt hl 1
      rw [Nat.mul_one] at ho
      refine b_ext fun i hi => ?_
      rw [b_or, bt_one _ (by have := h12 j (by omega); omega) hi, bt_nI _ hi, bt_nI _ hi, Nat.add_comm, ho, Nat.testBit_or, Nat.testBit_two_pow, Bool.or_comm]
      congr 1
      exact decide_eq_decide.mpr ⟨fun h => h.symm, fun h => h.symm⟩
    · rw [if_neg t, if_neg t, Nat.add_zero]
end
section
/-! ===== whether a choice is a plan ===== -/
def s_T (m : Nat → Int32) (e : Nat → Bool) (d : Nat → Nat) (N h : Nat) : Nat := fb_sm (fun k => if e k = true ∧ d k ≤ h ∧ h < d k + s_lk m (s_c m k) then s_hd m (s_c m k) else 0) N
def s_pf (m : Nat → Int32) (e : Nat → Bool) (k : Nat) : Int32 := if e k = true then (if m (157 + s_c m k) = 0 then m (121 + s_c m k) else 0) else 0
def s_pl (m rn td : Nat → Int32) (o n men : Nat) (e : Nat → Bool) (d : Nat → Nat) (N : Nat) : Bool := (q_all (fun k => !e k || s_okb m rn td o n (s_c m k) (d k)) N && q_all (fun h => decide (s_T m e d N h ≤ men)) n) && !decide (m 5 < q_sum (s_pf m e) N)
theorem s_lkN {m : Nat → Int32} (h : k_Inv m) {k : Nat} (hk : k < s_N m) : s_c m k < 12 ∧ s_lk m (s_c m k) ≤ 5 ∧ 1 ≤ s_lk m (s_c m k) ∧ s_hd m (s_c m k) ≤ 6 ∧ m (97 + s_c m k) = nI (s_hd m (s_c m k)) ∧ p_X9_hoursFor m (nI (s_c m k)) = some (nI (s_lk m (s_c m k))) := by
  obtain ⟨c1, c2⟩ := s_c_lt hk
  have hn := (s_ns_e h.1).2.1
  obtain ⟨l1, l2, -⟩ := s_lk_e h c1 c2
  obtain ⟨d1, d2⟩ := s_hd_e h.1 (s := s_c m k) (by omega)
  exact ⟨by omega, l2, l1, d2, d1, y_hoursFor h c1 c2⟩
theorem y_dryrun {m rn td ct bg : Nat → Int32} (h : k_Inv m) (hrn : ∀ h, h < 96 → kr (rn h) 0 1) (hct : ∀ k, k < s_N m → ct k = nI (s_c m k)) {o k b : Nat} (h0 : m 0 = nI o) (ho : o ≤ 96) (hk : k < s_N m) (hb : b < 6) (hbg : bg k = nI b) : k_lp (fun s => lb_X9_isPlan_82 m ct (nI k) rn bg td s) k_fuel 0 = some (if q_all (fun j => s_dry m rn td o (s_c m k) (b + j)) (s_lk m (s_c m k)) = true then .inr () else .inl 0) := by
  have hN := s_N_le m
  obtain ⟨c12, l5, l1, -, -, yh⟩ := s_lkN h hk
  have key := q_findlp (body := fun s => lb_X9_isPlan_82 m ct (nI k) rn bg td s) (fun j => if s_dry m rn td o (s_c m k) (b + j) = true then none else some (0 : Int32)) (s_lk m (s_c m k)) (fun j hj => by
    show lb_X9_isPlan_82 m ct (nI k) rn bg td (nI j) = _
    unfold lb_X9_isPlan_82
    rw [q_cl (by omega), hct k hk, yh, q_b1, q_ifge _ _ hj (by omega), q_ix _ (by omega) (by omega), h0, hbg, nI_add, nI_add, y_rains hrn (by omega), q_b1, y_isBare m td c12 (by omega), q_b1, q_ifp]
    unfold s_dry
    rw [Nat.add_assoc]
    by_cases cr : rn (min (o + (b + j)) 95) = 0
    · rw [if_pos cr, decide_eq_true cr, Bool.true_and]
      by_cases cb : s_bare m td (s_c m k) (o + (b + j)) = true
      · rw [if_pos cb, if_pos cb]
      · rw [if_neg cb, if_neg cb]
    · rw [if_neg cr, decide_eq_false cr, Bool.false_and, if_neg (by decide)]) (by
    show lb_X9_isPlan_82 m ct (nI k) rn bg td (nI (s_lk m (s_c m k))) = _
    unfold lb_X9_isPlan_82
    rw [q_cl (by omega), hct k hk, yh, q_b1, q_ifle _ _ (Nat.le_refl _) (by omega)]) (by omega)
  rw [key]
  by_cases c : q_all (fun j => s_dry m rn td o (s_c m k) (b + j)) (s_lk m (s_c m k)) = true
  · rw [if_pos c, q_find_none.mpr fun i hi => if_pos (q_all_iff.mp c i hi)]; rfl
  · rw [if_neg c]
    cases hf : q_find (fun j => if s_dry m rn td o (s_c m k) (b + j) = true then none else some (0 : Int32)) (s_lk m (s_c m k)) with
    | none =>
      refine absurd (q_all_iff.mpr fun i hi => ?_) c
      have := q_find_none.mp hf i hi
      by_cases cc : s_dry m rn td o (s_c m k) (b + i) = true
      · exact cc
      · rw [if_neg cc] at this; cases this
    | some v =>
      obtain ⟨i, hi, hv, -⟩ := q_find_some.mp hf
      by_cases cc : s_dry m rn td o (s_c m k) (b + i) = true
      · rw [if_pos cc] at hv; cases hv
      · rw [if_neg cc] at hv; cases hv; rfl
theorem y_82 : lb_X9_isPlan_82_1 = lb_X9_isPlan_82 := rfl
theorem y_hands {m rn td ct bg : Nat → Int32} (h : k_Inv m) (hct : ∀ k, k < s_N m → ct k = nI (s_c m k)) {e : Nat → Bool} {d : Nat → Nat} {n x : Nat} (hx : x < 6) (hd : ∀ k, k < s_N m → d k < 6) (hbg : ∀ k, k < s_N m → bg k = if e k = true then nI (d k) else -1) : k_lp (fun s : Int32 × Int32 => lb_X9_isPlan_158 (nI (s_N m)) bg (nI x) m ct s.1 s.2) k_fuel (0, 0) = some (nI (s_T m e d (s_N m) x)) := by
  have hN := s_N_le m
  have key := q_sumlp (body := fun s : Int32 × Int32 => lb_X9_isPlan_158 (nI (s_N m)) bg (nI x) m ct s.1 s.2) (fun k => nI (if e k = true ∧ d k ≤ x ∧ x < d k + s_lk m (s_c m k) then s_hd m (s_c m k) else 0)) (s_N m) 0 (fun k z hk => by
    obtain ⟨c12, l5, l1, h6, eh, yh⟩ := s_lkN h hk
    have hdk := hd k hk
    show lb_X9_isPlan_158 (nI (s_N m)) bg (nI x) m ct z (nI k) = _
    unfold lb_X9_isPlan_158
    rw [q_ifge _ _ hk (by omega), q_ix _ (by omega) (by omega), q_cl (n := k) (by omega), hbg k hk]
    by_cases ce : e k = true
    · rw [if_pos ce, if_neg (show ¬ nI (d k) < 0 from nI_pos (by omega)), q_ix _ (by omega) (by omega)]
      by_cases c1 : x < d k
      · rw [if_pos (nI_lt c1 (by omega)), if_neg (fun hh => by have := hh.2.1; omega)]; rfl
      · rw [if_neg (nI_nlt (by omega) (by omega)), q_ix _ (by omega) (by omega), q_ix _ (by omega) (by omega), hct k hk, yh, q_b1, nI_add]
        by_cases c2 : d k + s_lk m (s_c m k) ≤ x
        · rw [if_pos (nI_le c2 (by omega)), if_neg (fun hh => by have := hh.2.2; omega)]; rfl
        · rw [if_neg (nI_ge (by omega) (by omega)), q_ix _ (by omega) (by omega), q_o97, q_ix _ (by omega) (by omega), q_cl (by omega), eh, if_pos ⟨ce, by omega, by omega⟩, q_lt1]
    · rw [if_neg ce, if_pos (show (-1 : Int32) < 0 from by decide), if_neg (fun hh => ce hh.1)]; rfl) (fun z => by
    show lb_X9_isPlan_158 (nI (s_N m)) bg (nI x) m ct z (nI (s_N m)) = _
    unfold lb_X9_isPlan_158
    rw [q_ifle _ _ (Nat.le_refl _) (by omega)]) (by omega)
  rw [key, q_sum_nat (g := fun k => if e k = true ∧ d k ≤ x ∧ x < d k + s_lk m (s_c m k) then s_hd m (s_c m k) else 0) (fun k hk => rfl), Int32.zero_add]
  rfl
theorem s_T_le {m : Nat → Int32} (h : k_Inv m) (e : Nat → Bool) (d : Nat → Nat) (x : Nat) : s_T m e d (s_N m) x ≤ 30 := by
  have hN := s_N_le m
  have := fb_sm_bound (f := fun k => if e k = true ∧ d k ≤ x ∧ x < d k + s_lk m (s_c m k) then s_hd m (s_c m k) else 0) (c := 6) (n := s_N m) (fun k hk => by
    obtain ⟨-, -, -, h6, -, -⟩ := s_lkN h hk
    show (if _ then _ else _) ≤ 6
    split <;> omega)
  unfold s_T
  omega
theorem y_isPlan {m rn td ru ct bg : Nat → Int32} (h : k_Inv m) (hrn : ∀ h, h < 96 → kr (rn h) 0 1) (hct : ∀ k, k < s_N m → ct k = nI (s_c m k)) {o men : Nat} (h0 : m 0 = nI o) (ho : o ≤ 96) (hru : ru 3 = nI men) (hmen : men ≤ 100) {e : Nat → Bool} {d : Nat → Nat} {n : Nat} (hn : n ≤ 6) (hd : ∀ k, k < s_N m → d k < 6) (hbg : ∀ k, k < s_N m → bg k = if e k = true then nI (d k) else -1) : p_X9_isPlan (nI (s_N m)) ct bg m rn td ru (nI n) = some (if s_pl m rn td o n men e d (s_N m) = true then 1 else 0) := by
  have hN := s_N_le m
  obtain ⟨X, hX, hX2⟩ := q_lpI (body := fun s : Int32 × Int32 => lb_X9_isPlan_4 (nI (s_N m)) bg ct m (nI n) rn td s.1 s.2) (fun i s => s.1 = q_sum (s_pf m e) i ∧ s.2 = nI i ∧ ∀ k, k < i → e k = true → s_okb m rn td o n (s_c m k) (d k) = true) (fun X => (X = .inr (q_sum (s_pf m e) (s_N m)) ∧ ∀ k, k < s_N m → e k = true → s_okb m rn td o n (s_c m k) (d k) = true) ∨ (X = .inl 0 ∧ ∃ k, k < s_N m ∧ e k = true ∧ s_okb m rn td o n (s_c m k) (d k) = false)) (s_N m) (fun k s hk hs => by
    obtain ⟨s1, s2⟩ := s
    obtain ⟨h1, h2, h3⟩ := hs
    have h1' : s1 = q_sum (s_pf m e) k := h1
    have h2' : s2 = nI k := h2
    clear h1 h2
    subst h1'; subst h2'
    obtain ⟨c12, l5, l1, h6, eh, yh⟩ := s_lkN h hk
    have hdk := hd k hk
    have es : q_sum (s_pf m e) (k + 1) = q_sum (s_pf m e) k + s_pf m e k := rfl
    show ∃ X, lb_X9_isPlan_4 (nI (s_N m)) bg ct m (nI n) rn td (q_sum (s_pf m e) k) (nI k) = some X ∧ _
    rw [es]
    unfold lb_X9_isPlan_4 s_pf
    rw [y_82]
    generalize q_sum (fun k => if e k = true then (if m (157 + s_c m k) = 0 then m (121 + s_c m k) else 0) else 0) k = z
    rw [q_ifge _ _ hk (by omega), q_ix _ (by omega) (by omega), q_ix _ (by omega) (by omega), q_cl (n := k) (by omega), hbg k hk, hct k hk]
    by_cases ce : e k = true
    · have dr := y_dryrun (td := td) (bg := bg) h hrn hct h0 ho hk hdk (by rw [hbg k hk, if_pos ce])
      have okb : s_okb m rn td o n (s_c m k) (d k) = (decide (d k + s_lk m (s_c m k) ≤ n) && q_all (fun j => s_dry m rn td o (s_c m k) (d k + j)) (s_lk m (s_c m k))) := rfl
      have tail : ∀ y : Int32, ∃ X : (Int32 × Int32) ⊕ (Int32 ⊕ Int32), (if nI (d k + s_lk m (s_c m k)) ≤ nI n then k_bx0 (some (if q_all (fun j => s_dry m rn td o (s_c m k) (d k + j)) (s_lk m (s_c m k)) = true then Sum.inr () else Sum.inl (0 : Int32))) (fun q => some (Sum.inr (Sum.inl q))) (some (Sum.inl (z + y, nI k + 1))) else some (Sum.inr (Sum.inl 0))) = some X ∧ ((∃ s', X = .inl s' ∧ s'.1 = z + y ∧ s'.2 = nI (k + 1) ∧ ∀ j, j < k + 1 → e j = true → s_okb m rn td o n (s_c m j) (d j) = true) ∨ ∃ E, X = .inr E ∧ ((E = .inr (q_sum (fun k => if e k = true then (if m (157 + s_c m k) = 0 then m (121 + s_c m k) else 0) else 0) (s_N m)) ∧ ∀ k, k < s_N m → e k = true → s_okb m rn td o n (s_c m k) (d k) = true) ∨ (E = .inl 0 ∧ ∃ k, k < s_N m ∧ e k = true ∧ s_okb m rn td o n (s_c m k) (d k) = false))) := by
        intro y
        by_cases c1 : d k + s_lk m (s_c m k) ≤ n
        · rw [if_pos (nI_le c1 (by omega))]
          rw [decide_eq_true c1, Bool.true_and] at okb
          by_cases c2 : q_all (fun j => s_dry m rn td o (s_c m k) (d k + j)) (s_lk m (s_c m k)) = true
          · rw [if_pos c2, q_bx0r]
            rw [c2] at okb
            refine ⟨_, rfl, Or.inl ⟨_, rfl, rfl, nI_1 k, fun j hj hej => ?_⟩⟩
            by_cases cj : j = k
            · subst cj; exact okb
            · exact h3 j (by omega) hej
          · rw [if_neg c2, q_bx0l]
            rw [Bool.eq_false_iff.mpr c2] at okb
            exact ⟨_, rfl, Or.inr ⟨_, rfl, Or.inr ⟨rfl, k, hk, ce, okb⟩⟩⟩
        · rw [if_neg (nI_ge (by omega) (by omega))]
          rw [decide_eq_false c1, Bool.false_and] at okb
          exact ⟨_, rfl, Or.inr ⟨_, rfl, Or.inr ⟨rfl, k, hk, ce, okb⟩⟩⟩
      rw [if_pos ce, if_pos ce, if_neg (show ¬ nI (d k) < 0 from nI_pos (by omega)), q_o157, q_ix _ (by omega) (by omega), q_cl (by omega)]
      by_cases c0 : m (157 + s_c m k) = 0
      · rw [if_pos c0, if_pos c0, q_o121, q_ix _ (by omega) (by omega), q_cl (by omega), q_lt1, q_ix _ (by omega) (by omega), yh, q_b1, nI_add, dr]
        exact tail _
      · rw [if_neg c0, if_neg c0, q_ix _ (by omega) (by omega), yh, q_b1, nI_add, dr]
        exact tail _
    · rw [if_neg ce, if_neg ce, if_pos (show (-1 : Int32) < 0 from by decide)]
      refine ⟨_, rfl, Or.inl ⟨_, rfl, by show z = z + 0; rw [Int32.add_zero], nI_1 k, fun j hj hej => ?_⟩⟩
      by_cases cj : j = k
      · subst cj; exact absurd hej ce
      · exact h3 j (by omega) hej) (fun s hs => by
    obtain ⟨s1, s2⟩ := s
    obtain ⟨h1, h2, h3⟩ := hs
    have h1' : s1 = q_sum (s_pf m e) (s_N m) := h1
    have h2' : s2 = nI (s_N m) := h2
    subst h1'; subst h2'
    refine ⟨_, ?_, Or.inl ⟨rfl, h3⟩⟩
    show lb_X9_isPlan_4 (nI (s_N m)) bg ct m (nI n) rn td _ (nI (s_N m)) = _
    unfold lb_X9_isPlan_4
    rw [q_ifle _ _ (Nat.le_refl _) (by omega)]) (0, 0) ⟨rfl, rfl, fun k hk => absurd hk (by omega)⟩ (by omega)
  unfold p_X9_isPlan s_pl
  rw [hX]
  rcases hX2 with ⟨rfl, hall⟩ | ⟨rfl, k, hk, hek, hbad⟩
  · rw [q_bx1r]
    have hq : q_all (fun k => !e k || s_okb m rn td o n (s_c m k) (d k)) (s_N m) = true := q_all_iff.mpr fun k hk => by
      cases ce : e k with
      | false => rfl
      | true => rw [hall k hk ce]; rfl
    rw [hq, Bool.true_and]
    have key := q_findlp (body := fun s => lb_X9_isPlan_147 (nI n) (nI (s_N m)) bg m ct ru s) (fun x => if s_T m e d (s_N m) x ≤ men then none else some (0 : Int32)) n (fun x hx => by
      have hT := s_T_le h e d x
      show lb_X9_isPlan_147 (nI n) (nI (s_N m)) bg m ct ru (nI x) = _
      unfold lb_X9_isPlan_147
      rw [q_ifge _ _ hx (by omega), y_hands (rn := rn) (td := td) (n := n) h hct (x := x) (by omega) hd hbg, q_b1, hru]
      by_cases c : s_T m e d (s_N m) x ≤ men
      · rw [if_pos c, if_pos (nI_le c (by omega))]
      · rw [if_neg c, if_neg (nI_ge (by omega) (by omega))]) (by
      show lb_X9_isPlan_147 (nI n) (nI (s_N m)) bg m ct ru (nI n) = _
      unfold lb_X9_isPlan_147
      rw [q_ifle _ _ (Nat.le_refl _) (by omega)]) (by omega)
    rw [key]
    by_cases c : q_all (fun h => decide (s_T m e d (s_N m) h ≤ men)) n = true
    · rw [q_find_none.mpr fun i hi => if_pos (of_decide_eq_true (q_all_iff.mp c i hi)), c, Bool.true_and]
      show (if m 5 < _ then _ else _) = _
      by_cases c5 : m 5 < q_sum (s_pf m e) (s_N m)
      · rw [if_pos c5, decide_eq_true c5, if_neg (by decide)]
      · rw [if_neg c5, decide_eq_false c5, if_pos (by decide)]
    · rw [Bool.eq_false_iff.mpr c, Bool.false_and, if_neg (show ¬ (false = true) from by decide)]
      cases hf : q_find (fun x => if s_T m e d (s_N m) x ≤ men then none else some (0 : Int32)) n with
      | none =>
        refine absurd (q_all_iff.mpr fun i hi => ?_) c
        have := q_find_none.mp hf i hi
        by_cases cc : s_T m e d (s_N m) i ≤ men
        · exact decide_eq_true cc
        · rw [if_neg cc] at this; cases this
      | some v =>
        obtain ⟨i, hi, hv, -⟩ := q_find_some.mp hf
        by_cases cc : s_T m e d (s_N m) i ≤ men
        · rw [if_pos cc] at hv; cases hv
        · rw [if_neg cc] at hv; cases hv; rfl
  · rw [q_bx1l]
    have hq : q_all (fun k => !e k || s_okb m rn td o n (s_c m k) (d k)) (s_N m) = false := by
      cases hqq : q_all (fun k => !e k || s_okb m rn td o n (s_c m k) (d k)) (s_N m) with
      | false => rfl
      | true =>
        have h5 : (!e k || s_okb m rn td o n (s_c m k) (d k)) = true := q_all_iff.mp hqq k hk
        rw [hek, hbad] at h5; cases h5
    rw [hq, Bool.false_and, Bool.false_and, if_neg (by decide)]
/-! ===== the search's test is the plan's ===== -/
def s_S (e : Nat → Bool) (N n : Nat) (lk hd : Nat → Nat) (w r h : Nat) : Nat := fb_sm (fun t => if e (N - (t + 1)) = true ∧ s_dg e N n t w ≤ h ∧ h < s_dg e N n t w + lk (N - (t + 1)) then hd (N - (t + 1)) else 0) r
theorem s_V_iff (e : Nat → Bool) (N n : Nat) (ok : Nat → Nat → Bool) (lk hd : Nat → Nat) (men w : Nat) : ∀ r f, (∀ h, h < 8 → f h ≤ men) → (s_V e N n ok lk hd men r f w = true ↔ (∀ t, t < r → e (N - (t + 1)) = true → ok (N - (t + 1)) (s_dg e N n t w) = true) ∧ ∀ h, h < 8 → f h + s_S e N n lk hd w r h ≤ men)
  | 0, f, hf => ⟨fun _ => ⟨fun t ht => absurd ht (by omega), fun h hh => hf h hh⟩, fun _ => rfl⟩
  | r + 1, f, hf => by
    have es : ∀ h, s_S e N n lk hd w (r + 1) h = s_S e N n lk hd w r h + (if e (N - (r + 1)) = true ∧ s_dg e N n r w ≤ h ∧ h < s_dg e N n r w + lk (N - (r + 1)) then hd (N - (r + 1)) else 0) := fun h => fb_sm_succ _ _
    rw [s_V]
    by_cases ce : e (N - (r + 1)) = true
    · rw [if_pos ce, Bool.and_eq_true, Bool.and_eq_true]
      have ead : ∀ h, s_ad lk hd f (N - (r + 1)) (s_dg e N n r w) h + s_S e N n lk hd w r h = f h + s_S e N n lk hd w (r + 1) h := fun h => by
        rw [es h]
        unfold s_ad
        by_cases c : s_dg e N n r w ≤ h ∧ h < s_dg e N n r w + lk (N - (r + 1))
        · rw [if_pos c, if_pos ⟨ce, c⟩]; omega
        · rw [if_neg c, if_neg (fun hh => c hh.2)]; omega
      constructor
      · rintro ⟨h1, h2, h3⟩
        have hf' : ∀ h, h < 8 → s_ad lk hd f (N - (r + 1)) (s_dg e N n r w) h ≤ men := fun h hh => of_decide_eq_true (q_all_iff.mp h2 h hh)
        obtain ⟨g1, g2⟩ := (s_V_iff e N n ok lk hd men w r _ hf').mp h3
        refine ⟨fun t ht hte => ?_, fun h hh => by rw [← ead h]; exact g2 h hh⟩
        by_cases ct : t = r
        · subst ct; exact h1
        · exact g1 t (by omega) hte
      · rintro ⟨h1, h2⟩
        have hf' : ∀ h, h < 8 → s_ad lk hd f (N - (r + 1)) (s_dg e N n r w) h ≤ men := fun h hh => by
          have := h2 h hh
          rw [← ead h] at this
          omega
        refine ⟨h1 r (by omega) ce, q_all_iff.mpr fun h hh => decide_eq_true (hf' h hh), ?_⟩
        exact (s_V_iff e N n ok lk hd men w r _ hf').mpr ⟨fun t ht => h1 t (by omega), fun h hh => by rw [ead h]; exact h2 h hh⟩
    · rw [if_neg ce, s_V_iff e N n ok lk hd men w r f hf]
      have es2 : ∀ h, s_S e N n lk hd w (r + 1) h = s_S e N n lk hd w r h := fun h => by rw [es h, if_neg (fun hh => ce hh.1), Nat.add_zero]
      constructor
      · rintro ⟨h1, h2⟩
        refine ⟨fun t ht hte => ?_, fun h hh => by rw [es2 h]; exact h2 h hh⟩
        by_cases ct : t = r
        · subst ct; exact absurd hte ce
        · exact h1 t (by omega) hte
      · rintro ⟨h1, h2⟩
        exact ⟨fun t ht => h1 t (by omega), fun h hh => by rw [← es2 h]; exact h2 h hh⟩
theorem fb_sm_rev (g : Nat → Nat) (N : Nat) : ∀ r, r ≤ N → fb_sm g (N - r) + fb_sm (fun t => g (N - (t + 1))) r = fb_sm g N
  | 0, _ => rfl
  | r + 1, h => by
    have ih := fb_sm_rev g N r (by omega)
    rw [fb_sm_succ]
    rw [show N - r = N - (r + 1) + 1 from by omega, fb_sm_succ] at ih
    omega
def s_VV (m rn td : Nat → Int32) (o n men : Nat) (e : Nat → Bool) (w : Nat) : Bool := s_V e (s_N m) n (fun k b => s_okb m rn td o n (s_c m k) b) (fun k => s_lk m (s_c m k)) (fun k => s_hd m (s_c m k)) men (s_N m) (fun _ => 0) w
theorem s_VV_pl (m rn td : Nat → Int32) (o n men : Nat) (hn : n ≤ 8) (e : Nat → Bool) (w : Nat) : s_pl m rn td o n men e (fun k => s_dg e (s_N m) n (s_N m - (k + 1)) w) (s_N m) = (s_VV m rn td o n men e w && !decide (m 5 < q_sum (s_pf m e) (s_N m))) := by
  unfold s_pl s_VV
  congr 1
  have hV := s_V_iff e (s_N m) n (fun k b => s_okb m rn td o n (s_c m k) b) (fun k => s_lk m (s_c m k)) (fun k => s_hd m (s_c m k)) men w (s_N m) (fun _ => 0) (fun h hh => Nat.zero_le _)
  have hS : ∀ h, s_S e (s_N m) n (fun k => s_lk m (s_c m k)) (fun k => s_hd m (s_c m k)) w (s_N m) h = s_T m e (fun k => s_dg e (s_N m) n (s_N m - (k + 1)) w) (s_N m) h := fun h => by
    have := fb_sm_rev (fun k => if e k = true ∧ s_dg e (s_N m) n (s_N m - (k + 1)) w ≤ h ∧ h < s_dg e (s_N m) n (s_N m - (k + 1)) w + s_lk m (s_c m k) then s_hd m (s_c m k) else 0) (s_N m) (s_N m) (Nat.le_refl _)
    rw [Nat.sub_self] at this
    unfold s_S s_T
    rw [← this]
    have z : fb_sm (fun k => if e k = true ∧ s_dg e (s_N m) n (s_N m - (k + 1)) w ≤ h ∧ h < s_dg e (s_N m) n (s_N m - (k + 1)) w + s_lk m (s_c m k) then s_hd m (s_c m k) else 0) 0 = 0 := rfl
    rw [z, Nat.zero_add]
    refine fb_sm_cong fun t ht => ?_
    show _ = (if e (s_N m - (t + 1)) = true ∧ s_dg e (s_N m) n (s_N m - (s_N m - (t + 1) + 1)) w ≤ h ∧ h < s_dg e (s_N m) n (s_N m - (s_N m - (t + 1) + 1)) w + s_lk m (s_c m (s_N m - (t + 1))) then _ else _)
    rw [show s_N m - (s_N m - (t + 1) + 1) = t from by omega]
  apply Bool.eq_iff_iff.mpr
  rw [hV, Bool.and_eq_true, q_all_iff, q_all_iff]
  constructor
  · rintro ⟨h1, h2⟩
    have hall : ∀ k, k < s_N m → e k = true → s_okb m rn td o n (s_c m k) (s_dg e (s_N m) n (s_N m - (k + 1)) w) = true := fun k hk ce => by
      have h5 : (!e k || s_okb m rn td o n (s_c m k) (s_dg e (s_N m) n (s_N m - (k + 1)) w)) = true := h1 k hk
      rw [ce] at h5; exact h5
    refine ⟨fun t ht hte => ?_, fun h hh => ?_⟩
    · have := hall (s_N m - (t + 1)) (by omega) hte
      rw [show s_N m - (s_N m - (t + 1) + 1) = t from by omega] at this
      exact this
    · show 0 + _ ≤ men
      rw [Nat.zero_add, hS h]
      by_cases ch : h < n
      · exact of_decide_eq_true (h2 h ch)
      · have z : s_T m e (fun k => s_dg e (s_N m) n (s_N m - (k + 1)) w) (s_N m) h = 0 := by
          unfold s_T
          rw [fb_sm_cong (g := fun _ => 0) (fun k hk => ?_), fb_sm_const, Nat.mul_zero]
          refine if_neg fun hh => ?_
          have := hall k hk hh.1
          unfold s_okb at this
          rw [Bool.and_eq_true] at this
          have h6 := of_decide_eq_true this.1
          have h7 : h < s_dg e (s_N m) n (s_N m - (k + 1)) w + s_lk m (s_c m k) := hh.2.2
          omega
        rw [z]; exact Nat.zero_le _
  · rintro ⟨h1, h2⟩
    refine ⟨fun k hk => ?_, fun h hh => ?_⟩
    · show (!e k || s_okb m rn td o n (s_c m k) (s_dg e (s_N m) n (s_N m - (k + 1)) w)) = true
      cases ce : e k with
      | false => rfl
      | true =>
        have := h1 (s_N m - (k + 1)) (by omega) (by rw [show s_N m - (s_N m - (k + 1) + 1) = k from by omega]; exact ce)
        rw [show s_N m - (s_N m - (k + 1) + 1) = k from by omega] at this
        exact this
    · refine decide_eq_true ?_
      have := h2 h (by omega)
      rw [hS h, Nat.zero_add] at this
      exact this
end
section
/-! ===== the reference's search over sets ===== -/
def s_e (x : Nat) : Nat → Bool := fun k => x.testBit k
theorem s_q_le (e : Nat → Bool) (N : Nat) {n : Nat} (hn : n ≤ 6) : ∀ r, s_q e N n r ≤ 6 ^ r
  | 0 => Nat.le_refl _
  | r + 1 => by
    have ih := s_q_le e N hn r
    rw [s_q, Nat.pow_succ]
    split
    · rw [Nat.mul_comm]; exact Nat.mul_le_mul ih hn
    · omega
theorem s_q_le5 (e : Nat → Bool) {N : Nat} {n : Nat} (hn : n ≤ 6) (hN : N ≤ 5) : s_q e N n N ≤ 7776 := Nat.le_trans (s_q_le e N hn N) (Nat.le_trans (Nat.pow_le_pow_right (by decide) hN) (by decide))
theorem q_bitIf {α : Type} {x k : Nat} (hk : k < 32) (A B : α) : (if ((nI x >>> (nI k &&& 31)) &&& 1) = 1 then A else B) = if s_e x k = true then A else B := by
  have e : (((nI x >>> (nI k &&& 31)) &&& 1) = 1) ↔ s_e x k = true := by
    rw [q_and1', q_shr0 _ hk, bt_nI _ hk]; exact Iff.rfl
  by_cases c : s_e x k = true
  · rw [if_pos (e.mpr c), if_pos c]
  · rw [if_neg (fun h => c (e.mp h)), if_neg c]
theorem y_digits {N n x w : Nat} (hN : N ≤ 5) (hn0 : 0 < n) (hn : n ≤ 6) (hw : w < 10000) (bg0 : Nat → Int32) : ∃ bg, k_lp (fun s : Int32 × Int32 × (Nat → Int32) => lb_X9_findPlan_278 (nI x) (nI n) s.1 s.2.1 s.2.2) k_fuel (nI w, nI N - 1, bg0) = some bg ∧ ∀ k, k < N → bg k = if s_e x k = true then nI (s_dg (s_e x) N n (N - (k + 1)) w) else -1 := by
  obtain ⟨bg, h1, h2⟩ := q_lpI (body := fun s : Int32 × Int32 × (Nat → Int32) => lb_X9_findPlan_278 (nI x) (nI n) s.1 s.2.1 s.2.2) (fun t s => s.1 = nI (w / s_q (s_e x) N n t) ∧ s.2.1 = nI (N - t) - 1 ∧ ∀ j, j < t → s.2.2 (N - (j + 1)) = if s_e x (N - (j + 1)) = true then nI (s_dg (s_e x) N n j w) else -1) (fun bg => ∀ k, k < N → bg k = if s_e x k = true then nI (s_dg (s_e x) N n (N - (k + 1)) w) else -1) N (fun t s ht hs => by
    obtain ⟨s1, s2, s3⟩ := s
    obtain ⟨q1, q2, q3⟩ := hs
    have q1' : s1 = nI (w / s_q (s_e x) N n t) := q1
    have q2' : s2 = nI (N - t) - 1 := q2
    have q3' : ∀ j, j < t → s3 (N - (j + 1)) = if s_e x (N - (j + 1)) = true then nI (s_dg (s_e x) N n j w) else -1 := q3
    rw [show N - t = N - (t + 1) + 1 from by omega, nI_pred] at q2'
    clear q1 q2 q3
    subst q1'; subst q2'
    have hwt : w / s_q (s_e x) N n t < 10000 := Nat.lt_of_le_of_lt (Nat.div_le_self _ _) hw
    show ∃ X, lb_X9_findPlan_278 (nI x) (nI n) (nI (w / s_q (s_e x) N n t)) (nI (N - (t + 1))) s3 = some X ∧ _
    unfold lb_X9_findPlan_278
    have hnx : ∀ z : Int32, z = (if s_e x (N - (t + 1)) = true then nI (s_dg (s_e x) N n t w) else -1) → ∀ s3' : Nat → Int32, s3' (N - (t + 1)) = z → (∀ k, ¬ k = N - (t + 1) → s3' k = s3 k) → ∀ j, j < t + 1 → s3' (N - (j + 1)) = if s_e x (N - (j + 1)) = true then nI (s_dg (s_e x) N n j w) else -1 := by
      intro z hz s3' h1 h2 j hj
      by_cases cj : j = t
      · subst cj; rw [h1, hz]
      · rw [h2 _ (by omega)]; exact q3' j (by omega)
    rw [if_neg (show ¬ nI (N - (t + 1)) < 0 from nI_pos (by omega)), q_ix _ (by omega) (by omega), q_bitIf (by omega), q_cl (n := N - (t + 1)) (by omega)]
    by_cases ce : s_e x (N - (t + 1)) = true
    · rw [if_pos ce, q_ck _ (nI_ne0 hn0 (by omega)), q_ix _ (by omega) (by omega), q_ck _ (nI_ne0 hn0 (by omega)), pk_rem (by omega) hn0 (by omega), pk_div (by omega) hn0 (by omega)]
      refine ⟨_, rfl, Or.inl ⟨_, rfl, ?_, by show _ + (-1) = _ - 1; rw [Int32.sub_eq_add_neg], hnx _ (by rw [if_pos ce]; rfl) (upd (upd s3 (N - (t + 1)) (-1)) (N - (t + 1)) (nI (w / s_q (s_e x) N n t % n))) upd_s (fun k hk => by rw [upd_n hk, upd_n hk])⟩⟩
      show nI (w / s_q (s_e x) N n t / n) = _
      rw [s_q, if_pos ce, Nat.div_div_eq_div_mul, Nat.mul_comm]
    · rw [if_neg ce]
      refine ⟨_, rfl, Or.inl ⟨_, rfl, ?_, by show _ + (-1) = _ - 1; rw [Int32.sub_eq_add_neg], hnx _ (by rw [if_neg ce]) (upd s3 (N - (t + 1)) (-1)) upd_s (fun k hk => upd_n hk)⟩⟩
      show nI (w / s_q (s_e x) N n t) = _
      rw [s_q, if_neg ce]) (fun s hs => by
    obtain ⟨s1, s2, s3⟩ := s
    obtain ⟨q1, q2, q3⟩ := hs
    have q2' : s2 = nI (N - N) - 1 := q2
    rw [Nat.sub_self] at q2'
    subst q2'
    refine ⟨s3, ?_, fun k hk => ?_⟩
    · show lb_X9_findPlan_278 (nI x) (nI n) s1 (nI 0 - 1) s3 = _
      unfold lb_X9_findPlan_278
      rw [if_pos (by decide)]
    · have := q3 (N - (k + 1)) (by omega)
      rw [show N - (N - (k + 1) + 1) = k from by omega] at this
      exact this) (nI w, nI N - 1, bg0) ⟨by show nI w = nI (w / 1); rw [Nat.div_one], rfl, fun j hj => absurd hj (by omega)⟩ (by omega)
  exact ⟨bg, h1, h2⟩
def s_Pt (m : Nat → Int32) (x : Nat) : Int32 := q_sum (s_pf m (s_e x)) (s_N m)
def s_wf (m : Nat → Int32) (e : Nat → Bool) (k : Nat) : Int32 := if e k = true then m (133 + s_c m k) else 0
def s_Wt (m : Nat → Int32) (x : Nat) : Int32 := q_sum (s_wf m (s_e x)) (s_N m)
def s_Q (m : Nat → Int32) (n x : Nat) : Nat := s_q (s_e x) (s_N m) n (s_N m)
def s_fd (m rn td : Nat → Int32) (o n men x : Nat) : Option Nat := if m 5 < s_Pt m x then none else q_find (s_F (s_VV m rn td o n men (s_e x))) (s_Q m n x)
def s_is (m : Nat → Int32) (n x w : Nat) (bg : Nat → Int32) : Prop := ∀ k, k < s_N m → bg k = if s_e x k = true then nI (s_dg (s_e x) (s_N m) n (s_N m - (k + 1)) w) else -1
theorem y_find0 {m rn td ru ct : Nat → Int32} {n x : Nat} (hn0 : 0 < n) (hn : n ≤ 6) (bg0 : Nat → Int32) : k_lp (fun s : Int32 × Int32 × (Nat → Int32) => lb_X9_findPlan_249 (nI (s_Q m n x)) 0 (nI x) (nI n) (nI (s_N m)) ct m rn td ru s.1 s.2.1 s.2.2) k_fuel (0, 0, bg0) = some (0, bg0) := by
  have hq := s_q_pos (s_e x) (s_N m) hn0 (s_N m)
  have hq5 := s_q_le5 (s_e x) hn (s_N_le m)
  refine q_run (body := fun s : Int32 × Int32 × (Nat → Int32) => lb_X9_findPlan_249 (nI (s_Q m n x)) 0 (nI x) (nI n) (nI (s_N m)) ct m rn td ru s.1 s.2.1 s.2.2) (fun _ => (0, 0, bg0)) _ 0 (fun i hi => absurd hi (by omega)) ?_ (by omega)
  show lb_X9_findPlan_249 (nI (s_Q m n x)) 0 (nI x) (nI n) (nI (s_N m)) ct m rn td ru 0 (nI 0) bg0 = _
  unfold lb_X9_findPlan_249 s_Q
  rw [q_ifge _ _ hq (by omega), if_pos rfl]
theorem y_find {m rn td ru ct : Nat → Int32} (h : k_Inv m) (hrn : ∀ h, h < 96 → kr (rn h) 0 1) (hct : ∀ k, k < s_N m → ct k = nI (s_c m k)) {o men : Nat} (h0 : m 0 = nI o) (ho : o ≤ 96) (hru : ru 3 = nI men) (hmen : men ≤ 100) {n : Nat} (hn0 : 0 < n) (hn : n ≤ 6) (x : Nat) (bg0 : Nat → Int32) : ∃ x8 bg, k_lp (fun s : Int32 × Int32 × (Nat → Int32) => lb_X9_findPlan_249 (nI (s_Q m n x)) 1 (nI x) (nI n) (nI (s_N m)) ct m rn td ru s.1 s.2.1 s.2.2) k_fuel (0, 0, bg0) = some (x8, bg) ∧ ((s_fd m rn td o n men x = none ∧ x8 = 0) ∨ ∃ w, s_fd m rn td o n men x = some w ∧ x8 = 1 ∧ s_is m n x w bg) := by
  have hN := s_N_le m
  have hq := s_q_pos (s_e x) (s_N m) hn0 (s_N m)
  have hq5 := s_q_le5 (s_e x) hn hN
  have efd : s_fd m rn td o n men x = q_find (s_F fun w => s_VV m rn td o n men (s_e x) w && !decide (m 5 < q_sum (s_pf m (s_e x)) (s_N m))) (s_Q m n x) := by
    unfold s_fd s_Pt
    by_cases c : m 5 < q_sum (s_pf m (s_e x)) (s_N m)
    · rw [if_pos c]
      symm
      refine q_find_none.mpr fun w hw => s_F_none.mpr ?_
      rw [decide_eq_true c]; exact Bool.and_false _
    · rw [if_neg c]
      refine q_find_cong fun w hw => ?_
      show (if s_VV m rn td o n men (s_e x) w = true then some w else none) = (if (s_VV m rn td o n men (s_e x) w && !decide (m 5 < q_sum (s_pf m (s_e x)) (s_N m))) = true then some w else none)
      rw [decide_eq_false c, Bool.not_false, Bool.and_true]
  obtain ⟨E, hE, hE2⟩ := q_lpI (body := fun s : Int32 × Int32 × (Nat → Int32) => lb_X9_findPlan_249 (nI (s_Q m n x)) 1 (nI x) (nI n) (nI (s_N m)) ct m rn td ru s.1 s.2.1 s.2.2) (fun i s => s.2.1 = nI i ∧ ((s.1 = 0 ∧ ∀ j, j < i → s_F (fun w => s_VV m rn td o n men (s_e x) w && !decide (m 5 < q_sum (s_pf m (s_e x)) (s_N m))) j = none) ∨ (s.1 = 1 ∧ ∃ w, s_fd m rn td o n men x = some w ∧ s_is m n x w s.2.2))) (fun E => (s_fd m rn td o n men x = none ∧ E.1 = 0) ∨ ∃ w, s_fd m rn td o n men x = some w ∧ E.1 = 1 ∧ s_is m n x w E.2) (s_Q m n x) (fun i s hi hs => by
    obtain ⟨s1, s2, s3⟩ := s
    obtain ⟨q1, q2⟩ := hs
    have q1' : s2 = nI i := q1
    clear q1
    subst q1'
    have hi' : i < s_q (s_e x) (s_N m) n (s_N m) := hi
    show ∃ X, lb_X9_findPlan_249 (nI (s_Q m n x)) 1 (nI x) (nI n) (nI (s_N m)) ct m rn td ru s1 (nI i) s3 = some X ∧ _
    unfold lb_X9_findPlan_249
    rw [q_ifge _ _ hi (by unfold s_Q; omega), if_neg (show ¬ (1 : Int32) = 0 from by decide)]
    rcases q2 with ⟨z, hz⟩ | ⟨z, w, hz1, hz2⟩
    · have z' : s1 = 0 := z
      clear z
      subst z'
      obtain ⟨bg, g1, g2⟩ := y_digits (N := s_N m) (n := n) (x := x) (w := i) hN hn0 hn (by omega) s3
      rw [if_pos rfl, g1, q_b1, y_isPlan (bg := bg) (e := s_e x) (d := fun k => s_dg (s_e x) (s_N m) n (s_N m - (k + 1)) i) h hrn hct h0 ho hru hmen hn (fun k hk => Nat.lt_of_lt_of_le (s_dg_lt _ _ hn0 _ _) hn) g2, q_b1, s_VV_pl m rn td o n men (by omega)]
      by_cases c : (s_VV m rn td o n men (s_e x) i && !decide (m 5 < q_sum (s_pf m (s_e x)) (s_N m))) = true
      · rw [if_pos c]
        refine ⟨_, rfl, Or.inl ⟨_, rfl, nI_1 i, Or.inr ⟨rfl, i, ?_, g2⟩⟩⟩
        rw [efd]
        exact q_find_some.mpr ⟨i, hi, if_pos c, hz⟩
      · rw [if_neg c]
        refine ⟨_, rfl, Or.inl ⟨_, rfl, nI_1 i, Or.inl ⟨rfl, fun j hj => ?_⟩⟩⟩
        by_cases cj : j = i
        · subst cj; exact if_neg c
        · exact hz j (by omega)
    · have z' : s1 = 1 := z
      clear z
      subst z'
      rw [if_neg (show ¬ (1 : Int32) = 0 from by decide)]
      exact ⟨_, rfl, Or.inr ⟨_, rfl, Or.inr ⟨w, hz1, rfl, hz2⟩⟩⟩) (fun s hs => by
    obtain ⟨s1, s2, s3⟩ := s
    obtain ⟨q1, q2⟩ := hs
    have q1' : s2 = nI (s_Q m n x) := q1
    subst q1'
    refine ⟨(s1, s3), ?_, ?_⟩
    · show lb_X9_findPlan_249 (nI (s_Q m n x)) 1 (nI x) (nI n) (nI (s_N m)) ct m rn td ru s1 (nI (s_Q m n x)) s3 = _
      unfold lb_X9_findPlan_249
      rw [q_ifle _ _ (Nat.le_refl _) (by unfold s_Q; omega)]
    · rcases q2 with ⟨z, hz⟩ | ⟨z, w, hz1, hz2⟩
      · exact Or.inl ⟨by rw [efd]; exact q_find_none.mpr hz, z⟩
      · exact Or.inr ⟨w, hz1, z, hz2⟩) (0, 0, bg0) ⟨rfl, Or.inl ⟨rfl, fun j hj => absurd hj (by omega)⟩⟩ (by unfold s_Q; omega)
  exact ⟨E.1, E.2, hE, hE2⟩
def s_pr (e : Nat → Bool) (n : Nat) : Nat → Nat
  | 0 => 1
  | i + 1 => if e i = true then s_pr e n i * n else s_pr e n i
theorem s_pr_q (e : Nat → Bool) (N n : Nat) : ∀ i, i ≤ N → s_pr e n i * s_q e N n (N - i) = s_q e N n N
  | 0, _ => by rw [s_pr, Nat.one_mul, Nat.sub_zero]
  | i + 1, h => by
    have ih := s_pr_q e N n i (by omega)
    rw [show N - i = N - (i + 1) + 1 from by omega, s_q, show N - (N - (i + 1) + 1) = i from by omega] at ih
    rw [s_pr]
    by_cases c : e i = true
    · rw [if_pos c] at ih
      rw [if_pos c, Nat.mul_assoc]; exact ih
    · rw [if_neg c] at ih
      rw [if_neg c]; exact ih
theorem y_sums {m ct : Nat → Int32} (h : k_Inv m) (hct : ∀ k, k < s_N m → ct k = nI (s_c m k)) (n x : Nat) : k_lp (fun s : Int32 × Int32 × Int32 × Int32 × Int32 => lb_X9_findPlan_97 (nI (s_N m)) (nI x) ct m (nI n) s.1 s.2.1 s.2.2.1 s.2.2.2.1 s.2.2.2.2) k_fuel (0, 0, 0, 1, 0) = some (s_Wt m x, s_Pt m x, nI (s_bn (s_c m) (s_N m) x), nI (s_Q m n x)) := by
  have hN := s_N_le m
  have key := q_run (body := fun s : Int32 × Int32 × Int32 × Int32 × Int32 => lb_X9_findPlan_97 (nI (s_N m)) (nI x) ct m (nI n) s.1 s.2.1 s.2.2.1 s.2.2.2.1 s.2.2.2.2) (fun i => (q_sum (s_wf m (s_e x)) i, q_sum (s_pf m (s_e x)) i, q_fold (s_bI (s_c m) x) 0 i, nI (s_pr (s_e x) n i), nI i)) (q_sum (s_wf m (s_e x)) (s_N m), q_sum (s_pf m (s_e x)) (s_N m), q_fold (s_bI (s_c m) x) 0 (s_N m), nI (s_pr (s_e x) n (s_N m))) (s_N m) (fun k hk => by
    obtain ⟨c12, -, -, -, -, -⟩ := s_lkN h hk
    show lb_X9_findPlan_97 (nI (s_N m)) (nI x) ct m (nI n) (q_sum (s_wf m (s_e x)) k) (q_sum (s_pf m (s_e x)) k) (q_fold (s_bI (s_c m) x) 0 k) (nI (s_pr (s_e x) n k)) (nI k) = some (.inl (q_sum (s_wf m (s_e x)) k + s_wf m (s_e x) k, q_sum (s_pf m (s_e x)) k + s_pf m (s_e x) k, s_bI (s_c m) x k (q_fold (s_bI (s_c m) x) 0 k), nI (if s_e x k = true then s_pr (s_e x) n k * n else s_pr (s_e x) n k), nI (k + 1)))
    generalize q_sum (s_wf m (s_e x)) k = z1
    generalize q_sum (s_pf m (s_e x)) k = z2
    generalize q_fold (s_bI (s_c m) x) 0 k = z3
    unfold lb_X9_findPlan_97
    rw [q_ifge _ _ hk (by omega), q_bitIf (by omega)]
    unfold s_wf s_pf s_bI
    by_cases ce : s_e x k = true
    · have ce' : x.testBit k = true := ce
      rw [if_pos ce, if_pos ce, if_pos ce, if_pos ce', if_pos ce, q_ix _ (by omega) (by omega), q_cl (n := k) (by omega), hct k hk, q_o133, q_ix _ (by omega) (by omega), q_cl (by omega), q_lt1, q_o157, q_ix _ (by omega) (by omega), q_cl (by omega), pk_mul, nI_1]
      by_cases c0 : m (157 + s_c m k) = 0
      · rw [if_pos c0, if_pos c0, q_o121, q_ix _ (by omega) (by omega), q_cl (by omega), q_lt1]
      · rw [if_neg c0, if_neg c0]
    · have ce' : ¬ x.testBit k = true := ce
      rw [if_neg ce, if_neg ce, if_neg ce, if_neg ce', if_neg ce, Int32.add_zero, Int32.add_zero, nI_1]) (by
    show lb_X9_findPlan_97 (nI (s_N m)) (nI x) ct m (nI n) _ _ _ _ (nI (s_N m)) = _
    unfold lb_X9_findPlan_97
    rw [q_ifle _ _ (Nat.le_refl _) (by omega)]) (by omega)
  have e2 := s_pr_q (s_e x) (s_N m) n (s_N m) (Nat.le_refl _)
  rw [Nat.sub_self, s_q, Nat.mul_one] at e2
  rw [e2, s_bI_e x (s_N m) (fun a b h1 h2 => s_c_mono h1 h2) (fun k hk => (s_lkN h hk).1)] at key
  exact key
def s_B (m rn td : Nat → Int32) (o n men : Nat) : Nat → Nat × Int32 × Int32 × Nat
  | 0 => (0, 0, 0, 0)
  | j + 1 => if (s_B m rn td o n men j).2.1 < s_Wt m (j + 1) ∨ (s_Wt m (j + 1) = (s_B m rn td o n men j).2.1 ∧ s_Pt m (j + 1) < (s_B m rn td o n men j).2.2.1) then (match s_fd m rn td o n men (j + 1) with
    | none => s_B m rn td o n men j
    | some w => (j + 1, s_Wt m (j + 1), s_Pt m (j + 1), w)) else s_B m rn td o n men j
theorem q_i3 (a b : Int32) : a < b ∨ a = b ∨ b < a := by
  rw [Int32.lt_iff_toInt_lt, Int32.lt_iff_toInt_lt, ← Int32.toInt_inj]; omega
end
section
/-! ===== the best set, both sides ===== -/
theorem s_B_le (m rn td : Nat → Int32) (o n men : Nat) : ∀ j, (s_B m rn td o n men j).1 ≤ j
  | 0 => Nat.le_refl 0
  | j + 1 => by
    have ih := s_B_le m rn td o n men j
    rw [s_B]
    split
    · split
      · omega
      · exact Nat.le_refl _
    · omega
theorem q_sh5 : ∀ N, N < 6 → (1 : Int32) <<< (nI N &&& 31) = nI (2 ^ N) := by decide +kernel
theorem q_p5 : ∀ N, N < 6 → 2 ^ N ≤ 32 := by decide +kernel
theorem y_copy (bg best : Nat → Int32) : ∃ b', k_lp (fun s : Int32 × (Nat → Int32) => lb_X9_findPlan_362 bg s.1 s.2) k_fuel (0, best) = some b' ∧ ∀ k, k < 5 → b' k = bg k := by
  obtain ⟨b, h1, h2⟩ := q_lpI (body := fun s : Int32 × (Nat → Int32) => lb_X9_findPlan_362 bg s.1 s.2) (fun i s => s.1 = nI i ∧ ∀ k, k < i → s.2 k = bg k) (fun b => ∀ k, k < 5 → b k = bg k) 5 (fun i s hi hs => by
    obtain ⟨s1, s2⟩ := s
    obtain ⟨q1, q2⟩ := hs
    have q1' : s1 = nI i := q1
    subst q1'
    show ∃ X, lb_X9_findPlan_362 bg (nI i) s2 = some X ∧ _
    unfold lb_X9_findPlan_362
    rw [if_neg (show ¬ (5 : Int32) ≤ nI i from nI_ge (b := 5) hi (by omega)), q_ix _ hi (by omega), q_ix _ hi (by omega), q_cl (by omega)]
    refine ⟨_, rfl, Or.inl ⟨_, rfl, nI_1 i, fun k hk => ?_⟩⟩
    show upd s2 i (bg i) k = bg k
    by_cases c : k = i
    · subst c; exact upd_s
    · rw [upd_n c]; exact q2 k (by omega)) (fun s hs => by
    obtain ⟨s1, s2⟩ := s
    obtain ⟨q1, q2⟩ := hs
    have q1' : s1 = nI 5 := q1
    subst q1'
    refine ⟨s2, ?_, q2⟩
    show lb_X9_findPlan_362 bg (nI 5) s2 = _
    unfold lb_X9_findPlan_362
    rw [if_pos (show (5 : Int32) ≤ nI 5 from Int32.le_refl _)]) (0, best) ⟨rfl, fun k hk => absurd hk (by omega)⟩ (by omega)
  exact ⟨b, h1, h2⟩
def s_bt (m : Nat → Int32) (x : Nat) (worth pitch : Int32) : Prop := worth < s_Wt m x ∨ (s_Wt m x = worth ∧ s_Pt m x < pitch)
theorem y_step {m rn td ru ct : Nat → Int32} (h : k_Inv m) (hrn : ∀ h, h < 96 → kr (rn h) 0 1) (hct : ∀ k, k < s_N m → ct k = nI (s_c m k)) {o men : Nat} (h0 : m 0 = nI o) (ho : o ≤ 96) (hru : ru 3 = nI men) (hmen : men ≤ 100) {n : Nat} (hn0 : 0 < n) (hn : n ≤ 6) {x : Nat} (hx : x < 2 ^ s_N m) (bg best : Nat → Int32) (bits pitch worth : Int32) (hb : s_Wt m x = worth → s_Pt m x = pitch → bits ≤ nI (s_bn (s_c m) (s_N m) x)) : ∃ bg' best' bits' pitch' worth', lb_X9_findPlan_73 (nI (s_N m)) ct m (nI n) rn td ru (nI x) bg best bits pitch worth = some (.inl (nI (x + 1), bg', best', bits', pitch', worth')) ∧ (((¬ s_bt m x worth pitch ∨ s_fd m rn td o n men x = none) ∧ best' = best ∧ bits' = bits ∧ pitch' = pitch ∧ worth' = worth) ∨ (s_bt m x worth pitch ∧ ∃ w, s_fd m rn td o n men x = some w ∧ s_is m n x w best' ∧ bits' = nI (s_bn (s_c m) (s_N m) x) ∧ pitch' = s_Pt m x ∧ worth' = s_Wt m x)) := by
  have hN := s_N_le m
  have h32 := q_p5 (s_N m) (by omega)
  have lj0 : lj_X9_findPlan_241 (nI (s_Q m n x)) (nI x) (nI n) (nI (s_N m)) ct m rn td ru bg best bits pitch worth (nI (s_bn (s_c m) (s_N m) x)) (s_Pt m x) (s_Wt m x) 0 = some (.inl (nI (x + 1), bg, best, bits, pitch, worth)) := by
    unfold lj_X9_findPlan_241
    rw [y_find0 hn0 hn, q_b2, if_pos rfl, nI_1]
  have lj1 : s_bt m x worth pitch → ∃ bg' best' bits' pitch' worth', lj_X9_findPlan_241 (nI (s_Q m n x)) (nI x) (nI n) (nI (s_N m)) ct m rn td ru bg best bits pitch worth (nI (s_bn (s_c m) (s_N m) x)) (s_Pt m x) (s_Wt m x) 1 = some (.inl (nI (x + 1), bg', best', bits', pitch', worth')) ∧ (((¬ s_bt m x worth pitch ∨ s_fd m rn td o n men x = none) ∧ best' = best ∧ bits' = bits ∧ pitch' = pitch ∧ worth' = worth) ∨ (s_bt m x worth pitch ∧ ∃ w, s_fd m rn td o n men x = some w ∧ s_is m n x w best' ∧ bits' = nI (s_bn (s_c m) (s_N m) x) ∧ pitch' = s_Pt m x ∧ worth' = s_Wt m x)) := by
    intro hbt
    obtain ⟨x8, bg', g1, g2⟩ := y_find (td := td) h hrn hct h0 ho hru hmen hn0 hn x bg
    unfold lj_X9_findPlan_241
    rw [g1, q_b2]
    rcases g2 with ⟨g2, rfl⟩ | ⟨w, g2, rfl, g3⟩
    · rw [if_pos rfl, nI_1]
      exact ⟨_, _, _, _, _, rfl, Or.inl ⟨Or.inr g2, rfl, rfl, rfl, rfl⟩⟩
    · obtain ⟨b', c1, c2⟩ := y_copy bg' best
      rw [if_neg (show ¬ (1 : Int32) = 0 from by decide), c1, q_b1, nI_1]
      exact ⟨_, _, _, _, _, rfl, Or.inr ⟨hbt, w, g2, fun k hk => by rw [c2 k (by omega)]; exact g3 k hk, rfl, rfl, rfl⟩⟩
  unfold lb_X9_findPlan_73
  rw [q_sh5 _ (by omega), q_ifge _ _ hx (by omega), y_sums h hct, q_b4]
  by_cases c1 : worth < s_Wt m x
  · rw [if_pos c1]
    exact lj1 (Or.inl c1)
  · rw [if_neg c1]
    by_cases c2 : s_Wt m x = worth
    · rw [if_pos c2]
      by_cases c3 : s_Pt m x < pitch
      · rw [if_pos c3]
        exact lj1 (Or.inr ⟨c2, c3⟩)
      · have nb : ¬ s_bt m x worth pitch := fun hh => hh.elim c1 (fun q => c3 q.2)
        rw [if_neg c3]
        by_cases c4 : s_Pt m x = pitch
        · rw [if_pos c4, if_pos (hb c2 c4), lj0]
          exact ⟨_, _, _, _, _, rfl, Or.inl ⟨Or.inl nb, rfl, rfl, rfl, rfl⟩⟩
        · rw [if_neg c4, lj0]
          exact ⟨_, _, _, _, _, rfl, Or.inl ⟨Or.inl nb, rfl, rfl, rfl, rfl⟩⟩
    · have nb : ¬ s_bt m x worth pitch := fun hh => hh.elim c1 (fun q => c2 q.1)
      rw [if_neg c2, lj0]
      exact ⟨_, _, _, _, _, rfl, Or.inl ⟨Or.inl nb, rfl, rfl, rfl, rfl⟩⟩
theorem s_e0 (k : Nat) : s_e 0 k = false := Nat.zero_testBit k
theorem q_sum_zero {f : Nat → Int32} : ∀ n, (∀ i, i < n → f i = 0) → q_sum f n = 0
  | 0, _ => rfl
  | n + 1, h => by
    show q_sum f n + f n = 0
    rw [q_sum_zero n (fun i hi => h i (by omega)), h n (by omega)]; rfl
theorem s_Wt0 (m : Nat → Int32) : s_Wt m 0 = 0 := q_sum_zero _ fun i hi => if_neg (by rw [s_e0]; decide)
theorem s_Pt0 (m : Nat → Int32) : s_Pt m 0 = 0 := q_sum_zero _ fun i hi => if_neg (by rw [s_e0]; decide)
theorem s_q0 (N n : Nat) : ∀ r, s_q (s_e 0) N n r = 1
  | 0 => rfl
  | r + 1 => by rw [s_q, if_neg (by rw [s_e0]; decide), s_q0 N n r]
theorem s_V0 (N n : Nat) (ok : Nat → Nat → Bool) (lk hd : Nat → Nat) (men : Nat) (f : Nat → Nat) (w : Nat) : ∀ r, s_V (s_e 0) N n ok lk hd men r f w = true
  | 0 => rfl
  | r + 1 => by rw [s_V, if_neg (by rw [s_e0]; decide), s_V0 N n ok lk hd men f w r]
theorem s_fd0 {m : Nat → Int32} (h : k_Inv m) (rn td : Nat → Int32) (o n men : Nat) : s_fd m rn td o n men 0 = some 0 := by
  have hp := rg_pi h.1
  have : ¬ m 5 < s_Pt m 0 := by
    rw [s_Pt0, Int32.lt_iff_toInt_lt, show (0 : Int32).toInt = 0 from by decide]
    have := hp.1
    omega
  unfold s_fd s_Q
  rw [if_neg this, s_q0]
  exact q_find_some.mpr ⟨0, by omega, if_pos (s_V0 _ _ _ _ _ _ _ _ _), fun j hj => absurd hj (by omega)⟩
theorem y_findplan {m rn td ru : Nat → Int32} (h : k_Inv m) (hrn : ∀ h, h < 96 → kr (rn h) 0 1) {o men : Nat} (h0 : m 0 = nI o) (ho : o ≤ 96) (hru : ru 3 = nI men) (hmen : men ≤ 100) {n : Nat} (hn0 : 0 < n) (hn : n ≤ 6) (bp bb : Int32) (ct0 bg0 best0 : Nat → Int32) : ∃ ct bg best, p_X9_findPlan bp bb m ct0 bg0 rn td ru best0 (nI n) = some (nI (s_N m), (s_B m rn td o n men (2 ^ s_N m - 1)).2.1, (s_B m rn td o n men (2 ^ s_N m - 1)).2.2.1, nI (s_bn (s_c m) (s_N m) (s_B m rn td o n men (2 ^ s_N m - 1)).1), ct, bg, best) ∧ (∀ k, k < s_N m → ct k = nI (s_c m k)) ∧ s_is m n (s_B m rn td o n men (2 ^ s_N m - 1)).1 (s_B m rn td o n men (2 ^ s_N m - 1)).2.2.2 best := by
  have hN := s_N_le m
  have h32 := q_p5 (s_N m) (by omega)
  have hpos := Nat.two_pow_pos (s_N m)
  obtain ⟨ct, t1, hct⟩ := y_gather h.1 ct0
  obtain ⟨E, hE, hE2⟩ := q_lpI (body := fun s : Int32 × (Nat → Int32) × (Nat → Int32) × Int32 × Int32 × Int32 => lb_X9_findPlan_73 (nI (s_N m)) ct m (nI n) rn td ru s.1 s.2.1 s.2.2.1 s.2.2.2.1 s.2.2.2.2.1 s.2.2.2.2.2) (fun i s => s.1 = nI i ∧ (i = 0 → s.2.2.2.2.2 = -1) ∧ (0 < i → s_is m n (s_B m rn td o n men (i - 1)).1 (s_B m rn td o n men (i - 1)).2.2.2 s.2.2.1 ∧ s.2.2.2.1 = nI (s_bn (s_c m) (s_N m) (s_B m rn td o n men (i - 1)).1) ∧ s.2.2.2.2.1 = (s_B m rn td o n men (i - 1)).2.2.1 ∧ s.2.2.2.2.2 = (s_B m rn td o n men (i - 1)).2.1)) (fun E => s_is m n (s_B m rn td o n men (2 ^ s_N m - 1)).1 (s_B m rn td o n men (2 ^ s_N m - 1)).2.2.2 E.2.1 ∧ E.2.2.1 = nI (s_bn (s_c m) (s_N m) (s_B m rn td o n men (2 ^ s_N m - 1)).1) ∧ E.2.2.2.1 = (s_B m rn td o n men (2 ^ s_N m - 1)).2.2.1 ∧ E.2.2.2.2 = (s_B m rn td o n men (2 ^ s_N m - 1)).2.1) (2 ^ s_N m) (fun i s hi hs => by
    obtain ⟨s1, bg, best, bits, pitch, worth⟩ := s
    obtain ⟨q1, q2, q3⟩ := hs
    have q1' : s1 = nI i := q1
    subst q1'
    cases i with
    | zero =>
      have q2' : worth = -1 := q2 rfl
      subst q2'
      obtain ⟨bg', best', bits', pitch', worth', g1, g2⟩ := y_step (td := td) h hrn hct h0 ho hru hmen hn0 hn hi bg best bits pitch (-1) (fun hh => absurd hh (by rw [s_Wt0]; decide))
      rcases g2 with ⟨hh, -⟩ | ⟨-, w, w1, w2, w3, w4, w5⟩
      · rcases hh with hh | hh
        · exact absurd (Or.inl (by rw [s_Wt0]; decide)) hh
        · rw [s_fd0 h] at hh; cases hh
      · rw [s_fd0 h] at w1
        cases w1
        exact ⟨_, g1, Or.inl ⟨_, rfl, rfl, fun hh => absurd hh (by omega), fun _ => ⟨w2, w3, by rw [s_Pt0] at w4; exact w4, by rw [s_Wt0] at w5; exact w5⟩⟩⟩
    | succ j =>
      obtain ⟨r1, r2, r3, r4⟩ := q3 (by omega)
      have r1' : s_is m n (s_B m rn td o n men j).1 (s_B m rn td o n men j).2.2.2 best := r1
      have r2' : bits = nI (s_bn (s_c m) (s_N m) (s_B m rn td o n men j).1) := r2
      have r3' : pitch = (s_B m rn td o n men j).2.2.1 := r3
      have r4' : worth = (s_B m rn td o n men j).2.1 := r4
      have hle := s_B_le m rn td o n men j
      have hbits : bits ≤ nI (s_bn (s_c m) (s_N m) (j + 1)) := by
        rw [r2']
        have hm := s_bn_mono (c := s_c m) (x := (s_B m rn td o n men j).1) (y := j + 1) (s_N m) (fun a b h1 h2 => s_c_mono h1 h2) (by rw [Nat.mod_eq_of_lt hi, Nat.mod_eq_of_lt (by omega)]; omega)
        have hl := s_bn_lt (c := s_c m) (j + 1) (s_N m) (fun a b h1 h2 => s_c_mono h1 h2) 12 (fun k hk => (s_lkN h hk).1)
        exact nI_le hm (by omega)
      obtain ⟨bg', best', bits', pitch', worth', g1, g2⟩ := y_step (td := td) h hrn hct h0 ho hru hmen hn0 hn hi bg best bits pitch worth (fun _ _ => hbits)
      refine ⟨_, g1, Or.inl ⟨_, rfl, rfl, fun hh => absurd hh (by omega), fun _ => ?_⟩⟩
      show s_is m n (s_B m rn td o n men (j + 1)).1 (s_B m rn td o n men (j + 1)).2.2.2 best' ∧ bits' = nI (s_bn (s_c m) (s_N m) (s_B m rn td o n men (j + 1)).1) ∧ pitch' = (s_B m rn td o n men (j + 1)).2.2.1 ∧ worth' = (s_B m rn td o n men (j + 1)).2.1
      have eB : s_B m rn td o n men (j + 1) = if (worth < s_Wt m (j + 1) ∨ (s_Wt m (j + 1) = worth ∧ s_Pt m (j + 1) < pitch)) then (match s_fd m rn td o n men (j + 1) with | none => s_B m rn td o n men j | some w => (j + 1, s_Wt m (j + 1), s_Pt m (j + 1), w)) else s_B m rn td o n men j := by
        rw [s_B, r3', r4']; rfl
      rcases g2 with ⟨hh, e3, e4, e5, e6⟩ | ⟨hh, w, w1, w2, w3, w4, w5⟩
      · have e2 : s_B m rn td o n men (j + 1) = s_B m rn td o n men j := by
          rcases hh with hh | hh
          · rw [eB, if_neg (show ¬ (worth < s_Wt m (j + 1) ∨ (s_Wt m (j + 1) = worth ∧ s_Pt m (j + 1) < pitch)) from hh)]
          · rw [eB, hh]
            split <;> rfl
        rw [e2, e3, e4, e5, e6]
        exact ⟨r1', r2', r3', r4'⟩
      · have e2 : s_B m rn td o n men (j + 1) = (j + 1, s_Wt m (j + 1), s_Pt m (j + 1), w) := by rw [eB, if_pos (show (worth < s_Wt m (j + 1) ∨ (s_Wt m (j + 1) = worth ∧ s_Pt m (j + 1) < pitch)) from hh), w1]
        rw [e2]
        exact ⟨w2, w3, w4, w5⟩) (fun s hs => by
    obtain ⟨s1, bg, best, bits, pitch, worth⟩ := s
    obtain ⟨q1, q2, q3⟩ := hs
    have q1' : s1 = nI (2 ^ s_N m) := q1
    subst q1'
    refine ⟨(bg, best, bits, pitch, worth), ?_, q3 hpos⟩
    show lb_X9_findPlan_73 (nI (s_N m)) ct m (nI n) rn td ru (nI (2 ^ s_N m)) bg best bits pitch worth = _
    unfold lb_X9_findPlan_73
    rw [q_sh5 _ (by omega), q_ifle _ _ (Nat.le_refl _) (by omega)]) (0, bg0, best0, bb, bp, -1) ⟨rfl, fun _ => rfl, fun hh => absurd hh (by omega)⟩ (by omega)
  obtain ⟨bg, best, bits, pitch, worth⟩ := E
  obtain ⟨r1, r2, r3, r4⟩ := hE2
  refine ⟨ct, bg, best, ?_, hct, r1⟩
  unfold p_X9_findPlan
  rw [t1, q_b2, hE, q_b5]
  have r2' : bits = nI (s_bn (s_c m) (s_N m) (s_B m rn td o n men (2 ^ s_N m - 1)).1) := r2
  have r3' : pitch = (s_B m rn td o n men (2 ^ s_N m - 1)).2.2.1 := r3
  have r4' : worth = (s_B m rn td o n men (2 ^ s_N m - 1)).2.1 := r4
  rw [r2', r3', r4']
end
section
/-! ===== the class's search over sets, and the questions ===== -/
theorem q_b7 {T0 T1 T2 T3 T4 T5 T6 α : Type} (f : T0 → T1 → T2 → T3 → T4 → T5 → T6 → Option α) (v0 : T0) (v1 : T1) (v2 : T2) (v3 : T3) (v4 : T4) (v5 : T5) (v6 : T6) : k_b7 (some (v0, v1, v2, v3, v4, v5, v6)) f = f v0 v1 v2 v3 v4 v5 v6 := rfl
theorem q_b11 {T0 T1 T2 T3 T4 T5 T6 T7 T8 T9 T10 α : Type} (f : T0 → T1 → T2 → T3 → T4 → T5 → T6 → T7 → T8 → T9 → T10 → Option α) (v0 : T0) (v1 : T1) (v2 : T2) (v3 : T3) (v4 : T4) (v5 : T5) (v6 : T6) (v7 : T7) (v8 : T8) (v9 : T9) (v10 : T10) : k_b11 (some (v0, v1, v2, v3, v4, v5, v6, v7, v8, v9, v10)) f = f v0 v1 v2 v3 v4 v5 v6 v7 v8 v9 v10 := rfl
theorem x_pitchL {m tr dn : Nat → Int32} (h : k_Rng m) {s : Nat} (hs : s < 12) (h1 : tr s = m (121 + s)) (h2 : dn s = m (157 + s)) : p_X3_pitchLacking dn tr (nI s) = some (if m (157 + s) = 0 then m (121 + s) else 0) := by
  obtain ⟨D, eD, -, hD, -⟩ := kr_nI (rg_dn h hs) (by decide) (by decide)
  unfold p_X3_pitchLacking
  rw [q_ix _ hs (by omega), q_cl (by omega), h1, h2, q_ix _ hs (by omega), eD]
  by_cases c : D = 0
  · subst c
    rw [if_pos (show nI 0 ≤ 0 from Int32.le_refl _), if_pos (show nI 0 = 0 from rfl)]
  · rw [if_neg (nI_nle (by omega) (by omega)), if_neg (nI_ne0 (by omega) (by omega))]
theorem x_sums {m se tr wo dn : Nat → Int32} (h : k_Inv m) (hse : ∀ k, k < s_N m → se k = nI (s_c m k)) (hf : ∀ i, i < 12 → tr i = m (121 + i) ∧ wo i = m (133 + i) ∧ dn i = m (157 + i)) (x : Nat) : k_lp (fun s : Int32 × Int32 × Int32 => lb_X2_tryOut_8 (nI (s_N m)) (nI x) dn tr se wo s.1 s.2.1 s.2.2) k_fuel (0, 0, 0) = some (s_Wt m x, s_Pt m x) := by
  have hN := s_N_le m
  refine q_run (body := fun s : Int32 × Int32 × Int32 => lb_X2_tryOut_8 (nI (s_N m)) (nI x) dn tr se wo s.1 s.2.1 s.2.2) (fun i => (q_sum (s_wf m (s_e x)) i, q_sum (s_pf m (s_e x)) i, nI i)) _ (s_N m) (fun k hk => ?_) ?_ (by omega)
  · obtain ⟨c12, -, -, -, -, -⟩ := s_lkN h hk
    obtain ⟨f1, f2, f3⟩ := hf (s_c m k) c12
    show lb_X2_tryOut_8 (nI (s_N m)) (nI x) dn tr se wo (q_sum (s_wf m (s_e x)) k) (q_sum (s_pf m (s_e x)) k) (nI k) = some (.inl (q_sum (s_wf m (s_e x)) k + s_wf m (s_e x) k, q_sum (s_pf m (s_e x)) k + s_pf m (s_e x) k, nI (k + 1)))
    generalize q_sum (s_wf m (s_e x)) k = z1
    generalize q_sum (s_pf m (s_e x)) k = z2
    have hb : p_X8_hasBit (nI x) (nI k) = some (if s_e x k = true then 1 else 0) := by
      rw [q_hasBit _ (by omega), bt_nI _ (by omega)]; rfl
    unfold lb_X2_tryOut_8 s_wf s_pf
    rw [q_ifge _ _ hk (by omega), hb, q_cl (by omega), hse k hk, q_cl (by omega), x_pitchL h.1 c12 f1 f3, f2]
    by_cases ce : s_e x k = true
    · rw [if_pos ce, q_b1, if_neg (show ¬ (1 : Int32) = 0 from by decide), q_ix _ (by omega) (by omega), q_ix _ c12 (by omega), q_b1, if_neg (show ¬ (1 : Int32) = 0 from by decide), q_ix _ (by omega) (by omega), q_b1, if_pos ce, if_pos ce, nI_1]
    · rw [if_neg ce, q_b1, if_pos rfl, q_b1, if_pos rfl, if_neg ce, if_neg ce, nI_1]
  · show lb_X2_tryOut_8 (nI (s_N m)) (nI x) dn tr se wo _ _ (nI (s_N m)) = _
    unfold lb_X2_tryOut_8
    rw [q_ifle _ _ (Nat.le_refl _) (by omega)]; rfl
def s_js (m : Nat → Int32) (n x w : Nat) (bg : Nat → Int32) : Prop := ∀ k, k < s_N m → s_e x k = true → bg k = nI (s_dg (s_e x) (s_N m) n (s_N m - (k + 1)) w)
theorem x_try {m rn td se hr mb tr wo dn : Nat → Int32} {hn : Nat → Int64} (h : k_Inv m) {o n men : Nat} (hn0 : 0 < n) (hn6 : n ≤ 6) (hmen : men ≤ 100) (hg : s_gI m rn td o n (s_N m) (s_c m) se hr mb hn) (hf : ∀ i, i < 12 → tr i = m (121 + i) ∧ wo i = m (133 + i) ∧ dn i = m (157 + i)) (j : Nat) (tried begins : Nat → Int32) (hb : s_js m n (s_B m rn td o n men j).1 (s_B m rn td o n men j).2.2.2 begins) : ∃ tr' bg', p_X2_tryOut (lN ((127 - men) * 72340172838076673)) (nI (s_N m)) (nI (s_B m rn td o n men j).1) (s_B m rn td o n men j).2.1 (s_B m rn td o n men j).2.2.1 (m 5) se dn tr wo tried mb hn begins (nI (j + 1)) = some (nI (s_B m rn td o n men (j + 1)).1, (s_B m rn td o n men (j + 1)).2.1, (s_B m rn td o n men (j + 1)).2.2.1, tr', bg') ∧ s_js m n (s_B m rn td o n men (j + 1)).1 (s_B m rn td o n men (j + 1)).2.2.2 bg' := by
  have hN := s_N_le m
  have place : ¬ m 5 < s_Pt m (j + 1) → ∀ pl w p, ∃ R tr', p_X2_isPlaced 7 (lN ((127 - men) * 72340172838076673)) (nI (s_N m)) pl w p tried mb hn (nI (j + 1)) 0 0 = some (R, tr') ∧ ((s_fd m rn td o n men (j + 1) = none ∧ R = 0) ∨ ∃ w, s_fd m rn td o n men (j + 1) = some w ∧ R = 1 ∧ s_js m n (j + 1) w tr') := by
    intro hp pl w p
    obtain ⟨R, tr', g1, -, g3⟩ := x_placed (e := s_e (j + 1)) (N := s_N m) (n := n) (ok := fun k b => s_okb m rn td o n (s_c m k) b) (lk := fun k => s_lk m (s_c m k)) (hd := fun k => s_hd m (s_c m k)) (men := men) (c := nI (j + 1)) (pl := pl) (wo := w) (pi := p) (mb := mb) (hn := hn) hN hn0 hn6 (fun k hk => bt_nI _ (by omega)) (fun k hk b hb => (hg k hk).2.2.1 b (by omega)) (fun k hk b hb => by
      obtain ⟨-, -, l1, -, -, -⟩ := s_lkN h hk
      have hb' : s_okb m rn td o n (s_c m k) b = true := hb
      unfold s_okb at hb'
      rw [Bool.and_eq_true] at hb'
      have := of_decide_eq_true hb'.1
      exact ⟨by omega, by show b + s_lk m (s_c m k) ≤ 8; omega⟩) (fun k hk => (hg k hk).2.2.2) (fun k hk => (s_lkN h hk).2.2.2.1) hmen (s_N m) (Nat.le_refl _) 7 (by omega) (fun _ => 0) tried (fun h hh => Nat.zero_le _)
    rw [Nat.sub_self] at g1
    have efd : s_fd m rn td o n men (j + 1) = q_find (s_F (s_V (s_e (j + 1)) (s_N m) n (fun k b => s_okb m rn td o n (s_c m k) b) (fun k => s_lk m (s_c m k)) (fun k => s_hd m (s_c m k)) men (s_N m) (fun _ => 0))) (s_q (s_e (j + 1)) (s_N m) n (s_N m)) := by
      unfold s_fd
      rw [if_neg hp]; rfl
    refine ⟨R, tr', g1, ?_⟩
    rw [efd]
    rcases g3 with g3 | ⟨w, w1, w2, w3⟩
    · exact Or.inl g3
    · refine Or.inr ⟨w, w1, w2, fun k hk hke => ?_⟩
      have := w3 (s_N m - (k + 1)) (by omega) (by rw [show s_N m - (s_N m - (k + 1) + 1) = k from by omega]; exact hke)
      rw [show s_N m - (s_N m - (k + 1) + 1) = k from by omega] at this
      exact this
  have eB : s_B m rn td o n men (j + 1) = if (s_B m rn td o n men j).2.1 < s_Wt m (j + 1) ∨ (s_Wt m (j + 1) = (s_B m rn td o n men j).2.1 ∧ s_Pt m (j + 1) < (s_B m rn td o n men j).2.2.1) then (match s_fd m rn td o n men (j + 1) with | none => s_B m rn td o n men j | some w => (j + 1, s_Wt m (j + 1), s_Pt m (j + 1), w)) else s_B m rn td o n men j := rfl
  have same : ∀ tr' : Nat → Int32, s_B m rn td o n men (j + 1) = s_B m rn td o n men j → ∃ tr'' bg', some (nI (s_B m rn td o n men j).1, (s_B m rn td o n men j).2.1, (s_B m rn td o n men j).2.2.1, tr', begins) = some (nI (s_B m rn td o n men (j + 1)).1, (s_B m rn td o n men (j + 1)).2.1, (s_B m rn td o n men (j + 1)).2.2.1, tr'', bg') ∧ s_js m n (s_B m rn td o n men (j + 1)).1 (s_B m rn td o n men (j + 1)).2.2.2 bg' := fun tr' e => by
    rw [e]
    exact ⟨tr', begins, rfl, hb⟩
  have fdn : m 5 < s_Pt m (j + 1) → s_fd m rn td o n men (j + 1) = none := fun hp => if_pos hp
  have none' : s_fd m rn td o n men (j + 1) = none → s_B m rn td o n men (j + 1) = s_B m rn td o n men j := fun e => by
    rw [eB, e]
    split <;> rfl
  unfold p_X2_tryOut
  rw [x_sums h (fun k hk => (hg k hk).1) hf, q_b2]
  have go : ((s_B m rn td o n men j).2.1 < s_Wt m (j + 1) ∨ (s_Wt m (j + 1) = (s_B m rn td o n men j).2.1 ∧ s_Pt m (j + 1) < (s_B m rn td o n men j).2.2.1)) → ∃ tr' bg', (if m 5 < s_Pt m (j + 1) then some (nI (s_B m rn td o n men j).1, (s_B m rn td o n men j).2.1, (s_B m rn td o n men j).2.2.1, tried, begins) else k_b2 (p_X2_isPlaced 7 (lN ((127 - men) * 72340172838076673)) (nI (s_N m)) (nI (s_B m rn td o n men j).1) (s_B m rn td o n men j).2.1 (s_B m rn td o n men j).2.2.1 tried mb hn (nI (j + 1)) 0 0) fun r32 w_h_tried_33 => if r32 = 0 then some (nI (s_B m rn td o n men j).1, (s_B m rn td o n men j).2.1, (s_B m rn td o n men j).2.2.1, w_h_tried_33, begins) else some (nI (j + 1), s_Wt m (j + 1), s_Pt m (j + 1), w_h_tried_33, k_cpy 5 w_h_tried_33 begins)) = some (nI (s_B m rn td o n men (j + 1)).1, (s_B m rn td o n men (j + 1)).2.1, (s_B m rn td o n men (j + 1)).2.2.1, tr', bg') ∧ s_js m n (s_B m rn td o n men (j + 1)).1 (s_B m rn td o n men (j + 1)).2.2.2 bg' := by
    intro hc
    by_cases cp : m 5 < s_Pt m (j + 1)
    · rw [if_pos cp]
      exact same _ (none' (fdn cp))
    · rw [if_neg cp]
      obtain ⟨R, tr', g1, g2⟩ := place cp (nI (s_B m rn td o n men j).1) (s_B m rn td o n men j).2.1 (s_B m rn td o n men j).2.2.1
      rw [g1, q_b2]
      rcases g2 with ⟨g2, rfl⟩ | ⟨w, g2, rfl, g3⟩
      · rw [if_pos rfl]
        exact same _ (none' g2)
      · rw [if_neg (show ¬ (1 : Int32) = 0 from by decide)]
        have e2 : s_B m rn td o n men (j + 1) = (j + 1, s_Wt m (j + 1), s_Pt m (j + 1), w) := by rw [eB, if_pos hc, g2]
        rw [e2]
        refine ⟨_, _, rfl, fun k hk hke => ?_⟩
        show (if k < 5 then tr' k else begins k) = _
        rw [if_pos (by omega)]
        exact g3 k hk hke
  by_cases c1 : (s_B m rn td o n men j).2.1 < s_Wt m (j + 1)
  · rw [if_pos c1]
    exact go (Or.inl c1)
  · rw [if_neg c1]
    by_cases c2 : s_Wt m (j + 1) = (s_B m rn td o n men j).2.1
    · rw [if_pos c2]
      by_cases c3 : s_Pt m (j + 1) < (s_B m rn td o n men j).2.2.1
      · rw [if_neg (fun hh => by rw [Int32.le_iff_toInt_le] at hh; rw [Int32.lt_iff_toInt_lt] at c3; omega)]
        exact go (Or.inr ⟨c2, c3⟩)
      · rw [if_pos (by rw [Int32.le_iff_toInt_le]; rw [Int32.lt_iff_toInt_lt] at c3; omega)]
        exact same _ (by rw [eB, if_neg (fun hh => hh.elim c1 (fun q => c3 q.2))])
    · rw [if_neg c2]
      exact same _ (by rw [eB, if_neg (fun hh => hh.elim c1 (fun q => c2 q.1))])
theorem x_make {m rn td ru sk sd hs lg tr wo sta dn : Nat → Int32} (h : k_Inv m) (hrn : ∀ h, h < 96 → kr (rn h) 0 1) (hse : ∀ i, i < 12 → sk i = m (73 + i) ∧ sd i = m (85 + i) ∧ hs i = m (97 + i) ∧ lg i = m (109 + i) ∧ tr i = m (121 + i) ∧ wo i = m (133 + i) ∧ sta i = m (145 + i) ∧ dn i = m (157 + i)) {o men n : Nat} (ho : o ≤ 96) (hru : ru 3 = nI men) (hmen : men ≤ 100) (hn0 : 0 < n) (hn6 : n ≤ 6) (se0 hr0 mb0 tried0 begins0 : Nat → Int32) (hands0 : Nat → Int64) : ∃ ms se hr mb hn tried begins, p_X2_make (nI o) (m 1) (m 5) (m 12) sta se0 lg dn hr0 rn td sk sd mb0 hands0 hs ru tr wo tried0 begins0 (nI n) = some (ms, nI (s_N m), nI (s_B m rn td o n men (2 ^ s_N m - 1)).1, (s_B m rn td o n men (2 ^ s_N m - 1)).2.1, (s_B m rn td o n men (2 ^ s_N m - 1)).2.2.1, se, hr, mb, hn, tried, begins) ∧ s_gI m rn td o n (s_N m) (s_c m) se hr mb hn ∧ s_js m n (s_B m rn td o n men (2 ^ s_N m - 1)).1 (s_B m rn td o n men (2 ^ s_N m - 1)).2.2.2 begins := by
  have hN := s_N_le m
  have h32 := q_p5 (s_N m) (by omega)
  have hpos := Nat.two_pow_pos (s_N m)
  obtain ⟨se, hr, mb, hn, g1, g2⟩ := x_gather (sk := sk) (sd := sd) (hs := hs) (lg := lg) (tr := tr) (sta := sta) (dn := dn) (td := td) h hrn (fun i hi => ⟨(hse i hi).1, (hse i hi).2.1, (hse i hi).2.2.1, (hse i hi).2.2.2.1, (hse i hi).2.2.2.2.2.2.1, (hse i hi).2.2.2.2.2.2.2⟩) ho hn6 se0 hr0 mb0 hands0
  have hf : ∀ i, i < 12 → tr i = m (121 + i) ∧ wo i = m (133 + i) ∧ dn i = m (157 + i) := fun i hi => ⟨(hse i hi).2.2.2.2.1, (hse i hi).2.2.2.2.2.1, (hse i hi).2.2.2.2.2.2.2⟩
  have z0 : s_js m n (s_B m rn td o n men 0).1 (s_B m rn td o n men 0).2.2.2 begins0 := fun k hk hke => Bool.noConfusion ((s_e0 k).symm.trans hke)
  have ems : ((127 - ru 3).toInt64) * 72340172838076673 = lN ((127 - men) * 72340172838076673) := by
    rw [hru, show (127 : Int32) = nI 127 from rfl, pk_sub (by omega), nI_l (by omega), show (72340172838076673 : Int64) = lN 72340172838076673 from rfl, lN_mul]
  obtain ⟨E, hE, hE2⟩ := q_lpI (body := fun s : Int32 × (Nat → Int32) × (Nat → Int32) × Int32 × Int32 × Int32 => lb_X2_make_44 (nI (s_N m)) ru (m 5) se dn tr wo mb hn s.1 s.2.1 s.2.2.1 s.2.2.2.1 s.2.2.2.2.1 s.2.2.2.2.2) (fun j s => s.1 = nI (j + 1) ∧ s_js m n (s_B m rn td o n men j).1 (s_B m rn td o n men j).2.2.2 s.2.1 ∧ s.2.2.2.1 = (s_B m rn td o n men j).2.2.1 ∧ s.2.2.2.2.1 = nI (s_B m rn td o n men j).1 ∧ s.2.2.2.2.2 = (s_B m rn td o n men j).2.1) (fun E => s_js m n (s_B m rn td o n men (2 ^ s_N m - 1)).1 (s_B m rn td o n men (2 ^ s_N m - 1)).2.2.2 E.1 ∧ E.2.2.1 = (s_B m rn td o n men (2 ^ s_N m - 1)).2.2.1 ∧ E.2.2.2.1 = nI (s_B m rn td o n men (2 ^ s_N m - 1)).1 ∧ E.2.2.2.2 = (s_B m rn td o n men (2 ^ s_N m - 1)).2.1) (2 ^ s_N m - 1) (fun j s hj hs' => by
    obtain ⟨s1, bg, tried, pitch, planned, worth⟩ := s
    obtain ⟨q1, q2, q3, q4, q5⟩ := hs'
    have q1' : s1 = nI (j + 1) := q1
    have q3' : pitch = (s_B m rn td o n men j).2.2.1 := q3
    have q4' : planned = nI (s_B m rn td o n men j).1 := q4
    have q5' : worth = (s_B m rn td o n men j).2.1 := q5
    obtain ⟨tr', bg', t1, t2⟩ := x_try (men := men) h hn0 hn6 hmen g2 hf j tried bg q2
    show ∃ X, lb_X2_make_44 (nI (s_N m)) ru (m 5) se dn tr wo mb hn s1 bg tried pitch planned worth = some X ∧ _
    unfold lb_X2_make_44
    rw [q1', q3', q4', q5', q_sh5 _ (by omega), q_ifge _ _ (show j + 1 < 2 ^ s_N m by omega) (by omega), ems, t1, q_b5]
    exact ⟨_, rfl, Or.inl ⟨_, rfl, nI_1 (j + 1), t2, rfl, rfl, rfl⟩⟩) (fun s hs' => by
    obtain ⟨s1, bg, tried, pitch, planned, worth⟩ := s
    obtain ⟨q1, q2, q3, q4, q5⟩ := hs'
    have q1' : s1 = nI (2 ^ s_N m - 1 + 1) := q1
    refine ⟨(bg, tried, pitch, planned, worth), ?_, q2, q3, q4, q5⟩
    show lb_X2_make_44 (nI (s_N m)) ru (m 5) se dn tr wo mb hn s1 bg tried pitch planned worth = _
    unfold lb_X2_make_44
    rw [q1', q_sh5 _ (by omega), q_ifle _ _ (show 2 ^ s_N m ≤ 2 ^ s_N m - 1 + 1 by omega) (by omega)]) (1, begins0, tried0, 0, 0, 0) ⟨rfl, z0, rfl, rfl, rfl⟩ (by omega)
  obtain ⟨bg, tried, pitch, planned, worth⟩ := E
  obtain ⟨r1, r2, r3, r4⟩ := hE2
  have r2' : pitch = (s_B m rn td o n men (2 ^ s_N m - 1)).2.2.1 := r2
  have r3' : planned = nI (s_B m rn td o n men (2 ^ s_N m - 1)).1 := r3
  have r4' : worth = (s_B m rn td o n men (2 ^ s_N m - 1)).2.1 := r4
  refine ⟨lN ((127 - men) * 72340172838076673), se, hr, mb, hn, tried, bg, ?_, g2, r1⟩
  unfold p_X2_make
  rw [g1, q_b5, hE, q_b5, ems, r2', r3', r4']
theorem x_hasE {x k : Nat} (hk : k < 32) : p_X8_hasBit (nI x) (nI k) = some (if s_e x k = true then 1 else 0) := by
  rw [q_hasBit _ hk, bt_nI _ hk]; rfl
theorem x_seamBits {m se : Nat → Int32} (h : k_Inv m) (hse : ∀ k, k < s_N m → se k = nI (s_c m k)) (x : Nat) : p_X2_seamBits (nI (s_N m)) (nI x) se = some (nI (s_bn (s_c m) (s_N m) x)) := by
  have hN := s_N_le m
  unfold p_X2_seamBits
  have key := q_foldlp (body := fun s : Int32 × Int32 => lb_X2_seamBits_4 (nI (s_N m)) (nI x) se s.1 s.2) (s_bI (s_c m) x) (s_N m) 0 (fun k z hk => by
    show lb_X2_seamBits_4 (nI (s_N m)) (nI x) se z (nI k) = _
    unfold lb_X2_seamBits_4 s_bI
    rw [q_ifge _ _ hk (by omega), x_hasE (by omega), q_b1, q_ifp, q_cl (by omega), hse k hk]
    by_cases ce : s_e x k = true
    · have ce' : x.testBit k = true := ce
      rw [if_pos ce, if_pos ce', q_ix _ (by omega) (by omega)]
    · have ce' : ¬ x.testBit k = true := ce
      rw [if_neg ce, if_neg ce', Int32.or_zero]) (fun z => by
    show lb_X2_seamBits_4 (nI (s_N m)) (nI x) se z (nI (s_N m)) = _
    unfold lb_X2_seamBits_4
    rw [q_ifle _ _ (Nat.le_refl _) (by omega)]) (by omega)
  rw [key, q_b1, s_bI_e x (s_N m) (fun a b h1 h2 => s_c_mono h1 h2) (fun k hk => (s_lkN h hk).1)]
def s_bo (m : Nat → Int32) (n x w s k : Nat) : Option Int32 := if s_e x k = true ∧ s_c m k = s then some (nI (s_dg (s_e x) (s_N m) n (s_N m - (k + 1)) w)) else none
def q_or4 : Option Int32 → Int32
  | none => -4
  | some v => v
theorem x_beginningOf {m se bg : Nat → Int32} (h : k_Inv m) (hse : ∀ k, k < s_N m → se k = nI (s_c m k)) {n x w s : Nat} (hs : s < 100) (hb : s_js m n x w bg) : p_X2_beginningOf (nI (s_N m)) (nI x) se bg (nI s) = some (q_or4 (q_find (s_bo m n x w s) (s_N m))) := by
  have hN := s_N_le m
  unfold p_X2_beginningOf
  have key := q_findlp (body := fun t => lb_X2_beginningOf_2 (nI (s_N m)) (nI x) se (nI s) bg t) (s_bo m n x w s) (s_N m) (fun k hk => by
    have c12 := (s_lkN h hk).1
    show lb_X2_beginningOf_2 (nI (s_N m)) (nI x) se (nI s) bg (nI k) = _
    unfold lb_X2_beginningOf_2 s_bo
    rw [q_ifge _ _ hk (by omega), x_hasE (by omega), q_b1, q_ifp, q_cl (by omega), hse k hk]
    by_cases ce : s_e x k = true
    · rw [if_pos ce, q_ix _ (by omega) (by omega), q_ix _ (by omega) (by omega), hb k hk ce]
      by_cases cs : s_c m k = s
      · rw [if_pos (by rw [cs]), if_pos ⟨ce, cs⟩]
      · rw [if_neg (fun e => cs (by have := congrArg Int32.toNatClampNeg e; rw [q_cl (by omega), q_cl (by omega)] at this; exact this)), if_neg (fun hh => cs hh.2)]
    · rw [if_neg ce, if_neg (fun hh => ce hh.1)]) (by
    show lb_X2_beginningOf_2 (nI (s_N m)) (nI x) se (nI s) bg (nI (s_N m)) = _
    unfold lb_X2_beginningOf_2
    rw [q_ifle _ _ (Nat.le_refl _) (by omega)]) (by omega)
  rw [key]
  cases q_find (s_bo m n x w s) (s_N m) <;> rfl
theorem s_c_inj {m : Nat → Int32} {a b : Nat} (ha : a < s_N m) (hb : b < s_N m) (e : s_c m a = s_c m b) : a = b := by
  rcases Nat.lt_trichotomy a b with c | c | c
  · have := s_c_mono c hb; omega
  · exact c
  · have := s_c_mono c ha; omega
theorem y_beginningOf {m ct best : Nat → Int32} (h : k_Inv m) (hct : ∀ k, k < s_N m → ct k = nI (s_c m k)) {n x w s : Nat} (hn0 : 0 < n) (hn6 : n ≤ 6) (hs : s < 100) {a2 : Int32} (ha : a2 - 3 = nI s) (hb : s_is m n x w best) : k_lp (fun t : Int32 × Int32 => lb_X9_plan_105 (nI (s_N m)) ct a2 best t.1 t.2) k_fuel ((-4), 0) = some (q_or4 (q_find (s_bo m n x w s) (s_N m))) := by
  have hN := s_N_le m
  refine q_run (body := fun t : Int32 × Int32 => lb_X9_plan_105 (nI (s_N m)) ct a2 best t.1 t.2) (fun i => (q_or4 (q_find (s_bo m n x w s) i), nI i)) _ (s_N m) (fun k hk => ?_) ?_ (by omega)
  · have c12 := (s_lkN h hk).1
    have hdg := s_dg_lt (s_e x) (s_N m) hn0 (s_N m - (k + 1)) w
    have step : q_find (s_bo m n x w s) (k + 1) = match s_bo m n x w s k with | none => q_find (s_bo m n x w s) k | some v => some v := by
      cases hk1 : q_find (s_bo m n x w s) k with
      | none =>
        rw [q_find_sn hk1]
        cases s_bo m n x w s k <;> rfl
      | some v =>
        rw [q_find_ss hk1]
        have : s_bo m n x w s k = none := by
          obtain ⟨i, hi, hv, -⟩ := q_find_some.mp hk1
          unfold s_bo at hv ⊢
          by_cases c : s_e x i = true ∧ s_c m i = s
          · refine if_neg fun hh => ?_
            have := s_c_inj (m := m) (a := i) (b := k) (by omega) hk (by rw [c.2, hh.2])
            omega
          · rw [if_neg c] at hv; cases hv
        rw [this]
    show lb_X9_plan_105 (nI (s_N m)) ct a2 best (q_or4 (q_find (s_bo m n x w s) k)) (nI k) = some (.inl (q_or4 (q_find (s_bo m n x w s) (k + 1)), nI (k + 1)))
    rw [step]
    generalize q_find (s_bo m n x w s) k = z
    unfold lb_X9_plan_105 s_bo
    rw [q_ifge _ _ hk (by omega), q_ix _ (by omega) (by omega), q_cl (by omega), hct k hk, ha, hb k hk, q_ix _ (by omega) (by omega), q_ix _ (by omega) (by omega)]
    by_cases cs : s_c m k = s
    · rw [if_pos (by rw [cs])]
      by_cases ce : s_e x k = true
      · rw [if_pos ce, if_neg (show ¬ nI _ < 0 from nI_pos (by omega)), if_pos ⟨ce, cs⟩, nI_1]; rfl
      · rw [if_neg ce, if_pos (show (-1 : Int32) < 0 from by decide), if_neg (fun hh => ce hh.1), nI_1]
    · rw [if_neg (fun e => cs (by have := congrArg Int32.toNatClampNeg e; rw [q_cl (by omega), q_cl (by omega)] at this; exact this)), if_neg (fun hh => cs hh.2), nI_1]
  · show lb_X9_plan_105 (nI (s_N m)) ct a2 best _ (nI (s_N m)) = _
    unfold lb_X9_plan_105
    rw [q_ifle _ _ (Nat.le_refl _) (by omega)]
def s_or (m : Nat → Int32) (n x w a k : Nat) (z : Int32) : Int32 := if s_e x k = true ∧ s_dg (s_e x) (s_N m) n (s_N m - (k + 1)) w ≤ a ∧ a < s_dg (s_e x) (s_N m) n (s_N m - (k + 1)) w + s_lk m (s_c m k) then z ||| (1 <<< (nI (s_c m k) &&& 31)) else z
theorem x_orders {m se bg hr : Nat → Int32} (h : k_Inv m) (hse : ∀ k, k < s_N m → se k = nI (s_c m k)) (hhr : ∀ k, k < s_N m → hr k = nI (s_lk m (s_c m k))) {n x w a : Nat} (hn0 : 0 < n) (hn6 : n ≤ 6) (ha : a < 100) (hb : s_js m n x w bg) : p_X2_ordersOf (nI (s_N m)) (nI x) bg hr se (nI a) = some (q_fold (s_or m n x w a) 0 (s_N m)) := by
  have hN := s_N_le m
  unfold p_X2_ordersOf
  have key := q_foldlp (body := fun s : Int32 × Int32 => lb_X2_ordersOf_4 (nI (s_N m)) (nI x) (nI a) bg hr se s.1 s.2) (s_or m n x w a) (s_N m) 0 (fun k z hk => by
    have hdg := s_dg_lt (s_e x) (s_N m) hn0 (s_N m - (k + 1)) w
    have l5 := (s_lkN h hk).2.1
    show lb_X2_ordersOf_4 (nI (s_N m)) (nI x) (nI a) bg hr se z (nI k) = _
    unfold lb_X2_ordersOf_4 s_or
    rw [q_ifge _ _ hk (by omega), x_hasE (by omega), q_b1, q_ifp, q_cl (by omega), hse k hk, hhr k hk]
    by_cases ce : s_e x k = true
    · rw [if_pos ce, hb k hk ce, q_ix _ (by omega) (by omega), q_ix _ (by omega) (by omega), q_ix _ (by omega) (by omega), q_ix _ (by omega) (by omega), nI_add]
      by_cases c1 : a < s_dg (s_e x) (s_N m) n (s_N m - (k + 1)) w
      · rw [if_pos (nI_lt c1 (by omega)), if_neg (fun hh => by have := hh.2.1; omega), Int32.or_zero]
      · rw [if_neg (nI_nlt (by omega) (by omega))]
        by_cases c2 : s_dg (s_e x) (s_N m) n (s_N m - (k + 1)) w + s_lk m (s_c m k) ≤ a
        · rw [if_pos (nI_le c2 (by omega)), if_neg (fun hh => by have := hh.2.2; omega), Int32.or_zero]
        · rw [if_neg (nI_ge (by omega) (by omega)), if_pos ⟨ce, by omega, by omega⟩]
    · rw [if_neg ce, if_neg (fun hh => ce hh.1), Int32.or_zero]) (fun z => by
    show lb_X2_ordersOf_4 (nI (s_N m)) (nI x) (nI a) bg hr se z (nI (s_N m)) = _
    unfold lb_X2_ordersOf_4
    rw [q_ifle _ _ (Nat.le_refl _) (by omega)]) (by omega)
  rw [key, q_b1]
theorem y_orders {m ct best : Nat → Int32} (h : k_Inv m) (hct : ∀ k, k < s_N m → ct k = nI (s_c m k)) {n x w a : Nat} (hn0 : 0 < n) (hn6 : n ≤ 6) (ha : a < 100) (hb : s_is m n x w best) : k_lp (fun s : Int32 × Int32 => lb_X9_orders_65 (nI (s_N m)) best (nI a) m ct s.1 s.2) k_fuel (0, 0) = some (q_fold (s_or m n x w a) 0 (s_N m)) := by
  have hN := s_N_le m
  refine q_foldlp (body := fun s : Int32 × Int32 => lb_X9_orders_65 (nI (s_N m)) best (nI a) m ct s.1 s.2) (s_or m n x w a) (s_N m) 0 (fun k z hk => ?_) (fun z => ?_) (by omega)
  · have hdg := s_dg_lt (s_e x) (s_N m) hn0 (s_N m - (k + 1)) w
    obtain ⟨c12, l5, -, -, -, yh⟩ := s_lkN h hk
    show lb_X9_orders_65 (nI (s_N m)) best (nI a) m ct z (nI k) = _
    unfold lb_X9_orders_65 s_or
    rw [q_ifge _ _ hk (by omega), q_ix _ (by omega) (by omega), q_cl (by omega), hb k hk, hct k hk, yh]
    by_cases ce : s_e x k = true
    · rw [if_pos ce, if_neg (show ¬ nI _ < 0 from nI_pos (by omega)), q_ix _ (by omega) (by omega), q_ix _ (by omega) (by omega), q_ix _ (by omega) (by omega), q_b1, nI_add, q_ix _ (by omega) (by omega)]
      by_cases c1 : a < s_dg (s_e x) (s_N m) n (s_N m - (k + 1)) w
      · rw [if_pos (nI_lt c1 (by omega)), if_neg (fun hh => by have := hh.2.1; omega), Int32.or_zero]
      · rw [if_neg (nI_nlt (by omega) (by omega))]
        by_cases c2 : s_dg (s_e x) (s_N m) n (s_N m - (k + 1)) w + s_lk m (s_c m k) ≤ a
        · rw [if_pos (nI_le c2 (by omega)), if_neg (fun hh => by have := hh.2.2; omega), Int32.or_zero]
        · rw [if_neg (nI_ge (by omega) (by omega)), if_pos ⟨ce, by omega, by omega⟩]
    · rw [if_neg ce, if_pos (show (-1 : Int32) < 0 from by decide), if_neg (fun hh => ce hh.1), Int32.or_zero]
  · show lb_X9_orders_65 (nI (s_N m)) best (nI a) m ct z (nI (s_N m)) = _
    unfold lb_X9_orders_65
    rw [q_ifle _ _ (Nat.le_refl _) (by omega)]
end
section
/-! ===== sim_plan, sim_orders ===== -/
theorem x_mayPlan (o w a : Int32) : p_X8_mayPlan o w a = some (if w ≤ 100 ∧ ¬ 96 < o + a then 1 else 0) := by
  unfold p_X8_mayPlan
  rw [x_lost]
  by_cases c : w ≤ 100
  · rw [if_pos c, q_b1, if_pos rfl]
    by_cases c2 : 96 < o + a
    · rw [if_pos c2, if_neg (fun hh => hh.2 c2)]
    · rw [if_neg c2, if_pos ⟨c, c2⟩]
  · rw [if_neg c, q_b1, if_neg (show ¬ (1 : Int32) = 0 from by decide), if_neg (fun hh => c hh.1)]
theorem q_1_6 {a : Int32} (h : 1 ≤ a ∧ a ≤ 6) : ∃ n, a = nI n ∧ 0 < n ∧ n ≤ 6 := by
  obtain ⟨h1, h2⟩ := h
  rw [Int32.le_iff_toInt_le] at h1 h2
  obtain ⟨n, e, -, hn, -⟩ := kr_nI (x := a) (a := 1) (b := 6) ⟨h1, h2⟩ (by decide) (by decide)
  rw [e, nI_toInt (by omega)] at h1
  have h1' : (1 : Int) ≤ (n : Int) := h1
  exact ⟨n, e, by omega, by omega⟩
theorem xy_plan {m rn td ru ru' sk sd hs lg tr wo sta dn : Nat → Int32} (h : k_Inv m) (hrn : ∀ h, h < 96 → kr (rn h) 0 1) (hse : ∀ i, i < 12 → sk i = m (73 + i) ∧ sd i = m (85 + i) ∧ hs i = m (97 + i) ∧ lg i = m (109 + i) ∧ tr i = m (121 + i) ∧ wo i = m (133 + i) ∧ sta i = m (145 + i) ∧ dn i = m (157 + i)) (hru : ru' 3 = ru 3) (hmen : kr (ru 3) 1 20) (ms : Int64) (p1 p2 p3 p4 : Int32) (se0 hr0 mb0 tried0 begins0 : Nat → Int32) (hands0 : Nat → Int64) (v1 v2 v3 v4 : Int32) (ct0 bg0 best0 : Nat → Int32) (a1 a2 : Int32) : ∃ r w v, p_X8_plan (m 0) (m 1) (m 2) (m 5) (m 12) ms p1 p2 p3 p4 sta se0 lg dn hr0 rn td sk sd mb0 hands0 hs ru' tr wo tried0 begins0 a1 a2 = some (r, w) ∧ p_X9_plan v1 v2 v3 v4 m ct0 bg0 rn td ru best0 a1 a2 = some (r, 0, v) := by
  obtain ⟨e12, hn12, -⟩ := s_ns_e h.1
  obtain ⟨o, eo, -, ho, -⟩ := kr_nI (rg_ho h.1) (by decide) (by decide)
  obtain ⟨men, eme, -, hme, -⟩ := kr_nI hmen (by decide) (by decide)
  have hN := s_N_le m
  unfold p_X8_plan p_X9_plan
  rw [x_mayPlan, y_lost, q_within, q_in_1_6, q_within, show p_X9_in a2.toInt64 0 (2 + m 12).toInt64 = some (if 0 ≤ a2 ∧ a2 ≤ 2 + m 12 then 1 else 0) from q_in a2 0 (2 + m 12)]
  by_cases c1 : 1 ≤ a1 ∧ a1 ≤ 6
  · simp only [if_pos c1, q_b1, show ((1 : Int32) = 0) = False from by decide, if_false]
    by_cases c2 : 0 ≤ a2 ∧ a2 ≤ 2 + m 12
    · simp only [if_pos c2, show ((1 : Int32) = 0) = False from by decide, if_false]
      by_cases cw : m 2 ≤ 100
      · simp only [if_pos cw, if_true]
        by_cases c3 : 96 < m 0 + a1
        · rw [q_ifp, if_neg (show ¬ (m 2 ≤ 100 ∧ ¬ 96 < m 0 + a1) from fun hh => hh.2 c3), if_neg (show ¬ m 0 + a1 ≤ 96 from fun hh => by rw [Int32.le_iff_toInt_le] at hh; rw [Int32.lt_iff_toInt_lt] at c3; omega)]
          exact ⟨_, _, _, rfl, rfl⟩
        · rw [q_ifp, if_pos (show (m 2 ≤ 100 ∧ ¬ 96 < m 0 + a1) from ⟨cw, c3⟩), if_pos (show m 0 + a1 ≤ 96 from by rw [Int32.le_iff_toInt_le]; rw [Int32.lt_iff_toInt_lt] at c3; omega)]
          obtain ⟨n, en, hn0, hn6⟩ := q_1_6 c1
          obtain ⟨ct, bg, best, y1, y2, y3⟩ := y_findplan (td := td) (rn := rn) (ru := ru) h hrn eo (by omega) eme (by omega) hn0 hn6 v3 v4 ct0 bg0 best0
          obtain ⟨ms', se, hr, mb, hn, tried, begins, x1, x2, x3⟩ := x_make (td := td) (rn := rn) (ru := ru') (o := o) (men := men) h hrn hse (by omega) (by rw [hru, eme]) (by omega) hn0 hn6 se0 hr0 mb0 tried0 begins0 hands0
          rw [en, eo, x1, y1, q_b11, q_b7]
          by_cases d3 : 3 ≤ a2
          · have n0 : ¬ a2 = 0 := fun e => by rw [e] at d3; exact absurd d3 (by decide)
            have n1 : ¬ a2 = 1 := fun e => by rw [e] at d3; exact absurd d3 (by decide)
            have n2 : ¬ a2 = 2 := fun e => by rw [e] at d3; exact absurd d3 (by decide)
            obtain ⟨s, es, hs100⟩ : ∃ s, a2 - 3 = nI s ∧ s < 100 := by
              have g1 := c2.2
              rw [e12, show (2 : Int32) = nI 2 from rfl, nI_add] at g1
              obtain ⟨t, et, -, ht, -⟩ := kr_nI (x := a2) (a := 3) (b := 14) ⟨by rw [Int32.le_iff_toInt_le] at d3; exact d3, by rw [Int32.le_iff_toInt_le, nI_toInt (by omega)] at g1; omega⟩ (by decide) (by decide)
              rw [et, Int32.le_iff_toInt_le, nI_toInt (by omega)] at d3
              have d3' : (3 : Int) ≤ (t : Int) := d3
              exact ⟨t - 3, by rw [et, show (3 : Int32) = nI 3 from rfl, pk_sub (by omega)], by omega⟩
            rw [if_pos d3, if_neg n0, if_neg n1, if_neg n2, es, x_beginningOf h (fun k hk => (x2 k hk).1) hs100 x3, y_beginningOf h y2 hn0 hn6 hs100 es y3, q_b1, q_b1]
            exact ⟨_, _, _, rfl, rfl⟩
          · rw [if_neg d3]
            by_cases d0 : a2 = 0
            · rw [if_pos d0, if_pos d0]
              exact ⟨_, _, _, rfl, rfl⟩
            · rw [if_neg d0, if_neg d0]
              by_cases d1 : a2 = 1
              · rw [if_pos d1, if_pos d1]
                exact ⟨_, _, _, rfl, rfl⟩
              · have d2 : a2 = 2 := by
                  have g0 := c2.1
                  rw [Int32.le_iff_toInt_le] at g0 d3
                  rw [← Int32.toInt_inj] at d0 d1 ⊢
                  have z0 : (0 : Int32).toInt = 0 := by decide
                  have z1 : (1 : Int32).toInt = 1 := by decide
                  have z2 : (2 : Int32).toInt = 2 := by decide
                  have z3 : (3 : Int32).toInt = 3 := by decide
                  omega
                rw [if_neg d1, if_neg d1, if_pos d2, x_seamBits h (fun k hk => (x2 k hk).1), q_b1]
                exact ⟨_, _, _, rfl, rfl⟩
      · simp only [if_neg cw, show ((1 : Int32) = 0) = False from by decide, if_false]
        rw [q_ifp, if_neg (show ¬ (m 2 ≤ 100 ∧ ¬ 96 < m 0 + a1) from fun hh => cw hh.1)]
        exact ⟨_, _, _, rfl, rfl⟩
    · simp only [if_neg c2, if_true]; exact ⟨_, _, _, rfl, rfl⟩
  · simp only [if_neg c1, q_b1, if_true]; exact ⟨_, _, _, rfl, rfl⟩
theorem xy_orders {m rn td ru ru' sk sd hs lg tr wo sta dn : Nat → Int32} (h : k_Inv m) (hrn : ∀ h, h < 96 → kr (rn h) 0 1) (hse : ∀ i, i < 12 → sk i = m (73 + i) ∧ sd i = m (85 + i) ∧ hs i = m (97 + i) ∧ lg i = m (109 + i) ∧ tr i = m (121 + i) ∧ wo i = m (133 + i) ∧ sta i = m (145 + i) ∧ dn i = m (157 + i)) (hru : ru' 3 = ru 3) (hmen : kr (ru 3) 1 20) (ms : Int64) (p1 p2 p3 p4 : Int32) (se0 hr0 mb0 tried0 begins0 : Nat → Int32) (hands0 : Nat → Int64) (v1 v2 v3 v4 : Int32) (ct0 bg0 best0 : Nat → Int32) (a1 a2 : Int32) : ∃ r w v, p_X8_orders (m 0) (m 1) (m 2) (m 5) ms p1 p2 p3 p4 (m 12) sta se0 lg dn hr0 rn td sk sd mb0 hands0 hs ru' tr wo tried0 begins0 a1 a2 = some (r, w) ∧ p_X9_orders v1 v2 v3 v4 m ct0 bg0 rn td ru best0 a1 a2 = some (r, 0, v) := by
  obtain ⟨o, eo, -, ho, -⟩ := kr_nI (rg_ho h.1) (by decide) (by decide)
  obtain ⟨men, eme, -, hme, -⟩ := kr_nI hmen (by decide) (by decide)
  have hN := s_N_le m
  unfold p_X8_orders p_X9_orders
  rw [x_mayPlan, y_lost, q_within, q_in_1_6, q_within, show p_X9_in a2.toInt64 0 (a1 - 1).toInt64 = some (if 0 ≤ a2 ∧ a2 ≤ a1 - 1 then 1 else 0) from q_in a2 0 (a1 - 1)]
  by_cases c1 : 1 ≤ a1 ∧ a1 ≤ 6
  · simp only [if_pos c1, q_b1, show ((1 : Int32) = 0) = False from by decide, if_false]
    by_cases c2 : 0 ≤ a2 ∧ a2 ≤ a1 - 1
    · simp only [if_pos c2, show ((1 : Int32) = 0) = False from by decide, if_false]
      by_cases cw : m 2 ≤ 100
      · simp only [if_pos cw, if_true]
        by_cases c3 : 96 < m 0 + a1
        · rw [q_ifp, if_neg (show ¬ (m 2 ≤ 100 ∧ ¬ 96 < m 0 + a1) from fun hh => hh.2 c3), if_neg (show ¬ m 0 + a1 ≤ 96 from fun hh => by rw [Int32.le_iff_toInt_le] at hh; rw [Int32.lt_iff_toInt_lt] at c3; omega)]
          exact ⟨_, _, _, rfl, rfl⟩
        · rw [q_ifp, if_pos (show (m 2 ≤ 100 ∧ ¬ 96 < m 0 + a1) from ⟨cw, c3⟩), if_pos (show m 0 + a1 ≤ 96 from by rw [Int32.le_iff_toInt_le]; rw [Int32.lt_iff_toInt_lt] at c3; omega)]
          obtain ⟨n, en, hn0, hn6⟩ := q_1_6 c1
          obtain ⟨ct, bg, best, y1, y2, y3⟩ := y_findplan (td := td) (rn := rn) (ru := ru) h hrn eo (by omega) eme (by omega) hn0 hn6 v3 v4 ct0 bg0 best0
          obtain ⟨ms', se, hr, mb, hn, tried, begins, x1, x2, x3⟩ := x_make (td := td) (rn := rn) (ru := ru') (o := o) (men := men) h hrn hse (by omega) (by rw [hru, eme]) (by omega) hn0 hn6 se0 hr0 mb0 tried0 begins0 hands0
          obtain ⟨a, ea, ha⟩ : ∃ a, a2 = nI a ∧ a < 100 := by
            have g1 := c2.2
            have g0 := c2.1
            rw [en, show (1 : Int32) = nI 1 from rfl, pk_sub (by omega), Int32.le_iff_toInt_le, nI_toInt (by omega)] at g1
            rw [Int32.le_iff_toInt_le] at g0
            obtain ⟨t, et, -, ht, -⟩ := kr_nI (x := a2) (a := 0) (b := 5) ⟨g0, by omega⟩ (by decide) (by decide)
            exact ⟨t, et, by omega⟩
          rw [en, eo, x1, y1, q_b11, q_b7, ea, x_orders h (fun k hk => (x2 k hk).1) (fun k hk => (x2 k hk).2.1) hn0 hn6 ha x3, y_orders h y2 hn0 hn6 ha y3, q_b1, q_b1]
          exact ⟨_, _, _, rfl, rfl⟩
      · simp only [if_neg cw, show ((1 : Int32) = 0) = False from by decide, if_false]
        rw [q_ifp, if_neg (show ¬ (m 2 ≤ 100 ∧ ¬ 96 < m 0 + a1) from fun hh => cw hh.1)]
        exact ⟨_, _, _, rfl, rfl⟩
    · simp only [if_neg c2, if_true]; exact ⟨_, _, _, rfl, rfl⟩
  · simp only [if_neg c1, q_b1, if_true]; exact ⟨_, _, _, rfl, rfl⟩
theorem sim_plan : k_Sim_plan R_all := by
  intro S L M a1 a2 hR
  obtain ⟨hc, ht, ⟨hrn, hrn2⟩, hru, hs, hk0, hk1, hk2, hp⟩ := hR
  obtain ⟨⟨e0, e1, e2, e5, e3, e4, e6, e7, e8, e9, eo, ets, ew, eta, ess⟩, hth, hta, hse, hI⟩ := id hs
  have key : ∃ r w v, p_X8_plan (S 4 0) (S 5 0) (S 6 0) (S 7 0) (S 23 0) (L 0 0) (S 116 0) (S 117 0) (S 118 0) (S 119 0) (S 30) (S 120) (S 27) (S 31) (S 121) (S 2) (S 1) (S 24) (S 25) (S 122) (L 1) (S 26) (S 3) (S 28) (S 29) (S 123) (S 124) a1 a2 = some (r, w) ∧ p_X9_plan (M 2 0) (M 3 0) (M 4 0) (M 5 0) (M 9) (M 15) (M 16) (M 13) (M 12) (M 14) (M 17) a1 a2 = some (r, 0, v) := by
    rw [e0, e1, e2, e5, ess, hrn, show S 1 = M 12 from ht]
    exact xy_plan hI hrn2 hse hru.1.2.2.2.1 hru.2.2.2.2.1 _ _ _ _ _ _ _ _ _ _ _ _ _ _ _ _ _ _ a1 a2
  obtain ⟨r, w, v, g1, g2⟩ := key
  obtain ⟨w0, w1, w2, w3, w4, w5, w6, w7, w8, w9, w10⟩ := w
  obtain ⟨v1, v2, v3, v4, v5, v6, v7⟩ := v
  have eX : pX_plan S L a1 a2 = some (r, (k_su (k_su (k_su (k_su (k_su (k_su (k_su (k_su (k_su S 116 (fun _ => w1)) 117 (fun _ => w2)) 118 (fun _ => w3)) 119 (fun _ => w4)) 120 w5) 121 w6) 122 w7) 123 w9) 124 w10), (k_su (k_su L 0 (fun _ => w0)) 1 w8)) := by unfold pX_plan; rw [g1]; rfl
  have eM : pM_plan M a1 a2 = some (r, (k_su (k_su (k_su (k_su (k_su (k_su (k_su (k_su M 0 (fun _ => 0)) 2 (fun _ => v1)) 3 (fun _ => v2)) 4 (fun _ => v3)) 5 (fun _ => v4)) 15 v5) 16 v6) 17 v7)) := by unfold pM_plan; rw [g2]; rfl
  exact ⟨_, _, _, _, eX, eM, hc, ht, ⟨hrn, hrn2⟩, hru, hs, hk0, hk1, hk2, hp⟩
theorem sim_orders : k_Sim_orders R_all := by
  intro S L M a1 a2 hR
  obtain ⟨hc, ht, ⟨hrn, hrn2⟩, hru, hs, hk0, hk1, hk2, hp⟩ := hR
  obtain ⟨⟨e0, e1, e2, e5, e3, e4, e6, e7, e8, e9, eo, ets, ew, eta, ess⟩, hth, hta, hse, hI⟩ := id hs
  have key : ∃ r w v, p_X8_orders (S 4 0) (S 5 0) (S 6 0) (S 7 0) (L 0 0) (S 116 0) (S 117 0) (S 118 0) (S 119 0) (S 23 0) (S 30) (S 120) (S 27) (S 31) (S 121) (S 2) (S 1) (S 24) (S 25) (S 122) (L 1) (S 26) (S 3) (S 28) (S 29) (S 123) (S 124) a1 a2 = some (r, w) ∧ p_X9_orders (M 2 0) (M 3 0) (M 4 0) (M 5 0) (M 9) (M 15) (M 16) (M 13) (M 12) (M 14) (M 17) a1 a2 = some (r, 0, v) := by
    rw [e0, e1, e2, e5, ess, hrn, show S 1 = M 12 from ht]
    exact xy_orders hI hrn2 hse hru.1.2.2.2.1 hru.2.2.2.2.1 _ _ _ _ _ _ _ _ _ _ _ _ _ _ _ _ _ _ a1 a2
  obtain ⟨r, w, v, g1, g2⟩ := key
  obtain ⟨w0, w1, w2, w3, w4, w5, w6, w7, w8, w9, w10⟩ := w
  obtain ⟨v1, v2, v3, v4, v5, v6, v7⟩ := v
  have eX : pX_orders S L a1 a2 = some (r, (k_su (k_su (k_su (k_su (k_su (k_su (k_su (k_su (k_su S 116 (fun _ => w1)) 117 (fun _ => w2)) 118 (fun _ => w3)) 119 (fun _ => w4)) 120 w5) 121 w6) 122 w7) 123 w9) 124 w10), (k_su (k_su L 0 (fun _ => w0)) 1 w8)) := by unfold pX_orders; rw [g1]; rfl
  have eM : pM_orders M a1 a2 = some (r, (k_su (k_su (k_su (k_su (k_su (k_su (k_su (k_su M 0 (fun _ => 0)) 2 (fun _ => v1)) 3 (fun _ => v2)) 4 (fun _ => v3)) 5 (fun _ => v4)) 15 v5) 16 v6) 17 v7)) := by unfold pM_orders; rw [g2]; rfl
  exact ⟨_, _, _, _, eX, eM, hc, ht, ⟨hrn, hrn2⟩, hru, hs, hk0, hk1, hk2, hp⟩
end
