/-! ===== pure words: a method's answer as an Option (none: an index out of its row, a loop that has not come to its end) ===== -/
def k_ix {α : Type} (i : Int32) (n : Nat) (k : Option α) : Option α := if i < 0 ∨ n ≤ i.toNatClampNeg then none else k
theorem k_ix_some {α : Type} {i : Int32} {n : Nat} {k : Option α} {y : α} (h : k_ix i n k = some y) : vp_in i n ∧ k = some y := by
  unfold k_ix at h
  by_cases c : i < 0 ∨ n ≤ i.toNatClampNeg
  · rw [if_pos c] at h; cases h
  · rw [if_neg c] at h; exact ⟨c, h⟩
def k_ck {α : Type} (c : Prop) [Decidable c] (k : Option α) : Option α := if c then k else none
theorem k_ck_some {α : Type} {c : Prop} [Decidable c] {k : Option α} {y : α} (h : k_ck c k = some y) : c ∧ k = some y := by
  unfold k_ck at h
  by_cases hc : c
  · rw [if_pos hc] at h; exact ⟨hc, h⟩
  · rw [if_neg hc] at h; cases h
theorem k_pos {α : Type} {c : Prop} [Decidable c] {a b y : α} (h : (if c then a else b) = y) (hc : c) : a = y := by rw [if_pos hc] at h; exact h
theorem k_neg {α : Type} {c : Prop} [Decidable c] {a b y : α} (h : (if c then a else b) = y) (hc : ¬ c) : b = y := by rw [if_neg hc] at h; exact h
def k_lp {σ ε : Type} (body : σ → Option (σ ⊕ ε)) : Nat → σ → Option ε
  | 0, _ => none
  | n + 1, s => match body s with
    | none => none
    | some (.inl s') => k_lp body n s'
    | some (.inr e) => some e
theorem k_lp_ind {σ ε : Type} {body : σ → Option (σ ⊕ ε)} {e : ε} (Wf : σ → Prop) (step : ∀ s X, body s = some X → (∀ s', X = .inl s' → Wf s') → (∀ e', X = .inr e' → e' = e) → Wf s) : ∀ (n : Nat) (s : σ), k_lp body n s = some e → Wf s := by
  intro n
  induction n with
  | zero => intro s h; cases h
  | succ n ih =>
    intro s h
    unfold k_lp at h
    cases hb : body s with
    | none => rw [hb] at h; cases h
    | some X =>
      rw [hb] at h
      refine step s X hb (fun s' hs => ?_) (fun e' he => ?_)
      · subst hs; exact ih s' h
      · subst he; exact Option.some.inj h
def k_fuel : Nat := 100000

def k_b0 {α : Type} (x : Option Unit) (f : Option α) : Option α := match x with | none => none | some _ => f
theorem k_b0_some {α : Type} {x : Option Unit} {f : Option α} {y : α} (h : k_b0 x f = some y) : x = some () ∧ f = some y := by
  unfold k_b0 at h; cases x with
  | none => cases h
  | some u => exact ⟨rfl, h⟩
def k_b1 {T0 α : Type} (x : Option (T0)) (f : T0 → Option α) : Option α := match x with | none => none | some (v0) => f v0
theorem k_b1_some {T0 α : Type} {x : Option (T0)} {f : T0 → Option α} {y : α} (h : k_b1 x f = some y) : ∃ (v0 : T0), x = some (v0) ∧ f v0 = some y := by
  unfold k_b1 at h; cases x with
  | none => cases h
  | some u => exact ⟨u, rfl, h⟩
def k_b2 {T0 T1 α : Type} (x : Option (T0 × T1)) (f : T0 → T1 → Option α) : Option α := match x with | none => none | some (v0, v1) => f v0 v1
theorem k_b2_some {T0 T1 α : Type} {x : Option (T0 × T1)} {f : T0 → T1 → Option α} {y : α} (h : k_b2 x f = some y) : ∃ (v0 : T0) (v1 : T1), x = some (v0, v1) ∧ f v0 v1 = some y := by
  unfold k_b2 at h; cases x with
  | none => cases h
  | some u => obtain ⟨v0, v1⟩ := u; exact ⟨v0, v1, rfl, h⟩
def k_b3 {T0 T1 T2 α : Type} (x : Option (T0 × T1 × T2)) (f : T0 → T1 → T2 → Option α) : Option α := match x with | none => none | some (v0, v1, v2) => f v0 v1 v2
theorem k_b3_some {T0 T1 T2 α : Type} {x : Option (T0 × T1 × T2)} {f : T0 → T1 → T2 → Option α} {y : α} (h : k_b3 x f = some y) : ∃ (v0 : T0) (v1 : T1) (v2 : T2), x = some (v0, v1, v2) ∧ f v0 v1 v2 = some y := by
  unfold k_b3 at h; cases x with
  | none => cases h
  | some u => obtain ⟨v0, v1, v2⟩ := u; exact ⟨v0, v1, v2, rfl, h⟩
def k_b4 {T0 T1 T2 T3 α : Type} (x : Option (T0 × T1 × T2 × T3)) (f : T0 → T1 → T2 → T3 → Option α) : Option α := match x with | none => none | some (v0, v1, v2, v3) => f v0 v1 v2 v3
theorem k_b4_some {T0 T1 T2 T3 α : Type} {x : Option (T0 × T1 × T2 × T3)} {f : T0 → T1 → T2 → T3 → Option α} {y : α} (h : k_b4 x f = some y) : ∃ (v0 : T0) (v1 : T1) (v2 : T2) (v3 : T3), x = some (v0, v1, v2, v3) ∧ f v0 v1 v2 v3 = some y := by
  unfold k_b4 at h; cases x with
  | none => cases h
  | some u => obtain ⟨v0, v1, v2, v3⟩ := u; exact ⟨v0, v1, v2, v3, rfl, h⟩
def k_b5 {T0 T1 T2 T3 T4 α : Type} (x : Option (T0 × T1 × T2 × T3 × T4)) (f : T0 → T1 → T2 → T3 → T4 → Option α) : Option α := match x with | none => none | some (v0, v1, v2, v3, v4) => f v0 v1 v2 v3 v4
theorem k_b5_some {T0 T1 T2 T3 T4 α : Type} {x : Option (T0 × T1 × T2 × T3 × T4)} {f : T0 → T1 → T2 → T3 → T4 → Option α} {y : α} (h : k_b5 x f = some y) : ∃ (v0 : T0) (v1 : T1) (v2 : T2) (v3 : T3) (v4 : T4), x = some (v0, v1, v2, v3, v4) ∧ f v0 v1 v2 v3 v4 = some y := by
  unfold k_b5 at h; cases x with
  | none => cases h
  | some u => obtain ⟨v0, v1, v2, v3, v4⟩ := u; exact ⟨v0, v1, v2, v3, v4, rfl, h⟩
def k_b6 {T0 T1 T2 T3 T4 T5 α : Type} (x : Option (T0 × T1 × T2 × T3 × T4 × T5)) (f : T0 → T1 → T2 → T3 → T4 → T5 → Option α) : Option α := match x with | none => none | some (v0, v1, v2, v3, v4, v5) => f v0 v1 v2 v3 v4 v5
theorem k_b6_some {T0 T1 T2 T3 T4 T5 α : Type} {x : Option (T0 × T1 × T2 × T3 × T4 × T5)} {f : T0 → T1 → T2 → T3 → T4 → T5 → Option α} {y : α} (h : k_b6 x f = some y) : ∃ (v0 : T0) (v1 : T1) (v2 : T2) (v3 : T3) (v4 : T4) (v5 : T5), x = some (v0, v1, v2, v3, v4, v5) ∧ f v0 v1 v2 v3 v4 v5 = some y := by
  unfold k_b6 at h; cases x with
  | none => cases h
  | some u => obtain ⟨v0, v1, v2, v3, v4, v5⟩ := u; exact ⟨v0, v1, v2, v3, v4, v5, rfl, h⟩
def k_b7 {T0 T1 T2 T3 T4 T5 T6 α : Type} (x : Option (T0 × T1 × T2 × T3 × T4 × T5 × T6)) (f : T0 → T1 → T2 → T3 → T4 → T5 → T6 → Option α) : Option α := match x with | none => none | some (v0, v1, v2, v3, v4, v5, v6) => f v0 v1 v2 v3 v4 v5 v6
theorem k_b7_some {T0 T1 T2 T3 T4 T5 T6 α : Type} {x : Option (T0 × T1 × T2 × T3 × T4 × T5 × T6)} {f : T0 → T1 → T2 → T3 → T4 → T5 → T6 → Option α} {y : α} (h : k_b7 x f = some y) : ∃ (v0 : T0) (v1 : T1) (v2 : T2) (v3 : T3) (v4 : T4) (v5 : T5) (v6 : T6), x = some (v0, v1, v2, v3, v4, v5, v6) ∧ f v0 v1 v2 v3 v4 v5 v6 = some y := by
  unfold k_b7 at h; cases x with
  | none => cases h
  | some u => obtain ⟨v0, v1, v2, v3, v4, v5, v6⟩ := u; exact ⟨v0, v1, v2, v3, v4, v5, v6, rfl, h⟩
def k_b8 {T0 T1 T2 T3 T4 T5 T6 T7 α : Type} (x : Option (T0 × T1 × T2 × T3 × T4 × T5 × T6 × T7)) (f : T0 → T1 → T2 → T3 → T4 → T5 → T6 → T7 → Option α) : Option α := match x with | none => none | some (v0, v1, v2, v3, v4, v5, v6, v7) => f v0 v1 v2 v3 v4 v5 v6 v7
theorem k_b8_some {T0 T1 T2 T3 T4 T5 T6 T7 α : Type} {x : Option (T0 × T1 × T2 × T3 × T4 × T5 × T6 × T7)} {f : T0 → T1 → T2 → T3 → T4 → T5 → T6 → T7 → Option α} {y : α} (h : k_b8 x f = some y) : ∃ (v0 : T0) (v1 : T1) (v2 : T2) (v3 : T3) (v4 : T4) (v5 : T5) (v6 : T6) (v7 : T7), x = some (v0, v1, v2, v3, v4, v5, v6, v7) ∧ f v0 v1 v2 v3 v4 v5 v6 v7 = some y := by
  unfold k_b8 at h; cases x with
  | none => cases h
  | some u => obtain ⟨v0, v1, v2, v3, v4, v5, v6, v7⟩ := u; exact ⟨v0, v1, v2, v3, v4, v5, v6, v7, rfl, h⟩
def k_b9 {T0 T1 T2 T3 T4 T5 T6 T7 T8 α : Type} (x : Option (T0 × T1 × T2 × T3 × T4 × T5 × T6 × T7 × T8)) (f : T0 → T1 → T2 → T3 → T4 → T5 → T6 → T7 → T8 → Option α) : Option α := match x with | none => none | some (v0, v1, v2, v3, v4, v5, v6, v7, v8) => f v0 v1 v2 v3 v4 v5 v6 v7 v8
theorem k_b9_some {T0 T1 T2 T3 T4 T5 T6 T7 T8 α : Type} {x : Option (T0 × T1 × T2 × T3 × T4 × T5 × T6 × T7 × T8)} {f : T0 → T1 → T2 → T3 → T4 → T5 → T6 → T7 → T8 → Option α} {y : α} (h : k_b9 x f = some y) : ∃ (v0 : T0) (v1 : T1) (v2 : T2) (v3 : T3) (v4 : T4) (v5 : T5) (v6 : T6) (v7 : T7) (v8 : T8), x = some (v0, v1, v2, v3, v4, v5, v6, v7, v8) ∧ f v0 v1 v2 v3 v4 v5 v6 v7 v8 = some y := by
  unfold k_b9 at h; cases x with
  | none => cases h
  | some u => obtain ⟨v0, v1, v2, v3, v4, v5, v6, v7, v8⟩ := u; exact ⟨v0, v1, v2, v3, v4, v5, v6, v7, v8, rfl, h⟩
def k_b10 {T0 T1 T2 T3 T4 T5 T6 T7 T8 T9 α : Type} (x : Option (T0 × T1 × T2 × T3 × T4 × T5 × T6 × T7 × T8 × T9)) (f : T0 → T1 → T2 → T3 → T4 → T5 → T6 → T7 → T8 → T9 → Option α) : Option α := match x with | none => none | some (v0, v1, v2, v3, v4, v5, v6, v7, v8, v9) => f v0 v1 v2 v3 v4 v5 v6 v7 v8 v9
theorem k_b10_some {T0 T1 T2 T3 T4 T5 T6 T7 T8 T9 α : Type} {x : Option (T0 × T1 × T2 × T3 × T4 × T5 × T6 × T7 × T8 × T9)} {f : T0 → T1 → T2 → T3 → T4 → T5 → T6 → T7 → T8 → T9 → Option α} {y : α} (h : k_b10 x f = some y) : ∃ (v0 : T0) (v1 : T1) (v2 : T2) (v3 : T3) (v4 : T4) (v5 : T5) (v6 : T6) (v7 : T7) (v8 : T8) (v9 : T9), x = some (v0, v1, v2, v3, v4, v5, v6, v7, v8, v9) ∧ f v0 v1 v2 v3 v4 v5 v6 v7 v8 v9 = some y := by
  unfold k_b10 at h; cases x with
  | none => cases h
  | some u => obtain ⟨v0, v1, v2, v3, v4, v5, v6, v7, v8, v9⟩ := u; exact ⟨v0, v1, v2, v3, v4, v5, v6, v7, v8, v9, rfl, h⟩
def k_b11 {T0 T1 T2 T3 T4 T5 T6 T7 T8 T9 T10 α : Type} (x : Option (T0 × T1 × T2 × T3 × T4 × T5 × T6 × T7 × T8 × T9 × T10)) (f : T0 → T1 → T2 → T3 → T4 → T5 → T6 → T7 → T8 → T9 → T10 → Option α) : Option α := match x with | none => none | some (v0, v1, v2, v3, v4, v5, v6, v7, v8, v9, v10) => f v0 v1 v2 v3 v4 v5 v6 v7 v8 v9 v10
theorem k_b11_some {T0 T1 T2 T3 T4 T5 T6 T7 T8 T9 T10 α : Type} {x : Option (T0 × T1 × T2 × T3 × T4 × T5 × T6 × T7 × T8 × T9 × T10)} {f : T0 → T1 → T2 → T3 → T4 → T5 → T6 → T7 → T8 → T9 → T10 → Option α} {y : α} (h : k_b11 x f = some y) : ∃ (v0 : T0) (v1 : T1) (v2 : T2) (v3 : T3) (v4 : T4) (v5 : T5) (v6 : T6) (v7 : T7) (v8 : T8) (v9 : T9) (v10 : T10), x = some (v0, v1, v2, v3, v4, v5, v6, v7, v8, v9, v10) ∧ f v0 v1 v2 v3 v4 v5 v6 v7 v8 v9 v10 = some y := by
  unfold k_b11 at h; cases x with
  | none => cases h
  | some u => obtain ⟨v0, v1, v2, v3, v4, v5, v6, v7, v8, v9, v10⟩ := u; exact ⟨v0, v1, v2, v3, v4, v5, v6, v7, v8, v9, v10, rfl, h⟩
def k_b12 {T0 T1 T2 T3 T4 T5 T6 T7 T8 T9 T10 T11 α : Type} (x : Option (T0 × T1 × T2 × T3 × T4 × T5 × T6 × T7 × T8 × T9 × T10 × T11)) (f : T0 → T1 → T2 → T3 → T4 → T5 → T6 → T7 → T8 → T9 → T10 → T11 → Option α) : Option α := match x with | none => none | some (v0, v1, v2, v3, v4, v5, v6, v7, v8, v9, v10, v11) => f v0 v1 v2 v3 v4 v5 v6 v7 v8 v9 v10 v11
theorem k_b12_some {T0 T1 T2 T3 T4 T5 T6 T7 T8 T9 T10 T11 α : Type} {x : Option (T0 × T1 × T2 × T3 × T4 × T5 × T6 × T7 × T8 × T9 × T10 × T11)} {f : T0 → T1 → T2 → T3 → T4 → T5 → T6 → T7 → T8 → T9 → T10 → T11 → Option α} {y : α} (h : k_b12 x f = some y) : ∃ (v0 : T0) (v1 : T1) (v2 : T2) (v3 : T3) (v4 : T4) (v5 : T5) (v6 : T6) (v7 : T7) (v8 : T8) (v9 : T9) (v10 : T10) (v11 : T11), x = some (v0, v1, v2, v3, v4, v5, v6, v7, v8, v9, v10, v11) ∧ f v0 v1 v2 v3 v4 v5 v6 v7 v8 v9 v10 v11 = some y := by
  unfold k_b12 at h; cases x with
  | none => cases h
  | some u => obtain ⟨v0, v1, v2, v3, v4, v5, v6, v7, v8, v9, v10, v11⟩ := u; exact ⟨v0, v1, v2, v3, v4, v5, v6, v7, v8, v9, v10, v11, rfl, h⟩
def k_b13 {T0 T1 T2 T3 T4 T5 T6 T7 T8 T9 T10 T11 T12 α : Type} (x : Option (T0 × T1 × T2 × T3 × T4 × T5 × T6 × T7 × T8 × T9 × T10 × T11 × T12)) (f : T0 → T1 → T2 → T3 → T4 → T5 → T6 → T7 → T8 → T9 → T10 → T11 → T12 → Option α) : Option α := match x with | none => none | some (v0, v1, v2, v3, v4, v5, v6, v7, v8, v9, v10, v11, v12) => f v0 v1 v2 v3 v4 v5 v6 v7 v8 v9 v10 v11 v12
theorem k_b13_some {T0 T1 T2 T3 T4 T5 T6 T7 T8 T9 T10 T11 T12 α : Type} {x : Option (T0 × T1 × T2 × T3 × T4 × T5 × T6 × T7 × T8 × T9 × T10 × T11 × T12)} {f : T0 → T1 → T2 → T3 → T4 → T5 → T6 → T7 → T8 → T9 → T10 → T11 → T12 → Option α} {y : α} (h : k_b13 x f = some y) : ∃ (v0 : T0) (v1 : T1) (v2 : T2) (v3 : T3) (v4 : T4) (v5 : T5) (v6 : T6) (v7 : T7) (v8 : T8) (v9 : T9) (v10 : T10) (v11 : T11) (v12 : T12), x = some (v0, v1, v2, v3, v4, v5, v6, v7, v8, v9, v10, v11, v12) ∧ f v0 v1 v2 v3 v4 v5 v6 v7 v8 v9 v10 v11 v12 = some y := by
  unfold k_b13 at h; cases x with
  | none => cases h
  | some u => obtain ⟨v0, v1, v2, v3, v4, v5, v6, v7, v8, v9, v10, v11, v12⟩ := u; exact ⟨v0, v1, v2, v3, v4, v5, v6, v7, v8, v9, v10, v11, v12, rfl, h⟩
def k_b14 {T0 T1 T2 T3 T4 T5 T6 T7 T8 T9 T10 T11 T12 T13 α : Type} (x : Option (T0 × T1 × T2 × T3 × T4 × T5 × T6 × T7 × T8 × T9 × T10 × T11 × T12 × T13)) (f : T0 → T1 → T2 → T3 → T4 → T5 → T6 → T7 → T8 → T9 → T10 → T11 → T12 → T13 → Option α) : Option α := match x with | none => none | some (v0, v1, v2, v3, v4, v5, v6, v7, v8, v9, v10, v11, v12, v13) => f v0 v1 v2 v3 v4 v5 v6 v7 v8 v9 v10 v11 v12 v13
theorem k_b14_some {T0 T1 T2 T3 T4 T5 T6 T7 T8 T9 T10 T11 T12 T13 α : Type} {x : Option (T0 × T1 × T2 × T3 × T4 × T5 × T6 × T7 × T8 × T9 × T10 × T11 × T12 × T13)} {f : T0 → T1 → T2 → T3 → T4 → T5 → T6 → T7 → T8 → T9 → T10 → T11 → T12 → T13 → Option α} {y : α} (h : k_b14 x f = some y) : ∃ (v0 : T0) (v1 : T1) (v2 : T2) (v3 : T3) (v4 : T4) (v5 : T5) (v6 : T6) (v7 : T7) (v8 : T8) (v9 : T9) (v10 : T10) (v11 : T11) (v12 : T12) (v13 : T13), x = some (v0, v1, v2, v3, v4, v5, v6, v7, v8, v9, v10, v11, v12, v13) ∧ f v0 v1 v2 v3 v4 v5 v6 v7 v8 v9 v10 v11 v12 v13 = some y := by
  unfold k_b14 at h; cases x with
  | none => cases h
  | some u => obtain ⟨v0, v1, v2, v3, v4, v5, v6, v7, v8, v9, v10, v11, v12, v13⟩ := u; exact ⟨v0, v1, v2, v3, v4, v5, v6, v7, v8, v9, v10, v11, v12, v13, rfl, h⟩
def k_b15 {T0 T1 T2 T3 T4 T5 T6 T7 T8 T9 T10 T11 T12 T13 T14 α : Type} (x : Option (T0 × T1 × T2 × T3 × T4 × T5 × T6 × T7 × T8 × T9 × T10 × T11 × T12 × T13 × T14)) (f : T0 → T1 → T2 → T3 → T4 → T5 → T6 → T7 → T8 → T9 → T10 → T11 → T12 → T13 → T14 → Option α) : Option α := match x with | none => none | some (v0, v1, v2, v3, v4, v5, v6, v7, v8, v9, v10, v11, v12, v13, v14) => f v0 v1 v2 v3 v4 v5 v6 v7 v8 v9 v10 v11 v12 v13 v14
theorem k_b15_some {T0 T1 T2 T3 T4 T5 T6 T7 T8 T9 T10 T11 T12 T13 T14 α : Type} {x : Option (T0 × T1 × T2 × T3 × T4 × T5 × T6 × T7 × T8 × T9 × T10 × T11 × T12 × T13 × T14)} {f : T0 → T1 → T2 → T3 → T4 → T5 → T6 → T7 → T8 → T9 → T10 → T11 → T12 → T13 → T14 → Option α} {y : α} (h : k_b15 x f = some y) : ∃ (v0 : T0) (v1 : T1) (v2 : T2) (v3 : T3) (v4 : T4) (v5 : T5) (v6 : T6) (v7 : T7) (v8 : T8) (v9 : T9) (v10 : T10) (v11 : T11) (v12 : T12) (v13 : T13) (v14 : T14), x = some (v0, v1, v2, v3, v4, v5, v6, v7, v8, v9, v10, v11, v12, v13, v14) ∧ f v0 v1 v2 v3 v4 v5 v6 v7 v8 v9 v10 v11 v12 v13 v14 = some y := by
  unfold k_b15 at h; cases x with
  | none => cases h
  | some u => obtain ⟨v0, v1, v2, v3, v4, v5, v6, v7, v8, v9, v10, v11, v12, v13, v14⟩ := u; exact ⟨v0, v1, v2, v3, v4, v5, v6, v7, v8, v9, v10, v11, v12, v13, v14, rfl, h⟩
def k_b16 {T0 T1 T2 T3 T4 T5 T6 T7 T8 T9 T10 T11 T12 T13 T14 T15 α : Type} (x : Option (T0 × T1 × T2 × T3 × T4 × T5 × T6 × T7 × T8 × T9 × T10 × T11 × T12 × T13 × T14 × T15)) (f : T0 → T1 → T2 → T3 → T4 → T5 → T6 → T7 → T8 → T9 → T10 → T11 → T12 → T13 → T14 → T15 → Option α) : Option α := match x with | none => none | some (v0, v1, v2, v3, v4, v5, v6, v7, v8, v9, v10, v11, v12, v13, v14, v15) => f v0 v1 v2 v3 v4 v5 v6 v7 v8 v9 v10 v11 v12 v13 v14 v15
theorem k_b16_some {T0 T1 T2 T3 T4 T5 T6 T7 T8 T9 T10 T11 T12 T13 T14 T15 α : Type} {x : Option (T0 × T1 × T2 × T3 × T4 × T5 × T6 × T7 × T8 × T9 × T10 × T11 × T12 × T13 × T14 × T15)} {f : T0 → T1 → T2 → T3 → T4 → T5 → T6 → T7 → T8 → T9 → T10 → T11 → T12 → T13 → T14 → T15 → Option α} {y : α} (h : k_b16 x f = some y) : ∃ (v0 : T0) (v1 : T1) (v2 : T2) (v3 : T3) (v4 : T4) (v5 : T5) (v6 : T6) (v7 : T7) (v8 : T8) (v9 : T9) (v10 : T10) (v11 : T11) (v12 : T12) (v13 : T13) (v14 : T14) (v15 : T15), x = some (v0, v1, v2, v3, v4, v5, v6, v7, v8, v9, v10, v11, v12, v13, v14, v15) ∧ f v0 v1 v2 v3 v4 v5 v6 v7 v8 v9 v10 v11 v12 v13 v14 v15 = some y := by
  unfold k_b16 at h; cases x with
  | none => cases h
  | some u => obtain ⟨v0, v1, v2, v3, v4, v5, v6, v7, v8, v9, v10, v11, v12, v13, v14, v15⟩ := u; exact ⟨v0, v1, v2, v3, v4, v5, v6, v7, v8, v9, v10, v11, v12, v13, v14, v15, rfl, h⟩
def k_b17 {T0 T1 T2 T3 T4 T5 T6 T7 T8 T9 T10 T11 T12 T13 T14 T15 T16 α : Type} (x : Option (T0 × T1 × T2 × T3 × T4 × T5 × T6 × T7 × T8 × T9 × T10 × T11 × T12 × T13 × T14 × T15 × T16)) (f : T0 → T1 → T2 → T3 → T4 → T5 → T6 → T7 → T8 → T9 → T10 → T11 → T12 → T13 → T14 → T15 → T16 → Option α) : Option α := match x with | none => none | some (v0, v1, v2, v3, v4, v5, v6, v7, v8, v9, v10, v11, v12, v13, v14, v15, v16) => f v0 v1 v2 v3 v4 v5 v6 v7 v8 v9 v10 v11 v12 v13 v14 v15 v16
theorem k_b17_some {T0 T1 T2 T3 T4 T5 T6 T7 T8 T9 T10 T11 T12 T13 T14 T15 T16 α : Type} {x : Option (T0 × T1 × T2 × T3 × T4 × T5 × T6 × T7 × T8 × T9 × T10 × T11 × T12 × T13 × T14 × T15 × T16)} {f : T0 → T1 → T2 → T3 → T4 → T5 → T6 → T7 → T8 → T9 → T10 → T11 → T12 → T13 → T14 → T15 → T16 → Option α} {y : α} (h : k_b17 x f = some y) : ∃ (v0 : T0) (v1 : T1) (v2 : T2) (v3 : T3) (v4 : T4) (v5 : T5) (v6 : T6) (v7 : T7) (v8 : T8) (v9 : T9) (v10 : T10) (v11 : T11) (v12 : T12) (v13 : T13) (v14 : T14) (v15 : T15) (v16 : T16), x = some (v0, v1, v2, v3, v4, v5, v6, v7, v8, v9, v10, v11, v12, v13, v14, v15, v16) ∧ f v0 v1 v2 v3 v4 v5 v6 v7 v8 v9 v10 v11 v12 v13 v14 v15 v16 = some y := by
  unfold k_b17 at h; cases x with
  | none => cases h
  | some u => obtain ⟨v0, v1, v2, v3, v4, v5, v6, v7, v8, v9, v10, v11, v12, v13, v14, v15, v16⟩ := u; exact ⟨v0, v1, v2, v3, v4, v5, v6, v7, v8, v9, v10, v11, v12, v13, v14, v15, v16, rfl, h⟩
def k_b18 {T0 T1 T2 T3 T4 T5 T6 T7 T8 T9 T10 T11 T12 T13 T14 T15 T16 T17 α : Type} (x : Option (T0 × T1 × T2 × T3 × T4 × T5 × T6 × T7 × T8 × T9 × T10 × T11 × T12 × T13 × T14 × T15 × T16 × T17)) (f : T0 → T1 → T2 → T3 → T4 → T5 → T6 → T7 → T8 → T9 → T10 → T11 → T12 → T13 → T14 → T15 → T16 → T17 → Option α) : Option α := match x with | none => none | some (v0, v1, v2, v3, v4, v5, v6, v7, v8, v9, v10, v11, v12, v13, v14, v15, v16, v17) => f v0 v1 v2 v3 v4 v5 v6 v7 v8 v9 v10 v11 v12 v13 v14 v15 v16 v17
theorem k_b18_some {T0 T1 T2 T3 T4 T5 T6 T7 T8 T9 T10 T11 T12 T13 T14 T15 T16 T17 α : Type} {x : Option (T0 × T1 × T2 × T3 × T4 × T5 × T6 × T7 × T8 × T9 × T10 × T11 × T12 × T13 × T14 × T15 × T16 × T17)} {f : T0 → T1 → T2 → T3 → T4 → T5 → T6 → T7 → T8 → T9 → T10 → T11 → T12 → T13 → T14 → T15 → T16 → T17 → Option α} {y : α} (h : k_b18 x f = some y) : ∃ (v0 : T0) (v1 : T1) (v2 : T2) (v3 : T3) (v4 : T4) (v5 : T5) (v6 : T6) (v7 : T7) (v8 : T8) (v9 : T9) (v10 : T10) (v11 : T11) (v12 : T12) (v13 : T13) (v14 : T14) (v15 : T15) (v16 : T16) (v17 : T17), x = some (v0, v1, v2, v3, v4, v5, v6, v7, v8, v9, v10, v11, v12, v13, v14, v15, v16, v17) ∧ f v0 v1 v2 v3 v4 v5 v6 v7 v8 v9 v10 v11 v12 v13 v14 v15 v16 v17 = some y := by
  unfold k_b18 at h; cases x with
  | none => cases h
  | some u => obtain ⟨v0, v1, v2, v3, v4, v5, v6, v7, v8, v9, v10, v11, v12, v13, v14, v15, v16, v17⟩ := u; exact ⟨v0, v1, v2, v3, v4, v5, v6, v7, v8, v9, v10, v11, v12, v13, v14, v15, v16, v17, rfl, h⟩
def k_b19 {T0 T1 T2 T3 T4 T5 T6 T7 T8 T9 T10 T11 T12 T13 T14 T15 T16 T17 T18 α : Type} (x : Option (T0 × T1 × T2 × T3 × T4 × T5 × T6 × T7 × T8 × T9 × T10 × T11 × T12 × T13 × T14 × T15 × T16 × T17 × T18)) (f : T0 → T1 → T2 → T3 → T4 → T5 → T6 → T7 → T8 → T9 → T10 → T11 → T12 → T13 → T14 → T15 → T16 → T17 → T18 → Option α) : Option α := match x with | none => none | some (v0, v1, v2, v3, v4, v5, v6, v7, v8, v9, v10, v11, v12, v13, v14, v15, v16, v17, v18) => f v0 v1 v2 v3 v4 v5 v6 v7 v8 v9 v10 v11 v12 v13 v14 v15 v16 v17 v18
theorem k_b19_some {T0 T1 T2 T3 T4 T5 T6 T7 T8 T9 T10 T11 T12 T13 T14 T15 T16 T17 T18 α : Type} {x : Option (T0 × T1 × T2 × T3 × T4 × T5 × T6 × T7 × T8 × T9 × T10 × T11 × T12 × T13 × T14 × T15 × T16 × T17 × T18)} {f : T0 → T1 → T2 → T3 → T4 → T5 → T6 → T7 → T8 → T9 → T10 → T11 → T12 → T13 → T14 → T15 → T16 → T17 → T18 → Option α} {y : α} (h : k_b19 x f = some y) : ∃ (v0 : T0) (v1 : T1) (v2 : T2) (v3 : T3) (v4 : T4) (v5 : T5) (v6 : T6) (v7 : T7) (v8 : T8) (v9 : T9) (v10 : T10) (v11 : T11) (v12 : T12) (v13 : T13) (v14 : T14) (v15 : T15) (v16 : T16) (v17 : T17) (v18 : T18), x = some (v0, v1, v2, v3, v4, v5, v6, v7, v8, v9, v10, v11, v12, v13, v14, v15, v16, v17, v18) ∧ f v0 v1 v2 v3 v4 v5 v6 v7 v8 v9 v10 v11 v12 v13 v14 v15 v16 v17 v18 = some y := by
  unfold k_b19 at h; cases x with
  | none => cases h
  | some u => obtain ⟨v0, v1, v2, v3, v4, v5, v6, v7, v8, v9, v10, v11, v12, v13, v14, v15, v16, v17, v18⟩ := u; exact ⟨v0, v1, v2, v3, v4, v5, v6, v7, v8, v9, v10, v11, v12, v13, v14, v15, v16, v17, v18, rfl, h⟩
def k_b20 {T0 T1 T2 T3 T4 T5 T6 T7 T8 T9 T10 T11 T12 T13 T14 T15 T16 T17 T18 T19 α : Type} (x : Option (T0 × T1 × T2 × T3 × T4 × T5 × T6 × T7 × T8 × T9 × T10 × T11 × T12 × T13 × T14 × T15 × T16 × T17 × T18 × T19)) (f : T0 → T1 → T2 → T3 → T4 → T5 → T6 → T7 → T8 → T9 → T10 → T11 → T12 → T13 → T14 → T15 → T16 → T17 → T18 → T19 → Option α) : Option α := match x with | none => none | some (v0, v1, v2, v3, v4, v5, v6, v7, v8, v9, v10, v11, v12, v13, v14, v15, v16, v17, v18, v19) => f v0 v1 v2 v3 v4 v5 v6 v7 v8 v9 v10 v11 v12 v13 v14 v15 v16 v17 v18 v19
theorem k_b20_some {T0 T1 T2 T3 T4 T5 T6 T7 T8 T9 T10 T11 T12 T13 T14 T15 T16 T17 T18 T19 α : Type} {x : Option (T0 × T1 × T2 × T3 × T4 × T5 × T6 × T7 × T8 × T9 × T10 × T11 × T12 × T13 × T14 × T15 × T16 × T17 × T18 × T19)} {f : T0 → T1 → T2 → T3 → T4 → T5 → T6 → T7 → T8 → T9 → T10 → T11 → T12 → T13 → T14 → T15 → T16 → T17 → T18 → T19 → Option α} {y : α} (h : k_b20 x f = some y) : ∃ (v0 : T0) (v1 : T1) (v2 : T2) (v3 : T3) (v4 : T4) (v5 : T5) (v6 : T6) (v7 : T7) (v8 : T8) (v9 : T9) (v10 : T10) (v11 : T11) (v12 : T12) (v13 : T13) (v14 : T14) (v15 : T15) (v16 : T16) (v17 : T17) (v18 : T18) (v19 : T19), x = some (v0, v1, v2, v3, v4, v5, v6, v7, v8, v9, v10, v11, v12, v13, v14, v15, v16, v17, v18, v19) ∧ f v0 v1 v2 v3 v4 v5 v6 v7 v8 v9 v10 v11 v12 v13 v14 v15 v16 v17 v18 v19 = some y := by
  unfold k_b20 at h; cases x with
  | none => cases h
  | some u => obtain ⟨v0, v1, v2, v3, v4, v5, v6, v7, v8, v9, v10, v11, v12, v13, v14, v15, v16, v17, v18, v19⟩ := u; exact ⟨v0, v1, v2, v3, v4, v5, v6, v7, v8, v9, v10, v11, v12, v13, v14, v15, v16, v17, v18, v19, rfl, h⟩
def k_b21 {T0 T1 T2 T3 T4 T5 T6 T7 T8 T9 T10 T11 T12 T13 T14 T15 T16 T17 T18 T19 T20 α : Type} (x : Option (T0 × T1 × T2 × T3 × T4 × T5 × T6 × T7 × T8 × T9 × T10 × T11 × T12 × T13 × T14 × T15 × T16 × T17 × T18 × T19 × T20)) (f : T0 → T1 → T2 → T3 → T4 → T5 → T6 → T7 → T8 → T9 → T10 → T11 → T12 → T13 → T14 → T15 → T16 → T17 → T18 → T19 → T20 → Option α) : Option α := match x with | none => none | some (v0, v1, v2, v3, v4, v5, v6, v7, v8, v9, v10, v11, v12, v13, v14, v15, v16, v17, v18, v19, v20) => f v0 v1 v2 v3 v4 v5 v6 v7 v8 v9 v10 v11 v12 v13 v14 v15 v16 v17 v18 v19 v20
theorem k_b21_some {T0 T1 T2 T3 T4 T5 T6 T7 T8 T9 T10 T11 T12 T13 T14 T15 T16 T17 T18 T19 T20 α : Type} {x : Option (T0 × T1 × T2 × T3 × T4 × T5 × T6 × T7 × T8 × T9 × T10 × T11 × T12 × T13 × T14 × T15 × T16 × T17 × T18 × T19 × T20)} {f : T0 → T1 → T2 → T3 → T4 → T5 → T6 → T7 → T8 → T9 → T10 → T11 → T12 → T13 → T14 → T15 → T16 → T17 → T18 → T19 → T20 → Option α} {y : α} (h : k_b21 x f = some y) : ∃ (v0 : T0) (v1 : T1) (v2 : T2) (v3 : T3) (v4 : T4) (v5 : T5) (v6 : T6) (v7 : T7) (v8 : T8) (v9 : T9) (v10 : T10) (v11 : T11) (v12 : T12) (v13 : T13) (v14 : T14) (v15 : T15) (v16 : T16) (v17 : T17) (v18 : T18) (v19 : T19) (v20 : T20), x = some (v0, v1, v2, v3, v4, v5, v6, v7, v8, v9, v10, v11, v12, v13, v14, v15, v16, v17, v18, v19, v20) ∧ f v0 v1 v2 v3 v4 v5 v6 v7 v8 v9 v10 v11 v12 v13 v14 v15 v16 v17 v18 v19 v20 = some y := by
  unfold k_b21 at h; cases x with
  | none => cases h
  | some u => obtain ⟨v0, v1, v2, v3, v4, v5, v6, v7, v8, v9, v10, v11, v12, v13, v14, v15, v16, v17, v18, v19, v20⟩ := u; exact ⟨v0, v1, v2, v3, v4, v5, v6, v7, v8, v9, v10, v11, v12, v13, v14, v15, v16, v17, v18, v19, v20, rfl, h⟩
def k_b22 {T0 T1 T2 T3 T4 T5 T6 T7 T8 T9 T10 T11 T12 T13 T14 T15 T16 T17 T18 T19 T20 T21 α : Type} (x : Option (T0 × T1 × T2 × T3 × T4 × T5 × T6 × T7 × T8 × T9 × T10 × T11 × T12 × T13 × T14 × T15 × T16 × T17 × T18 × T19 × T20 × T21)) (f : T0 → T1 → T2 → T3 → T4 → T5 → T6 → T7 → T8 → T9 → T10 → T11 → T12 → T13 → T14 → T15 → T16 → T17 → T18 → T19 → T20 → T21 → Option α) : Option α := match x with | none => none | some (v0, v1, v2, v3, v4, v5, v6, v7, v8, v9, v10, v11, v12, v13, v14, v15, v16, v17, v18, v19, v20, v21) => f v0 v1 v2 v3 v4 v5 v6 v7 v8 v9 v10 v11 v12 v13 v14 v15 v16 v17 v18 v19 v20 v21
theorem k_b22_some {T0 T1 T2 T3 T4 T5 T6 T7 T8 T9 T10 T11 T12 T13 T14 T15 T16 T17 T18 T19 T20 T21 α : Type} {x : Option (T0 × T1 × T2 × T3 × T4 × T5 × T6 × T7 × T8 × T9 × T10 × T11 × T12 × T13 × T14 × T15 × T16 × T17 × T18 × T19 × T20 × T21)} {f : T0 → T1 → T2 → T3 → T4 → T5 → T6 → T7 → T8 → T9 → T10 → T11 → T12 → T13 → T14 → T15 → T16 → T17 → T18 → T19 → T20 → T21 → Option α} {y : α} (h : k_b22 x f = some y) : ∃ (v0 : T0) (v1 : T1) (v2 : T2) (v3 : T3) (v4 : T4) (v5 : T5) (v6 : T6) (v7 : T7) (v8 : T8) (v9 : T9) (v10 : T10) (v11 : T11) (v12 : T12) (v13 : T13) (v14 : T14) (v15 : T15) (v16 : T16) (v17 : T17) (v18 : T18) (v19 : T19) (v20 : T20) (v21 : T21), x = some (v0, v1, v2, v3, v4, v5, v6, v7, v8, v9, v10, v11, v12, v13, v14, v15, v16, v17, v18, v19, v20, v21) ∧ f v0 v1 v2 v3 v4 v5 v6 v7 v8 v9 v10 v11 v12 v13 v14 v15 v16 v17 v18 v19 v20 v21 = some y := by
  unfold k_b22 at h; cases x with
  | none => cases h
  | some u => obtain ⟨v0, v1, v2, v3, v4, v5, v6, v7, v8, v9, v10, v11, v12, v13, v14, v15, v16, v17, v18, v19, v20, v21⟩ := u; exact ⟨v0, v1, v2, v3, v4, v5, v6, v7, v8, v9, v10, v11, v12, v13, v14, v15, v16, v17, v18, v19, v20, v21, rfl, h⟩
def k_b23 {T0 T1 T2 T3 T4 T5 T6 T7 T8 T9 T10 T11 T12 T13 T14 T15 T16 T17 T18 T19 T20 T21 T22 α : Type} (x : Option (T0 × T1 × T2 × T3 × T4 × T5 × T6 × T7 × T8 × T9 × T10 × T11 × T12 × T13 × T14 × T15 × T16 × T17 × T18 × T19 × T20 × T21 × T22)) (f : T0 → T1 → T2 → T3 → T4 → T5 → T6 → T7 → T8 → T9 → T10 → T11 → T12 → T13 → T14 → T15 → T16 → T17 → T18 → T19 → T20 → T21 → T22 → Option α) : Option α := match x with | none => none | some (v0, v1, v2, v3, v4, v5, v6, v7, v8, v9, v10, v11, v12, v13, v14, v15, v16, v17, v18, v19, v20, v21, v22) => f v0 v1 v2 v3 v4 v5 v6 v7 v8 v9 v10 v11 v12 v13 v14 v15 v16 v17 v18 v19 v20 v21 v22
theorem k_b23_some {T0 T1 T2 T3 T4 T5 T6 T7 T8 T9 T10 T11 T12 T13 T14 T15 T16 T17 T18 T19 T20 T21 T22 α : Type} {x : Option (T0 × T1 × T2 × T3 × T4 × T5 × T6 × T7 × T8 × T9 × T10 × T11 × T12 × T13 × T14 × T15 × T16 × T17 × T18 × T19 × T20 × T21 × T22)} {f : T0 → T1 → T2 → T3 → T4 → T5 → T6 → T7 → T8 → T9 → T10 → T11 → T12 → T13 → T14 → T15 → T16 → T17 → T18 → T19 → T20 → T21 → T22 → Option α} {y : α} (h : k_b23 x f = some y) : ∃ (v0 : T0) (v1 : T1) (v2 : T2) (v3 : T3) (v4 : T4) (v5 : T5) (v6 : T6) (v7 : T7) (v8 : T8) (v9 : T9) (v10 : T10) (v11 : T11) (v12 : T12) (v13 : T13) (v14 : T14) (v15 : T15) (v16 : T16) (v17 : T17) (v18 : T18) (v19 : T19) (v20 : T20) (v21 : T21) (v22 : T22), x = some (v0, v1, v2, v3, v4, v5, v6, v7, v8, v9, v10, v11, v12, v13, v14, v15, v16, v17, v18, v19, v20, v21, v22) ∧ f v0 v1 v2 v3 v4 v5 v6 v7 v8 v9 v10 v11 v12 v13 v14 v15 v16 v17 v18 v19 v20 v21 v22 = some y := by
  unfold k_b23 at h; cases x with
  | none => cases h
  | some u => obtain ⟨v0, v1, v2, v3, v4, v5, v6, v7, v8, v9, v10, v11, v12, v13, v14, v15, v16, v17, v18, v19, v20, v21, v22⟩ := u; exact ⟨v0, v1, v2, v3, v4, v5, v6, v7, v8, v9, v10, v11, v12, v13, v14, v15, v16, v17, v18, v19, v20, v21, v22, rfl, h⟩
def k_b24 {T0 T1 T2 T3 T4 T5 T6 T7 T8 T9 T10 T11 T12 T13 T14 T15 T16 T17 T18 T19 T20 T21 T22 T23 α : Type} (x : Option (T0 × T1 × T2 × T3 × T4 × T5 × T6 × T7 × T8 × T9 × T10 × T11 × T12 × T13 × T14 × T15 × T16 × T17 × T18 × T19 × T20 × T21 × T22 × T23)) (f : T0 → T1 → T2 → T3 → T4 → T5 → T6 → T7 → T8 → T9 → T10 → T11 → T12 → T13 → T14 → T15 → T16 → T17 → T18 → T19 → T20 → T21 → T22 → T23 → Option α) : Option α := match x with | none => none | some (v0, v1, v2, v3, v4, v5, v6, v7, v8, v9, v10, v11, v12, v13, v14, v15, v16, v17, v18, v19, v20, v21, v22, v23) => f v0 v1 v2 v3 v4 v5 v6 v7 v8 v9 v10 v11 v12 v13 v14 v15 v16 v17 v18 v19 v20 v21 v22 v23
theorem k_b24_some {T0 T1 T2 T3 T4 T5 T6 T7 T8 T9 T10 T11 T12 T13 T14 T15 T16 T17 T18 T19 T20 T21 T22 T23 α : Type} {x : Option (T0 × T1 × T2 × T3 × T4 × T5 × T6 × T7 × T8 × T9 × T10 × T11 × T12 × T13 × T14 × T15 × T16 × T17 × T18 × T19 × T20 × T21 × T22 × T23)} {f : T0 → T1 → T2 → T3 → T4 → T5 → T6 → T7 → T8 → T9 → T10 → T11 → T12 → T13 → T14 → T15 → T16 → T17 → T18 → T19 → T20 → T21 → T22 → T23 → Option α} {y : α} (h : k_b24 x f = some y) : ∃ (v0 : T0) (v1 : T1) (v2 : T2) (v3 : T3) (v4 : T4) (v5 : T5) (v6 : T6) (v7 : T7) (v8 : T8) (v9 : T9) (v10 : T10) (v11 : T11) (v12 : T12) (v13 : T13) (v14 : T14) (v15 : T15) (v16 : T16) (v17 : T17) (v18 : T18) (v19 : T19) (v20 : T20) (v21 : T21) (v22 : T22) (v23 : T23), x = some (v0, v1, v2, v3, v4, v5, v6, v7, v8, v9, v10, v11, v12, v13, v14, v15, v16, v17, v18, v19, v20, v21, v22, v23) ∧ f v0 v1 v2 v3 v4 v5 v6 v7 v8 v9 v10 v11 v12 v13 v14 v15 v16 v17 v18 v19 v20 v21 v22 v23 = some y := by
  unfold k_b24 at h; cases x with
  | none => cases h
  | some u => obtain ⟨v0, v1, v2, v3, v4, v5, v6, v7, v8, v9, v10, v11, v12, v13, v14, v15, v16, v17, v18, v19, v20, v21, v22, v23⟩ := u; exact ⟨v0, v1, v2, v3, v4, v5, v6, v7, v8, v9, v10, v11, v12, v13, v14, v15, v16, v17, v18, v19, v20, v21, v22, v23, rfl, h⟩
def k_b25 {T0 T1 T2 T3 T4 T5 T6 T7 T8 T9 T10 T11 T12 T13 T14 T15 T16 T17 T18 T19 T20 T21 T22 T23 T24 α : Type} (x : Option (T0 × T1 × T2 × T3 × T4 × T5 × T6 × T7 × T8 × T9 × T10 × T11 × T12 × T13 × T14 × T15 × T16 × T17 × T18 × T19 × T20 × T21 × T22 × T23 × T24)) (f : T0 → T1 → T2 → T3 → T4 → T5 → T6 → T7 → T8 → T9 → T10 → T11 → T12 → T13 → T14 → T15 → T16 → T17 → T18 → T19 → T20 → T21 → T22 → T23 → T24 → Option α) : Option α := match x with | none => none | some (v0, v1, v2, v3, v4, v5, v6, v7, v8, v9, v10, v11, v12, v13, v14, v15, v16, v17, v18, v19, v20, v21, v22, v23, v24) => f v0 v1 v2 v3 v4 v5 v6 v7 v8 v9 v10 v11 v12 v13 v14 v15 v16 v17 v18 v19 v20 v21 v22 v23 v24
theorem k_b25_some {T0 T1 T2 T3 T4 T5 T6 T7 T8 T9 T10 T11 T12 T13 T14 T15 T16 T17 T18 T19 T20 T21 T22 T23 T24 α : Type} {x : Option (T0 × T1 × T2 × T3 × T4 × T5 × T6 × T7 × T8 × T9 × T10 × T11 × T12 × T13 × T14 × T15 × T16 × T17 × T18 × T19 × T20 × T21 × T22 × T23 × T24)} {f : T0 → T1 → T2 → T3 → T4 → T5 → T6 → T7 → T8 → T9 → T10 → T11 → T12 → T13 → T14 → T15 → T16 → T17 → T18 → T19 → T20 → T21 → T22 → T23 → T24 → Option α} {y : α} (h : k_b25 x f = some y) : ∃ (v0 : T0) (v1 : T1) (v2 : T2) (v3 : T3) (v4 : T4) (v5 : T5) (v6 : T6) (v7 : T7) (v8 : T8) (v9 : T9) (v10 : T10) (v11 : T11) (v12 : T12) (v13 : T13) (v14 : T14) (v15 : T15) (v16 : T16) (v17 : T17) (v18 : T18) (v19 : T19) (v20 : T20) (v21 : T21) (v22 : T22) (v23 : T23) (v24 : T24), x = some (v0, v1, v2, v3, v4, v5, v6, v7, v8, v9, v10, v11, v12, v13, v14, v15, v16, v17, v18, v19, v20, v21, v22, v23, v24) ∧ f v0 v1 v2 v3 v4 v5 v6 v7 v8 v9 v10 v11 v12 v13 v14 v15 v16 v17 v18 v19 v20 v21 v22 v23 v24 = some y := by
  unfold k_b25 at h; cases x with
  | none => cases h
  | some u => obtain ⟨v0, v1, v2, v3, v4, v5, v6, v7, v8, v9, v10, v11, v12, v13, v14, v15, v16, v17, v18, v19, v20, v21, v22, v23, v24⟩ := u; exact ⟨v0, v1, v2, v3, v4, v5, v6, v7, v8, v9, v10, v11, v12, v13, v14, v15, v16, v17, v18, v19, v20, v21, v22, v23, v24, rfl, h⟩
def k_b26 {T0 T1 T2 T3 T4 T5 T6 T7 T8 T9 T10 T11 T12 T13 T14 T15 T16 T17 T18 T19 T20 T21 T22 T23 T24 T25 α : Type} (x : Option (T0 × T1 × T2 × T3 × T4 × T5 × T6 × T7 × T8 × T9 × T10 × T11 × T12 × T13 × T14 × T15 × T16 × T17 × T18 × T19 × T20 × T21 × T22 × T23 × T24 × T25)) (f : T0 → T1 → T2 → T3 → T4 → T5 → T6 → T7 → T8 → T9 → T10 → T11 → T12 → T13 → T14 → T15 → T16 → T17 → T18 → T19 → T20 → T21 → T22 → T23 → T24 → T25 → Option α) : Option α := match x with | none => none | some (v0, v1, v2, v3, v4, v5, v6, v7, v8, v9, v10, v11, v12, v13, v14, v15, v16, v17, v18, v19, v20, v21, v22, v23, v24, v25) => f v0 v1 v2 v3 v4 v5 v6 v7 v8 v9 v10 v11 v12 v13 v14 v15 v16 v17 v18 v19 v20 v21 v22 v23 v24 v25
theorem k_b26_some {T0 T1 T2 T3 T4 T5 T6 T7 T8 T9 T10 T11 T12 T13 T14 T15 T16 T17 T18 T19 T20 T21 T22 T23 T24 T25 α : Type} {x : Option (T0 × T1 × T2 × T3 × T4 × T5 × T6 × T7 × T8 × T9 × T10 × T11 × T12 × T13 × T14 × T15 × T16 × T17 × T18 × T19 × T20 × T21 × T22 × T23 × T24 × T25)} {f : T0 → T1 → T2 → T3 → T4 → T5 → T6 → T7 → T8 → T9 → T10 → T11 → T12 → T13 → T14 → T15 → T16 → T17 → T18 → T19 → T20 → T21 → T22 → T23 → T24 → T25 → Option α} {y : α} (h : k_b26 x f = some y) : ∃ (v0 : T0) (v1 : T1) (v2 : T2) (v3 : T3) (v4 : T4) (v5 : T5) (v6 : T6) (v7 : T7) (v8 : T8) (v9 : T9) (v10 : T10) (v11 : T11) (v12 : T12) (v13 : T13) (v14 : T14) (v15 : T15) (v16 : T16) (v17 : T17) (v18 : T18) (v19 : T19) (v20 : T20) (v21 : T21) (v22 : T22) (v23 : T23) (v24 : T24) (v25 : T25), x = some (v0, v1, v2, v3, v4, v5, v6, v7, v8, v9, v10, v11, v12, v13, v14, v15, v16, v17, v18, v19, v20, v21, v22, v23, v24, v25) ∧ f v0 v1 v2 v3 v4 v5 v6 v7 v8 v9 v10 v11 v12 v13 v14 v15 v16 v17 v18 v19 v20 v21 v22 v23 v24 v25 = some y := by
  unfold k_b26 at h; cases x with
  | none => cases h
  | some u => obtain ⟨v0, v1, v2, v3, v4, v5, v6, v7, v8, v9, v10, v11, v12, v13, v14, v15, v16, v17, v18, v19, v20, v21, v22, v23, v24, v25⟩ := u; exact ⟨v0, v1, v2, v3, v4, v5, v6, v7, v8, v9, v10, v11, v12, v13, v14, v15, v16, v17, v18, v19, v20, v21, v22, v23, v24, v25, rfl, h⟩
def k_b27 {T0 T1 T2 T3 T4 T5 T6 T7 T8 T9 T10 T11 T12 T13 T14 T15 T16 T17 T18 T19 T20 T21 T22 T23 T24 T25 T26 α : Type} (x : Option (T0 × T1 × T2 × T3 × T4 × T5 × T6 × T7 × T8 × T9 × T10 × T11 × T12 × T13 × T14 × T15 × T16 × T17 × T18 × T19 × T20 × T21 × T22 × T23 × T24 × T25 × T26)) (f : T0 → T1 → T2 → T3 → T4 → T5 → T6 → T7 → T8 → T9 → T10 → T11 → T12 → T13 → T14 → T15 → T16 → T17 → T18 → T19 → T20 → T21 → T22 → T23 → T24 → T25 → T26 → Option α) : Option α := match x with | none => none | some (v0, v1, v2, v3, v4, v5, v6, v7, v8, v9, v10, v11, v12, v13, v14, v15, v16, v17, v18, v19, v20, v21, v22, v23, v24, v25, v26) => f v0 v1 v2 v3 v4 v5 v6 v7 v8 v9 v10 v11 v12 v13 v14 v15 v16 v17 v18 v19 v20 v21 v22 v23 v24 v25 v26
theorem k_b27_some {T0 T1 T2 T3 T4 T5 T6 T7 T8 T9 T10 T11 T12 T13 T14 T15 T16 T17 T18 T19 T20 T21 T22 T23 T24 T25 T26 α : Type} {x : Option (T0 × T1 × T2 × T3 × T4 × T5 × T6 × T7 × T8 × T9 × T10 × T11 × T12 × T13 × T14 × T15 × T16 × T17 × T18 × T19 × T20 × T21 × T22 × T23 × T24 × T25 × T26)} {f : T0 → T1 → T2 → T3 → T4 → T5 → T6 → T7 → T8 → T9 → T10 → T11 → T12 → T13 → T14 → T15 → T16 → T17 → T18 → T19 → T20 → T21 → T22 → T23 → T24 → T25 → T26 → Option α} {y : α} (h : k_b27 x f = some y) : ∃ (v0 : T0) (v1 : T1) (v2 : T2) (v3 : T3) (v4 : T4) (v5 : T5) (v6 : T6) (v7 : T7) (v8 : T8) (v9 : T9) (v10 : T10) (v11 : T11) (v12 : T12) (v13 : T13) (v14 : T14) (v15 : T15) (v16 : T16) (v17 : T17) (v18 : T18) (v19 : T19) (v20 : T20) (v21 : T21) (v22 : T22) (v23 : T23) (v24 : T24) (v25 : T25) (v26 : T26), x = some (v0, v1, v2, v3, v4, v5, v6, v7, v8, v9, v10, v11, v12, v13, v14, v15, v16, v17, v18, v19, v20, v21, v22, v23, v24, v25, v26) ∧ f v0 v1 v2 v3 v4 v5 v6 v7 v8 v9 v10 v11 v12 v13 v14 v15 v16 v17 v18 v19 v20 v21 v22 v23 v24 v25 v26 = some y := by
  unfold k_b27 at h; cases x with
  | none => cases h
  | some u => obtain ⟨v0, v1, v2, v3, v4, v5, v6, v7, v8, v9, v10, v11, v12, v13, v14, v15, v16, v17, v18, v19, v20, v21, v22, v23, v24, v25, v26⟩ := u; exact ⟨v0, v1, v2, v3, v4, v5, v6, v7, v8, v9, v10, v11, v12, v13, v14, v15, v16, v17, v18, v19, v20, v21, v22, v23, v24, v25, v26, rfl, h⟩
def k_b28 {T0 T1 T2 T3 T4 T5 T6 T7 T8 T9 T10 T11 T12 T13 T14 T15 T16 T17 T18 T19 T20 T21 T22 T23 T24 T25 T26 T27 α : Type} (x : Option (T0 × T1 × T2 × T3 × T4 × T5 × T6 × T7 × T8 × T9 × T10 × T11 × T12 × T13 × T14 × T15 × T16 × T17 × T18 × T19 × T20 × T21 × T22 × T23 × T24 × T25 × T26 × T27)) (f : T0 → T1 → T2 → T3 → T4 → T5 → T6 → T7 → T8 → T9 → T10 → T11 → T12 → T13 → T14 → T15 → T16 → T17 → T18 → T19 → T20 → T21 → T22 → T23 → T24 → T25 → T26 → T27 → Option α) : Option α := match x with | none => none | some (v0, v1, v2, v3, v4, v5, v6, v7, v8, v9, v10, v11, v12, v13, v14, v15, v16, v17, v18, v19, v20, v21, v22, v23, v24, v25, v26, v27) => f v0 v1 v2 v3 v4 v5 v6 v7 v8 v9 v10 v11 v12 v13 v14 v15 v16 v17 v18 v19 v20 v21 v22 v23 v24 v25 v26 v27
theorem k_b28_some {T0 T1 T2 T3 T4 T5 T6 T7 T8 T9 T10 T11 T12 T13 T14 T15 T16 T17 T18 T19 T20 T21 T22 T23 T24 T25 T26 T27 α : Type} {x : Option (T0 × T1 × T2 × T3 × T4 × T5 × T6 × T7 × T8 × T9 × T10 × T11 × T12 × T13 × T14 × T15 × T16 × T17 × T18 × T19 × T20 × T21 × T22 × T23 × T24 × T25 × T26 × T27)} {f : T0 → T1 → T2 → T3 → T4 → T5 → T6 → T7 → T8 → T9 → T10 → T11 → T12 → T13 → T14 → T15 → T16 → T17 → T18 → T19 → T20 → T21 → T22 → T23 → T24 → T25 → T26 → T27 → Option α} {y : α} (h : k_b28 x f = some y) : ∃ (v0 : T0) (v1 : T1) (v2 : T2) (v3 : T3) (v4 : T4) (v5 : T5) (v6 : T6) (v7 : T7) (v8 : T8) (v9 : T9) (v10 : T10) (v11 : T11) (v12 : T12) (v13 : T13) (v14 : T14) (v15 : T15) (v16 : T16) (v17 : T17) (v18 : T18) (v19 : T19) (v20 : T20) (v21 : T21) (v22 : T22) (v23 : T23) (v24 : T24) (v25 : T25) (v26 : T26) (v27 : T27), x = some (v0, v1, v2, v3, v4, v5, v6, v7, v8, v9, v10, v11, v12, v13, v14, v15, v16, v17, v18, v19, v20, v21, v22, v23, v24, v25, v26, v27) ∧ f v0 v1 v2 v3 v4 v5 v6 v7 v8 v9 v10 v11 v12 v13 v14 v15 v16 v17 v18 v19 v20 v21 v22 v23 v24 v25 v26 v27 = some y := by
  unfold k_b28 at h; cases x with
  | none => cases h
  | some u => obtain ⟨v0, v1, v2, v3, v4, v5, v6, v7, v8, v9, v10, v11, v12, v13, v14, v15, v16, v17, v18, v19, v20, v21, v22, v23, v24, v25, v26, v27⟩ := u; exact ⟨v0, v1, v2, v3, v4, v5, v6, v7, v8, v9, v10, v11, v12, v13, v14, v15, v16, v17, v18, v19, v20, v21, v22, v23, v24, v25, v26, v27, rfl, h⟩
def k_b29 {T0 T1 T2 T3 T4 T5 T6 T7 T8 T9 T10 T11 T12 T13 T14 T15 T16 T17 T18 T19 T20 T21 T22 T23 T24 T25 T26 T27 T28 α : Type} (x : Option (T0 × T1 × T2 × T3 × T4 × T5 × T6 × T7 × T8 × T9 × T10 × T11 × T12 × T13 × T14 × T15 × T16 × T17 × T18 × T19 × T20 × T21 × T22 × T23 × T24 × T25 × T26 × T27 × T28)) (f : T0 → T1 → T2 → T3 → T4 → T5 → T6 → T7 → T8 → T9 → T10 → T11 → T12 → T13 → T14 → T15 → T16 → T17 → T18 → T19 → T20 → T21 → T22 → T23 → T24 → T25 → T26 → T27 → T28 → Option α) : Option α := match x with | none => none | some (v0, v1, v2, v3, v4, v5, v6, v7, v8, v9, v10, v11, v12, v13, v14, v15, v16, v17, v18, v19, v20, v21, v22, v23, v24, v25, v26, v27, v28) => f v0 v1 v2 v3 v4 v5 v6 v7 v8 v9 v10 v11 v12 v13 v14 v15 v16 v17 v18 v19 v20 v21 v22 v23 v24 v25 v26 v27 v28
theorem k_b29_some {T0 T1 T2 T3 T4 T5 T6 T7 T8 T9 T10 T11 T12 T13 T14 T15 T16 T17 T18 T19 T20 T21 T22 T23 T24 T25 T26 T27 T28 α : Type} {x : Option (T0 × T1 × T2 × T3 × T4 × T5 × T6 × T7 × T8 × T9 × T10 × T11 × T12 × T13 × T14 × T15 × T16 × T17 × T18 × T19 × T20 × T21 × T22 × T23 × T24 × T25 × T26 × T27 × T28)} {f : T0 → T1 → T2 → T3 → T4 → T5 → T6 → T7 → T8 → T9 → T10 → T11 → T12 → T13 → T14 → T15 → T16 → T17 → T18 → T19 → T20 → T21 → T22 → T23 → T24 → T25 → T26 → T27 → T28 → Option α} {y : α} (h : k_b29 x f = some y) : ∃ (v0 : T0) (v1 : T1) (v2 : T2) (v3 : T3) (v4 : T4) (v5 : T5) (v6 : T6) (v7 : T7) (v8 : T8) (v9 : T9) (v10 : T10) (v11 : T11) (v12 : T12) (v13 : T13) (v14 : T14) (v15 : T15) (v16 : T16) (v17 : T17) (v18 : T18) (v19 : T19) (v20 : T20) (v21 : T21) (v22 : T22) (v23 : T23) (v24 : T24) (v25 : T25) (v26 : T26) (v27 : T27) (v28 : T28), x = some (v0, v1, v2, v3, v4, v5, v6, v7, v8, v9, v10, v11, v12, v13, v14, v15, v16, v17, v18, v19, v20, v21, v22, v23, v24, v25, v26, v27, v28) ∧ f v0 v1 v2 v3 v4 v5 v6 v7 v8 v9 v10 v11 v12 v13 v14 v15 v16 v17 v18 v19 v20 v21 v22 v23 v24 v25 v26 v27 v28 = some y := by
  unfold k_b29 at h; cases x with
  | none => cases h
  | some u => obtain ⟨v0, v1, v2, v3, v4, v5, v6, v7, v8, v9, v10, v11, v12, v13, v14, v15, v16, v17, v18, v19, v20, v21, v22, v23, v24, v25, v26, v27, v28⟩ := u; exact ⟨v0, v1, v2, v3, v4, v5, v6, v7, v8, v9, v10, v11, v12, v13, v14, v15, v16, v17, v18, v19, v20, v21, v22, v23, v24, v25, v26, v27, v28, rfl, h⟩
def k_b30 {T0 T1 T2 T3 T4 T5 T6 T7 T8 T9 T10 T11 T12 T13 T14 T15 T16 T17 T18 T19 T20 T21 T22 T23 T24 T25 T26 T27 T28 T29 α : Type} (x : Option (T0 × T1 × T2 × T3 × T4 × T5 × T6 × T7 × T8 × T9 × T10 × T11 × T12 × T13 × T14 × T15 × T16 × T17 × T18 × T19 × T20 × T21 × T22 × T23 × T24 × T25 × T26 × T27 × T28 × T29)) (f : T0 → T1 → T2 → T3 → T4 → T5 → T6 → T7 → T8 → T9 → T10 → T11 → T12 → T13 → T14 → T15 → T16 → T17 → T18 → T19 → T20 → T21 → T22 → T23 → T24 → T25 → T26 → T27 → T28 → T29 → Option α) : Option α := match x with | none => none | some (v0, v1, v2, v3, v4, v5, v6, v7, v8, v9, v10, v11, v12, v13, v14, v15, v16, v17, v18, v19, v20, v21, v22, v23, v24, v25, v26, v27, v28, v29) => f v0 v1 v2 v3 v4 v5 v6 v7 v8 v9 v10 v11 v12 v13 v14 v15 v16 v17 v18 v19 v20 v21 v22 v23 v24 v25 v26 v27 v28 v29
theorem k_b30_some {T0 T1 T2 T3 T4 T5 T6 T7 T8 T9 T10 T11 T12 T13 T14 T15 T16 T17 T18 T19 T20 T21 T22 T23 T24 T25 T26 T27 T28 T29 α : Type} {x : Option (T0 × T1 × T2 × T3 × T4 × T5 × T6 × T7 × T8 × T9 × T10 × T11 × T12 × T13 × T14 × T15 × T16 × T17 × T18 × T19 × T20 × T21 × T22 × T23 × T24 × T25 × T26 × T27 × T28 × T29)} {f : T0 → T1 → T2 → T3 → T4 → T5 → T6 → T7 → T8 → T9 → T10 → T11 → T12 → T13 → T14 → T15 → T16 → T17 → T18 → T19 → T20 → T21 → T22 → T23 → T24 → T25 → T26 → T27 → T28 → T29 → Option α} {y : α} (h : k_b30 x f = some y) : ∃ (v0 : T0) (v1 : T1) (v2 : T2) (v3 : T3) (v4 : T4) (v5 : T5) (v6 : T6) (v7 : T7) (v8 : T8) (v9 : T9) (v10 : T10) (v11 : T11) (v12 : T12) (v13 : T13) (v14 : T14) (v15 : T15) (v16 : T16) (v17 : T17) (v18 : T18) (v19 : T19) (v20 : T20) (v21 : T21) (v22 : T22) (v23 : T23) (v24 : T24) (v25 : T25) (v26 : T26) (v27 : T27) (v28 : T28) (v29 : T29), x = some (v0, v1, v2, v3, v4, v5, v6, v7, v8, v9, v10, v11, v12, v13, v14, v15, v16, v17, v18, v19, v20, v21, v22, v23, v24, v25, v26, v27, v28, v29) ∧ f v0 v1 v2 v3 v4 v5 v6 v7 v8 v9 v10 v11 v12 v13 v14 v15 v16 v17 v18 v19 v20 v21 v22 v23 v24 v25 v26 v27 v28 v29 = some y := by
  unfold k_b30 at h; cases x with
  | none => cases h
  | some u => obtain ⟨v0, v1, v2, v3, v4, v5, v6, v7, v8, v9, v10, v11, v12, v13, v14, v15, v16, v17, v18, v19, v20, v21, v22, v23, v24, v25, v26, v27, v28, v29⟩ := u; exact ⟨v0, v1, v2, v3, v4, v5, v6, v7, v8, v9, v10, v11, v12, v13, v14, v15, v16, v17, v18, v19, v20, v21, v22, v23, v24, v25, v26, v27, v28, v29, rfl, h⟩
def k_b31 {T0 T1 T2 T3 T4 T5 T6 T7 T8 T9 T10 T11 T12 T13 T14 T15 T16 T17 T18 T19 T20 T21 T22 T23 T24 T25 T26 T27 T28 T29 T30 α : Type} (x : Option (T0 × T1 × T2 × T3 × T4 × T5 × T6 × T7 × T8 × T9 × T10 × T11 × T12 × T13 × T14 × T15 × T16 × T17 × T18 × T19 × T20 × T21 × T22 × T23 × T24 × T25 × T26 × T27 × T28 × T29 × T30)) (f : T0 → T1 → T2 → T3 → T4 → T5 → T6 → T7 → T8 → T9 → T10 → T11 → T12 → T13 → T14 → T15 → T16 → T17 → T18 → T19 → T20 → T21 → T22 → T23 → T24 → T25 → T26 → T27 → T28 → T29 → T30 → Option α) : Option α := match x with | none => none | some (v0, v1, v2, v3, v4, v5, v6, v7, v8, v9, v10, v11, v12, v13, v14, v15, v16, v17, v18, v19, v20, v21, v22, v23, v24, v25, v26, v27, v28, v29, v30) => f v0 v1 v2 v3 v4 v5 v6 v7 v8 v9 v10 v11 v12 v13 v14 v15 v16 v17 v18 v19 v20 v21 v22 v23 v24 v25 v26 v27 v28 v29 v30
theorem k_b31_some {T0 T1 T2 T3 T4 T5 T6 T7 T8 T9 T10 T11 T12 T13 T14 T15 T16 T17 T18 T19 T20 T21 T22 T23 T24 T25 T26 T27 T28 T29 T30 α : Type} {x : Option (T0 × T1 × T2 × T3 × T4 × T5 × T6 × T7 × T8 × T9 × T10 × T11 × T12 × T13 × T14 × T15 × T16 × T17 × T18 × T19 × T20 × T21 × T22 × T23 × T24 × T25 × T26 × T27 × T28 × T29 × T30)} {f : T0 → T1 → T2 → T3 → T4 → T5 → T6 → T7 → T8 → T9 → T10 → T11 → T12 → T13 → T14 → T15 → T16 → T17 → T18 → T19 → T20 → T21 → T22 → T23 → T24 → T25 → T26 → T27 → T28 → T29 → T30 → Option α} {y : α} (h : k_b31 x f = some y) : ∃ (v0 : T0) (v1 : T1) (v2 : T2) (v3 : T3) (v4 : T4) (v5 : T5) (v6 : T6) (v7 : T7) (v8 : T8) (v9 : T9) (v10 : T10) (v11 : T11) (v12 : T12) (v13 : T13) (v14 : T14) (v15 : T15) (v16 : T16) (v17 : T17) (v18 : T18) (v19 : T19) (v20 : T20) (v21 : T21) (v22 : T22) (v23 : T23) (v24 : T24) (v25 : T25) (v26 : T26) (v27 : T27) (v28 : T28) (v29 : T29) (v30 : T30), x = some (v0, v1, v2, v3, v4, v5, v6, v7, v8, v9, v10, v11, v12, v13, v14, v15, v16, v17, v18, v19, v20, v21, v22, v23, v24, v25, v26, v27, v28, v29, v30) ∧ f v0 v1 v2 v3 v4 v5 v6 v7 v8 v9 v10 v11 v12 v13 v14 v15 v16 v17 v18 v19 v20 v21 v22 v23 v24 v25 v26 v27 v28 v29 v30 = some y := by
  unfold k_b31 at h; cases x with
  | none => cases h
  | some u => obtain ⟨v0, v1, v2, v3, v4, v5, v6, v7, v8, v9, v10, v11, v12, v13, v14, v15, v16, v17, v18, v19, v20, v21, v22, v23, v24, v25, v26, v27, v28, v29, v30⟩ := u; exact ⟨v0, v1, v2, v3, v4, v5, v6, v7, v8, v9, v10, v11, v12, v13, v14, v15, v16, v17, v18, v19, v20, v21, v22, v23, v24, v25, v26, v27, v28, v29, v30, rfl, h⟩
def k_b32 {T0 T1 T2 T3 T4 T5 T6 T7 T8 T9 T10 T11 T12 T13 T14 T15 T16 T17 T18 T19 T20 T21 T22 T23 T24 T25 T26 T27 T28 T29 T30 T31 α : Type} (x : Option (T0 × T1 × T2 × T3 × T4 × T5 × T6 × T7 × T8 × T9 × T10 × T11 × T12 × T13 × T14 × T15 × T16 × T17 × T18 × T19 × T20 × T21 × T22 × T23 × T24 × T25 × T26 × T27 × T28 × T29 × T30 × T31)) (f : T0 → T1 → T2 → T3 → T4 → T5 → T6 → T7 → T8 → T9 → T10 → T11 → T12 → T13 → T14 → T15 → T16 → T17 → T18 → T19 → T20 → T21 → T22 → T23 → T24 → T25 → T26 → T27 → T28 → T29 → T30 → T31 → Option α) : Option α := match x with | none => none | some (v0, v1, v2, v3, v4, v5, v6, v7, v8, v9, v10, v11, v12, v13, v14, v15, v16, v17, v18, v19, v20, v21, v22, v23, v24, v25, v26, v27, v28, v29, v30, v31) => f v0 v1 v2 v3 v4 v5 v6 v7 v8 v9 v10 v11 v12 v13 v14 v15 v16 v17 v18 v19 v20 v21 v22 v23 v24 v25 v26 v27 v28 v29 v30 v31
theorem k_b32_some {T0 T1 T2 T3 T4 T5 T6 T7 T8 T9 T10 T11 T12 T13 T14 T15 T16 T17 T18 T19 T20 T21 T22 T23 T24 T25 T26 T27 T28 T29 T30 T31 α : Type} {x : Option (T0 × T1 × T2 × T3 × T4 × T5 × T6 × T7 × T8 × T9 × T10 × T11 × T12 × T13 × T14 × T15 × T16 × T17 × T18 × T19 × T20 × T21 × T22 × T23 × T24 × T25 × T26 × T27 × T28 × T29 × T30 × T31)} {f : T0 → T1 → T2 → T3 → T4 → T5 → T6 → T7 → T8 → T9 → T10 → T11 → T12 → T13 → T14 → T15 → T16 → T17 → T18 → T19 → T20 → T21 → T22 → T23 → T24 → T25 → T26 → T27 → T28 → T29 → T30 → T31 → Option α} {y : α} (h : k_b32 x f = some y) : ∃ (v0 : T0) (v1 : T1) (v2 : T2) (v3 : T3) (v4 : T4) (v5 : T5) (v6 : T6) (v7 : T7) (v8 : T8) (v9 : T9) (v10 : T10) (v11 : T11) (v12 : T12) (v13 : T13) (v14 : T14) (v15 : T15) (v16 : T16) (v17 : T17) (v18 : T18) (v19 : T19) (v20 : T20) (v21 : T21) (v22 : T22) (v23 : T23) (v24 : T24) (v25 : T25) (v26 : T26) (v27 : T27) (v28 : T28) (v29 : T29) (v30 : T30) (v31 : T31), x = some (v0, v1, v2, v3, v4, v5, v6, v7, v8, v9, v10, v11, v12, v13, v14, v15, v16, v17, v18, v19, v20, v21, v22, v23, v24, v25, v26, v27, v28, v29, v30, v31) ∧ f v0 v1 v2 v3 v4 v5 v6 v7 v8 v9 v10 v11 v12 v13 v14 v15 v16 v17 v18 v19 v20 v21 v22 v23 v24 v25 v26 v27 v28 v29 v30 v31 = some y := by
  unfold k_b32 at h; cases x with
  | none => cases h
  | some u => obtain ⟨v0, v1, v2, v3, v4, v5, v6, v7, v8, v9, v10, v11, v12, v13, v14, v15, v16, v17, v18, v19, v20, v21, v22, v23, v24, v25, v26, v27, v28, v29, v30, v31⟩ := u; exact ⟨v0, v1, v2, v3, v4, v5, v6, v7, v8, v9, v10, v11, v12, v13, v14, v15, v16, v17, v18, v19, v20, v21, v22, v23, v24, v25, v26, v27, v28, v29, v30, v31, rfl, h⟩
def k_b33 {T0 T1 T2 T3 T4 T5 T6 T7 T8 T9 T10 T11 T12 T13 T14 T15 T16 T17 T18 T19 T20 T21 T22 T23 T24 T25 T26 T27 T28 T29 T30 T31 T32 α : Type} (x : Option (T0 × T1 × T2 × T3 × T4 × T5 × T6 × T7 × T8 × T9 × T10 × T11 × T12 × T13 × T14 × T15 × T16 × T17 × T18 × T19 × T20 × T21 × T22 × T23 × T24 × T25 × T26 × T27 × T28 × T29 × T30 × T31 × T32)) (f : T0 → T1 → T2 → T3 → T4 → T5 → T6 → T7 → T8 → T9 → T10 → T11 → T12 → T13 → T14 → T15 → T16 → T17 → T18 → T19 → T20 → T21 → T22 → T23 → T24 → T25 → T26 → T27 → T28 → T29 → T30 → T31 → T32 → Option α) : Option α := match x with | none => none | some (v0, v1, v2, v3, v4, v5, v6, v7, v8, v9, v10, v11, v12, v13, v14, v15, v16, v17, v18, v19, v20, v21, v22, v23, v24, v25, v26, v27, v28, v29, v30, v31, v32) => f v0 v1 v2 v3 v4 v5 v6 v7 v8 v9 v10 v11 v12 v13 v14 v15 v16 v17 v18 v19 v20 v21 v22 v23 v24 v25 v26 v27 v28 v29 v30 v31 v32
theorem k_b33_some {T0 T1 T2 T3 T4 T5 T6 T7 T8 T9 T10 T11 T12 T13 T14 T15 T16 T17 T18 T19 T20 T21 T22 T23 T24 T25 T26 T27 T28 T29 T30 T31 T32 α : Type} {x : Option (T0 × T1 × T2 × T3 × T4 × T5 × T6 × T7 × T8 × T9 × T10 × T11 × T12 × T13 × T14 × T15 × T16 × T17 × T18 × T19 × T20 × T21 × T22 × T23 × T24 × T25 × T26 × T27 × T28 × T29 × T30 × T31 × T32)} {f : T0 → T1 → T2 → T3 → T4 → T5 → T6 → T7 → T8 → T9 → T10 → T11 → T12 → T13 → T14 → T15 → T16 → T17 → T18 → T19 → T20 → T21 → T22 → T23 → T24 → T25 → T26 → T27 → T28 → T29 → T30 → T31 → T32 → Option α} {y : α} (h : k_b33 x f = some y) : ∃ (v0 : T0) (v1 : T1) (v2 : T2) (v3 : T3) (v4 : T4) (v5 : T5) (v6 : T6) (v7 : T7) (v8 : T8) (v9 : T9) (v10 : T10) (v11 : T11) (v12 : T12) (v13 : T13) (v14 : T14) (v15 : T15) (v16 : T16) (v17 : T17) (v18 : T18) (v19 : T19) (v20 : T20) (v21 : T21) (v22 : T22) (v23 : T23) (v24 : T24) (v25 : T25) (v26 : T26) (v27 : T27) (v28 : T28) (v29 : T29) (v30 : T30) (v31 : T31) (v32 : T32), x = some (v0, v1, v2, v3, v4, v5, v6, v7, v8, v9, v10, v11, v12, v13, v14, v15, v16, v17, v18, v19, v20, v21, v22, v23, v24, v25, v26, v27, v28, v29, v30, v31, v32) ∧ f v0 v1 v2 v3 v4 v5 v6 v7 v8 v9 v10 v11 v12 v13 v14 v15 v16 v17 v18 v19 v20 v21 v22 v23 v24 v25 v26 v27 v28 v29 v30 v31 v32 = some y := by
  unfold k_b33 at h; cases x with
  | none => cases h
  | some u => obtain ⟨v0, v1, v2, v3, v4, v5, v6, v7, v8, v9, v10, v11, v12, v13, v14, v15, v16, v17, v18, v19, v20, v21, v22, v23, v24, v25, v26, v27, v28, v29, v30, v31, v32⟩ := u; exact ⟨v0, v1, v2, v3, v4, v5, v6, v7, v8, v9, v10, v11, v12, v13, v14, v15, v16, v17, v18, v19, v20, v21, v22, v23, v24, v25, v26, v27, v28, v29, v30, v31, v32, rfl, h⟩
def k_b34 {T0 T1 T2 T3 T4 T5 T6 T7 T8 T9 T10 T11 T12 T13 T14 T15 T16 T17 T18 T19 T20 T21 T22 T23 T24 T25 T26 T27 T28 T29 T30 T31 T32 T33 α : Type} (x : Option (T0 × T1 × T2 × T3 × T4 × T5 × T6 × T7 × T8 × T9 × T10 × T11 × T12 × T13 × T14 × T15 × T16 × T17 × T18 × T19 × T20 × T21 × T22 × T23 × T24 × T25 × T26 × T27 × T28 × T29 × T30 × T31 × T32 × T33)) (f : T0 → T1 → T2 → T3 → T4 → T5 → T6 → T7 → T8 → T9 → T10 → T11 → T12 → T13 → T14 → T15 → T16 → T17 → T18 → T19 → T20 → T21 → T22 → T23 → T24 → T25 → T26 → T27 → T28 → T29 → T30 → T31 → T32 → T33 → Option α) : Option α := match x with | none => none | some (v0, v1, v2, v3, v4, v5, v6, v7, v8, v9, v10, v11, v12, v13, v14, v15, v16, v17, v18, v19, v20, v21, v22, v23, v24, v25, v26, v27, v28, v29, v30, v31, v32, v33) => f v0 v1 v2 v3 v4 v5 v6 v7 v8 v9 v10 v11 v12 v13 v14 v15 v16 v17 v18 v19 v20 v21 v22 v23 v24 v25 v26 v27 v28 v29 v30 v31 v32 v33
theorem k_b34_some {T0 T1 T2 T3 T4 T5 T6 T7 T8 T9 T10 T11 T12 T13 T14 T15 T16 T17 T18 T19 T20 T21 T22 T23 T24 T25 T26 T27 T28 T29 T30 T31 T32 T33 α : Type} {x : Option (T0 × T1 × T2 × T3 × T4 × T5 × T6 × T7 × T8 × T9 × T10 × T11 × T12 × T13 × T14 × T15 × T16 × T17 × T18 × T19 × T20 × T21 × T22 × T23 × T24 × T25 × T26 × T27 × T28 × T29 × T30 × T31 × T32 × T33)} {f : T0 → T1 → T2 → T3 → T4 → T5 → T6 → T7 → T8 → T9 → T10 → T11 → T12 → T13 → T14 → T15 → T16 → T17 → T18 → T19 → T20 → T21 → T22 → T23 → T24 → T25 → T26 → T27 → T28 → T29 → T30 → T31 → T32 → T33 → Option α} {y : α} (h : k_b34 x f = some y) : ∃ (v0 : T0) (v1 : T1) (v2 : T2) (v3 : T3) (v4 : T4) (v5 : T5) (v6 : T6) (v7 : T7) (v8 : T8) (v9 : T9) (v10 : T10) (v11 : T11) (v12 : T12) (v13 : T13) (v14 : T14) (v15 : T15) (v16 : T16) (v17 : T17) (v18 : T18) (v19 : T19) (v20 : T20) (v21 : T21) (v22 : T22) (v23 : T23) (v24 : T24) (v25 : T25) (v26 : T26) (v27 : T27) (v28 : T28) (v29 : T29) (v30 : T30) (v31 : T31) (v32 : T32) (v33 : T33), x = some (v0, v1, v2, v3, v4, v5, v6, v7, v8, v9, v10, v11, v12, v13, v14, v15, v16, v17, v18, v19, v20, v21, v22, v23, v24, v25, v26, v27, v28, v29, v30, v31, v32, v33) ∧ f v0 v1 v2 v3 v4 v5 v6 v7 v8 v9 v10 v11 v12 v13 v14 v15 v16 v17 v18 v19 v20 v21 v22 v23 v24 v25 v26 v27 v28 v29 v30 v31 v32 v33 = some y := by
  unfold k_b34 at h; cases x with
  | none => cases h
  | some u => obtain ⟨v0, v1, v2, v3, v4, v5, v6, v7, v8, v9, v10, v11, v12, v13, v14, v15, v16, v17, v18, v19, v20, v21, v22, v23, v24, v25, v26, v27, v28, v29, v30, v31, v32, v33⟩ := u; exact ⟨v0, v1, v2, v3, v4, v5, v6, v7, v8, v9, v10, v11, v12, v13, v14, v15, v16, v17, v18, v19, v20, v21, v22, v23, v24, v25, v26, v27, v28, v29, v30, v31, v32, v33, rfl, h⟩
def k_bx0 {ρ α : Type} (x : Option (ρ ⊕ (Unit))) (g : ρ → Option α) (f : Option α) : Option α := match x with | none => none | some (.inl a) => g a | some (.inr ()) => f 
theorem k_bx0_some {ρ α : Type} {x : Option (ρ ⊕ (Unit))} {g : ρ → Option α} {f : Option α} {y : α} (h : k_bx0 x g f = some y) : ∃ e, x = some e ∧ (∀ q, e = .inl q → g q = some y) ∧ (e = .inr () → f  = some y) := by
  unfold k_bx0 at h; cases x with
  | none => cases h
  | some u => cases u with
    | inl a => exact ⟨_, rfl, fun q hq => (by cases hq; exact h), fun hq => (by cases hq)⟩
    | inr b => exact ⟨_, rfl, fun q hq => (by cases hq), fun hq => h⟩
def k_bx1 {T0 ρ α : Type} (x : Option (ρ ⊕ (T0))) (g : ρ → Option α) (f : T0 → Option α) : Option α := match x with | none => none | some (.inl a) => g a | some (.inr v0) => f v0
theorem k_bx1_some {T0 ρ α : Type} {x : Option (ρ ⊕ (T0))} {g : ρ → Option α} {f : T0 → Option α} {y : α} (h : k_bx1 x g f = some y) : ∃ e, x = some e ∧ (∀ q, e = .inl q → g q = some y) ∧ (∀ (v0 : T0), e = .inr v0 → f v0 = some y) := by
  unfold k_bx1 at h; cases x with
  | none => cases h
  | some u => cases u with
    | inl a => exact ⟨_, rfl, fun q hq => (by cases hq; exact h), fun v0 hq => (by cases hq)⟩
    | inr b => exact ⟨_, rfl, fun q hq => (by cases hq), fun _ hq => (by cases hq; exact h)⟩
def k_bx2 {T0 T1 ρ α : Type} (x : Option (ρ ⊕ (T0 × T1))) (g : ρ → Option α) (f : T0 → T1 → Option α) : Option α := match x with | none => none | some (.inl a) => g a | some (.inr (v0, v1)) => f v0 v1
theorem k_bx2_some {T0 T1 ρ α : Type} {x : Option (ρ ⊕ (T0 × T1))} {g : ρ → Option α} {f : T0 → T1 → Option α} {y : α} (h : k_bx2 x g f = some y) : ∃ e, x = some e ∧ (∀ q, e = .inl q → g q = some y) ∧ (∀ (v0 : T0) (v1 : T1), e = .inr (v0, v1) → f v0 v1 = some y) := by
  unfold k_bx2 at h; cases x with
  | none => cases h
  | some u => cases u with
    | inl a => exact ⟨_, rfl, fun q hq => (by cases hq; exact h), fun v0 v1 hq => (by cases hq)⟩
    | inr b => obtain ⟨v0, v1⟩ := b; exact ⟨_, rfl, fun q hq => (by cases hq), fun _ _ hq => (by cases hq; exact h)⟩
def k_bx3 {T0 T1 T2 ρ α : Type} (x : Option (ρ ⊕ (T0 × T1 × T2))) (g : ρ → Option α) (f : T0 → T1 → T2 → Option α) : Option α := match x with | none => none | some (.inl a) => g a | some (.inr (v0, v1, v2)) => f v0 v1 v2
theorem k_bx3_some {T0 T1 T2 ρ α : Type} {x : Option (ρ ⊕ (T0 × T1 × T2))} {g : ρ → Option α} {f : T0 → T1 → T2 → Option α} {y : α} (h : k_bx3 x g f = some y) : ∃ e, x = some e ∧ (∀ q, e = .inl q → g q = some y) ∧ (∀ (v0 : T0) (v1 : T1) (v2 : T2), e = .inr (v0, v1, v2) → f v0 v1 v2 = some y) := by
  unfold k_bx3 at h; cases x with
  | none => cases h
  | some u => cases u with
    | inl a => exact ⟨_, rfl, fun q hq => (by cases hq; exact h), fun v0 v1 v2 hq => (by cases hq)⟩
    | inr b => obtain ⟨v0, v1, v2⟩ := b; exact ⟨_, rfl, fun q hq => (by cases hq), fun _ _ _ hq => (by cases hq; exact h)⟩
def k_bx4 {T0 T1 T2 T3 ρ α : Type} (x : Option (ρ ⊕ (T0 × T1 × T2 × T3))) (g : ρ → Option α) (f : T0 → T1 → T2 → T3 → Option α) : Option α := match x with | none => none | some (.inl a) => g a | some (.inr (v0, v1, v2, v3)) => f v0 v1 v2 v3
theorem k_bx4_some {T0 T1 T2 T3 ρ α : Type} {x : Option (ρ ⊕ (T0 × T1 × T2 × T3))} {g : ρ → Option α} {f : T0 → T1 → T2 → T3 → Option α} {y : α} (h : k_bx4 x g f = some y) : ∃ e, x = some e ∧ (∀ q, e = .inl q → g q = some y) ∧ (∀ (v0 : T0) (v1 : T1) (v2 : T2) (v3 : T3), e = .inr (v0, v1, v2, v3) → f v0 v1 v2 v3 = some y) := by
  unfold k_bx4 at h; cases x with
  | none => cases h
  | some u => cases u with
    | inl a => exact ⟨_, rfl, fun q hq => (by cases hq; exact h), fun v0 v1 v2 v3 hq => (by cases hq)⟩
    | inr b => obtain ⟨v0, v1, v2, v3⟩ := b; exact ⟨_, rfl, fun q hq => (by cases hq), fun _ _ _ _ hq => (by cases hq; exact h)⟩
def k_bx5 {T0 T1 T2 T3 T4 ρ α : Type} (x : Option (ρ ⊕ (T0 × T1 × T2 × T3 × T4))) (g : ρ → Option α) (f : T0 → T1 → T2 → T3 → T4 → Option α) : Option α := match x with | none => none | some (.inl a) => g a | some (.inr (v0, v1, v2, v3, v4)) => f v0 v1 v2 v3 v4
theorem k_bx5_some {T0 T1 T2 T3 T4 ρ α : Type} {x : Option (ρ ⊕ (T0 × T1 × T2 × T3 × T4))} {g : ρ → Option α} {f : T0 → T1 → T2 → T3 → T4 → Option α} {y : α} (h : k_bx5 x g f = some y) : ∃ e, x = some e ∧ (∀ q, e = .inl q → g q = some y) ∧ (∀ (v0 : T0) (v1 : T1) (v2 : T2) (v3 : T3) (v4 : T4), e = .inr (v0, v1, v2, v3, v4) → f v0 v1 v2 v3 v4 = some y) := by
  unfold k_bx5 at h; cases x with
  | none => cases h
  | some u => cases u with
    | inl a => exact ⟨_, rfl, fun q hq => (by cases hq; exact h), fun v0 v1 v2 v3 v4 hq => (by cases hq)⟩
    | inr b => obtain ⟨v0, v1, v2, v3, v4⟩ := b; exact ⟨_, rfl, fun q hq => (by cases hq), fun _ _ _ _ _ hq => (by cases hq; exact h)⟩
def k_bx6 {T0 T1 T2 T3 T4 T5 ρ α : Type} (x : Option (ρ ⊕ (T0 × T1 × T2 × T3 × T4 × T5))) (g : ρ → Option α) (f : T0 → T1 → T2 → T3 → T4 → T5 → Option α) : Option α := match x with | none => none | some (.inl a) => g a | some (.inr (v0, v1, v2, v3, v4, v5)) => f v0 v1 v2 v3 v4 v5
theorem k_bx6_some {T0 T1 T2 T3 T4 T5 ρ α : Type} {x : Option (ρ ⊕ (T0 × T1 × T2 × T3 × T4 × T5))} {g : ρ → Option α} {f : T0 → T1 → T2 → T3 → T4 → T5 → Option α} {y : α} (h : k_bx6 x g f = some y) : ∃ e, x = some e ∧ (∀ q, e = .inl q → g q = some y) ∧ (∀ (v0 : T0) (v1 : T1) (v2 : T2) (v3 : T3) (v4 : T4) (v5 : T5), e = .inr (v0, v1, v2, v3, v4, v5) → f v0 v1 v2 v3 v4 v5 = some y) := by
  unfold k_bx6 at h; cases x with
  | none => cases h
  | some u => cases u with
    | inl a => exact ⟨_, rfl, fun q hq => (by cases hq; exact h), fun v0 v1 v2 v3 v4 v5 hq => (by cases hq)⟩
    | inr b => obtain ⟨v0, v1, v2, v3, v4, v5⟩ := b; exact ⟨_, rfl, fun q hq => (by cases hq), fun _ _ _ _ _ _ hq => (by cases hq; exact h)⟩
def k_bx7 {T0 T1 T2 T3 T4 T5 T6 ρ α : Type} (x : Option (ρ ⊕ (T0 × T1 × T2 × T3 × T4 × T5 × T6))) (g : ρ → Option α) (f : T0 → T1 → T2 → T3 → T4 → T5 → T6 → Option α) : Option α := match x with | none => none | some (.inl a) => g a | some (.inr (v0, v1, v2, v3, v4, v5, v6)) => f v0 v1 v2 v3 v4 v5 v6
theorem k_bx7_some {T0 T1 T2 T3 T4 T5 T6 ρ α : Type} {x : Option (ρ ⊕ (T0 × T1 × T2 × T3 × T4 × T5 × T6))} {g : ρ → Option α} {f : T0 → T1 → T2 → T3 → T4 → T5 → T6 → Option α} {y : α} (h : k_bx7 x g f = some y) : ∃ e, x = some e ∧ (∀ q, e = .inl q → g q = some y) ∧ (∀ (v0 : T0) (v1 : T1) (v2 : T2) (v3 : T3) (v4 : T4) (v5 : T5) (v6 : T6), e = .inr (v0, v1, v2, v3, v4, v5, v6) → f v0 v1 v2 v3 v4 v5 v6 = some y) := by
  unfold k_bx7 at h; cases x with
  | none => cases h
  | some u => cases u with
    | inl a => exact ⟨_, rfl, fun q hq => (by cases hq; exact h), fun v0 v1 v2 v3 v4 v5 v6 hq => (by cases hq)⟩
    | inr b => obtain ⟨v0, v1, v2, v3, v4, v5, v6⟩ := b; exact ⟨_, rfl, fun q hq => (by cases hq), fun _ _ _ _ _ _ _ hq => (by cases hq; exact h)⟩
def k_bx8 {T0 T1 T2 T3 T4 T5 T6 T7 ρ α : Type} (x : Option (ρ ⊕ (T0 × T1 × T2 × T3 × T4 × T5 × T6 × T7))) (g : ρ → Option α) (f : T0 → T1 → T2 → T3 → T4 → T5 → T6 → T7 → Option α) : Option α := match x with | none => none | some (.inl a) => g a | some (.inr (v0, v1, v2, v3, v4, v5, v6, v7)) => f v0 v1 v2 v3 v4 v5 v6 v7
theorem k_bx8_some {T0 T1 T2 T3 T4 T5 T6 T7 ρ α : Type} {x : Option (ρ ⊕ (T0 × T1 × T2 × T3 × T4 × T5 × T6 × T7))} {g : ρ → Option α} {f : T0 → T1 → T2 → T3 → T4 → T5 → T6 → T7 → Option α} {y : α} (h : k_bx8 x g f = some y) : ∃ e, x = some e ∧ (∀ q, e = .inl q → g q = some y) ∧ (∀ (v0 : T0) (v1 : T1) (v2 : T2) (v3 : T3) (v4 : T4) (v5 : T5) (v6 : T6) (v7 : T7), e = .inr (v0, v1, v2, v3, v4, v5, v6, v7) → f v0 v1 v2 v3 v4 v5 v6 v7 = some y) := by
  unfold k_bx8 at h; cases x with
  | none => cases h
  | some u => cases u with
    | inl a => exact ⟨_, rfl, fun q hq => (by cases hq; exact h), fun v0 v1 v2 v3 v4 v5 v6 v7 hq => (by cases hq)⟩
    | inr b => obtain ⟨v0, v1, v2, v3, v4, v5, v6, v7⟩ := b; exact ⟨_, rfl, fun q hq => (by cases hq), fun _ _ _ _ _ _ _ _ hq => (by cases hq; exact h)⟩
def k_bx9 {T0 T1 T2 T3 T4 T5 T6 T7 T8 ρ α : Type} (x : Option (ρ ⊕ (T0 × T1 × T2 × T3 × T4 × T5 × T6 × T7 × T8))) (g : ρ → Option α) (f : T0 → T1 → T2 → T3 → T4 → T5 → T6 → T7 → T8 → Option α) : Option α := match x with | none => none | some (.inl a) => g a | some (.inr (v0, v1, v2, v3, v4, v5, v6, v7, v8)) => f v0 v1 v2 v3 v4 v5 v6 v7 v8
theorem k_bx9_some {T0 T1 T2 T3 T4 T5 T6 T7 T8 ρ α : Type} {x : Option (ρ ⊕ (T0 × T1 × T2 × T3 × T4 × T5 × T6 × T7 × T8))} {g : ρ → Option α} {f : T0 → T1 → T2 → T3 → T4 → T5 → T6 → T7 → T8 → Option α} {y : α} (h : k_bx9 x g f = some y) : ∃ e, x = some e ∧ (∀ q, e = .inl q → g q = some y) ∧ (∀ (v0 : T0) (v1 : T1) (v2 : T2) (v3 : T3) (v4 : T4) (v5 : T5) (v6 : T6) (v7 : T7) (v8 : T8), e = .inr (v0, v1, v2, v3, v4, v5, v6, v7, v8) → f v0 v1 v2 v3 v4 v5 v6 v7 v8 = some y) := by
  unfold k_bx9 at h; cases x with
  | none => cases h
  | some u => cases u with
    | inl a => exact ⟨_, rfl, fun q hq => (by cases hq; exact h), fun v0 v1 v2 v3 v4 v5 v6 v7 v8 hq => (by cases hq)⟩
    | inr b => obtain ⟨v0, v1, v2, v3, v4, v5, v6, v7, v8⟩ := b; exact ⟨_, rfl, fun q hq => (by cases hq), fun _ _ _ _ _ _ _ _ _ hq => (by cases hq; exact h)⟩
def k_bx10 {T0 T1 T2 T3 T4 T5 T6 T7 T8 T9 ρ α : Type} (x : Option (ρ ⊕ (T0 × T1 × T2 × T3 × T4 × T5 × T6 × T7 × T8 × T9))) (g : ρ → Option α) (f : T0 → T1 → T2 → T3 → T4 → T5 → T6 → T7 → T8 → T9 → Option α) : Option α := match x with | none => none | some (.inl a) => g a | some (.inr (v0, v1, v2, v3, v4, v5, v6, v7, v8, v9)) => f v0 v1 v2 v3 v4 v5 v6 v7 v8 v9
theorem k_bx10_some {T0 T1 T2 T3 T4 T5 T6 T7 T8 T9 ρ α : Type} {x : Option (ρ ⊕ (T0 × T1 × T2 × T3 × T4 × T5 × T6 × T7 × T8 × T9))} {g : ρ → Option α} {f : T0 → T1 → T2 → T3 → T4 → T5 → T6 → T7 → T8 → T9 → Option α} {y : α} (h : k_bx10 x g f = some y) : ∃ e, x = some e ∧ (∀ q, e = .inl q → g q = some y) ∧ (∀ (v0 : T0) (v1 : T1) (v2 : T2) (v3 : T3) (v4 : T4) (v5 : T5) (v6 : T6) (v7 : T7) (v8 : T8) (v9 : T9), e = .inr (v0, v1, v2, v3, v4, v5, v6, v7, v8, v9) → f v0 v1 v2 v3 v4 v5 v6 v7 v8 v9 = some y) := by
  unfold k_bx10 at h; cases x with
  | none => cases h
  | some u => cases u with
    | inl a => exact ⟨_, rfl, fun q hq => (by cases hq; exact h), fun v0 v1 v2 v3 v4 v5 v6 v7 v8 v9 hq => (by cases hq)⟩
    | inr b => obtain ⟨v0, v1, v2, v3, v4, v5, v6, v7, v8, v9⟩ := b; exact ⟨_, rfl, fun q hq => (by cases hq), fun _ _ _ _ _ _ _ _ _ _ hq => (by cases hq; exact h)⟩
def k_bx11 {T0 T1 T2 T3 T4 T5 T6 T7 T8 T9 T10 ρ α : Type} (x : Option (ρ ⊕ (T0 × T1 × T2 × T3 × T4 × T5 × T6 × T7 × T8 × T9 × T10))) (g : ρ → Option α) (f : T0 → T1 → T2 → T3 → T4 → T5 → T6 → T7 → T8 → T9 → T10 → Option α) : Option α := match x with | none => none | some (.inl a) => g a | some (.inr (v0, v1, v2, v3, v4, v5, v6, v7, v8, v9, v10)) => f v0 v1 v2 v3 v4 v5 v6 v7 v8 v9 v10
theorem k_bx11_some {T0 T1 T2 T3 T4 T5 T6 T7 T8 T9 T10 ρ α : Type} {x : Option (ρ ⊕ (T0 × T1 × T2 × T3 × T4 × T5 × T6 × T7 × T8 × T9 × T10))} {g : ρ → Option α} {f : T0 → T1 → T2 → T3 → T4 → T5 → T6 → T7 → T8 → T9 → T10 → Option α} {y : α} (h : k_bx11 x g f = some y) : ∃ e, x = some e ∧ (∀ q, e = .inl q → g q = some y) ∧ (∀ (v0 : T0) (v1 : T1) (v2 : T2) (v3 : T3) (v4 : T4) (v5 : T5) (v6 : T6) (v7 : T7) (v8 : T8) (v9 : T9) (v10 : T10), e = .inr (v0, v1, v2, v3, v4, v5, v6, v7, v8, v9, v10) → f v0 v1 v2 v3 v4 v5 v6 v7 v8 v9 v10 = some y) := by
  unfold k_bx11 at h; cases x with
  | none => cases h
  | some u => cases u with
    | inl a => exact ⟨_, rfl, fun q hq => (by cases hq; exact h), fun v0 v1 v2 v3 v4 v5 v6 v7 v8 v9 v10 hq => (by cases hq)⟩
    | inr b => obtain ⟨v0, v1, v2, v3, v4, v5, v6, v7, v8, v9, v10⟩ := b; exact ⟨_, rfl, fun q hq => (by cases hq), fun _ _ _ _ _ _ _ _ _ _ _ hq => (by cases hq; exact h)⟩
def k_lt {α β : Type} (e : α) (f : α → Option β) : Option β := f e
theorem k_lt_some {α β : Type} {e : α} {f : α → Option β} {y : β} (h : k_lt e f = some y) : ∃ x, x = e ∧ f x = some y := ⟨e, rfl, h⟩
/-! ===== contract words ===== -/
def k_nl : List (String × Nat × MethodName) := [(RX4, 11, yX7_init), (RX4, 20, yX6_init), (RX4, 27, yX3_init), (RX8, 31, yX2_init), (RX7, 22, yX8_hasBit), (RX5, 34, yX8_draught), (RX6, 34, yX8_roundedUp), (RX6, 57, yX8_hasBit), (RX4, 130, yX8_hasBit), (RX2, 100, yX8_hasBit)]
def k_Nest (U : State) : Prop := ∀ q ∈ k_nl, va_Nw (.methodLinkNest q.1 q.2.1 q.2.2 RX8) U
theorem k_Nest.warm {s U : State} (hW : s.WarmedH U.vm) (h : k_Nest s) : k_Nest U := fun q hq => va_Nw.warmM hW (h q hq)
theorem k_Nest.same {u U : State} (h : u.vm = U.vm) (hZ : k_Nest u) : k_Nest U := fun q hq => va_Nw.same rfl h (hZ q hq)
def k_Pc (D : va_G) (tys : List (ClassId × FieldType)) (ws : va_W) (sz : Nat) (U : State) : Prop := U.heap.size = sz ∧ va_P D vwCl ws U.heap ∧ va_K D vwCl tys U ∧ va_D (fun _ => True) ws ∧ k_Nest U
theorem k_blind {D : va_G} {tys : List (ClassId × FieldType)} {ws : va_W} {sz : Nat} {av : List Value} : FrameBlind (va_Pc av (k_Pc D tys ws sz)) := fun a U g mk q => ⟨q.1, q.2.1, q.2.2.1, va_K.moved (u := U) (U := U.calling g mk a) (Vm.Alike.refl U.vm) q.2.2.2.1, q.2.2.2.2.1, k_Nest.same (u := U) (U := U.calling g mk a) rfl q.2.2.2.2.2⟩
theorem k_pre {D : va_G} {tys : List (ClassId × FieldType)} {wc : va_W} {A : Nat → Prop} {s : State} {H : Heap} (av : List Value) (hK : va_K D vwCl tys s) (hP : va_P D vwCl wc H) (hD : va_D A wc) (hN : k_Nest s) : ∀ U : State, U.heap = H → s.WarmedH U.vm → va_Pc av (k_Pc D tys wc H.size) av.toArray U := fun U hU hW => ⟨rfl, by rw [hU], by rw [hU]; exact hP, va_K.moved hW.alike hK, hD.weaken (fun _ _ _ _ => trivial), hN.warm hW⟩
def k_B (D : va_G) (tys : List (ClassId × FieldType)) (ws : va_W) (A : Nat → Prop) (_ : Unit) (t : State) : Prop := va_P D vwCl ws t.heap ∧ va_K D vwCl tys t ∧ va_D A ws
abbrev k_Qi (D : va_G) (tys : List (ClassId × FieldType)) (ws' : va_W) (A : Nat → Prop) (r : Int32) : Array Value → State → Outcome → State → Prop := va_Qi (fun (r' : Int32) (_ : Unit) => r' = r) (k_B D tys ws' A) A
abbrev k_Qv (D : va_G) (tys : List (ClassId × FieldType)) (ws' : va_W) (A : Nat → Prop) : Array Value → State → Outcome → State → Prop := va_Qv (fun (_ : Unit) => True) (k_B D tys ws' A) A
abbrev k_MI (l : Launch) (y : MethodName) (wl : List Cond) (rm : Room) (D : va_G) (tys : List (ClassId × FieldType)) (av : List Value) (ws ws' : va_W) (r : Int32) : Prop := ∀ sz : Nat, Met l y wl rm (va_Pc av (k_Pc D tys ws sz)) (k_Qi D tys ws' (va_A ws sz) r) 0 0 (va_A ws sz)
abbrev k_MV (l : Launch) (y : MethodName) (wl : List Cond) (rm : Room) (D : va_G) (tys : List (ClassId × FieldType)) (av : List Value) (ws ws' : va_W) : Prop := ∀ sz : Nat, Met l y wl rm (va_Pc av (k_Pc D tys ws sz)) (k_Qv D tys ws' (va_A ws sz)) 0 0 (va_A ws sz)
theorem k_enter {l : Launch} {y : MethodName} {wl wl' : List Cond} {cc : ByteArray} {maxL : Nat} {ret : Option FieldType} {rm : Room} {av : List Value} {D : va_G} {tys : List (ClassId × FieldType)} {ws : va_W} {Qc : (Nat → Prop) → Array Value → State → Outcome → State → Prop}
    (hy : plainName y.cls = true) (hw : wl = Cond.code y cc maxL ret :: wl') (hlen : (lg_sl av).length ≤ maxL) (lv : List (Nat × Value)) (hlv : lv_args 0 av = lv)
    (body : ∀ (p : Program) (e : Env) (s : State) (m : MethodId) (below : List Frame) (meth : Method) (c : Code) (A : Nat → Prop), p.tables.exec = Jvm.exec → c.code = cc → c.maxLocals = maxL → meth.sig.returnType = ret → meth.locks = false → meth.name = y.name → s.vm.findClass y.cls = some m.cls → va_K D vwCl tys s → va_P D vwCl ws s.heap → va_D A ws → (∀ q, s.heap.size ≤ q → A q) → va_S A s.heap s.heap [] → k_Nest s → ∀ (ls : Array Slot) (args : Array Value) (Q : State → Prop), (∀ w ∈ wl, w.before args s = true) → lv_has ls maxL lv → MQ below (Qc A) args s 0 0 A = Q → W p l e rm s m args below meth c s.heap [] 0 0 Q (F0 m 0 ls [])) :
    ∀ sz : Nat, Met l y wl rm (va_Pc av (k_Pc D tys ws sz)) (Qc (va_A ws sz)) 0 0 (va_A ws sz) := by
  intro sz
  refine Met.ofW (cc := cc) (maxL := maxL) (ret := ret) hy hw ?_
  intro p e s m args below meth c s₁ B hml hv
  obtain ⟨rfl, hsz, hP, hK, hD0, hN⟩ := hv
  have hl := lv_entry av (n := maxL) hlen
  rw [hlv] at hl
  rw [lg_entry_eq]
  subst hsz
  exact body p e s m below meth c _ B.exec B.bytes hml B.returns B.notSynchronized (name_of_methodNamed B.named B.method).1 (findClass_of_methodNamed B.named) hK hP hD0.self (fun q h => Or.inr h) va_S.rf hN _ _ _ (atoms_spec (ws := wl) B.pre) hl rfl
/-- the callee's cells put back into the caller's -/
def k_put (ws : va_W) : List Nat → va_W → va_W
  | i :: is, c :: cs => k_put (ws.set i c) is cs
  | _, _ => ws
theorem k_P_all {D : va_G} {cl : List vw_C} {ws : va_W} {H : Heap} : va_P D cl ws H ↔ ∀ q ∈ ws, va_at D cl q H := ⟨fun h q hq => by obtain ⟨i, hi⟩ := List.getElem?_of_mem hq; exact h i q hi, fun h k q hq => h q (List.mem_of_getElem? hq)⟩
theorem k_D_adr {A : Nat → Prop} {ws ws2 : va_W} (h : va_D A ws) (e : ws2.map (fun q => q.1) = ws.map (fun q => q.1)) : va_D A ws2 := by
  have get : ∀ (k : Nat) (q : Nat × va_E), ws2[k]? = some q → ∃ q', ws[k]? = some q' ∧ q'.1 = q.1 := by
    intro k q hq
    have h1 : (ws2.map (fun q => q.1))[k]? = some q.1 := by rw [List.getElem?_map, hq]; rfl
    rw [e, List.getElem?_map] at h1
    cases hw : ws[k]? with
    | none => rw [hw] at h1; cases h1
    | some q' => rw [hw] at h1; exact ⟨q', rfl, Option.some.inj h1⟩
  refine ⟨fun i j p q hp hq hpq => ?_, fun k q hq => ?_⟩
  · obtain ⟨p', h1, h2⟩ := get i p hp
    obtain ⟨q', h3, h4⟩ := get j q hq
    exact h.1 i j p' q' h1 h3 (by rw [h2, h4]; exact hpq)
  · obtain ⟨q', h1, h2⟩ := get k q hq
    rw [← h2]; exact h.2 k q' h1
theorem k_put_mem (w1 : va_W) : ∀ (isC : List Nat) (wc : va_W) (ws : va_W), (∀ q ∈ wc, q ∈ w1) → ∀ (k : Nat) (q : Nat × va_E), (k_put ws isC wc)[k]? = some q → isC.length = wc.length → q ∈ w1 ∨ (ws[k]? = some q ∧ k ∉ isC)
  | [], [], ws, _, k, q, h, _ => Or.inr ⟨h, List.not_mem_nil⟩
  | i :: is, c :: cs, ws, hm, k, q, h, hl => by
    rcases k_put_mem w1 is cs (ws.set i c) (fun q hq => hm q (List.mem_cons_of_mem _ hq)) k q h (by simpa using hl) with g | ⟨g1, g2⟩
    · exact Or.inl g
    · by_cases hik : i = k
      · subst hik
        rw [List.getElem?_set] at g1
        split at g1
        · split at g1
          · cases g1; exact Or.inl (hm _ List.mem_cons_self)
          · cases g1
        · rename_i n; exact absurd rfl n
      · rw [List.getElem?_set_ne hik] at g1
        exact Or.inr ⟨g1, fun hc => by rcases List.mem_cons.mp hc with r | r; exact hik r.symm; exact g2 r⟩
/-- the world behind a call: what the callee didn't hold is unchanged -/
theorem k_after {A0 : Nat → Prop} {D : va_G} {cl : List vw_C} {ws wc w1 : va_W} {H H1 : Heap} (hP : va_P D cl ws H) (hD : va_D A0 ws) (isC : List Nat) (hC : isC.map (fun i => ws[i]?) = wc.map some) (hk : ∀ q : Nat, q < H.size → ¬ va_A wc H.size q → H1[q]? = H[q]?) (hP1 : va_P D cl w1 H1) (hl : isC.length = w1.length) : va_P D cl (k_put ws isC w1) H1 := by
  intro k q hq
  rcases k_put_mem w1 isC w1 ws (fun q h => h) k q hq hl with h | ⟨h1, h2⟩
  · exact k_P_all.mp hP1 q h
  · have hlt := (hP k q h1).lt
    refine (hP k q h1).kept (hk q.1 hlt fun hA => ?_)
    rcases hA with ⟨k2, e, h⟩ | h
    · have h3 : (isC.map (fun i => ws[i]?))[k2]? = some (some (q.1, e)) := by rw [hC, List.getElem?_map, h]; rfl
      rw [List.getElem?_map] at h3
      cases hi : isC[k2]? with
      | none => rw [hi] at h3; cases h3
      | some i =>
        rw [hi] at h3
        have h4 : ws[i]? = some (q.1, e) := Option.some.inj h3
        have := hD.1 k i q (q.1, e) h1 h4 rfl
        subst this
        exact h2 (List.mem_of_getElem? hi)
    · omega
theorem k_after_ro {A0 : Nat → Prop} {D : va_G} {cl : List vw_C} {ws wc : va_W} {H H1 : Heap} (hP : va_P D cl ws H) (hD : va_D A0 ws) (isC : List Nat) (hC : isC.map (fun i => ws[i]?) = wc.map some) (hk : ∀ q : Nat, q < H.size → ¬ va_A wc H.size q → H1[q]? = H[q]?) (hP1 : va_P D cl wc H1) : va_P D cl ws H1 := by
  intro k q hq
  by_cases h2 : k ∈ isC
  · obtain ⟨j, hj⟩ := List.getElem?_of_mem h2
    have h3 : (isC.map (fun i => ws[i]?))[j]? = some (some q) := by rw [List.getElem?_map, hj]; exact congrArg some hq
    rw [hC, List.getElem?_map] at h3
    cases hw : wc[j]? with
    | none => rw [hw] at h3; cases h3
    | some q' => rw [hw] at h3; cases h3; exact hP1 j _ hw
  · have hlt := (hP k q hq).lt
    refine (hP k q hq).kept (hk q.1 hlt fun hA => ?_)
    rcases hA with ⟨k2, e, h⟩ | h
    · have h3 : (isC.map (fun i => ws[i]?))[k2]? = some (some (q.1, e)) := by rw [hC, List.getElem?_map, h]; rfl
      rw [List.getElem?_map] at h3
      cases hi : isC[k2]? with
      | none => rw [hi] at h3; cases h3
      | some i =>
        rw [hi] at h3
        have h4 : ws[i]? = some (q.1, e) := Option.some.inj h3
        have := hD.1 k i q (q.1, e) hq h4 rfl
        subst this
        exact h2 (List.mem_of_getElem? hi)
    · omega
theorem k_sub_P {D : va_G} {cl : List vw_C} {ws wc : va_W} {H : Heap} (hP : va_P D cl ws H) (isC : List Nat) (hC : isC.map (fun i => ws[i]?) = wc.map some) : va_P D cl wc H := by
  intro k q hq
  have h3 : (isC.map (fun i => ws[i]?))[k]? = some (some q) := by rw [hC, List.getElem?_map, hq]; rfl
  rw [List.getElem?_map] at h3
  cases hi : isC[k]? with
  | none => rw [hi] at h3; cases h3
  | some i => rw [hi] at h3; exact hP i q (Option.some.inj h3)
theorem k_sub_D {A : Nat → Prop} {ws wc : va_W} (hD : va_D A ws) (isC : List Nat) (hn : va_nd isC = true) (hC : isC.map (fun i => ws[i]?) = wc.map some) : va_D A wc := hD.sub isC hn hC

section KCALL
variable {p : Program} {l : Launch} {e : Env} {R : Room} {s : State} {m : MethodId} {args : Array Value} {below : List Frame} {meth : Method} {c : Code} {H : Heap} {locs : List Loc} {Q : State → Prop} {D : va_G} {tys : List (ClassId × FieldType)} {A : Nat → Prop} {ws wc w1 ws2 : va_W} {cc bytes : ByteArray} {pc nL maxL index n ci q0 b : Nat} {ls : Array Slot} {rest st0 As : List Value} {r : Int32} {wl Ts : List Cond} {own C host : String} {y : MethodName} {ret : Option FieldType} {rm : Room} {fs : List Value} {qc : vw_C}
theorem k_goi {a : Array Value} (hr : va_Run p l e R s m args below meth c H locs 0 0 0 0 (F0 m pc ls st0) rest (k_Qi D tys w1 (va_A wc H.size) r a) (va_A wc H.size)) (hP : va_P D vwCl ws H) (hD : va_D A ws) (hS : va_S A s.heap H locs) (hA : ∀ q, s.heap.size ≤ q → A q) (isC : List Nat) (hC : isC.map (fun i => ws[i]?) = wc.map some) (hlen : isC.length = w1.length) (h2 : k_put ws isC w1 = ws2) (hadr : ws2.map (fun q => q.1) = ws.map (fun q => q.1))
    (kk : ∀ (H1 : Heap) (locs1 : List Loc), va_P D vwCl ws2 H1 → va_D A ws2 → va_S A s.heap H1 locs1 → W p l e R s m args below meth c H1 locs1 0 0 Q (F0 m (pc + 3) ls (.int r :: rest))) : W p l e R s m args below meth c H locs 0 0 Q (F0 m pc ls st0) := by
  have hFc := va_free hD hS hA isC hC
  refine va_calli hr hS (fun q _ h => hFc q h) hFc (fun r1 u t H1 locs1 ht hvm hw hB hz1 hk1 hS1 => ?_)
  subst hw
  obtain ⟨hP1, -, -⟩ := hB
  rw [ht] at hP1
  exact kk H1 locs1 (h2 ▸ k_after hP hD isC hC hk1 hP1 hlen) (k_D_adr hD hadr) hS1
theorem k_goiR {a : Array Value} (hr : va_Run p l e R s m args below meth c H locs 0 0 0 0 (F0 m pc ls st0) rest (k_Qi D tys wc (va_A wc H.size) r a) (va_A wc H.size)) (hP : va_P D vwCl ws H) (hD : va_D A ws) (hS : va_S A s.heap H locs) (hA : ∀ q, s.heap.size ≤ q → A q) (isC : List Nat) (hC : isC.map (fun i => ws[i]?) = wc.map some)
    (kk : ∀ (H1 : Heap) (locs1 : List Loc), va_P D vwCl ws H1 → va_S A s.heap H1 locs1 → W p l e R s m args below meth c H1 locs1 0 0 Q (F0 m (pc + 3) ls (.int r :: rest))) : W p l e R s m args below meth c H locs 0 0 Q (F0 m pc ls st0) := by
  have hFc := va_free hD hS hA isC hC
  refine va_calli hr hS (fun q _ h => hFc q h) hFc (fun r1 u t H1 locs1 ht hvm hw hB hz1 hk1 hS1 => ?_)
  subst hw
  obtain ⟨hP1, -, -⟩ := hB
  rw [ht] at hP1
  exact kk H1 locs1 (k_after_ro hP hD isC hC hk1 hP1) hS1
theorem k_gov {a : Array Value} (hr : va_Run p l e R s m args below meth c H locs 0 0 0 0 (F0 m pc ls st0) rest (k_Qv D tys w1 (va_A wc H.size) a) (va_A wc H.size)) (hP : va_P D vwCl ws H) (hD : va_D A ws) (hS : va_S A s.heap H locs) (hA : ∀ q, s.heap.size ≤ q → A q) (isC : List Nat) (hC : isC.map (fun i => ws[i]?) = wc.map some) (hlen : isC.length = w1.length) (h2 : k_put ws isC w1 = ws2) (hadr : ws2.map (fun q => q.1) = ws.map (fun q => q.1))
    (kk : ∀ (H1 : Heap) (locs1 : List Loc), va_P D vwCl ws2 H1 → va_D A ws2 → va_S A s.heap H1 locs1 → W p l e R s m args below meth c H1 locs1 0 0 Q (F0 m (pc + 3) ls rest)) : W p l e R s m args below meth c H locs 0 0 Q (F0 m pc ls st0) := by
  have hFc := va_free hD hS hA isC hC
  refine va_callv hr hS (fun q _ h => hFc q h) hFc (fun u t H1 locs1 ht hvm hw hB hz1 hk1 hS1 => ?_)
  skip
  obtain ⟨hP1, -, -⟩ := hB
  rw [ht] at hP1
  exact kk H1 locs1 (h2 ▸ k_after hP hD isC hC hk1 hP1 hlen) (k_D_adr hD hadr) hS1
theorem k_govR {a : Array Value} (hr : va_Run p l e R s m args below meth c H locs 0 0 0 0 (F0 m pc ls st0) rest (k_Qv D tys wc (va_A wc H.size) a) (va_A wc H.size)) (hP : va_P D vwCl ws H) (hD : va_D A ws) (hS : va_S A s.heap H locs) (hA : ∀ q, s.heap.size ≤ q → A q) (isC : List Nat) (hC : isC.map (fun i => ws[i]?) = wc.map some)
    (kk : ∀ (H1 : Heap) (locs1 : List Loc), va_P D vwCl ws H1 → va_S A s.heap H1 locs1 → W p l e R s m args below meth c H1 locs1 0 0 Q (F0 m (pc + 3) ls rest)) : W p l e R s m args below meth c H locs 0 0 Q (F0 m pc ls st0) := by
  have hFc := va_free hD hS hA isC hC
  refine va_callv hr hS (fun q _ h => hFc q h) hFc (fun u t H1 locs1 ht hvm hw hB hz1 hk1 hS1 => ?_)
  skip
  obtain ⟨hP1, -, -⟩ := hB
  rw [ht] at hP1
  exact kk H1 locs1 (k_after_ro hP hD isC hC hk1 hP1) hS1
theorem k_Vi (S : CallFix p m c cc nL s args Ts own) (hM : k_MI l y wl rm D tys (.ref b :: As) wc w1 r) (cw : CallW R s args own C index y bytes maxL ret wl rm 0 0 n) (hK : va_K D vwCl tys s) (hP : va_P D vwCl ws H) (hD : va_D A ws) (hS : va_S A s.heap H locs) (hA : ∀ q, s.heap.size ≤ q → A q) (hN : k_Nest s) (isC : List Nat) (hC : isC.map (fun i => ws[i]?) = wc.map some) (hnd : va_nd isC = true) (hb : wc[q0]? = some (b, .inr (ci, fs))) (hc : vwCl[ci]? = some qc) (hq : qc.1 = C) (hn : As.length = n) (hls : ls.size = nL) (hst : st0 = As.reverse ++ .ref b :: rest) (hW : (rest.map fun v => v.category).sum ≤ 8) (hlen : isC.length = w1.length) (h2 : k_put ws isC w1 = ws2) (hadr : ws2.map (fun q => q.1) = ws.map (fun q => q.1)) (hdg : decode cc pc = .ok (.invokevirtual index, 3))
    (kk : ∀ (H1 : Heap) (locs1 : List Loc), va_P D vwCl ws2 H1 → va_D A ws2 → va_S A s.heap H1 locs1 → W p l e R s m args below meth c H1 locs1 0 0 Q (F0 m (pc + 3) ls (.int r :: rest))) : W p l e R s m args below meth c H locs 0 0 Q (F0 m pc ls st0) := by
  subst hq
  exact k_goi (va_runV S (hM H.size) cw ⟨k_blind, va_recv hK (k_sub_P hP isC hC) hc hb, k_pre _ hK (k_sub_P hP isC hC) (hD.sub isC hnd hC) hN⟩ rfl hn hls hst (lv_room hW) hdg ⟨Nat.zero_le _, Nat.zero_le _⟩) hP hD hS hA isC hC hlen h2 hadr kk
theorem k_ViR (S : CallFix p m c cc nL s args Ts own) (hM : k_MI l y wl rm D tys (.ref b :: As) wc wc r) (cw : CallW R s args own C index y bytes maxL ret wl rm 0 0 n) (hK : va_K D vwCl tys s) (hP : va_P D vwCl ws H) (hD : va_D A ws) (hS : va_S A s.heap H locs) (hA : ∀ q, s.heap.size ≤ q → A q) (hN : k_Nest s) (isC : List Nat) (hC : isC.map (fun i => ws[i]?) = wc.map some) (hnd : va_nd isC = true) (hb : wc[q0]? = some (b, .inr (ci, fs))) (hc : vwCl[ci]? = some qc) (hq : qc.1 = C) (hn : As.length = n) (hls : ls.size = nL) (hst : st0 = As.reverse ++ .ref b :: rest) (hW : (rest.map fun v => v.category).sum ≤ 8) (hdg : decode cc pc = .ok (.invokevirtual index, 3))
    (kk : ∀ (H1 : Heap) (locs1 : List Loc), va_P D vwCl ws H1 → va_S A s.heap H1 locs1 → W p l e R s m args below meth c H1 locs1 0 0 Q (F0 m (pc + 3) ls (.int r :: rest))) : W p l e R s m args below meth c H locs 0 0 Q (F0 m pc ls st0) := by
  subst hq
  exact k_goiR (va_runV S (hM H.size) cw ⟨k_blind, va_recv hK (k_sub_P hP isC hC) hc hb, k_pre _ hK (k_sub_P hP isC hC) (hD.sub isC hnd hC) hN⟩ rfl hn hls hst (lv_room hW) hdg ⟨Nat.zero_le _, Nat.zero_le _⟩) hP hD hS hA isC hC kk
theorem k_Vv (S : CallFix p m c cc nL s args Ts own) (hM : k_MV l y wl rm D tys (.ref b :: As) wc w1) (cw : CallW R s args own C index y bytes maxL ret wl rm 0 0 n) (hK : va_K D vwCl tys s) (hP : va_P D vwCl ws H) (hD : va_D A ws) (hS : va_S A s.heap H locs) (hA : ∀ q, s.heap.size ≤ q → A q) (hN : k_Nest s) (isC : List Nat) (hC : isC.map (fun i => ws[i]?) = wc.map some) (hnd : va_nd isC = true) (hb : wc[q0]? = some (b, .inr (ci, fs))) (hc : vwCl[ci]? = some qc) (hq : qc.1 = C) (hn : As.length = n) (hls : ls.size = nL) (hst : st0 = As.reverse ++ .ref b :: rest) (hW : (rest.map fun v => v.category).sum ≤ 8) (hlen : isC.length = w1.length) (h2 : k_put ws isC w1 = ws2) (hadr : ws2.map (fun q => q.1) = ws.map (fun q => q.1)) (hdg : decode cc pc = .ok (.invokevirtual index, 3))
    (kk : ∀ (H1 : Heap) (locs1 : List Loc), va_P D vwCl ws2 H1 → va_D A ws2 → va_S A s.heap H1 locs1 → W p l e R s m args below meth c H1 locs1 0 0 Q (F0 m (pc + 3) ls rest)) : W p l e R s m args below meth c H locs 0 0 Q (F0 m pc ls st0) := by
  subst hq
  exact k_gov (va_runV S (hM H.size) cw ⟨k_blind, va_recv hK (k_sub_P hP isC hC) hc hb, k_pre _ hK (k_sub_P hP isC hC) (hD.sub isC hnd hC) hN⟩ rfl hn hls hst (lv_room hW) hdg ⟨Nat.zero_le _, Nat.zero_le _⟩) hP hD hS hA isC hC hlen h2 hadr kk
theorem k_VvR (S : CallFix p m c cc nL s args Ts own) (hM : k_MV l y wl rm D tys (.ref b :: As) wc wc) (cw : CallW R s args own C index y bytes maxL ret wl rm 0 0 n) (hK : va_K D vwCl tys s) (hP : va_P D vwCl ws H) (hD : va_D A ws) (hS : va_S A s.heap H locs) (hA : ∀ q, s.heap.size ≤ q → A q) (hN : k_Nest s) (isC : List Nat) (hC : isC.map (fun i => ws[i]?) = wc.map some) (hnd : va_nd isC = true) (hb : wc[q0]? = some (b, .inr (ci, fs))) (hc : vwCl[ci]? = some qc) (hq : qc.1 = C) (hn : As.length = n) (hls : ls.size = nL) (hst : st0 = As.reverse ++ .ref b :: rest) (hW : (rest.map fun v => v.category).sum ≤ 8) (hdg : decode cc pc = .ok (.invokevirtual index, 3))
    (kk : ∀ (H1 : Heap) (locs1 : List Loc), va_P D vwCl ws H1 → va_S A s.heap H1 locs1 → W p l e R s m args below meth c H1 locs1 0 0 Q (F0 m (pc + 3) ls rest)) : W p l e R s m args below meth c H locs 0 0 Q (F0 m pc ls st0) := by
  subst hq
  exact k_govR (va_runV S (hM H.size) cw ⟨k_blind, va_recv hK (k_sub_P hP isC hC) hc hb, k_pre _ hK (k_sub_P hP isC hC) (hD.sub isC hnd hC) hN⟩ rfl hn hls hst (lv_room hW) hdg ⟨Nat.zero_le _, Nat.zero_le _⟩) hP hD hS hA isC hC kk
theorem k_Si (S : CallFix p m c cc nL s args Ts own) (hM : k_MI l y wl rm D tys As wc w1 r) (cw : CallB R s args own index y bytes maxL ret wl rm 0 0 n ∧ (Cond.static y).before args s = true) (hK : va_K D vwCl tys s) (hP : va_P D vwCl ws H) (hD : va_D A ws) (hS : va_S A s.heap H locs) (hA : ∀ q, s.heap.size ≤ q → A q) (hN : k_Nest s) (isC : List Nat) (hC : isC.map (fun i => ws[i]?) = wc.map some) (hnd : va_nd isC = true) (hn : As.length = n) (hls : ls.size = nL) (hst : st0 = As.reverse ++ rest) (hW : (rest.map fun v => v.category).sum ≤ 8) (hlen : isC.length = w1.length) (h2 : k_put ws isC w1 = ws2) (hadr : ws2.map (fun q => q.1) = ws.map (fun q => q.1)) (hdg : decode cc pc = .ok (.invokestatic index, 3))
    (kk : ∀ (H1 : Heap) (locs1 : List Loc), va_P D vwCl ws2 H1 → va_D A ws2 → va_S A s.heap H1 locs1 → W p l e R s m args below meth c H1 locs1 0 0 Q (F0 m (pc + 3) ls (.int r :: rest))) : W p l e R s m args below meth c H locs 0 0 Q (F0 m pc ls st0) := by
  exact k_goi (va_runS S (hM H.size) cw ⟨k_blind, k_pre _ hK (k_sub_P hP isC hC) (hD.sub isC hnd hC) hN⟩ rfl hn hls hst (lv_room hW) hdg ⟨Nat.zero_le _, Nat.zero_le _⟩) hP hD hS hA isC hC hlen h2 hadr kk
theorem k_SiR (S : CallFix p m c cc nL s args Ts own) (hM : k_MI l y wl rm D tys As wc wc r) (cw : CallB R s args own index y bytes maxL ret wl rm 0 0 n ∧ (Cond.static y).before args s = true) (hK : va_K D vwCl tys s) (hP : va_P D vwCl ws H) (hD : va_D A ws) (hS : va_S A s.heap H locs) (hA : ∀ q, s.heap.size ≤ q → A q) (hN : k_Nest s) (isC : List Nat) (hC : isC.map (fun i => ws[i]?) = wc.map some) (hnd : va_nd isC = true) (hn : As.length = n) (hls : ls.size = nL) (hst : st0 = As.reverse ++ rest) (hW : (rest.map fun v => v.category).sum ≤ 8) (hdg : decode cc pc = .ok (.invokestatic index, 3))
    (kk : ∀ (H1 : Heap) (locs1 : List Loc), va_P D vwCl ws H1 → va_S A s.heap H1 locs1 → W p l e R s m args below meth c H1 locs1 0 0 Q (F0 m (pc + 3) ls (.int r :: rest))) : W p l e R s m args below meth c H locs 0 0 Q (F0 m pc ls st0) := by
  exact k_goiR (va_runS S (hM H.size) cw ⟨k_blind, k_pre _ hK (k_sub_P hP isC hC) (hD.sub isC hnd hC) hN⟩ rfl hn hls hst (lv_room hW) hdg ⟨Nat.zero_le _, Nat.zero_le _⟩) hP hD hS hA isC hC kk
theorem k_Sv (S : CallFix p m c cc nL s args Ts own) (hM : k_MV l y wl rm D tys As wc w1) (cw : CallB R s args own index y bytes maxL ret wl rm 0 0 n ∧ (Cond.static y).before args s = true) (hK : va_K D vwCl tys s) (hP : va_P D vwCl ws H) (hD : va_D A ws) (hS : va_S A s.heap H locs) (hA : ∀ q, s.heap.size ≤ q → A q) (hN : k_Nest s) (isC : List Nat) (hC : isC.map (fun i => ws[i]?) = wc.map some) (hnd : va_nd isC = true) (hn : As.length = n) (hls : ls.size = nL) (hst : st0 = As.reverse ++ rest) (hW : (rest.map fun v => v.category).sum ≤ 8) (hlen : isC.length = w1.length) (h2 : k_put ws isC w1 = ws2) (hadr : ws2.map (fun q => q.1) = ws.map (fun q => q.1)) (hdg : decode cc pc = .ok (.invokestatic index, 3))
    (kk : ∀ (H1 : Heap) (locs1 : List Loc), va_P D vwCl ws2 H1 → va_D A ws2 → va_S A s.heap H1 locs1 → W p l e R s m args below meth c H1 locs1 0 0 Q (F0 m (pc + 3) ls rest)) : W p l e R s m args below meth c H locs 0 0 Q (F0 m pc ls st0) := by
  exact k_gov (va_runS S (hM H.size) cw ⟨k_blind, k_pre _ hK (k_sub_P hP isC hC) (hD.sub isC hnd hC) hN⟩ rfl hn hls hst (lv_room hW) hdg ⟨Nat.zero_le _, Nat.zero_le _⟩) hP hD hS hA isC hC hlen h2 hadr kk
theorem k_SvR (S : CallFix p m c cc nL s args Ts own) (hM : k_MV l y wl rm D tys As wc wc) (cw : CallB R s args own index y bytes maxL ret wl rm 0 0 n ∧ (Cond.static y).before args s = true) (hK : va_K D vwCl tys s) (hP : va_P D vwCl ws H) (hD : va_D A ws) (hS : va_S A s.heap H locs) (hA : ∀ q, s.heap.size ≤ q → A q) (hN : k_Nest s) (isC : List Nat) (hC : isC.map (fun i => ws[i]?) = wc.map some) (hnd : va_nd isC = true) (hn : As.length = n) (hls : ls.size = nL) (hst : st0 = As.reverse ++ rest) (hW : (rest.map fun v => v.category).sum ≤ 8) (hdg : decode cc pc = .ok (.invokestatic index, 3))
    (kk : ∀ (H1 : Heap) (locs1 : List Loc), va_P D vwCl ws H1 → va_S A s.heap H1 locs1 → W p l e R s m args below meth c H1 locs1 0 0 Q (F0 m (pc + 3) ls rest)) : W p l e R s m args below meth c H locs 0 0 Q (F0 m pc ls st0) := by
  exact k_govR (va_runS S (hM H.size) cw ⟨k_blind, k_pre _ hK (k_sub_P hP isC hC) (hD.sub isC hnd hC) hN⟩ rfl hn hls hst (lv_room hW) hdg ⟨Nat.zero_le _, Nat.zero_le _⟩) hP hD hS hA isC hC kk
theorem k_Ni (S : CallFix p m c cc nL s args Ts own) (hM : k_MI l y wl rm D tys As wc w1 r) (cw : va_CN R s args own index y host bytes maxL ret wl rm 0 0 n ∧ (Cond.static y).before args s = true ∧ True) (hK : va_K D vwCl tys s) (hP : va_P D vwCl ws H) (hD : va_D A ws) (hS : va_S A s.heap H locs) (hA : ∀ q, s.heap.size ≤ q → A q) (hN : k_Nest s) (isC : List Nat) (hC : isC.map (fun i => ws[i]?) = wc.map some) (hnd : va_nd isC = true) (hn : As.length = n) (hls : ls.size = nL) (hst : st0 = As.reverse ++ rest) (hW : (rest.map fun v => v.category).sum ≤ 8) (hlen : isC.length = w1.length) (h2 : k_put ws isC w1 = ws2) (hadr : ws2.map (fun q => q.1) = ws.map (fun q => q.1)) (hdg : decode cc pc = .ok (.invokestatic index, 3))
    (kk : ∀ (H1 : Heap) (locs1 : List Loc), va_P D vwCl ws2 H1 → va_D A ws2 → va_S A s.heap H1 locs1 → W p l e R s m args below meth c H1 locs1 0 0 Q (F0 m (pc + 3) ls (.int r :: rest))) : W p l e R s m args below meth c H locs 0 0 Q (F0 m pc ls st0) := by
  exact k_goi (va_runSN S (hM H.size) cw ⟨k_blind, k_pre _ hK (k_sub_P hP isC hC) (hD.sub isC hnd hC) hN⟩ rfl hn hls hst (lv_room hW) hdg ⟨Nat.zero_le _, Nat.zero_le _⟩) hP hD hS hA isC hC hlen h2 hadr kk
theorem k_NiR (S : CallFix p m c cc nL s args Ts own) (hM : k_MI l y wl rm D tys As wc wc r) (cw : va_CN R s args own index y host bytes maxL ret wl rm 0 0 n ∧ (Cond.static y).before args s = true ∧ True) (hK : va_K D vwCl tys s) (hP : va_P D vwCl ws H) (hD : va_D A ws) (hS : va_S A s.heap H locs) (hA : ∀ q, s.heap.size ≤ q → A q) (hN : k_Nest s) (isC : List Nat) (hC : isC.map (fun i => ws[i]?) = wc.map some) (hnd : va_nd isC = true) (hn : As.length = n) (hls : ls.size = nL) (hst : st0 = As.reverse ++ rest) (hW : (rest.map fun v => v.category).sum ≤ 8) (hdg : decode cc pc = .ok (.invokestatic index, 3))
    (kk : ∀ (H1 : Heap) (locs1 : List Loc), va_P D vwCl ws H1 → va_S A s.heap H1 locs1 → W p l e R s m args below meth c H1 locs1 0 0 Q (F0 m (pc + 3) ls (.int r :: rest))) : W p l e R s m args below meth c H locs 0 0 Q (F0 m pc ls st0) := by
  exact k_goiR (va_runSN S (hM H.size) cw ⟨k_blind, k_pre _ hK (k_sub_P hP isC hC) (hD.sub isC hnd hC) hN⟩ rfl hn hls hst (lv_room hW) hdg ⟨Nat.zero_le _, Nat.zero_le _⟩) hP hD hS hA isC hC kk
theorem k_Nv (S : CallFix p m c cc nL s args Ts own) (hM : k_MV l y wl rm D tys As wc w1) (cw : va_CN R s args own index y host bytes maxL ret wl rm 0 0 n ∧ (Cond.static y).before args s = true ∧ True) (hK : va_K D vwCl tys s) (hP : va_P D vwCl ws H) (hD : va_D A ws) (hS : va_S A s.heap H locs) (hA : ∀ q, s.heap.size ≤ q → A q) (hN : k_Nest s) (isC : List Nat) (hC : isC.map (fun i => ws[i]?) = wc.map some) (hnd : va_nd isC = true) (hn : As.length = n) (hls : ls.size = nL) (hst : st0 = As.reverse ++ rest) (hW : (rest.map fun v => v.category).sum ≤ 8) (hlen : isC.length = w1.length) (h2 : k_put ws isC w1 = ws2) (hadr : ws2.map (fun q => q.1) = ws.map (fun q => q.1)) (hdg : decode cc pc = .ok (.invokestatic index, 3))
    (kk : ∀ (H1 : Heap) (locs1 : List Loc), va_P D vwCl ws2 H1 → va_D A ws2 → va_S A s.heap H1 locs1 → W p l e R s m args below meth c H1 locs1 0 0 Q (F0 m (pc + 3) ls rest)) : W p l e R s m args below meth c H locs 0 0 Q (F0 m pc ls st0) := by
  exact k_gov (va_runSN S (hM H.size) cw ⟨k_blind, k_pre _ hK (k_sub_P hP isC hC) (hD.sub isC hnd hC) hN⟩ rfl hn hls hst (lv_room hW) hdg ⟨Nat.zero_le _, Nat.zero_le _⟩) hP hD hS hA isC hC hlen h2 hadr kk
theorem k_NvR (S : CallFix p m c cc nL s args Ts own) (hM : k_MV l y wl rm D tys As wc wc) (cw : va_CN R s args own index y host bytes maxL ret wl rm 0 0 n ∧ (Cond.static y).before args s = true ∧ True) (hK : va_K D vwCl tys s) (hP : va_P D vwCl ws H) (hD : va_D A ws) (hS : va_S A s.heap H locs) (hA : ∀ q, s.heap.size ≤ q → A q) (hN : k_Nest s) (isC : List Nat) (hC : isC.map (fun i => ws[i]?) = wc.map some) (hnd : va_nd isC = true) (hn : As.length = n) (hls : ls.size = nL) (hst : st0 = As.reverse ++ rest) (hW : (rest.map fun v => v.category).sum ≤ 8) (hdg : decode cc pc = .ok (.invokestatic index, 3))
    (kk : ∀ (H1 : Heap) (locs1 : List Loc), va_P D vwCl ws H1 → va_S A s.heap H1 locs1 → W p l e R s m args below meth c H1 locs1 0 0 Q (F0 m (pc + 3) ls rest)) : W p l e R s m args below meth c H locs 0 0 Q (F0 m pc ls st0) := by
  exact k_govR (va_runSN S (hM H.size) cw ⟨k_blind, k_pre _ hK (k_sub_P hP isC hC) (hD.sub isC hnd hC) hN⟩ rfl hn hls hst (lv_room hW) hdg ⟨Nat.zero_le _, Nat.zero_le _⟩) hP hD hS hA isC hC kk
theorem k_iret {v : Int32} {ty : FieldType} (hx : p.tables.exec = Jvm.exec) (hb : c.code = cc) (hr : meth.sig.returnType = some ty) (hlocks : meth.locks = false) (hn : narrow ty (.int v) = .int v) (hK : va_K D vwCl tys s) (hP : va_P D vwCl ws H) (hD : va_D A ws) (hS : va_S A s.heap H locs) (hQ : MQ below (k_Qi D tys ws A r) args s 0 0 A = Q) (ev : v = r) (hdg : decode cc pc = .ok (.ireturn, 1)) : W p l e R s m args below meth c H locs 0 0 Q (F0 m pc ls [.int v]) := by
  subst hQ
  exact W.zret hx hb hr hn (fun t ht hW => ⟨⟨v, (), rfl, ev, by rw [ht]; exact hP, va_K.moved hW.alike hK, hD⟩, hS.F ht⟩) hS.2.2 hdg hlocks
theorem k_vret (hx : p.tables.exec = Jvm.exec) (hb : c.code = cc) (hr : meth.sig.returnType = none) (hlocks : meth.locks = false) (hK : va_K D vwCl tys s) (hP : va_P D vwCl ws H) (hD : va_D A ws) (hS : va_S A s.heap H locs) (hQ : MQ below (k_Qv D tys ws A) args s 0 0 A = Q) (hdg : decode cc pc = .ok (.return_, 1)) : W p l e R s m args below meth c H locs 0 0 Q (F0 m pc ls []) := by
  subst hQ
  exact W.vret hx hb hr (fun t ht hW => ⟨⟨(), rfl, trivial, by rw [ht]; exact hP, va_K.moved hW.alike hK, hD⟩, hS.F ht⟩) hS.2.2 hdg hlocks
theorem k_iald (hx : p.tables.exec = Jvm.exec) (hb : c.code = cc) (hK : va_K D vwCl tys s) (hP : va_P D vwCl ws H) (q0 t0 : Nat) {a : Nat} {cA : ClassId} {nn k : Nat} {f : Nat → Int32} {i : Int32} (ha : ws[q0]? = some (a, .inl (cA, nn, .inl f))) (ht : tys[t0]? = some (cA, .int)) (hin : vp_in i nn) (hk : i.toNatClampNeg = k) (hdg : decode cc pc = .ok (.iaload, 1))
    (kk : W p l e R s m args below meth c H locs 0 0 Q (F0 m (pc + 1) ls (.int (f k) :: rest))) : W p l e R s m args below meth c H locs 0 0 Q (F0 m pc ls (.int i :: .ref a :: rest)) := by
  subst hk
  exact va_iald hx hb hK hP q0 t0 ha ht hin hdg kk
theorem k_zald (hx : p.tables.exec = Jvm.exec) (hb : c.code = cc) (hK : va_K D vwCl tys s) (hP : va_P D vwCl ws H) (q0 t0 : Nat) {a : Nat} {cA : ClassId} {nn k : Nat} {f : Nat → Int32} {i : Int32} (ha : ws[q0]? = some (a, .inl (cA, nn, .inl f))) (ht : tys[t0]? = some (cA, .boolean)) (hin : vp_in i nn) (hk : i.toNatClampNeg = k) (hdg : decode cc pc = .ok (.baload, 1))
    (kk : W p l e R s m args below meth c H locs 0 0 Q (F0 m (pc + 1) ls (.int (f k) :: rest))) : W p l e R s m args below meth c H locs 0 0 Q (F0 m pc ls (.int i :: .ref a :: rest)) := by
  subst hk
  exact va_zald hx hb hK hP q0 t0 ha ht hin hdg kk
theorem k_lald (hx : p.tables.exec = Jvm.exec) (hb : c.code = cc) (hK : va_K D vwCl tys s) (hP : va_P D vwCl ws H) (q0 t0 : Nat) {a : Nat} {cA : ClassId} {nn k : Nat} {f : Nat → Int64} {i : Int32} (ha : ws[q0]? = some (a, .inl (cA, nn, .inr (.inl f)))) (ht : tys[t0]? = some (cA, .long)) (hin : vp_in i nn) (hk : i.toNatClampNeg = k) (hdg : decode cc pc = .ok (.laload, 1))
    (kk : W p l e R s m args below meth c H locs 0 0 Q (F0 m (pc + 1) ls (.long (f k) :: rest))) : W p l e R s m args below meth c H locs 0 0 Q (F0 m pc ls (.int i :: .ref a :: rest)) := by
  subst hk
  exact va_lald hx hb hK hP q0 t0 ha ht hin hdg kk
theorem k_iast (hx : p.tables.exec = Jvm.exec) (hb : c.code = cc) (hK : va_K D vwCl tys s) (hP : va_P D vwCl ws H) (hD : va_D A ws) (hS : va_S A s.heap H locs) (q0 t0 : Nat) {a : Nat} {cA : ClassId} {nn k : Nat} {f : Nat → Int32} {i : Int32} {x : Int32} (ha : ws[q0]? = some (a, .inl (cA, nn, .inl (f)))) (ht : tys[t0]? = some (cA, .int)) (hin : vp_in i nn) (hk : i.toNatClampNeg = k) (h2 : ws.set q0 (a, .inl (cA, nn, .inl (upd f k x))) = ws2) (hdg : decode cc pc = .ok (.iastore, 1))
    (kk : ∀ (H1 : Heap) (locs1 : List Loc), va_P D vwCl ws2 H1 → va_D A ws2 → va_S A s.heap H1 locs1 → W p l e R s m args below meth c H1 locs1 0 0 Q (F0 m (pc + 1) ls rest)) : W p l e R s m args below meth c H locs 0 0 Q (F0 m pc ls (.int x :: .int i :: .ref a :: rest)) := by
  subst hk
  subst h2
  exact va_iast hx hb hK hP hD hS q0 t0 ha ht hin hdg kk
theorem k_zast (hx : p.tables.exec = Jvm.exec) (hb : c.code = cc) (hK : va_K D vwCl tys s) (hP : va_P D vwCl ws H) (hD : va_D A ws) (hS : va_S A s.heap H locs) (q0 t0 : Nat) {a : Nat} {cA : ClassId} {nn k : Nat} {f : Nat → Int32} {i : Int32} {x : Int32} (ha : ws[q0]? = some (a, .inl (cA, nn, .inl (f)))) (ht : tys[t0]? = some (cA, .boolean)) (hin : vp_in i nn) (hk : i.toNatClampNeg = k) (h2 : ws.set q0 (a, .inl (cA, nn, .inl (upd f k (vp_nar .boolean x)))) = ws2) (hdg : decode cc pc = .ok (.bastore, 1))
    (kk : ∀ (H1 : Heap) (locs1 : List Loc), va_P D vwCl ws2 H1 → va_D A ws2 → va_S A s.heap H1 locs1 → W p l e R s m args below meth c H1 locs1 0 0 Q (F0 m (pc + 1) ls rest)) : W p l e R s m args below meth c H locs 0 0 Q (F0 m pc ls (.int x :: .int i :: .ref a :: rest)) := by
  subst hk
  subst h2
  exact va_zast hx hb hK hP hD hS q0 t0 ha ht hin hdg kk
theorem k_last (hx : p.tables.exec = Jvm.exec) (hb : c.code = cc) (hK : va_K D vwCl tys s) (hP : va_P D vwCl ws H) (hD : va_D A ws) (hS : va_S A s.heap H locs) (q0 t0 : Nat) {a : Nat} {cA : ClassId} {nn k : Nat} {f : Nat → Int64} {i : Int32} {x : Int64} (ha : ws[q0]? = some (a, .inl (cA, nn, .inr (.inl (f))))) (ht : tys[t0]? = some (cA, .long)) (hin : vp_in i nn) (hk : i.toNatClampNeg = k) (h2 : ws.set q0 (a, .inl (cA, nn, .inr (.inl (vp_updL f k x)))) = ws2) (hdg : decode cc pc = .ok (.lastore, 1))
    (kk : ∀ (H1 : Heap) (locs1 : List Loc), va_P D vwCl ws2 H1 → va_D A ws2 → va_S A s.heap H1 locs1 → W p l e R s m args below meth c H1 locs1 0 0 Q (F0 m (pc + 1) ls rest)) : W p l e R s m args below meth c H locs 0 0 Q (F0 m pc ls (.long x :: .int i :: .ref a :: rest)) := by
  subst hk
  subst h2
  exact va_last hx hb hK hP hD hS q0 t0 ha ht hin hdg kk
theorem k_get {ref : String} {T : u_T} {N : Nat} {a : Nat} (hx : p.tables.exec = Jvm.exec) (hb : c.code = cc) (hts : ∀ w ∈ Ts, w.before args s = true) (hin : ∀ w ∈ u_ws C T N, w ∈ Ts) (hown : s.vm.findClass own = some m.cls) (hK : va_K D vwCl tys s) (hP : va_P D vwCl ws H) (q0 : Nat) (he : ws[q0]? = some (a, .inr (ci, fs))) (hc : vwCl[ci]? = some (C, T, N)) (k : Nat) (hk : k < N) (href : (T k).1 = ref) (hlink : (Cond.fieldLink own index ref (T k).2.1 (T k).2.2.1).before args s = true) {v : Value} (hv : fs[k]? = some v) (hdg : decode cc pc = .ok (.getfield index, 3))
    (kk : W p l e R s m args below meth c H locs 0 0 Q (F0 m (pc + 3) ls (v :: rest))) : W p l e R s m args below meth c H locs 0 0 Q (F0 m pc ls (.ref a :: rest)) := by
  subst href
  exact va_get hx hb hts hin hown hK hP q0 he hc k hk hlink (fun _ h => h) hv hdg kk
theorem k_putf {ref : String} {T : u_T} {N : Nat} {a : Nat} (hx : p.tables.exec = Jvm.exec) (hb : c.code = cc) (hts : ∀ w ∈ Ts, w.before args s = true) (hin : ∀ w ∈ u_ws C T N, w ∈ Ts) (ty0 : Nat → FieldType) (hty : ∀ k, k < N → parseFieldDescriptor (T k).2.2.1 = some (ty0 k)) (hnm : ∀ a, a < N → ∀ b, b < N → a ≠ b → (T a).2.1 ≠ (T b).2.1) (hown : s.vm.findClass own = some m.cls) (hK : va_K D vwCl tys s) (hP : va_P D vwCl ws H) (hD : va_D A ws) (hS : va_S A s.heap H locs) (q0 : Nat) (he : ws[q0]? = some (a, .inr (ci, fs))) (hc : vwCl[ci]? = some (C, T, N)) (k : Nat) (hk : k < N) (href : (T k).1 = ref) (hlink : (Cond.fieldLink own index ref (T k).2.1 (T k).2.2.1).before args s = true) (hfin : (T k).2.2.2 = false) {v : Value} (hn : narrow (ty0 k) v = v) (hfit : fits (ty0 k) v = true) (hl : k < fs.length) (h2 : ws.set q0 (a, .inr (ci, fs.set k v)) = ws2) (hdg : decode cc pc = .ok (.putfield index, 3))
    (kk : ∀ (H1 : Heap) (locs1 : List Loc), va_P D vwCl ws2 H1 → va_D A ws2 → va_S A s.heap H1 locs1 → W p l e R s m args below meth c H1 locs1 0 0 Q (F0 m (pc + 3) ls rest)) : W p l e R s m args below meth c H locs 0 0 Q (F0 m pc ls (v :: .ref a :: rest)) := by
  subst href
  subst h2
  exact va_put hx hb hts hin ty0 hty hnm hown hK hP hD hS q0 he hc k hk hlink (fun _ h => h) hfin (hty k hk) hn hfit hl hdg kk
theorem k_tsw {dflt lo hi : Int} {offs : Array Int} {len tgt j : Nat} {x k : Int32} {off : Int} (hx : p.tables.exec = Jvm.exec) (hb : c.code = cc) (hdg : decode cc pc = .ok (.tableswitch dflt lo hi offs, len)) (hxk : x = k) (h1 : ¬ k.toInt < lo) (h2 : ¬ hi < k.toInt) (hj : (k.toInt - lo).toNat = j) (ho : offs[j]? = some off) (ht : (pc : Int) + off = (tgt : Int)) (kk : W p l e R s m args below meth c H locs 0 0 Q (F0 m tgt ls rest)) : W p l e R s m args below meth c H locs 0 0 Q (F0 m pc ls (.int x :: rest)) := by
  subst hxk
  subst hj
  exact lv_tableIn hx hb hdg h1 h2 ho ht kk
theorem k_topi {x y : Int32} (h : y = x) (k : W p l e R s m args below meth c H locs 0 0 Q (F0 m pc ls (.int y :: rest))) : W p l e R s m args below meth c H locs 0 0 Q (F0 m pc ls (.int x :: rest)) := h ▸ k
theorem k_topl {x y : Int64} (h : y = x) (k : W p l e R s m args below meth c H locs 0 0 Q (F0 m pc ls (.long y :: rest))) : W p l e R s m args below meth c H locs 0 0 Q (F0 m pc ls (.long x :: rest)) := h ▸ k
def k_cpy (n : Nat) (f g : Nat → Int32) : Nat → Int32 := fun j => if j < n then f j else g j
end KCALL
theorem k_bool {x : Int32} (h : x = 0 ∨ x = 1) : narrow .boolean (.int x) = .int x ∧ fits .boolean (.int x) = true := by
  rcases h with rfl | rfl <;> exact ⟨rfl, rfl⟩
theorem k_ne_toInt {x k : Int32} (h : ¬ x = k) : x.toInt ≠ k.toInt := fun q => h (Int32.toInt_inj.mp q)
abbrev k_tys (cI cZ cJ cS : ClassId) : List (ClassId × FieldType) := [(cI, .int), (cZ, .boolean), (cJ, .long), (cS, .object RX4)]
