/-! ===== pure words, evaluated ===== -/
theorem q_ix {α : Type} {n N : Nat} (k : Option α) (h : n < N) (hN : N < 2147483648) : k_ix (nI n) N k = k := if_neg (vp_in_nI h (by omega))
theorem q_ck {α : Type} {c : Prop} [Decidable c] (k : Option α) (h : c) : k_ck c k = k := if_pos h
theorem q_cl {n : Nat} (h : n < 2147483648) : (nI n).toNatClampNeg = n := nI_clamp h
theorem q_ti {n : Nat} (h : n < 2147483648) : (nI n).toInt = (n : Int) := nI_toInt h
theorem q_b1 {T0 α : Type} (f : T0 → Option α) (v0 : T0) : k_b1 (some v0) f = f v0 := rfl
theorem q_b2 {T0 T1 α : Type} (f : T0 → T1 → Option α) (v0 : T0) (v1 : T1) : k_b2 (some (v0, v1)) f = f v0 v1 := rfl
theorem q_b3 {T0 T1 T2 α : Type} (f : T0 → T1 → T2 → Option α) (v0 : T0) (v1 : T1) (v2 : T2) : k_b3 (some (v0, v1, v2)) f = f v0 v1 v2 := rfl
theorem q_b4 {T0 T1 T2 T3 α : Type} (f : T0 → T1 → T2 → T3 → Option α) (v0 : T0) (v1 : T1) (v2 : T2) (v3 : T3) : k_b4 (some (v0, v1, v2, v3)) f = f v0 v1 v2 v3 := rfl
theorem q_b5 {T0 T1 T2 T3 T4 α : Type} (f : T0 → T1 → T2 → T3 → T4 → Option α) (v0 : T0) (v1 : T1) (v2 : T2) (v3 : T3) (v4 : T4) : k_b5 (some (v0, v1, v2, v3, v4)) f = f v0 v1 v2 v3 v4 := rfl
theorem q_bx0l {ρ α : Type} (g : ρ → Option α) (f : Option α) (a : ρ) : k_bx0 (some (.inl a)) g f = g a := rfl
theorem q_bx0r {ρ α : Type} (g : ρ → Option α) (f : Option α) : k_bx0 (some (.inr ())) g f = f := rfl
theorem q_bx1l {T0 ρ α : Type} (g : ρ → Option α) (f : T0 → Option α) (a : ρ) : k_bx1 (some (.inl a)) g f = g a := rfl
theorem q_bx1r {T0 ρ α : Type} (g : ρ → Option α) (f : T0 → Option α) (v0 : T0) : k_bx1 (some (.inr v0)) g f = f v0 := rfl
theorem q_lt1 {α β : Type} (e : α) (f : α → Option β) : k_lt e f = f e := rfl
theorem q_ifge {α : Type} {n i : Nat} [Decidable (nI n ≤ nI i)] (a b : α) (h : i < n) (hn : n < 2147483648) : (if nI n ≤ nI i then a else b) = b := if_neg (nI_ge h hn)
theorem q_ifle {α : Type} {n i : Nat} [Decidable (nI n ≤ nI i)] (a b : α) (h : n ≤ i) (hn : i < 2147483648) : (if nI n ≤ nI i then a else b) = a := if_pos (nI_le h hn)
theorem q_ifp {α : Type} {c : Prop} [Decidable c] (A B : α) : (if (if c then (1 : Int32) else 0) = 0 then A else B) = if c then B else A := by
  by_cases h : c <;> simp [h]
theorem q_ifn {α : Type} {c : Prop} [Decidable c] (A B : α) : (if (if c then (0 : Int32) else 1) = 0 then A else B) = if c then A else B := by
  by_cases h : c <;> simp [h]
theorem q_01p {c : Prop} [Decidable c] : ((if c then (1 : Int32) else 0) = 0 ∨ (if c then (1 : Int32) else 0) = 1) := by
  by_cases h : c <;> simp [h]
theorem q_ck01 {α : Type} {c : Prop} [Decidable c] (k : Option α) : k_ck ((if c then (1 : Int32) else 0) = 0 ∨ (if c then (1 : Int32) else 0) = 1) k = k := q_ck k q_01p
theorem q_leI {a b : Nat} (ha : a < 2147483648) (hb : b < 2147483648) : (nI a ≤ nI b) = (a ≤ b) := propext (nI_leI ha hb)
theorem q_ltI {a b : Nat} (ha : a < 2147483648) (hb : b < 2147483648) : (nI a < nI b) = (a < b) := propext (nI_ltI ha hb)
theorem q_eqI {a b : Nat} (ha : a < 2147483648) (hb : b < 2147483648) : (nI a = nI b) = (a = b) := propext (nI_eq ha hb)
theorem q_neg {n : Nat} (h : n < 2147483648) : (nI n < 0) = False := eq_false (nI_pos h)
theorem q_nlt {a b : Int32} : ¬ a < b ↔ b ≤ a := by rw [Int32.lt_iff_toInt_lt, Int32.le_iff_toInt_le]; omega
theorem q_nle {a b : Int32} : ¬ a ≤ b ↔ b < a := by rw [Int32.lt_iff_toInt_lt, Int32.le_iff_toInt_le]; omega
theorem q_le_anti {a b : Int32} (h : a ≤ b) (h2 : b ≤ a) : a = b := by rw [Int32.le_iff_toInt_le] at h h2; exact Int32.toInt_inj.mp (by omega)
theorem q_o2 (n : Nat) : (2 : Int32) + nI n = nI (2 + n) := nI_add 2 n
theorem q_o5 (n : Nat) : (5 : Int32) + nI n = nI (5 + n) := nI_add 5 n
theorem q_o13 (n : Nat) : (13 : Int32) + nI n = nI (13 + n) := nI_add 13 n
theorem q_o25 (n : Nat) : (25 : Int32) + nI n = nI (25 + n) := nI_add 25 n
theorem q_o37 (n : Nat) : (37 : Int32) + nI n = nI (37 + n) := nI_add 37 n
theorem q_o49 (n : Nat) : (49 : Int32) + nI n = nI (49 + n) := nI_add 49 n
theorem q_o55 (n : Nat) : (55 : Int32) + nI n = nI (55 + n) := nI_add 55 n
theorem q_o61 (n : Nat) : (61 : Int32) + nI n = nI (61 + n) := nI_add 61 n
theorem q_o67 (n : Nat) : (67 : Int32) + nI n = nI (67 + n) := nI_add 67 n
theorem q_o73 (n : Nat) : (73 : Int32) + nI n = nI (73 + n) := nI_add 73 n
theorem q_o85 (n : Nat) : (85 : Int32) + nI n = nI (85 + n) := nI_add 85 n
theorem q_o97 (n : Nat) : (97 : Int32) + nI n = nI (97 + n) := nI_add 97 n
theorem q_o109 (n : Nat) : (109 : Int32) + nI n = nI (109 + n) := nI_add 109 n
theorem q_o121 (n : Nat) : (121 : Int32) + nI n = nI (121 + n) := nI_add 121 n
theorem q_o133 (n : Nat) : (133 : Int32) + nI n = nI (133 + n) := nI_add 133 n
theorem q_o145 (n : Nat) : (145 : Int32) + nI n = nI (145 + n) := nI_add 145 n
theorem q_o157 (n : Nat) : (157 : Int32) + nI n = nI (157 + n) := nI_add 157 n
theorem q_l0 : (0 : Int32) = nI 0 := rfl
theorem q_l1 : (1 : Int32) = nI 1 := rfl
theorem q_l2 : (2 : Int32) = nI 2 := rfl
theorem q_l3 : (3 : Int32) = nI 3 := rfl
theorem q_l4 : (4 : Int32) = nI 4 := rfl
theorem q_l5 : (5 : Int32) = nI 5 := rfl
theorem q_l6 : (6 : Int32) = nI 6 := rfl
theorem q_l8 : (8 : Int32) = nI 8 := rfl
theorem q_l10 : (10 : Int32) = nI 10 := rfl
theorem q_l12 : (12 : Int32) = nI 12 := rfl
theorem q_l95 : (95 : Int32) = nI 95 := rfl
theorem q_l96 : (96 : Int32) = nI 96 := rfl
theorem q_l100 : (100 : Int32) = nI 100 := rfl
theorem q_l169 : (169 : Int32) = nI 169 := rfl
/-! ===== loops ===== -/
theorem q_run {σ ε : Type} {body : σ → Option (σ ⊕ ε)} (st : Nat → σ) (e : ε) (n : Nat) (hs : ∀ i, i < n → body (st i) = some (.inl (st (i + 1)))) (he : body (st n) = some (.inr e)) (hF : n < 100000) : k_lp body k_fuel (st 0) = some e := by
  have key : ∀ m i F, i + m = n → m < F → k_lp body F (st i) = some e := by
    intro m
    induction m with
    | zero =>
      intro i F h1 h2
      obtain ⟨F, rfl⟩ : ∃ f, F = f + 1 := ⟨F - 1, by omega⟩
      have : i = n := by omega
      subst this
      unfold k_lp
      rw [he]
    | succ m ih =>
      intro i F h1 h2
      obtain ⟨F, rfl⟩ : ∃ f, F = f + 1 := ⟨F - 1, by omega⟩
      unfold k_lp
      rw [hs i (by omega)]
      exact ih (i + 1) F (by omega) (by omega)
  exact key n 0 k_fuel (by omega) hF
/-- a loop by an invariant: it ends, and what it ends with is as E says -/
theorem q_lpI {σ ε : Type} {body : σ → Option (σ ⊕ ε)} (I : Nat → σ → Prop) (E : ε → Prop) (n : Nat) (hs : ∀ i s, i < n → I i s → ∃ X, body s = some X ∧ ((∃ s', X = .inl s' ∧ I (i + 1) s') ∨ (∃ e, X = .inr e ∧ E e))) (he : ∀ s, I n s → ∃ e, body s = some (.inr e) ∧ E e) (s : σ) (h0 : I 0 s) (hF : n < 100000) : ∃ e, k_lp body k_fuel s = some e ∧ E e := by
  have key : ∀ m i F s, i + m = n → m < F → I i s → ∃ e, k_lp body F s = some e ∧ E e := by
    intro m
    induction m with
    | zero =>
      intro i F s h1 h2 h3
      obtain ⟨F, rfl⟩ : ∃ f, F = f + 1 := ⟨F - 1, by omega⟩
      have : i = n := by omega
      subst this
      obtain ⟨e, g1, g2⟩ := he s h3
      exact ⟨e, by unfold k_lp; rw [g1], g2⟩
    | succ m ih =>
      intro i F s h1 h2 h3
      obtain ⟨F, rfl⟩ : ∃ f, F = f + 1 := ⟨F - 1, by omega⟩
      obtain ⟨X, g1, g2⟩ := hs i s (by omega) h3
      unfold k_lp
      rw [g1]
      rcases g2 with ⟨s', rfl, g2⟩ | ⟨e, rfl, g2⟩
      · exact ih (i + 1) F s' (by omega) (by omega) g2
      · exact ⟨e, rfl, g2⟩
  exact key n 0 k_fuel s (by omega) hF h0
def q_fold {α : Type} (f : Nat → α → α) (a : α) : Nat → α
  | 0 => a
  | n + 1 => f n (q_fold f a n)
theorem q_fold_cong {α : Type} {f g : Nat → α → α} {a : α} : ∀ {n : Nat}, (∀ i x, i < n → f i x = g i x) → q_fold f a n = q_fold g a n
  | 0, _ => rfl
  | n + 1, h => by
    show f n (q_fold f a n) = g n (q_fold g a n)
    rw [q_fold_cong (fun i x hi => h i x (by omega)), h n _ (by omega)]
theorem q_foldlp {α : Type} {body : α × Int32 → Option ((α × Int32) ⊕ α)} (f : Nat → α → α) (n : Nat) (a : α) (hs : ∀ i x, i < n → body (x, nI i) = some (.inl (f i x, nI i + 1))) (he : ∀ x, body (x, nI n) = some (.inr x)) (hn : n < 100000) : k_lp body k_fuel (a, 0) = some (q_fold f a n) :=
  q_run (fun i => (q_fold f a i, nI i)) _ n (fun i hi => by rw [hs i _ hi, ← nI_succ]; rfl) (he _) hn
def q_sum (f : Nat → Int32) : Nat → Int32
  | 0 => 0
  | n + 1 => q_sum f n + f n
theorem q_sum_cong {f g : Nat → Int32} : ∀ {n : Nat}, (∀ i, i < n → f i = g i) → q_sum f n = q_sum g n
  | 0, _ => rfl
  | n + 1, h => by
    show q_sum f n + f n = q_sum g n + g n
    rw [q_sum_cong (fun i hi => h i (by omega)), h n (by omega)]
theorem q_sumlp {body : Int32 × Int32 → Option ((Int32 × Int32) ⊕ Int32)} (f : Nat → Int32) (n : Nat) (a : Int32) (hs : ∀ i x, i < n → body (x, nI i) = some (.inl (x + f i, nI i + 1))) (he : ∀ x, body (x, nI n) = some (.inr x)) (hn : n < 100000) : k_lp body k_fuel (a, 0) = some (a + q_sum f n) := by
  have h0 : a = a + q_sum f 0 := by show a = a + 0; simp
  have := q_run (body := body) (fun i => (a + q_sum f i, nI i)) (a + q_sum f n) n (fun i hi => by
    rw [hs i _ hi, ← nI_succ, Int32.add_assoc]; rfl) (he _) hn
  rw [← h0] at this
  exact this
theorem q_sum_nat {f : Nat → Int32} {g : Nat → Nat} : ∀ {n : Nat}, (∀ i, i < n → f i = nI (g i)) → q_sum f n = nI (fb_sm g n)
  | 0, _ => rfl
  | n + 1, h => by
    show q_sum f n + f n = nI (fb_sm g n + g n)
    rw [q_sum_nat (fun i hi => h i (by omega)), h n (by omega), nI_add]
theorem q_sum_cnt {f : Nat → Int32} {p : Nat → Bool} : ∀ {n : Nat}, (∀ i, i < n → f i = if p i then 1 else 0) → q_sum f n = nI (fb_ct p n)
  | 0, _ => rfl
  | n + 1, h => by
    show q_sum f n + f n = nI (fb_ct p n + (if p n then 1 else 0))
    rw [q_sum_cnt (fun i hi => h i (by omega)), h n (by omega)]
    cases p n
    · show nI _ + nI 0 = _; rw [nI_add]; rfl
    · show nI _ + nI 1 = _; rw [nI_add]; rfl
/-- the first i < n with c i -/
def q_find {ρ : Type} (c : Nat → Option ρ) : Nat → Option ρ
  | 0 => none
  | n + 1 => match q_find c n with
    | some v => some v
    | none => c n
theorem q_find_none {ρ : Type} {c : Nat → Option ρ} : ∀ {n : Nat}, q_find c n = none ↔ ∀ i, i < n → c i = none
  | 0 => ⟨fun _ i hi => absurd hi (by omega), fun _ => rfl⟩
  | n + 1 => by
    have ih := q_find_none (c := c) (n := n)
    unfold q_find
    cases h : q_find c n with
    | some v =>
      refine ⟨fun h2 => (by cases h2), fun h2 => ?_⟩
      have := ih.mpr (fun i hi => h2 i (by omega))
      rw [h] at this; cases this
    | none =>
      refine ⟨fun h2 i hi => ?_, fun h2 => h2 n (by omega)⟩
      by_cases e : i = n
      · subst e; exact h2
      · exact ih.mp h i (by omega)
theorem q_find_some {ρ : Type} {c : Nat → Option ρ} {v : ρ} : ∀ {n : Nat}, q_find c n = some v ↔ ∃ i, i < n ∧ c i = some v ∧ ∀ j, j < i → c j = none
  | 0 => ⟨fun h => (by cases h), fun ⟨i, hi, _⟩ => absurd hi (by omega)⟩
  | n + 1 => by
    have ih := q_find_some (c := c) (v := v) (n := n)
    have ihn := q_find_none (c := c) (n := n)
    unfold q_find
    cases h : q_find c n with
    | some w =>
      constructor
      · intro h2
        obtain ⟨i, hi, h3⟩ := ih.mp (h.trans h2)
        exact ⟨i, by omega, h3⟩
      · rintro ⟨i, hi, h3, h4⟩
        by_cases e : i = n
        · subst e
          have := ihn.mpr h4
          rw [h] at this; cases this
        · have := ih.mpr ⟨i, by omega, h3, h4⟩
          rw [h] at this; exact this
    | none =>
      constructor
      · intro h2
        exact ⟨n, by omega, h2, ihn.mp h⟩
      · rintro ⟨i, hi, h3, h4⟩
        by_cases e : i = n
        · subst e; exact h3
        · have := ihn.mp h i (by omega)
          rw [h3] at this; cases this
theorem q_find_cong {ρ : Type} {c d : Nat → Option ρ} : ∀ {n : Nat}, (∀ i, i < n → c i = d i) → q_find c n = q_find d n
  | 0, _ => rfl
  | n + 1, h => by unfold q_find; rw [q_find_cong (fun i hi => h i (by omega)), h n (by omega)]
theorem q_find_sn {ρ : Type} {c : Nat → Option ρ} {n : Nat} (h : q_find c n = none) : q_find c (n + 1) = c n := by
  rw [q_find, h]
theorem q_find_ss {ρ : Type} {c : Nat → Option ρ} {n : Nat} {v : ρ} (h : q_find c n = some v) : q_find c (n + 1) = some v := by
  rw [q_find, h]
def q_ans {ρ : Type} : Option ρ → ρ ⊕ Unit
  | some v => .inl v
  | none => .inr ()
theorem q_findlp {ρ : Type} {body : Int32 → Option (Int32 ⊕ (ρ ⊕ Unit))} (c : Nat → Option ρ) (n : Nat) (hs : ∀ i, i < n → body (nI i) = match c i with | none => some (.inl (nI i + 1)) | some v => some (.inr (.inl v))) (he : body (nI n) = some (.inr (.inr ()))) (hn : n < 100000) : k_lp body k_fuel 0 = some (q_ans (q_find c n)) := by
  have key : ∀ m i F, i + m = n → m < F → q_find c i = none → k_lp body F (nI i) = some (q_ans (q_find c n)) := by
    intro m
    induction m with
    | zero =>
      intro i F h1 h2 h3
      obtain ⟨F, rfl⟩ : ∃ f, F = f + 1 := ⟨F - 1, by omega⟩
      have : i = n := by omega
      subst this
      unfold k_lp
      rw [he, h3]; rfl
    | succ m ih =>
      intro i F h1 h2 h3
      obtain ⟨F, rfl⟩ : ∃ f, F = f + 1 := ⟨F - 1, by omega⟩
      unfold k_lp
      rw [hs i (by omega)]
      cases hc : c i with
      | none =>
        show k_lp body F (nI i + 1) = _
        rw [← nI_succ]
        refine ih (i + 1) F (by omega) (by omega) ?_
        unfold q_find; rw [h3]; exact hc
      | some v =>
        show some (Sum.inl v) = _
        have : q_find c n = some v := q_find_some.mpr ⟨i, by omega, hc, q_find_none.mp h3⟩
        rw [this]; rfl
  exact key n 0 k_fuel (by omega) hn rfl
/-- a marker instead of none -/
def q_enc (d : Int32) : Option Nat → Int32
  | none => d
  | some i => nI i
/-! ===== bits ===== -/
theorem bt_1 (i : Nat) : bt 1 i = decide (i = 0) := by
  rcases Nat.lt_or_ge i 32 with h | h
  · exact (by decide +kernel : ∀ i, i < 32 → bt 1 i = decide (i = 0)) i h
  · rw [b_big h, decide_eq_false (by omega)]
theorem q_and1 (y : Int32) : ((y &&& 1) = 0) ↔ bt y 0 = false := by
  constructor
  · intro h
    have h2 : bt (y &&& 1) 0 = bt 0 0 := by rw [h]
    rw [b_and, b_0, bt_1] at h2
    simpa using h2
  · intro h
    apply b_ext
    intro i hi
    rw [b_and, b_0, bt_1]
    rcases Nat.eq_zero_or_pos i with h0 | h0
    · rw [h0, h]; rfl
    · rw [decide_eq_false (by omega), Bool.and_false]
theorem q_and1' (y : Int32) : ((y &&& 1) = 1) ↔ bt y 0 = true := by
  constructor
  · intro h
    have h2 : bt (y &&& 1) 0 = bt 1 0 := by rw [h]
    rw [b_and, bt_1] at h2
    simpa using h2
  · intro h
    apply b_ext
    intro i hi
    rw [b_and, bt_1]
    rcases Nat.eq_zero_or_pos i with h0 | h0
    · rw [h0, h]; rfl
    · rw [decide_eq_false (by omega), Bool.and_false]
theorem q_shr0 (x : Int32) {i : Nat} (hi : i < 32) : bt (x >>> (nI i &&& 31)) 0 = bt x i := by
  rw [b_sshr i hi x (by decide)]; simp [hi]
theorem q_hasBit (x : Int32) {i : Nat} (hi : i < 32) : p_X8_hasBit x (nI i) = some (if bt x i = true then 1 else 0) := by
  unfold p_X8_hasBit
  by_cases h : bt x i = true
  · rw [if_neg (by rw [q_and1, q_shr0 x hi]; simp [h]), if_pos h]
  · rw [if_pos (by rw [q_and1, q_shr0 x hi]; simpa using h), if_neg h]
theorem q_bit1 (x : Int32) {i : Nat} (hi : i < 32) : (((x >>> (nI i &&& 31)) &&& 1) = 1) = (bt x i = true) := propext (by rw [q_and1', q_shr0 x hi])
theorem bt_one (n : Nat) (hn : n < 32) {i : Nat} (hi : i < 32) : bt ((1 : Int32) <<< (nI n &&& 31)) i = decide (i = n) := by
  rw [b_shl n hn 1 hi, bt_1]
  by_cases h : i = n
  · subst h; simp
  · rw [decide_eq_false h]
    by_cases h2 : n ≤ i
    · rw [decide_eq_false (show ¬ i - n = 0 from by omega), Bool.and_false]
    · rw [decide_eq_false h2, Bool.false_and]
theorem bt_not (x : Int32) {i : Nat} (hi : i < 32) : bt (x ^^^ (-1)) i = !bt x i := by
  rw [b_xor, b_m1 i hi]; simp
theorem bt_nI (k : Nat) {i : Nat} (hi : i < 32) : bt (nI k) i = k.testBit i := by
  show (BitVec.ofNat 32 k).getLsbD i = _
  rw [BitVec.getLsbD_ofNat]; simp [hi]
theorem q_ofbits {x : Int32} {n : Nat} (hn : n ≤ 31) (h : ∀ i, i < 32 → n ≤ i → bt x i = false) : ∃ k, k < 2 ^ n ∧ x = nI k ∧ ∀ i, bt x i = k.testBit i := by
  refine ⟨x.toBitVec.toNat, ?_, ?_, fun i => rfl⟩
  · apply Nat.lt_pow_two_of_testBit
    intro i hi
    show bt x i = false
    rcases Nat.lt_or_ge i 32 with h2 | h2
    · exact h i h2 hi
    · exact b_big h2
  · apply Int32.toBitVec_inj.mp
    show x.toBitVec = BitVec.ofNat 32 x.toBitVec.toNat
    simp
set_option maxRecDepth 100000 in
theorem q_bc : ∀ a, a < 64 → ∀ b, b < 64 → p_J6_bitCount_0f7a4 (nI (64 * a + b)) = some (nI (fb_ct (fun i => (64 * a + b).testBit i) 12)) := by decide +kernel
theorem q_bc2 {k : Nat} (h : k < 4096) : p_J6_bitCount_0f7a4 (nI k) = some (nI (fb_ct (fun i => k.testBit i) 12)) := by
  have := q_bc (k / 64) (by omega) (k % 64) (by omega)
  rw [show 64 * (k / 64) + k % 64 = k from by omega] at this
  exact this
theorem fb_ct_cut {p : Nat → Bool} {n N : Nat} (h : n ≤ N) : fb_ct (fun i => decide (i < n) && p i) N = fb_ct p n := by
  obtain ⟨d, rfl⟩ : ∃ d, N = n + d := ⟨N - n, by omega⟩
  rw [fb_ct_split]
  have e1 : fb_ct (fun i => decide (i < n) && p i) n = fb_ct p n := fb_ct_cong (fun k hk => by simp [hk])
  have e2 : fb_ct (fun k => decide (n + k < n) && p (n + k)) d = 0 := fb_ct_zero.mpr (fun k hk => by rw [decide_eq_false (by omega), Bool.false_and])
  rw [e1, e2]; rfl
theorem q_bitCount {x : Int32} {n : Nat} {p : Nat → Bool} (hn : n ≤ 12) (h : ∀ i, i < 32 → bt x i = (decide (i < n) && p i)) : p_J6_bitCount_0f7a4 x = some (nI (fb_ct p n)) := by
  obtain ⟨k, hk, e, hb⟩ := q_ofbits (x := x) (n := 12) (by decide) (fun i hi h2 => by rw [h i hi, decide_eq_false (by omega), Bool.false_and])
  rw [e, q_bc2 hk, ← fb_ct_cut (p := p) hn]
  rw [fb_ct_cong (q := fun i => decide (i < n) && p i) (fun i hi => by rw [← hb i, h i (by omega)])]
/-! ===== within, in ===== -/
theorem q_within (a b c : Int32) : p_X8_within a b c = some (if b ≤ a ∧ a ≤ c then 1 else 0) := by
  unfold p_X8_within
  by_cases h1 : a < b
  · rw [if_pos h1, if_neg (fun h => absurd h1 (q_nlt.mpr h.1))]
  · rw [if_neg h1]
    by_cases h2 : c < a
    · rw [if_pos h2, if_neg (fun h => absurd h2 (q_nlt.mpr h.2))]
    · rw [if_neg h2, if_pos ⟨q_nlt.mp h1, q_nlt.mp h2⟩]
theorem q_in64 (a b c : Int64) : p_X9_in a b c = some (if b ≤ a ∧ a ≤ c then 1 else 0) := by
  unfold p_X9_in
  simp only [lg_cmp_lt, lg_cmp_gt]
  have e1 : ∀ x y : Int64, (¬ x < y) ↔ y ≤ x := fun x y => by rw [Int64.lt_iff_toInt_lt, Int64.le_iff_toInt_le]; omega
  by_cases h1 : a < b
  · rw [if_pos h1, if_neg (fun h => absurd h1 ((e1 a b).mpr h.1))]
  · rw [if_neg h1]
    by_cases h2 : c < a
    · rw [if_pos h2, if_neg (fun h => absurd h2 ((e1 c a).mpr h.2))]
    · rw [if_neg h2, if_pos ⟨(e1 a b).mp h1, (e1 c a).mp h2⟩]
theorem q_in (a b c : Int32) : p_X9_in a.toInt64 b.toInt64 c.toInt64 = some (if b ≤ a ∧ a ≤ c then 1 else 0) := by
  rw [q_in64]; simp only [fa_wide_le]
theorem q_in_0_95 (a : Int32) : p_X9_in a.toInt64 (0) 95 = some (if 0 ≤ a ∧ a ≤ 95 then 1 else 0) := q_in a (0) 95
theorem q_in_0_60 (a : Int32) : p_X9_in a.toInt64 (0) 60 = some (if 0 ≤ a ∧ a ≤ 60 then 1 else 0) := q_in a (0) 60
theorem q_in_1_8 (a : Int32) : p_X9_in a.toInt64 (1) 8 = some (if 1 ≤ a ∧ a ≤ 8 then 1 else 0) := q_in a (1) 8
theorem q_in_0_7 (a : Int32) : p_X9_in a.toInt64 (0) 7 = some (if 0 ≤ a ∧ a ≤ 7 then 1 else 0) := q_in a (0) 7
theorem q_in_1_100 (a : Int32) : p_X9_in a.toInt64 (1) 100 = some (if 1 ≤ a ∧ a ≤ 100 then 1 else 0) := q_in a (1) 100
theorem q_in_0_2 (a : Int32) : p_X9_in a.toInt64 (0) 2 = some (if 0 ≤ a ∧ a ≤ 2 then 1 else 0) := q_in a (0) 2
theorem q_in_1_6 (a : Int32) : p_X9_in a.toInt64 (1) 6 = some (if 1 ≤ a ∧ a ≤ 6 then 1 else 0) := q_in a (1) 6
theorem q_in_1_400 (a : Int32) : p_X9_in a.toInt64 (1) 400 = some (if 1 ≤ a ∧ a ≤ 400 then 1 else 0) := q_in a (1) 400
theorem q_in_1_10 (a : Int32) : p_X9_in a.toInt64 (1) 10 = some (if 1 ≤ a ∧ a ≤ 10 then 1 else 0) := q_in a (1) 10
theorem q_in_0_1 (a : Int32) : p_X9_in a.toInt64 (0) 1 = some (if 0 ≤ a ∧ a ≤ 1 then 1 else 0) := q_in a (0) 1
theorem q_in_1_4 (a : Int32) : p_X9_in a.toInt64 (1) 4 = some (if 1 ≤ a ∧ a ≤ 4 then 1 else 0) := q_in a (1) 4
theorem q_in_0_50 (a : Int32) : p_X9_in a.toInt64 (0) 50 = some (if 0 ≤ a ∧ a ≤ 50 then 1 else 0) := q_in a (0) 50
theorem q_in_0_3 (a : Int32) : p_X9_in a.toInt64 (0) 3 = some (if 0 ≤ a ∧ a ≤ 3 then 1 else 0) := q_in a (0) 3
theorem q_in_m9_9 (a : Int32) : p_X9_in a.toInt64 (-9) 9 = some (if -9 ≤ a ∧ a ≤ 9 then 1 else 0) := q_in a (-9) 9
theorem q_in_0_29 (a : Int32) : p_X9_in a.toInt64 (0) 29 = some (if 0 ≤ a ∧ a ≤ 29 then 1 else 0) := q_in a (0) 29
theorem q_in_m1_1 (a : Int32) : p_X9_in a.toInt64 (-1) 1 = some (if -1 ≤ a ∧ a ≤ 1 then 1 else 0) := q_in a (-1) 1
theorem q_in_1_30 (a : Int32) : p_X9_in a.toInt64 (1) 30 = some (if 1 ≤ a ∧ a ≤ 30 then 1 else 0) := q_in a (1) 30
theorem q_in_0_c (a c : Int32) : p_X9_in a.toInt64 0 c.toInt64 = some (if 0 ≤ a ∧ a ≤ c then 1 else 0) := q_in a 0 c
theorem q_in_m1_c (a c : Int32) : p_X9_in a.toInt64 (-1) c.toInt64 = some (if -1 ≤ a ∧ a ≤ c then 1 else 0) := q_in a (-1) c
theorem q_asNumber (a : Int32) : p_X8_asNumber a = some (if a = 0 then 0 else 1) := by
  unfold p_X8_asNumber
  by_cases h : a = 0 <;> simp [h]
theorem q_isHour (a : Int32) : p_X9_isHour a = some (if 0 ≤ a ∧ a ≤ 95 then 1 else 0) := by
  unfold p_X9_isHour
  rw [show (0 : Int64) = (0 : Int32).toInt64 from by decide, show (95 : Int64) = (95 : Int32).toInt64 from by decide, q_in, q_b1, q_ck01]
theorem q_rng {x : Int32} {a b : Nat} (ha : a < 2147483648) (hb : b < 2147483648) (h : nI a ≤ x ∧ x ≤ nI b) : ∃ j, a ≤ j ∧ j ≤ b ∧ x = nI j := by
  obtain ⟨h1, h2⟩ := h
  rw [Int32.le_iff_toInt_le] at h1 h2
  rw [q_ti ha] at h1
  rw [q_ti hb] at h2
  refine ⟨x.toInt.toNat, by omega, by omega, Int32.toInt_inj.mp ?_⟩
  rw [q_ti (by omega)]; omega
