/-! ===== HOLDS ===== -/
def q_all (p : Nat → Bool) : Nat → Bool
  | 0 => true
  | n + 1 => q_all p n && p n
theorem q_all_iff {p : Nat → Bool} : ∀ {n : Nat}, q_all p n = true ↔ ∀ i, i < n → p i = true
  | 0 => ⟨fun _ i hi => absurd hi (by omega), fun _ => rfl⟩
  | n + 1 => by
    have ih := q_all_iff (p := p) (n := n)
    unfold q_all
    rw [Bool.and_eq_true, ih]
    constructor
    · rintro ⟨h1, h2⟩ i hi
      by_cases e : i = n
      · subst e; exact h2
      · exact h1 i (by omega)
    · intro h
      exact ⟨fun i hi => h i (by omega), h n (by omega)⟩
def s_holds (m ru : Nat → Int32) (a wet : Int32) : Bool := decide (s_force m ru a = 0) || (decide (¬ s_W m = 0) && (s_first m ru (s_share m (s_force m ru a)) wet).isNone)
def R_rl (f g : Nat → Int32) : Prop := f 1 = g 1 ∧ ∀ b, b < 3 → f (5 + b) = g (5 + b)
theorem x_holds {m ru ru' wt ma pr sg : Nat → Int32} {ot ts tas : Int32} (h : k_Rng m) (hp : k_Par m) (hr : R_rl ru' ru) (h2 : ot = nI (k_out m)) (h3 : ts = m 10) (h4 : ∀ i, i < 12 → wt i = m (13 + i)) (ht : tas = m 11) (g0 : ∀ i, i < 6 → ma i = m (49 + i)) (g1 : ∀ i, i < 6 → pr i = m (55 + i)) (g2 : ∀ i, i < 6 → sg i = m (61 + i)) (a wet : Int32) : p_X4_holds ru' ot ts wt (nI (k_wh m)) tas pr sg ma a wet = some (if s_holds m ru a wet = true then 1 else 0) := by
  have hn := (s_na_e h).2.1
  unfold p_X4_holds s_holds
  rw [x_force h hr.1 h2 h3 h4, q_b1]
  by_cases c1 : s_force m ru a = 0
  · rw [if_pos c1]; simp [c1]
  · rw [if_neg c1]
    by_cases c2 : s_W m = 0
    · rw [if_pos (by rw [k_wh_0 h]; exact c2)]; simp [c1, c2]
    · rw [if_neg (by rw [k_wh_0 h]; exact c2), x_first h hp hn ht g0 g1 g2 hr.2, q_b1]
      cases hf : s_first m ru (s_share m (s_force m ru a)) wet with
      | none => rw [if_neg (show ¬ (0 : Int32) ≤ q_enc (-1) none from by decide)]; simp [c2]
      | some i =>
        have hi := (s_first_some hf).1
        rw [if_pos (show (0 : Int32) ≤ q_enc (-1) (some i) from nI_pos' (by omega))]; simp [c1]
theorem s_over_le {m : Nat → Int32} (h : k_Rng m) (hp : k_Par m) {i : Nat} (hi : i < s_na m) {s : Nat} (hs : s ≤ 1980) (wet : Int32) : (s_over m (nI s) wet i ≤ 0) = (s_rope m i (nI s) ≤ s_may m i wet) := by
  obtain ⟨r, e1, h1⟩ := s_rope_n h hp hi hs
  obtain ⟨q, e2, h2⟩ := s_may_n h (i := i) (by have := (s_na_e h).2.1; omega) wet
  unfold s_over
  rw [e1, e2, q_leI (by omega) (by omega)]
  refine propext ?_
  rw [Int32.le_iff_toInt_le, pk_sub_toInt (by omega) (by omega), show (0 : Int32).toInt = 0 from by decide]
  omega
def s_okR (m : Nat → Int32) (sh wet : Int32) (i : Nat) : Bool := decide (m (67 + i) = 0) || decide (s_rope m i sh ≤ s_may m i wet)
def s_okM (m ru : Nat → Int32) (sh : Int32) (b : Nat) : Bool := decide (nI (s_on m b) * sh ≤ ru (5 + b))
def R_pos (ru : Nat → Int32) : Prop := kr (ru 1) 100 1000 ∧ ∀ b, b < 3 → 0 ≤ ru (5 + b)
theorem s_first_none {m ru : Nat → Int32} (h : k_Rng m) (hp : k_Par m) (hr : R_pos ru) {s : Nat} (hs : s ≤ 1980) (wet : Int32) : s_first m ru (nI s) wet = none ↔ (∀ i, i < s_na m → s_okR m (nI s) wet i = true) ∧ (∀ b, b < 3 → s_okM m ru (nI s) b = true) := by
  have hn := (s_na_e h).2.1
  unfold s_first
  rcases s_ro_inv (m := m) (nI s) wet (s_na m) with ⟨h1, -, h3⟩ | ⟨j, h1, h2, h3, -, h5⟩
  · rw [h1]
    show q_find (s_mc m ru (nI s)) 3 = none ↔ _
    rw [q_find_none]
    constructor
    · intro h4
      refine ⟨fun i hi => ?_, fun b hb => ?_⟩
      · unfold s_okR
        by_cases c : m (67 + i) = 1
        · have := h3 i hi c
          rw [s_over_le h hp hi hs] at this
          simp [this]
        · rw [← q_wh1 h (by omega)] at c
          simp [c]
      · have := h4 b hb
        unfold s_mc at this
        unfold s_okM
        by_cases c : nI (s_on m b) * nI s ≤ ru (5 + b)
        · simp [c]
        · rw [if_neg c, s_low_none] at this
          rw [this] at c
          exact absurd (by rw [nI_0, Int32.zero_mul]; exact hr.2 b hb) c
    · rintro ⟨-, h4⟩ b hb
      have := h4 b hb
      unfold s_okM at this
      unfold s_mc
      rw [if_pos (by simpa using this)]
  · rw [h2]
    show some j = none ↔ _
    refine ⟨fun e => (by cases e), fun h4 => ?_⟩
    have := h4.1 j h1
    unfold s_okR at this
    rw [h3] at this
    have h6 : s_rope m j (nI s) ≤ s_may m j wet := by
      rcases Bool.or_eq_true _ _ |>.mp this with e | e
      · simp at e
      · simpa using e
    rw [← s_over_le h hp h1 hs] at h6
    rw [Int32.lt_iff_toInt_lt] at h5
    rw [Int32.le_iff_toInt_le] at h6
    omega
theorem s_first_0 {m ru : Nat → Int32} (h : k_Rng m) (hp : k_Par m) (hr : R_pos ru) (wet : Int32) : s_first m ru 0 wet = none := by
  have hn := (s_na_e h).2.1
  refine (s_first_none h hp hr (s := 0) (by omega) wet).mpr ⟨fun i hi => ?_, fun b hb => ?_⟩
  · obtain ⟨r, e1, h1⟩ := s_rope_n h hp hi (s := 0) (by omega)
    obtain ⟨q, e2, h2⟩ := s_may_n h (i := i) (by omega) wet
    unfold s_okR
    rw [e1, e2]
    have : nI r ≤ nI q := nI_le (by omega) (by omega)
    simp [this]
  · unfold s_okM
    rw [nI_0]
    have := hr.2 b hb
    simp [this]
theorem y_holds20 {m ru : Nat → Int32} (h : k_Rng m) (hp : k_Par m) (a wet : Int32) (t : Bool) : lj_X9_holds_20 m ru a wet (if t then 1 else 0) = some (if (t && q_all (s_okR m (s_share m (s_force m ru a)) wet) (s_na m) && q_all (s_okM m ru (s_share m (s_force m ru a))) 3) = true then 1 else 0) := by
  obtain ⟨e11, hn, -⟩ := s_na_e h
  have k1 : k_lp (fun s : Int32 × Int32 => lb_X9_holds_24 m ru a wet s.1 s.2) k_fuel ((if t then 1 else 0), 0) = some (if (t && q_all (s_okR m (s_share m (s_force m ru a)) wet) (s_na m)) = true then 1 else 0) := by
    have := q_run (body := fun s : Int32 × Int32 => lb_X9_holds_24 m ru a wet s.1 s.2) (fun k => ((if (t && q_all (s_okR m (s_share m (s_force m ru a)) wet) k) = true then (1 : Int32) else 0), nI k)) (if (t && q_all (s_okR m (s_share m (s_force m ru a)) wet) (s_na m)) = true then 1 else 0) (s_na m) (fun i hi => by
      show lb_X9_holds_24 m ru a wet (if (t && q_all (s_okR m (s_share m (s_force m ru a)) wet) i) = true then (1 : Int32) else 0) (nI i) = some (Sum.inl ((if (t && (q_all (s_okR m (s_share m (s_force m ru a)) wet) i && s_okR m (s_share m (s_force m ru a)) wet i)) = true then (1 : Int32) else 0), nI (i + 1)))
      unfold lb_X9_holds_24
      rw [e11, q_ifge _ _ hi (by omega), q_ifp, q_o67, q_ix _ (by omega) (by omega), q_cl (by omega), y_ropeOf h hp ru hi, q_b1, y_may (by omega), q_b1, nI_succ, ← Bool.and_assoc]
      cases hq : (t && q_all (s_okR m (s_share m (s_force m ru a)) wet) i) with
      | false => simp
      | true =>
        unfold s_okR
        by_cases c : m (67 + i) = 0
        · simp [c]
        · by_cases c2 : s_may m i wet < s_rope m i (s_share m (s_force m ru a))
          · have c3 : ¬ s_rope m i (s_share m (s_force m ru a)) ≤ s_may m i wet := fun hh => absurd c2 (q_nlt.mpr hh)
            simp [c, c2, c3]
          · have c3 := q_nlt.mp c2
            simp [c, c2, c3]) (by
      show lb_X9_holds_24 m ru a wet _ (nI (s_na m)) = _
      unfold lb_X9_holds_24
      rw [e11, q_ifle _ _ (Nat.le_refl _) (by omega)]) (by omega)
    simpa [q_all, nI_0] using this
  have k2 : ∀ t2 : Bool, k_lp (fun s : Int32 × Int32 => lb_X9_holds_85 m ru a s.1 s.2) k_fuel ((if t2 = true then 1 else 0), 0) = some (if (t2 && q_all (s_okM m ru (s_share m (s_force m ru a))) 3) = true then 1 else 0) := by
    intro t2
    have := q_run (body := fun s : Int32 × Int32 => lb_X9_holds_85 m ru a s.1 s.2) (fun k => ((if (t2 && q_all (s_okM m ru (s_share m (s_force m ru a))) k) = true then (1 : Int32) else 0), nI k)) (if (t2 && q_all (s_okM m ru (s_share m (s_force m ru a))) 3) = true then 1 else 0) 3 (fun i hi => by
      show lb_X9_holds_85 m ru a (if (t2 && q_all (s_okM m ru (s_share m (s_force m ru a))) i) = true then (1 : Int32) else 0) (nI i) = some (Sum.inl ((if (t2 && (q_all (s_okM m ru (s_share m (s_force m ru a))) i && s_okM m ru (s_share m (s_force m ru a)) i)) = true then (1 : Int32) else 0), nI (i + 1)))
      unfold lb_X9_holds_85
      rw [show (3 : Int32) = nI 3 from rfl, q_ifge _ _ hi (by omega), q_ifp, y_mastOf h, q_b1, q_o5, q_ix _ (by omega) (by omega), q_cl (by omega), nI_succ, ← Bool.and_assoc]
      cases hq : (t2 && q_all (s_okM m ru (s_share m (s_force m ru a))) i) with
      | false => simp
      | true =>
        unfold s_okM
        by_cases c2 : ru (5 + i) < nI (s_on m i) * s_share m (s_force m ru a)
        · have c3 : ¬ nI (s_on m i) * s_share m (s_force m ru a) ≤ ru (5 + i) := fun hh => absurd c2 (q_nlt.mpr hh)
          simp [c2, c3]
        · have c3 := q_nlt.mp c2
          simp [c2, c3]) (by
      show lb_X9_holds_85 m ru a _ (nI 3) = _
      unfold lb_X9_holds_85
      rw [show (3 : Int32) = nI 3 from rfl, q_ifle _ _ (Nat.le_refl _) (by omega)]) (by omega)
    simpa [q_all, nI_0] using this
  unfold lj_X9_holds_20
  rw [k1, q_b1, k2, q_b1, q_ck01]
theorem y_holds {m ru : Nat → Int32} (h : k_Rng m) (hp : k_Par m) (hr : R_pos ru) {a : Int32} (ha : kr a (-9) 9) (wet : Int32) : p_X9_holds m ru a wet = some (if s_holds m ru a wet = true then 1 else 0) := by
  have hw := s_W_le h
  obtain ⟨f, ef, hf, hf0⟩ := s_force_n h hr.1 ha
  obtain ⟨s, es, hs, hs0, -⟩ := s_share_n h hf
  have hall : (q_all (s_okR m (s_share m (s_force m ru a)) wet) (s_na m) && q_all (s_okM m ru (s_share m (s_force m ru a))) 3) = (s_first m ru (s_share m (s_force m ru a)) wet).isNone := by
    rw [ef, es, Bool.eq_iff_iff, Bool.and_eq_true, q_all_iff, q_all_iff, ← s_first_none h hp hr (by omega) wet, Option.isNone_iff_eq_none]
  unfold p_X9_holds s_holds
  rw [y_wholes h, q_b1]
  have e20 := fun t => y_holds20 (ru := ru) h hp a wet t
  rcases Nat.eq_zero_or_pos (s_W m) with c | c
  · rw [c, if_neg (by decide), y_force h, q_b1]
    by_cases c1 : s_force m ru a = 0
    · rw [if_pos c1]
      have := e20 true
      rw [if_pos rfl] at this
      rw [this, Bool.and_assoc, hall, c1]
      have e0 : s_share m 0 = 0 := by unfold s_share; rw [if_pos c]
      rw [e0, s_first_0 h hp hr]; simp
    · rw [if_neg c1]
      have := e20 false
      rw [if_neg (by decide)] at this
      rw [this]; simp [c1]
  · rw [if_pos (by show nI 0 < _; rw [q_ltI (by omega) (by omega)]; exact c)]
    have := e20 true
    rw [if_pos rfl] at this
    rw [this, Bool.and_assoc, hall]
    by_cases c1 : s_force m ru a = 0
    · have f0 : f = 0 := by
        rw [ef, ← nI_0, nI_eq (by omega) (by omega)] at c1; exact c1
      rw [ef, es, hs0 f0, f0]
      rw [show nI 0 = 0 from rfl, s_first_0 h hp hr]; simp
    · have : ¬ s_W m = 0 := by omega
      simp [c1, this]
theorem s_holds_0 {m ru : Nat → Int32} {wet : Int32} {a : Int32} (h : s_force m ru a = 0) : s_holds m ru a wet = true := by
  unfold s_holds; simp [h]
theorem s_force_0 (m ru : Nat → Int32) : s_force m ru 0 = 0 := by
  unfold s_force
  rw [if_pos (by decide)]
  rw [Int32.mul_zero]; decide
