/-! ===== what a rope takes and may ===== -/
def s_rope (m : Nat → Int32) (i : Nat) (sh : Int32) : Int32 := (sh + m (55 + i) - 1) / m (55 + i)
def s_may (m : Nat → Int32) (i : Nat) (wet : Int32) : Int32 := if wet = 0 then m (61 + i) else m (61 + i) * 3 / 4
theorem q_par {m : Nat → Int32} (h : k_Rng m) (hp : k_Par m) {i : Nat} (hi : i < s_na m) : ∃ p : Nat, m (55 + i) = nI p ∧ 1 ≤ p ∧ p ≤ 6 := by
  obtain ⟨e11, hn, e2⟩ := s_na_e h
  obtain ⟨p, h1, h2, h3, -⟩ := kr_nI (rg_pr h (i := i) (by omega)) (by decide) (by decide)
  have := hp i (by omega)
  exact ⟨p, h1, by omega, by omega⟩
theorem s_rope_n {m : Nat → Int32} (h : k_Rng m) (hp : k_Par m) {i : Nat} (hi : i < s_na m) {s : Nat} (hs : s ≤ 1980) : ∃ r : Nat, s_rope m i (nI s) = nI r ∧ r ≤ s := by
  obtain ⟨p, e, h1, h2⟩ := q_par h hp hi
  refine ⟨(s + p - 1) / p, ?_, q_up_le h1⟩
  unfold s_rope
  rw [e, q_up (by omega) h1 (by omega)]
theorem s_may_n {m : Nat → Int32} (h : k_Rng m) {i : Nat} (hi : i < 6) (wet : Int32) : ∃ r : Nat, s_may m i wet = nI r ∧ r ≤ 400 := by
  obtain ⟨g, e, -, h2, -⟩ := kr_nI (rg_sg h hi) (by decide) (by decide)
  unfold s_may
  by_cases c : wet = 0
  · rw [if_pos c]; exact ⟨g, e, by omega⟩
  · rw [if_neg c]
    refine ⟨g * 3 / 4, ?_, by omega⟩
    rw [e, show (3 : Int32) = nI 3 from rfl, pk_mul, show (4 : Int32) = nI 4 from rfl, pk_div (by omega) (by omega) (by omega)]
theorem x_ropeTakes {m pr : Nat → Int32} (h : k_Rng m) (hp : k_Par m) {i : Nat} (hi : i < s_na m) (h1 : pr i = m (55 + i)) (sh : Int32) : p_X6_ropeTakes pr (nI i) sh = some (s_rope m i sh) := by
  have hn := (s_na_e h).2.1
  obtain ⟨p, e, h3, h4⟩ := q_par h hp hi
  unfold p_X6_ropeTakes p_X8_roundedUp s_rope
  rw [q_ix _ (by omega) (by omega), q_cl (by omega), h1, e, if_pos (by show nI 0 < _; rw [q_ltI (by omega) (by omega)]; exact h3), q_ck _ (nI_ne0 h3 (by omega)), q_b1]
theorem y_ropeOf {m : Nat → Int32} (h : k_Rng m) (hp : k_Par m) (ru : Nat → Int32) {i : Nat} (hi : i < s_na m) (a : Int32) : p_X9_ropeOf m ru (nI i) a = some (s_rope m i (s_share m (s_force m ru a))) := by
  have hn := (s_na_e h).2.1
  obtain ⟨p, e, h3, h4⟩ := q_par h hp hi
  unfold p_X9_ropeOf p_X9_up s_rope
  rw [y_takes h, q_b1, q_o55, q_ix _ (by omega) (by omega), q_cl (by omega), e, q_ck _ (nI_ne0 h3 (by omega)), q_b1]
theorem x_ropeMay {m sg : Nat → Int32} {i : Nat} (hi : i < 6) (h1 : sg i = m (61 + i)) (wet : Int32) : p_X6_ropeMay sg (nI i) wet = some (s_may m i wet) := by
  unfold p_X6_ropeMay s_may
  rw [q_ix _ (by omega) (by omega), q_ix _ (by omega) (by omega), q_cl (by omega), h1]
  by_cases c : wet = 0 <;> simp [c]
theorem y_may {m : Nat → Int32} {i : Nat} (hi : i < 6) (wet : Int32) : p_X9_may m (nI i) wet = some (s_may m i wet) := by
  unfold p_X9_may s_may
  rw [q_o61, q_ix _ (by omega) (by omega), q_ix _ (by omega) (by omega), q_cl (by omega)]
  by_cases c : wet = 0 <;> simp [c]
/-! ===== the rope that is over most ===== -/
def s_over (m : Nat → Int32) (sh wet : Int32) (i : Nat) : Int32 := s_rope m i sh - s_may m i wet
def s_ro (m : Nat → Int32) (sh wet : Int32) : Nat → Int32 × Option Nat
  | 0 => (0, none)
  | k + 1 => if m (67 + k) = 1 ∧ ¬ s_over m sh wet k ≤ (s_ro m sh wet k).1 then (s_over m sh wet k, some k) else s_ro m sh wet k
theorem s_ro_inv {m : Nat → Int32} (sh wet : Int32) : ∀ k : Nat, ((s_ro m sh wet k).2 = none ∧ (s_ro m sh wet k).1 = 0 ∧ ∀ i, i < k → m (67 + i) = 1 → s_over m sh wet i ≤ 0) ∨ (∃ i, i < k ∧ (s_ro m sh wet k).2 = some i ∧ m (67 + i) = 1 ∧ 0 < (s_ro m sh wet k).1 ∧ 0 < s_over m sh wet i)
  | 0 => Or.inl ⟨rfl, rfl, fun i hi => absurd hi (by omega)⟩
  | k + 1 => by
    have ih := s_ro_inv (m := m) sh wet k
    unfold s_ro
    by_cases c : m (67 + k) = 1 ∧ ¬ s_over m sh wet k ≤ (s_ro m sh wet k).1
    · rw [if_pos c]
      refine Or.inr ⟨k, by omega, rfl, c.1, ?_, ?_⟩ <;>
      · have c2 := q_nle.mp c.2
        show 0 < s_over m sh wet k
        rcases ih with ⟨-, h2, -⟩ | ⟨i, -, -, -, h2, -⟩
        · rw [h2] at c2; exact c2
        · rw [Int32.lt_iff_toInt_lt] at *; omega
    · rw [if_neg c]
      rcases ih with ⟨h1, h2, h3⟩ | ⟨i, h1, h2, h3, h4, h5⟩
      · refine Or.inl ⟨h1, h2, fun i hi hw => ?_⟩
        by_cases e : i = k
        · subst e
          rw [h2] at c
          exact Classical.byContradiction fun hh => c ⟨hw, hh⟩
        · exact h3 i (by omega) hw
      · exact Or.inr ⟨i, by omega, h2, h3, h4, h5⟩
theorem x_mostOver {m pr sg : Nat → Int32} {tas : Int32} (h : k_Rng m) (hp : k_Par m) (ht : tas = m 11) (h1 : ∀ i, i < 6 → pr i = m (55 + i)) (h2 : ∀ i, i < 6 → sg i = m (61 + i)) (sh wet : Int32) : p_X6_ropeMostOver (nI (k_wh m)) tas pr sg sh wet = some (q_enc (-1) (s_ro m sh wet (s_na m)).2) := by
  obtain ⟨e11, hn, -⟩ := s_na_e h
  subst ht
  have key : k_lp (fun s : Int32 × Int32 × Int32 => lb_X6_ropeMostOver_8 (m 11) pr sh sg wet (nI (k_wh m)) s.1 s.2.1 s.2.2) k_fuel (0, (-1), 0) = some (q_enc (-1) (s_ro m sh wet (s_na m)).2) := by
    refine q_run (fun k => ((s_ro m sh wet k).1, q_enc (-1) (s_ro m sh wet k).2, nI k)) _ (s_na m) (fun i hi => ?_) ?_ (by omega)
    · show lb_X6_ropeMostOver_8 (m 11) pr sh sg wet (nI (k_wh m)) (s_ro m sh wet i).1 (q_enc (-1) (s_ro m sh wet i).2) (nI i) = _
      unfold lb_X6_ropeMostOver_8
      rw [e11, q_ifge _ _ hi (by omega), x_ropeTakes h hp hi (h1 i (by omega)), q_b1, x_ropeMay (by omega) (h2 i (by omega)), q_b1, q_hasBit _ (by omega), q_b1, q_ifp, k_wh_bt h (by omega)]
      show _ = some (Sum.inl ((s_ro m sh wet (i + 1)).1, q_enc (-1) (s_ro m sh wet (i + 1)).2, nI (i + 1)))
      rw [nI_succ, s_ro]
      by_cases c : m (67 + i) = 1
      · rw [if_pos (by simp [hi, c])]
        by_cases c2 : s_over m sh wet i ≤ (s_ro m sh wet i).1
        · rw [if_neg (c := m (67 + i) = 1 ∧ ¬ s_over m sh wet i ≤ (s_ro m sh wet i).1) (fun hh => hh.2 c2)]
          exact if_pos c2
        · rw [if_pos (c := m (67 + i) = 1 ∧ ¬ s_over m sh wet i ≤ (s_ro m sh wet i).1) ⟨c, c2⟩]
          exact if_neg c2
      · rw [if_neg (by simp [c]), if_neg (c := m (67 + i) = 1 ∧ ¬ s_over m sh wet i ≤ (s_ro m sh wet i).1) (fun hh => c hh.1)]
    · show lb_X6_ropeMostOver_8 (m 11) pr sh sg wet (nI (k_wh m)) _ _ (nI (s_na m)) = _
      unfold lb_X6_ropeMostOver_8
      rw [e11, q_ifle _ _ (Nat.le_refl _) (by omega)]
  unfold p_X6_ropeMostOver
  rw [key, q_b1]
theorem y_mostOver {m ru : Nat → Int32} (h : k_Rng m) (hp : k_Par m) (wet : Int32) : k_lp (fun s : Int32 × Int32 × Int32 => lb_X9_part_8 m ru wet s.1 s.2.1 s.2.2) k_fuel (0, (-4), 0) = some ((s_ro m (s_share m (s_force m ru (m 1))) wet (s_na m)).1, q_enc (-4) (s_ro m (s_share m (s_force m ru (m 1))) wet (s_na m)).2) := by
  obtain ⟨e11, hn, -⟩ := s_na_e h
  generalize hsh : s_share m (s_force m ru (m 1)) = sh
  refine q_run (fun k => ((s_ro m sh wet k).1, q_enc (-4) (s_ro m sh wet k).2, nI k)) _ (s_na m) (fun i hi => ?_) ?_ (by omega)
  · show lb_X9_part_8 m ru wet (s_ro m sh wet i).1 (q_enc (-4) (s_ro m sh wet i).2) (nI i) = _
    unfold lb_X9_part_8
    rw [e11, q_ifge _ _ hi (by omega), q_o67, q_ix _ (by omega) (by omega), q_cl (by omega), y_ropeOf h hp ru hi, q_b1, y_may (by omega), q_b1, hsh]
    show _ = some (Sum.inl ((s_ro m sh wet (i + 1)).1, q_enc (-4) (s_ro m sh wet (i + 1)).2, nI (i + 1)))
    rw [nI_succ, s_ro]
    by_cases c : m (67 + i) = 1
    · rw [if_pos c]
      by_cases c2 : s_over m sh wet i ≤ (s_ro m sh wet i).1
      · rw [if_neg (c := m (67 + i) = 1 ∧ ¬ s_over m sh wet i ≤ (s_ro m sh wet i).1) (fun hh => hh.2 c2)]
        exact if_pos c2
      · rw [if_pos (c := m (67 + i) = 1 ∧ ¬ s_over m sh wet i ≤ (s_ro m sh wet i).1) ⟨c, c2⟩]
        exact if_neg c2
    · rw [if_neg c, if_neg (c := m (67 + i) = 1 ∧ ¬ s_over m sh wet i ≤ (s_ro m sh wet i).1) (fun hh => c hh.1)]
      have : (0 : Int32) ≤ (s_ro m sh wet i).1 := by
        rcases s_ro_inv (m := m) sh wet i with ⟨-, h2, -⟩ | ⟨_, -, -, -, h2, -⟩
        · rw [h2]; decide
        · rw [Int32.lt_iff_toInt_lt] at h2; rw [Int32.le_iff_toInt_le]; omega
      rw [if_pos this]
  · show lb_X9_part_8 m ru wet _ _ (nI (s_na m)) = _
    unfold lb_X9_part_8
    rw [e11, q_ifle _ _ (Nat.le_refl _) (by omega)]
/-! ===== the masts ===== -/
def s_onp (m : Nat → Int32) (b : Nat) (i : Nat) : Bool := decide (m (67 + i) = 1) && decide (m (49 + i) = nI b)
def s_on (m : Nat → Int32) (b : Nat) : Nat := fb_ct (s_onp m b) (s_na m)
def s_low (m : Nat → Int32) (b : Nat) : Option Nat := q_find (fun i => if s_onp m b i = true then some i else none) (s_na m)
theorem x_onMast {m ma : Nat → Int32} {tas : Int32} (h : k_Rng m) (ht : tas = m 11) (h1 : ∀ i, i < 6 → ma i = m (49 + i)) (b : Nat) : p_X6_onMast (nI (k_wh m)) tas ma (nI b) = some (nI (s_on m b)) := by
  obtain ⟨e11, hn, -⟩ := s_na_e h
  subst ht
  have key : k_lp (fun s : Int32 × Int32 => lb_X6_onMast_4 (m 11) (nI (k_wh m)) ma (nI b) s.1 s.2) k_fuel (0, 0) = some (0 + q_sum (fun i => if s_onp m b i then 1 else 0) (s_na m)) := by
    refine q_sumlp _ (s_na m) 0 (fun i x hi => ?_) (fun x => ?_) (by omega)
    · show lb_X6_onMast_4 (m 11) (nI (k_wh m)) ma (nI b) x (nI i) = _
      unfold lb_X6_onMast_4 s_onp
      rw [e11]
      simp (disch := omega) only [q_ifge, q_ifle, q_o5, q_o13, q_o25, q_o37, q_o49, q_o55, q_o61, q_o67, q_o73, q_o85, q_o97, q_o109, q_o121, q_o133, q_o145, q_o157, q_ix, q_cl, q_b1, q_b2, q_hasBit, q_ifp, Nat.le_refl]
      rw [k_wh_bt h (by omega), h1 i (by omega), decide_eq_true hi, Bool.true_and]
      by_cases c : m (67 + i) = 1 <;> by_cases c2 : m (49 + i) = nI b <;> simp [c, c2]
    · show lb_X6_onMast_4 (m 11) (nI (k_wh m)) ma (nI b) x (nI (s_na m)) = _
      unfold lb_X6_onMast_4
      rw [e11]
      simp (disch := omega) only [q_ifge, q_ifle, q_o5, q_o13, q_o25, q_o37, q_o49, q_o55, q_o61, q_o67, q_o73, q_o85, q_o97, q_o109, q_o121, q_o133, q_o145, q_o157, q_ix, q_cl, q_b1, q_b2, q_hasBit, q_ifp, Nat.le_refl]
  unfold p_X6_onMast
  rw [key, q_b1, Int32.zero_add, q_sum_cnt (p := s_onp m b) (fun i hi => rfl)]
  rfl
theorem q_sum_mul {p : Nat → Bool} {c : Int32} : ∀ n : Nat, q_sum (fun i => if p i then c else 0) n = nI (fb_ct p n) * c
  | 0 => by show (0 : Int32) = 0 * c; simp
  | n + 1 => by
    show q_sum (fun i => if p i then c else 0) n + (if p n then c else 0) = nI (fb_ct p n + (if p n then 1 else 0)) * c
    rw [q_sum_mul n, ← nI_add, Int32.add_mul]
    cases p n
    · show _ + 0 = _ + nI 0 * c; rw [nI_0]; simp
    · show _ + c = _ + nI 1 * c; rw [show nI 1 = 1 from rfl]; simp
theorem y_mastOf {m : Nat → Int32} (h : k_Rng m) (ru : Nat → Int32) (b : Nat) (a : Int32) : p_X9_mastOf m ru (nI b) a = some (nI (s_on m b) * s_share m (s_force m ru a)) := by
  obtain ⟨e11, hn, -⟩ := s_na_e h
  have key : k_lp (fun s : Int32 × Int32 => lb_X9_mastOf_5 m (nI b) ru a s.1 s.2) k_fuel (0, 0) = some (0 + q_sum (fun i => if s_onp m b i then s_share m (s_force m ru a) else 0) (s_na m)) := by
    refine q_sumlp _ (s_na m) 0 (fun i x hi => ?_) (fun x => ?_) (by omega)
    · show lb_X9_mastOf_5 m (nI b) ru a x (nI i) = _
      unfold lb_X9_mastOf_5 s_onp
      rw [e11, y_takes h]
      simp (disch := omega) only [q_ifge, q_ifle, q_o5, q_o13, q_o25, q_o37, q_o49, q_o55, q_o61, q_o67, q_o73, q_o85, q_o97, q_o109, q_o121, q_o133, q_o145, q_o157, q_ix, q_cl, q_b1, q_b2, q_hasBit, q_ifp, Nat.le_refl]
      by_cases c : m (67 + i) = 1 <;> by_cases c2 : m (49 + i) = nI b <;> simp [c, c2]
    · show lb_X9_mastOf_5 m (nI b) ru a x (nI (s_na m)) = _
      unfold lb_X9_mastOf_5
      rw [e11]
      simp (disch := omega) only [q_ifge, q_ifle, q_o5, q_o13, q_o25, q_o37, q_o49, q_o55, q_o61, q_o67, q_o73, q_o85, q_o97, q_o109, q_o121, q_o133, q_o145, q_o157, q_ix, q_cl, q_b1, q_b2, q_hasBit, q_ifp, Nat.le_refl]
  unfold p_X9_mastOf
  rw [key, q_b1, Int32.zero_add, q_sum_mul]
  rfl
theorem x_lowestOn {m ma : Nat → Int32} {tas : Int32} (h : k_Rng m) (ht : tas = m 11) (h1 : ∀ i, i < 6 → ma i = m (49 + i)) (b : Nat) : p_X6_lowestOn (nI (k_wh m)) tas ma (nI b) = some (q_enc (-1) (s_low m b)) := by
  obtain ⟨e11, hn, -⟩ := s_na_e h
  subst ht
  have key : k_lp (fun s : Int32 => lb_X6_lowestOn_2 (m 11) (nI (k_wh m)) ma (nI b) s) k_fuel 0 = some (q_ans (q_find (fun i => if s_onp m b i = true then some (nI i) else none) (s_na m))) := by
    refine q_findlp _ (s_na m) (fun i hi => ?_) ?_ (by omega)
    · show lb_X6_lowestOn_2 (m 11) (nI (k_wh m)) ma (nI b) (nI i) = _
      unfold lb_X6_lowestOn_2 s_onp
      rw [e11]
      simp (disch := omega) only [q_ifge, q_ifle, q_o5, q_o13, q_o25, q_o37, q_o49, q_o55, q_o61, q_o67, q_o73, q_o85, q_o97, q_o109, q_o121, q_o133, q_o145, q_o157, q_ix, q_cl, q_b1, q_b2, q_hasBit, q_ifp, Nat.le_refl]
      rw [k_wh_bt h (by omega), h1 i (by omega), decide_eq_true hi, Bool.true_and]
      by_cases c : m (67 + i) = 1 <;> by_cases c2 : m (49 + i) = nI b <;> simp [c, c2]
    · show lb_X6_lowestOn_2 (m 11) (nI (k_wh m)) ma (nI b) (nI (s_na m)) = _
      unfold lb_X6_lowestOn_2
      rw [e11]
      simp (disch := omega) only [q_ifge, q_ifle, q_o5, q_o13, q_o25, q_o37, q_o49, q_o55, q_o61, q_o67, q_o73, q_o85, q_o97, q_o109, q_o121, q_o133, q_o145, q_o157, q_ix, q_cl, q_b1, q_b2, q_hasBit, q_ifp, Nat.le_refl]
  have e2 : ∀ n, q_find (fun i => if s_onp m b i = true then some (nI i) else none) n = (q_find (fun i => if s_onp m b i = true then some i else none) n).map nI := by
    intro n
    induction n with
    | zero => rfl
    | succ n ih =>
      unfold q_find
      rw [ih]
      cases q_find (fun i => if s_onp m b i = true then some i else none) n with
      | some v => rfl
      | none =>
        show (if s_onp m b n = true then some (nI n) else none) = (if s_onp m b n = true then some n else none).map nI
        cases s_onp m b n <;> rfl
  unfold p_X6_lowestOn
  rw [key, e2]
  unfold s_low
  cases q_find (fun i => if s_onp m b i = true then some i else none) (s_na m) <;> rfl
theorem s_low_none {m : Nat → Int32} {b : Nat} : s_low m b = none ↔ s_on m b = 0 := by
  unfold s_low s_on
  rw [q_find_none, fb_ct_zero]
  constructor
  · intro h i hi
    have := h i hi
    cases hc : s_onp m b i
    · rfl
    · rw [hc] at this; simp at this
  · intro h i hi
    rw [h i hi]; rfl
theorem s_low_some {m : Nat → Int32} {b i : Nat} (h : s_low m b = some i) : i < s_na m ∧ m (67 + i) = 1 := by
  unfold s_low at h
  obtain ⟨j, hj, h1, -⟩ := q_find_some.mp h
  cases hc : s_onp m b j
  · rw [hc] at h1; simp at h1
  · rw [hc] at h1
    simp at h1
    subst h1
    unfold s_onp at hc
    simp at hc
    exact ⟨hj, hc.1⟩
/-! ===== the one that PARTS first ===== -/
def s_mc (m ru : Nat → Int32) (sh : Int32) (b : Nat) : Option Nat := if nI (s_on m b) * sh ≤ ru (5 + b) then none else s_low m b
def s_first (m ru : Nat → Int32) (sh wet : Int32) : Option Nat := match (s_ro m sh wet (s_na m)).2 with
  | some i => some i
  | none => q_find (s_mc m ru sh) 3
theorem s_first_some {m ru : Nat → Int32} {sh wet : Int32} {i : Nat} (h : s_first m ru sh wet = some i) : i < s_na m ∧ m (67 + i) = 1 := by
  unfold s_first at h
  rcases s_ro_inv (m := m) sh wet (s_na m) with ⟨h1, -, -⟩ | ⟨j, h1, h2, h3, -, -⟩
  · rw [h1] at h
    obtain ⟨b, hb, h4, -⟩ := q_find_some.mp h
    unfold s_mc at h4
    split at h4
    · cases h4
    · exact s_low_some h4
  · rw [h2] at h
    cases h
    exact ⟨h1, h3⟩
theorem x_first {m ru ru' ma pr sg : Nat → Int32} {tas : Int32} (h : k_Rng m) (hp : k_Par m) (hna : s_na m ≤ 6) (ht : tas = m 11) (h0 : ∀ i, i < 6 → ma i = m (49 + i)) (h1 : ∀ i, i < 6 → pr i = m (55 + i)) (h2 : ∀ i, i < 6 → sg i = m (61 + i)) (hr : ∀ b, b < 3 → ru' (5 + b) = ru (5 + b)) (F wet : Int32) : p_X6_firstToPart (nI (k_wh m)) tas pr sg ma ru' F wet = some (q_enc (-1) (s_first m ru (s_share m F) wet)) := by
  unfold p_X6_firstToPart
  rw [x_share h, q_b1, x_mostOver h hp ht h1 h2, q_b1]
  generalize s_share m F = sh
  unfold s_first
  cases hro : (s_ro m sh wet (s_na m)).2 with
  | some i =>
    have hi : i < 6 := by
      rcases s_ro_inv (m := m) sh wet (s_na m) with ⟨h3, -, -⟩ | ⟨j, h3, h4, -⟩
      · rw [h3] at hro; cases hro
      · rw [h4] at hro; cases hro; omega
    have key : k_lp (fun s : Int32 × Int32 => lb_X6_firstToPart_19 (nI (k_wh m)) tas ma sh ru' s.1 s.2) k_fuel (q_enc (-1) (some i), 0) = some (nI i) := by
      refine q_run (fun _ => (nI i, (0 : Int32))) _ 0 (fun j hj => absurd hj (by omega)) ?_ (by omega)
      show lb_X6_firstToPart_19 (nI (k_wh m)) tas ma sh ru' (nI i) 0 = _
      unfold lb_X6_firstToPart_19
      rw [if_neg (by decide), if_pos (nI_pos' (by omega))]
    rw [key, q_b1]; rfl
  | none =>
    have key : k_lp (fun s : Int32 × Int32 => lb_X6_firstToPart_19 (nI (k_wh m)) tas ma sh ru' s.1 s.2) k_fuel (q_enc (-1) none, 0) = some (q_enc (-1) (q_find (s_mc m ru sh) 3)) := by
      have hstep : ∀ b, b < 3 → lb_X6_firstToPart_19 (nI (k_wh m)) tas ma sh ru' (-1) (nI b) = some (.inl (q_enc (-1) (s_mc m ru sh b), nI b + 1)) := by
        intro b hb
        unfold lb_X6_firstToPart_19 s_mc
        rw [show (3 : Int32) = nI 3 from rfl, q_ifge _ _ hb (by omega), if_neg (by decide), x_onMast h ht h0, q_b1, q_o5, q_ix _ (by omega) (by omega), q_cl (by omega), hr b hb, x_lowestOn h ht h0, q_b1]
        by_cases c : nI (s_on m b) * sh ≤ ru (5 + b)
        · rw [if_pos c, if_pos c]; rfl
        · rw [if_neg c, if_neg c]
      have hstop : ∀ i b, i < 6 → b ≤ 3 → lb_X6_firstToPart_19 (nI (k_wh m)) tas ma sh ru' (nI i) (nI b) = some (.inr (nI i)) := by
        intro i b hi hb
        unfold lb_X6_firstToPart_19
        by_cases c : b = 3
        · subst c; rw [show (3 : Int32) = nI 3 from rfl, q_ifle _ _ (Nat.le_refl _) (by omega)]
        · rw [show (3 : Int32) = nI 3 from rfl, q_ifge _ _ (show b < 3 by omega) (by omega), if_pos (nI_pos' (by omega))]
      have hmc : ∀ b i, s_mc m ru sh b = some i → i < 6 := by
        intro b i hh
        unfold s_mc at hh
        split at hh
        · cases hh
        · have := s_low_some hh; omega
      obtain ⟨e, he, hE⟩ := q_lpI (body := fun s : Int32 × Int32 => lb_X6_firstToPart_19 (nI (k_wh m)) tas ma sh ru' s.1 s.2) (fun k s => s = (q_enc (-1) (q_find (s_mc m ru sh) k), nI k)) (fun e => e = q_enc (-1) (q_find (s_mc m ru sh) 3)) 3 (fun k s hk hs => by
        subst hs
        cases hq : q_find (s_mc m ru sh) k with
        | some i =>
          obtain ⟨b, hb, hb2, -⟩ := q_find_some.mp hq
          refine ⟨_, hstop i k (hmc b i hb2) (by omega), Or.inr ⟨_, rfl, ?_⟩⟩
          obtain ⟨b, hb, hb2, hb3⟩ := q_find_some.mp hq
          rw [q_find_some.mpr ⟨b, by omega, hb2, hb3⟩]; rfl
        | none =>
          refine ⟨_, hstep k hk, Or.inl ⟨_, rfl, ?_⟩⟩
          show _ = (q_enc (-1) (q_find (s_mc m ru sh) (k + 1)), nI (k + 1))
          rw [nI_succ, q_find_sn hq]) (fun s hs => by
        subst hs
        refine ⟨q_enc (-1) (q_find (s_mc m ru sh) 3), ?_, rfl⟩
        show lb_X6_firstToPart_19 (nI (k_wh m)) tas ma sh ru' _ (nI 3) = _
        unfold lb_X6_firstToPart_19
        rw [show (3 : Int32) = nI 3 from rfl, q_ifle _ _ (Nat.le_refl _) (by omega)]) (q_enc (-1) none, 0) rfl (by omega)
      rw [he, hE]
    rw [key, q_b1]
