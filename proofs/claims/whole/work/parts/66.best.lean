/-! ===== the best set, both sides ===== -/
theorem s_B_le (m rn td : Nat → Int32) (o n men : Nat) : ∀ j, (s_B m rn td o n men j).1 ≤ j
  | 0 => Nat.le_refl 0
  | j + 1 => by
    have ih := s_B_le m rn td o n men j
    rw [s_B]
    split
    · split
      · omega
      · exact Nat.le_refl _
    · omega
theorem q_sh5 : ∀ N, N < 6 → (1 : Int32) <<< (nI N &&& 31) = nI (2 ^ N) := by decide +kernel
theorem q_p5 : ∀ N, N < 6 → 2 ^ N ≤ 32 := by decide +kernel
theorem y_copy (bg best : Nat → Int32) : ∃ b', k_lp (fun s : Int32 × (Nat → Int32) => lb_X9_findPlan_362 bg s.1 s.2) k_fuel (0, best) = some b' ∧ ∀ k, k < 5 → b' k = bg k := by
  obtain ⟨b, h1, h2⟩ := q_lpI (body := fun s : Int32 × (Nat → Int32) => lb_X9_findPlan_362 bg s.1 s.2) (fun i s => s.1 = nI i ∧ ∀ k, k < i → s.2 k = bg k) (fun b => ∀ k, k < 5 → b k = bg k) 5 (fun i s hi hs => by
    obtain ⟨s1, s2⟩ := s
    obtain ⟨q1, q2⟩ := hs
    have q1' : s1 = nI i := q1
    subst q1'
    show ∃ X, lb_X9_findPlan_362 bg (nI i) s2 = some X ∧ _
    unfold lb_X9_findPlan_362
    rw [if_neg (show ¬ (5 : Int32) ≤ nI i from nI_ge (b := 5) hi (by omega)), q_ix _ hi (by omega), q_ix _ hi (by omega), q_cl (by omega)]
    refine ⟨_, rfl, Or.inl ⟨_, rfl, nI_1 i, fun k hk => ?_⟩⟩
    show upd s2 i (bg i) k = bg k
    by_cases c : k = i
    · subst c; exact upd_s
    · rw [upd_n c]; exact q2 k (by omega)) (fun s hs => by
    obtain ⟨s1, s2⟩ := s
    obtain ⟨q1, q2⟩ := hs
    have q1' : s1 = nI 5 := q1
    subst q1'
    refine ⟨s2, ?_, q2⟩
    show lb_X9_findPlan_362 bg (nI 5) s2 = _
    unfold lb_X9_findPlan_362
    rw [if_pos (show (5 : Int32) ≤ nI 5 from Int32.le_refl _)]) (0, best) ⟨rfl, fun k hk => absurd hk (by omega)⟩ (by omega)
  exact ⟨b, h1, h2⟩
def s_bt (m : Nat → Int32) (x : Nat) (worth pitch : Int32) : Prop := worth < s_Wt m x ∨ (s_Wt m x = worth ∧ s_Pt m x < pitch)
theorem y_step {m rn td ru ct : Nat → Int32} (h : k_Inv m) (hrn : ∀ h, h < 96 → kr (rn h) 0 1) (hct : ∀ k, k < s_N m → ct k = nI (s_c m k)) {o men : Nat} (h0 : m 0 = nI o) (ho : o ≤ 96) (hru : ru 3 = nI men) (hmen : men ≤ 100) {n : Nat} (hn0 : 0 < n) (hn : n ≤ 6) {x : Nat} (hx : x < 2 ^ s_N m) (bg best : Nat → Int32) (bits pitch worth : Int32) (hb : s_Wt m x = worth → s_Pt m x = pitch → bits ≤ nI (s_bn (s_c m) (s_N m) x)) : ∃ bg' best' bits' pitch' worth', lb_X9_findPlan_73 (nI (s_N m)) ct m (nI n) rn td ru (nI x) bg best bits pitch worth = some (.inl (nI (x + 1), bg', best', bits', pitch', worth')) ∧ (((¬ s_bt m x worth pitch ∨ s_fd m rn td o n men x = none) ∧ best' = best ∧ bits' = bits ∧ pitch' = pitch ∧ worth' = worth) ∨ (s_bt m x worth pitch ∧ ∃ w, s_fd m rn td o n men x = some w ∧ s_is m n x w best' ∧ bits' = nI (s_bn (s_c m) (s_N m) x) ∧ pitch' = s_Pt m x ∧ worth' = s_Wt m x)) := by
  have hN := s_N_le m
  have h32 := q_p5 (s_N m) (by omega)
  have lj0 : lj_X9_findPlan_241 (nI (s_Q m n x)) (nI x) (nI n) (nI (s_N m)) ct m rn td ru bg best bits pitch worth (nI (s_bn (s_c m) (s_N m) x)) (s_Pt m x) (s_Wt m x) 0 = some (.inl (nI (x + 1), bg, best, bits, pitch, worth)) := by
    unfold lj_X9_findPlan_241
    rw [y_find0 hn0 hn, q_b2, if_pos rfl, nI_1]
  have lj1 : s_bt m x worth pitch → ∃ bg' best' bits' pitch' worth', lj_X9_findPlan_241 (nI (s_Q m n x)) (nI x) (nI n) (nI (s_N m)) ct m rn td ru bg best bits pitch worth (nI (s_bn (s_c m) (s_N m) x)) (s_Pt m x) (s_Wt m x) 1 = some (.inl (nI (x + 1), bg', best', bits', pitch', worth')) ∧ (((¬ s_bt m x worth pitch ∨ s_fd m rn td o n men x = none) ∧ best' = best ∧ bits' = bits ∧ pitch' = pitch ∧ worth' = worth) ∨ (s_bt m x worth pitch ∧ ∃ w, s_fd m rn td o n men x = some w ∧ s_is m n x w best' ∧ bits' = nI (s_bn (s_c m) (s_N m) x) ∧ pitch' = s_Pt m x ∧ worth' = s_Wt m x)) := by
    intro hbt
    obtain ⟨x8, bg', g1, g2⟩ := y_find (td := td) h hrn hct h0 ho hru hmen hn0 hn x bg
    unfold lj_X9_findPlan_241
    rw [g1, q_b2]
    rcases g2 with ⟨g2, rfl⟩ | ⟨w, g2, rfl, g3⟩
    · rw [if_pos rfl, nI_1]
      exact ⟨_, _, _, _, _, rfl, Or.inl ⟨Or.inr g2, rfl, rfl, rfl, rfl⟩⟩
    · obtain ⟨b', c1, c2⟩ := y_copy bg' best
      rw [if_neg (show ¬ (1 : Int32) = 0 from by decide), c1, q_b1, nI_1]
      exact ⟨_, _, _, _, _, rfl, Or.inr ⟨hbt, w, g2, fun k hk => by rw [c2 k (by omega)]; exact g3 k hk, rfl, rfl, rfl⟩⟩
  unfold lb_X9_findPlan_73
  rw [q_sh5 _ (by omega), q_ifge _ _ hx (by omega), y_sums h hct, q_b4]
  by_cases c1 : worth < s_Wt m x
  · rw [if_pos c1]
    exact lj1 (Or.inl c1)
  · rw [if_neg c1]
    by_cases c2 : s_Wt m x = worth
    · rw [if_pos c2]
      by_cases c3 : s_Pt m x < pitch
      · rw [if_pos c3]
        exact lj1 (Or.inr ⟨c2, c3⟩)
      · have nb : ¬ s_bt m x worth pitch := fun hh => hh.elim c1 (fun q => c3 q.2)
        rw [if_neg c3]
        by_cases c4 : s_Pt m x = pitch
        · rw [if_pos c4, if_pos (hb c2 c4), lj0]
          exact ⟨_, _, _, _, _, rfl, Or.inl ⟨Or.inl nb, rfl, rfl, rfl, rfl⟩⟩
        · rw [if_neg c4, lj0]
          exact ⟨_, _, _, _, _, rfl, Or.inl ⟨Or.inl nb, rfl, rfl, rfl, rfl⟩⟩
    · have nb : ¬ s_bt m x worth pitch := fun hh => hh.elim c1 (fun q => c2 q.1)
      rw [if_neg c2, lj0]
      exact ⟨_, _, _, _, _, rfl, Or.inl ⟨Or.inl nb, rfl, rfl, rfl, rfl⟩⟩
theorem s_e0 (k : Nat) : s_e 0 k = false := Nat.zero_testBit k
theorem q_sum_zero {f : Nat → Int32} : ∀ n, (∀ i, i < n → f i = 0) → q_sum f n = 0
  | 0, _ => rfl
  | n + 1, h => by
    show q_sum f n + f n = 0
    rw [q_sum_zero n (fun i hi => h i (by omega)), h n (by omega)]; rfl
theorem s_Wt0 (m : Nat → Int32) : s_Wt m 0 = 0 := q_sum_zero _ fun i hi => if_neg (by rw [s_e0]; decide)
theorem s_Pt0 (m : Nat → Int32) : s_Pt m 0 = 0 := q_sum_zero _ fun i hi => if_neg (by rw [s_e0]; decide)
theorem s_q0 (N n : Nat) : ∀ r, s_q (s_e 0) N n r = 1
  | 0 => rfl
  | r + 1 => by rw [s_q, if_neg (by rw [s_e0]; decide), s_q0 N n r]
theorem s_V0 (N n : Nat) (ok : Nat → Nat → Bool) (lk hd : Nat → Nat) (men : Nat) (f : Nat → Nat) (w : Nat) : ∀ r, s_V (s_e 0) N n ok lk hd men r f w = true
  | 0 => rfl
  | r + 1 => by rw [s_V, if_neg (by rw [s_e0]; decide), s_V0 N n ok lk hd men f w r]
theorem s_fd0 {m : Nat → Int32} (h : k_Inv m) (rn td : Nat → Int32) (o n men : Nat) : s_fd m rn td o n men 0 = some 0 := by
  have hp := rg_pi h.1
  have : ¬ m 5 < s_Pt m 0 := by
    rw [s_Pt0, Int32.lt_iff_toInt_lt, show (0 : Int32).toInt = 0 from by decide]
    have := hp.1
    omega
  unfold s_fd s_Q
  rw [if_neg this, s_q0]
  exact q_find_some.mpr ⟨0, by omega, if_pos (s_V0 _ _ _ _ _ _ _ _ _), fun j hj => absurd hj (by omega)⟩
theorem y_findplan {m rn td ru : Nat → Int32} (h : k_Inv m) (hrn : ∀ h, h < 96 → kr (rn h) 0 1) {o men : Nat} (h0 : m 0 = nI o) (ho : o ≤ 96) (hru : ru 3 = nI men) (hmen : men ≤ 100) {n : Nat} (hn0 : 0 < n) (hn : n ≤ 6) (bp bb : Int32) (ct0 bg0 best0 : Nat → Int32) : ∃ ct bg best, p_X9_findPlan bp bb m ct0 bg0 rn td ru best0 (nI n) = some (nI (s_N m), (s_B m rn td o n men (2 ^ s_N m - 1)).2.1, (s_B m rn td o n men (2 ^ s_N m - 1)).2.2.1, nI (s_bn (s_c m) (s_N m) (s_B m rn td o n men (2 ^ s_N m - 1)).1), ct, bg, best) ∧ (∀ k, k < s_N m → ct k = nI (s_c m k)) ∧ s_is m n (s_B m rn td o n men (2 ^ s_N m - 1)).1 (s_B m rn td o n men (2 ^ s_N m - 1)).2.2.2 best := by
  have hN := s_N_le m
  have h32 := q_p5 (s_N m) (by omega)
  have hpos := Nat.two_pow_pos (s_N m)
  obtain ⟨ct, t1, hct⟩ := y_gather h.1 ct0
  obtain ⟨E, hE, hE2⟩ := q_lpI (body := fun s : Int32 × (Nat → Int32) × (Nat → Int32) × Int32 × Int32 × Int32 => lb_X9_findPlan_73 (nI (s_N m)) ct m (nI n) rn td ru s.1 s.2.1 s.2.2.1 s.2.2.2.1 s.2.2.2.2.1 s.2.2.2.2.2) (fun i s => s.1 = nI i ∧ (i = 0 → s.2.2.2.2.2 = -1) ∧ (0 < i → s_is m n (s_B m rn td o n men (i - 1)).1 (s_B m rn td o n men (i - 1)).2.2.2 s.2.2.1 ∧ s.2.2.2.1 = nI (s_bn (s_c m) (s_N m) (s_B m rn td o n men (i - 1)).1) ∧ s.2.2.2.2.1 = (s_B m rn td o n men (i - 1)).2.2.1 ∧ s.2.2.2.2.2 = (s_B m rn td o n men (i - 1)).2.1)) (fun E => s_is m n (s_B m rn td o n men (2 ^ s_N m - 1)).1 (s_B m rn td o n men (2 ^ s_N m - 1)).2.2.2 E.2.1 ∧ E.2.2.1 = nI (s_bn (s_c m) (s_N m) (s_B m rn td o n men (2 ^ s_N m - 1)).1) ∧ E.2.2.2.1 = (s_B m rn td o n men (2 ^ s_N m - 1)).2.2.1 ∧ E.2.2.2.2 = (s_B m rn td o n men (2 ^ s_N m - 1)).2.1) (2 ^ s_N m) (fun i s hi hs => by
    obtain ⟨s1, bg, best, bits, pitch, worth⟩ := s
    obtain ⟨q1, q2, q3⟩ := hs
    have q1' : s1 = nI i := q1
    subst q1'
    cases i with
    | zero =>
      have q2' : worth = -1 := q2 rfl
      subst q2'
      obtain ⟨bg', best', bits', pitch', worth', g1, g2⟩ := y_step (td := td) h hrn hct h0 ho hru hmen hn0 hn hi bg best bits pitch (-1) (fun hh => absurd hh (by rw [s_Wt0]; decide))
      rcases g2 with ⟨hh, -⟩ | ⟨-, w, w1, w2, w3, w4, w5⟩
      · rcases hh with hh | hh
        · exact absurd (Or.inl (by rw [s_Wt0]; decide)) hh
        · rw [s_fd0 h] at hh; cases hh
      · rw [s_fd0 h] at w1
        cases w1
        exact ⟨_, g1, Or.inl ⟨_, rfl, rfl, fun hh => absurd hh (by omega), fun _ => ⟨w2, w3, by rw [s_Pt0] at w4; exact w4, by rw [s_Wt0] at w5; exact w5⟩⟩⟩
    | succ j =>
      obtain ⟨r1, r2, r3, r4⟩ := q3 (by omega)
      have r1' : s_is m n (s_B m rn td o n men j).1 (s_B m rn td o n men j).2.2.2 best := r1
      have r2' : bits = nI (s_bn (s_c m) (s_N m) (s_B m rn td o n men j).1) := r2
      have r3' : pitch = (s_B m rn td o n men j).2.2.1 := r3
      have r4' : worth = (s_B m rn td o n men j).2.1 := r4
      have hle := s_B_le m rn td o n men j
      have hbits : bits ≤ nI (s_bn (s_c m) (s_N m) (j + 1)) := by
        rw [r2']
        have hm := s_bn_mono (c := s_c m) (x := (s_B m rn td o n men j).1) (y := j + 1) (s_N m) (fun a b h1 h2 => s_c_mono h1 h2) (by rw [Nat.mod_eq_of_lt hi, Nat.mod_eq_of_lt (by omega)]; omega)
        have hl := s_bn_lt (c := s_c m) (j + 1) (s_N m) (fun a b h1 h2 => s_c_mono h1 h2) 12 (fun k hk => (s_lkN h hk).1)
        exact nI_le hm (by omega)
      obtain ⟨bg', best', bits', pitch', worth', g1, g2⟩ := y_step (td := td) h hrn hct h0 ho hru hmen hn0 hn hi bg best bits pitch worth (fun _ _ => hbits)
      refine ⟨_, g1, Or.inl ⟨_, rfl, rfl, fun hh => absurd hh (by omega), fun _ => ?_⟩⟩
      show s_is m n (s_B m rn td o n men (j + 1)).1 (s_B m rn td o n men (j + 1)).2.2.2 best' ∧ bits' = nI (s_bn (s_c m) (s_N m) (s_B m rn td o n men (j + 1)).1) ∧ pitch' = (s_B m rn td o n men (j + 1)).2.2.1 ∧ worth' = (s_B m rn td o n men (j + 1)).2.1
      have eB : s_B m rn td o n men (j + 1) = if (worth < s_Wt m (j + 1) ∨ (s_Wt m (j + 1) = worth ∧ s_Pt m (j + 1) < pitch)) then (match s_fd m rn td o n men (j + 1) with | none => s_B m rn td o n men j | some w => (j + 1, s_Wt m (j + 1), s_Pt m (j + 1), w)) else s_B m rn td o n men j := by
        rw [s_B, r3', r4']; rfl
      rcases g2 with ⟨hh, e3, e4, e5, e6⟩ | ⟨hh, w, w1, w2, w3, w4, w5⟩
      · have e2 : s_B m rn td o n men (j + 1) = s_B m rn td o n men j := by
          rcases hh with hh | hh
          · rw [eB, if_neg (show ¬ (worth < s_Wt m (j + 1) ∨ (s_Wt m (j + 1) = worth ∧ s_Pt m (j + 1) < pitch)) from hh)]
          · rw [eB, hh]
            split <;> rfl
        rw [e2, e3, e4, e5, e6]
        exact ⟨r1', r2', r3', r4'⟩
      · have e2 : s_B m rn td o n men (j + 1) = (j + 1, s_Wt m (j + 1), s_Pt m (j + 1), w) := by rw [eB, if_pos (show (worth < s_Wt m (j + 1) ∨ (s_Wt m (j + 1) = worth ∧ s_Pt m (j + 1) < pitch)) from hh), w1]
        rw [e2]
        exact ⟨w2, w3, w4, w5⟩) (fun s hs => by
    obtain ⟨s1, bg, best, bits, pitch, worth⟩ := s
    obtain ⟨q1, q2, q3⟩ := hs
    have q1' : s1 = nI (2 ^ s_N m) := q1
    subst q1'
    refine ⟨(bg, best, bits, pitch, worth), ?_, q3 hpos⟩
    show lb_X9_findPlan_73 (nI (s_N m)) ct m (nI n) rn td ru (nI (2 ^ s_N m)) bg best bits pitch worth = _
    unfold lb_X9_findPlan_73
    rw [q_sh5 _ (by omega), q_ifle _ _ (Nat.le_refl _) (by omega)]) (0, bg0, best0, bb, bp, -1) ⟨rfl, fun _ => rfl, fun hh => absurd hh (by omega)⟩ (by omega)
  obtain ⟨bg, best, bits, pitch, worth⟩ := E
  obtain ⟨r1, r2, r3, r4⟩ := hE2
  refine ⟨ct, bg, best, ?_, hct, r1⟩
  unfold p_X9_findPlan
  rw [t1, q_b2, hE, q_b5]
  have r2' : bits = nI (s_bn (s_c m) (s_N m) (s_B m rn td o n men (2 ^ s_N m - 1)).1) := r2
  have r3' : pitch = (s_B m rn td o n men (2 ^ s_N m - 1)).2.2.1 := r3
  have r4' : worth = (s_B m rn td o n men (2 ^ s_N m - 1)).2.1 := r4
  rw [r2', r3', r4']
