/-! ===== what is told ===== -/
theorem q_asN {c : Prop} [Decidable c] : (if (if c then (1 : Int32) else 0) = 0 then (0 : Int32) else 1) = if c then 1 else 0 := by
  by_cases h : c <;> simp [h]
theorem x_lost (w : Int32) : p_X4_isLost w = some (if w ≤ 100 then 0 else 1) := by
  unfold p_X4_isLost
  by_cases c : w ≤ 100 <;> simp [c]
theorem y_lost (m : Nat → Int32) : p_X9_isLost m = some (if m 2 ≤ 100 then 0 else 1) := by
  unfold p_X9_isLost
  by_cases c : m 2 ≤ 100 <;> simp [c]
theorem s_hour {m : Nat → Int32} (h : k_Rng m) : ∃ o : Nat, m 0 = nI o ∧ o ≤ 96 := by
  obtain ⟨o, h1, -, h2, -⟩ := kr_nI (rg_ho h) (by decide) (by decide)
  exact ⟨o, h1, by omega⟩
/-- a seam's numbers -/
def s_bare (m td : Nat → Int32) (s o : Nat) : Bool := !decide ((4 * m (73 + s)) + (if m (85 + s) = 0 then 3 * m 1 else (-3) * m 1) ≤ td (min o 95))
theorem x_isBare {m td sk sd : Nat → Int32} {s o : Nat} (hs : s < 12) (ho : o < 1000) (h1 : sk s = m (73 + s)) (h2 : sd s = m (85 + s)) : p_X4_isBare (m 1) td sk sd (nI s) (nI o) = some (if s_bare m td s o = true then 1 else 0) := by
  unfold p_X4_isBare p_X3_isBare s_bare
  rw [x_tideIn td ho, q_b1, q_ix _ (by omega) (by omega), q_ix _ (by omega) (by omega), q_cl (by omega), h1, h2]
  by_cases c : m (85 + s) = 0
  · rw [if_pos c, if_pos c]
    by_cases c2 : 4 * m (73 + s) + 3 * m 1 ≤ td (min o 95)
    · rw [if_pos c2, q_b1]; simp [c2]; rfl
    · rw [if_neg c2, q_b1]; simp [c2]; rfl
  · rw [if_neg c, if_neg c]
    by_cases c2 : 4 * m (73 + s) + (-3) * m 1 ≤ td (min o 95)
    · rw [if_pos c2, q_b1]; simp [c2]; rfl
    · rw [if_neg c2, q_b1]; simp [c2]; rfl
theorem y_isBare (m td : Nat → Int32) {s o : Nat} (hs : s < 12) (ho : o < 1000) : p_X9_isBare m td (nI s) (nI o) = some (if s_bare m td s o = true then 1 else 0) := by
  unfold p_X9_isBare s_bare
  rw [y_tideIn td ho, q_b1, q_b1, q_o73, q_o85, q_ix _ (by omega) (by omega), q_ix _ (by omega) (by omega), q_cl (by omega), q_cl (by omega)]
  by_cases c : m (85 + s) = 0
  · rw [if_pos c, if_pos c]
    by_cases c2 : 4 * m (73 + s) + 3 * m 1 ≤ td (min o 95) <;> simp [c2]
  · rw [if_neg c, if_neg c]
    by_cases c2 : 4 * m (73 + s) + (-3) * m 1 ≤ td (min o 95) <;> simp [c2]
/-- how many SEAMS are so -/
def s_st (m : Nat → Int32) (a : Int32) : Nat := fb_ct (fun i => decide (m (145 + i) = a)) (s_ns m)
theorem y_states {m : Nat → Int32} (h : k_Rng m) (a : Int32) : p_X9_states m a = some (nI (s_st m a)) := by
  obtain ⟨e12, hn, -⟩ := s_ns_e h
  have key : k_lp (fun s : Int32 × Int32 => lb_X9_states_4 m a s.1 s.2) k_fuel (0, 0) = some (0 + q_sum (fun i => if decide (m (145 + i) = a) then 1 else 0) (s_ns m)) := by
    refine q_sumlp _ (s_ns m) 0 (fun i x hi => ?_) (fun x => ?_) (by omega)
    · show lb_X9_states_4 m a x (nI i) = _
      unfold lb_X9_states_4
      rw [e12]
      simp (disch := omega) only [q_ifge, q_ifle, q_o5, q_o13, q_o25, q_o37, q_o49, q_o55, q_o61, q_o67, q_o73, q_o85, q_o97, q_o109, q_o121, q_o133, q_o145, q_o157, q_ix, q_cl, q_b1, q_b2, q_hasBit, q_ifp, Nat.le_refl]
      by_cases c : m (145 + i) = a <;> simp [c]
    · show lb_X9_states_4 m a x (nI (s_ns m)) = _
      unfold lb_X9_states_4
      rw [e12]
      simp (disch := omega) only [q_ifge, q_ifle, q_o5, q_o13, q_o25, q_o37, q_o49, q_o55, q_o61, q_o67, q_o73, q_o85, q_o97, q_o109, q_o121, q_o133, q_o145, q_o157, q_ix, q_cl, q_b1, q_b2, q_hasBit, q_ifp, Nat.le_refl]
  unfold p_X9_states
  rw [key, q_b1, Int32.zero_add, q_sum_cnt (p := fun i => decide (m (145 + i) = a)) (fun i hi => rfl)]
  rfl
def s_orf (m : Nat → Int32) (a : Int32) (i : Nat) (x : Int32) : Int32 := if m (145 + i) = a then x ||| (1 <<< (nI i &&& 31)) else x ||| 0
theorem x_bitsOf {m sta : Nat → Int32} {ss : Int32} (h : k_Rng m) (hs : ss = m 12) (h1 : ∀ i, i < 12 → sta i = m (145 + i)) (a : Int32) : ∃ x, p_X3_bitsOf ss sta a = some x ∧ ∀ i, i < 32 → bt x i = (decide (i < s_ns m) && decide (m (145 + i) = a)) := by
  obtain ⟨e12, hn, -⟩ := s_ns_e h
  subst hs
  have key : k_lp (fun s : Int32 × Int32 => lb_X3_bitsOf_4 (m 12) sta a s.1 s.2) k_fuel (0, 0) = some (q_fold (s_orf m a) 0 (s_ns m)) := by
    refine q_foldlp _ (s_ns m) 0 (fun i x hi => ?_) (fun x => ?_) (by omega)
    · show lb_X3_bitsOf_4 (m 12) sta a x (nI i) = _
      unfold lb_X3_bitsOf_4
      rw [e12]
      simp (disch := omega) only [q_ifge, q_ifle, q_o5, q_o13, q_o25, q_o37, q_o49, q_o55, q_o61, q_o67, q_o73, q_o85, q_o97, q_o109, q_o121, q_o133, q_o145, q_o157, q_ix, q_cl, q_b1, q_b2, q_hasBit, q_ifp, Nat.le_refl]
      rw [h1 i (by omega)]
      unfold s_orf
      by_cases c : m (145 + i) = a
      · rw [if_pos c, if_pos c]
      · rw [if_neg c, if_neg c]
    · show lb_X3_bitsOf_4 (m 12) sta a x (nI (s_ns m)) = _
      unfold lb_X3_bitsOf_4
      rw [e12]
      simp (disch := omega) only [q_ifge, q_ifle, q_o5, q_o13, q_o25, q_o37, q_o49, q_o55, q_o61, q_o67, q_o73, q_o85, q_o97, q_o109, q_o121, q_o133, q_o145, q_o157, q_ix, q_cl, q_b1, q_b2, q_hasBit, q_ifp, Nat.le_refl]
  refine ⟨_, by unfold p_X3_bitsOf; rw [key, q_b1], ?_⟩
  have gen : ∀ n, n ≤ 12 → ∀ i, i < 32 → bt (q_fold (s_orf m a) 0 n) i = (decide (i < n) && decide (m (145 + i) = a)) := by
    intro n
    induction n with
    | zero => intro _ i hi; show bt 0 i = _; rw [b_0]; simp
    | succ n ih =>
      intro hn2 i hi
      have ih := ih (by omega) i hi
      show bt (s_orf m a n (q_fold (s_orf m a) 0 n)) i = _
      generalize q_fold (s_orf m a) 0 n = x at ih ⊢
      unfold s_orf
      by_cases c : m (145 + n) = a
      · rw [if_pos c, b_or, ih, bt_one n (by omega) hi]
        by_cases c2 : i = n
        · subst c2; simp [c]
        · by_cases c3 : i < n
          · simp [c2, c3, show i < n + 1 from by omega]
          · simp [c2, c3, show ¬ i < n + 1 from by omega]
      · rw [if_neg c, b_or, ih, b_0, Bool.or_false]
        by_cases c2 : i = n
        · subst c2; simp [c]
        · by_cases c3 : i < n
          · simp [c3, show i < n + 1 from by omega]
          · simp [c3, show ¬ i < n + 1 from by omega]
  exact gen (s_ns m) hn
theorem s_st_0 {m : Nat → Int32} (h : k_Rng m) {x a : Int32} (hx : ∀ i, i < 32 → bt x i = (decide (i < s_ns m) && decide (m (145 + i) = a))) : (x = 0) = (s_st m a = 0) := by
  have hn := (s_ns_e h).2.1
  refine propext ⟨fun e => ?_, fun e => ?_⟩
  · unfold s_st
    rw [fb_ct_zero]
    intro i hi
    have := hx i (by omega)
    rw [e, b_0, decide_eq_true hi, Bool.true_and] at this
    exact this.symm
  · unfold s_st at e
    rw [fb_ct_zero] at e
    refine b_ext fun i hi => ?_
    rw [hx i hi, b_0]
    by_cases c : i < s_ns m
    · rw [e i c, Bool.and_false]
    · simp [c]
theorem sim_ship : k_Sim_ship R_all := by
  intro S L M a1 hR
  obtain ⟨hc, ht, ⟨hrn, hrn2⟩, hru, hs, hk0, hk1, hk2, hp⟩ := hR
  obtain ⟨⟨e0, e1, e2, e5, e3, e4, e6, e7, e8, e9, eo, ets, ew, eta, ess⟩, hth, hta, hse, hI⟩ := id hs
  obtain ⟨hrl, hpos⟩ := R_rule_rl hru
  obtain ⟨o, eo0, hoo⟩ := s_hour hI.1
  have tot := x_total (ru := M 14) hI.1 hrl.1 eo ets (fun i hi => (hth i hi).1)
  have frc := fun a => x_force (ru := M 14) hI.1 hrl.1 eo ets (fun i hi => (hth i hi).1) a
  have key : ∃ r, p_X8_ship (S 4 0) (S 5 0) (S 6 0) (S 3) (S 14 0) (S 15 0) (S 16) (S 1) (S 23 0) (S 30) (S 2) (S 18 0) (S 19 0) (S 21) (S 22) (S 20) a1 = some r ∧ p_X9_ship (M 14) (M 9) (M 12) (M 13) a1 = some (r, 0) := by
    unfold p_X8_ship p_X9_ship
    rw [tot, y_total hI.1, frc, y_force hI.1, e0, e1, e2, x_lost, y_lost]
    simp only [q_b1, q_asNumber]
    by_cases c0 : a1 = 0
    · simp only [if_pos c0]; exact ⟨_, rfl, rfl⟩
    simp only [if_neg c0]
    by_cases c1 : a1 = 1
    · simp only [if_pos c1]; exact ⟨_, rfl, rfl⟩
    simp only [if_neg c1]
    by_cases c2 : a1 = 2
    · simp only [if_pos c2]; exact ⟨_, rfl, rfl⟩
    simp only [if_neg c2]
    by_cases c3 : a1 = 3
    · simp only [if_pos c3]; exact ⟨_, rfl, rfl⟩
    simp only [if_neg c3]
    by_cases c4 : a1 = 4
    · simp only [if_pos c4]; exact ⟨_, rfl, rfl⟩
    simp only [if_neg c4]
    by_cases c5 : a1 = 5
    · simp only [if_pos c5]
      obtain ⟨x, hx1, hx2⟩ := x_bitsOf hI.1 ess (fun i hi => (hse i hi).2.2.2.2.2.2.1) 1
      have hz := s_st_0 hI.1 hx2
      have hw := Nat.le_trans (fb_ct_le (fun i => decide (M 9 (145 + i) = 1)) (s_ns (M 9))) (s_ns_e hI.1).2.1
      have hw : s_st (M 9) 1 ≤ 12 := hw
      unfold p_X4_floats p_X9_floats p_X5_tideNeeded p_X8_draught
      rw [tot, eo0, show S 1 = M 12 from ht, x_tideIn _ (by omega), y_tideIn _ (by omega), y_states hI.1, hx1]
      simp only [q_b1]
      have er0 : S 3 0 = M 14 0 := hru.1.1
      have er2 : S 3 2 = M 14 2 := hru.1.2.2.1
      rw [er0, er2]
      have hz2 : (nI (s_st (M 9) 1) = 0) = (s_st (M 9) 1 = 0) := by
        rw [show (0 : Int32) = nI 0 from rfl, q_eqI (by omega) (by omega)]
      by_cases d1 : s_total (M 9) (M 14) < M 14 2
      · simp only [if_pos d1, q_b1, q_asNumber]
        by_cases d3 : M 9 1 = 0
        · simp only [if_pos d3, hz2]
          by_cases d4 : s_st (M 9) 1 = 0
          · simp only [if_pos d4]; exact ⟨_, rfl, rfl⟩
          · simp only [if_neg d4]; exact ⟨_, rfl, rfl⟩
        · simp only [if_neg d3]; exact ⟨_, rfl, rfl⟩
      · simp only [if_neg d1]
        by_cases d2 : M 12 (min o 95) < s_total (M 9) (M 14) / 20 + M 14 0
        · simp only [if_pos d2, q_b1, q_asNumber]
          by_cases d3 : M 9 1 = 0
          · simp only [if_pos d3, hz2]
            by_cases d4 : s_st (M 9) 1 = 0
            · simp only [if_pos d4]; exact ⟨_, rfl, rfl⟩
            · simp only [if_neg d4]; exact ⟨_, rfl, rfl⟩
          · simp only [if_neg d3]; exact ⟨_, rfl, rfl⟩
        · simp only [if_neg d2]
          by_cases d3 : M 9 1 = 0
          · simp only [if_pos d3, hz, hz2]
            by_cases d4 : s_st (M 9) 1 = 0
            · simp only [if_pos d4, q_b1, q_asNumber]; exact ⟨_, rfl, rfl⟩
            · simp only [if_neg d4, q_b1, q_asNumber]; exact ⟨_, rfl, rfl⟩
          · simp only [if_neg d3, q_b1, q_asNumber]; exact ⟨_, rfl, rfl⟩
    simp only [if_neg c5]
    by_cases c6 : a1 = 6
    · simp only [if_pos c6]
      rw [eo0, hrn, x_rainsIn hrn2 (by omega), y_rains hrn2 (by omega), q_b1, q_b1, ew, x_holds hI.1 hI.2.2.1 hrl eo ets (fun i hi => (hth i hi).1) eta (fun i hi => (hta i hi).1) (fun i hi => (hta i hi).2.1) (fun i hi => (hta i hi).2.2), y_holds hI.1 hI.2.2.1 hpos (rg_he hI.1), q_b1, q_b1]
      cases s_holds (M 9) (M 14) (M 9 1) (M 13 (min o 95)) <;> exact ⟨_, rfl, rfl⟩
    simp only [if_neg c6]
    by_cases c7 : a1 = 7
    · simp only [if_pos c7]
      by_cases cw : M 9 2 ≤ 100
      · rw [if_pos cw]; exact ⟨_, rfl, rfl⟩
      · rw [if_neg cw]; exact ⟨_, rfl, rfl⟩
    simp only [if_neg c7]
    exact ⟨_, rfl, rfl⟩
  obtain ⟨r, g1, g2⟩ := key
  refine ⟨r, S, L, k_su M 0 (fun _ => 0), ?_, ?_, hc, ht, ⟨hrn, hrn2⟩, hru, hs, hk0, hk1, hk2, hp⟩
  · unfold pX_ship; rw [g1]; rfl
  · unfold pM_ship; rw [g2]; rfl
