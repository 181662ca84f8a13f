/-! ===== tide, rain, tap ===== -/
theorem q_clamp {h : Nat} (hh : h < 1000) : (if (0 : Int32) < (if 95 < nI h then 95 else nI h) then (if 95 < nI h then 95 else nI h) else 0) = nI (min h 95) := by
  have e : (if (95 : Int32) < nI h then (95 : Int32) else nI h) = nI (min h 95) := by
    by_cases c : 95 < h
    · rw [if_pos (show (95 : Int32) < nI h from nI_lt (a := 95) c (by omega)), Nat.min_eq_right (by omega)]; rfl
    · rw [if_neg (show ¬ (95 : Int32) < nI h from nI_nlt (a := 95) (by omega) (by omega)), Nat.min_eq_left (by omega)]
  rw [e]
  rcases Nat.eq_zero_or_pos (min h 95) with z | z
  · rw [z]; rfl
  · rw [if_pos (show (0 : Int32) < nI (min h 95) from nI_lt (a := 0) z (by omega))]
theorem x_tideIn (td : Nat → Int32) {h : Nat} (hh : h < 1000) : p_X5_tideIn td (nI h) = some (td (min h 95)) := by
  unfold p_X5_tideIn
  rw [q_clamp hh, q_ix _ (by omega) (by omega), q_cl (by omega)]
theorem y_tideIn (td : Nat → Int32) {h : Nat} (hh : h < 1000) : p_X9_tideIn td (nI h) = some (td (min h 95)) := by
  unfold p_X9_tideIn
  rw [show (95 : Int32) = nI 95 from rfl]
  by_cases c : h ≤ 95
  · rw [if_pos (by rw [q_leI (by omega) (by omega)]; exact c), q_ix _ (by omega) (by omega), q_cl (by omega), Nat.min_eq_left c]
  · rw [if_neg (by rw [q_leI (by omega) (by omega)]; exact c), Nat.min_eq_right (by omega)]
theorem x_rainsIn {rn : Nat → Int32} (hr : ∀ h, h < 96 → kr (rn h) 0 1) {h : Nat} (hh : h < 1000) : p_X5_rainsIn rn (nI h) = some (rn (min h 95)) := by
  unfold p_X5_rainsIn
  rw [q_clamp hh, q_ix _ (by omega) (by omega), q_cl (by omega), q_ck _ (q_01 (hr _ (by omega)))]
theorem y_rains {rn : Nat → Int32} (hr : ∀ h, h < 96 → kr (rn h) 0 1) {h : Nat} (hh : h < 1000) : p_X9_rains rn (nI h) = some (rn (min h 95)) := by
  unfold p_X9_rains
  rw [show (95 : Int32) = nI 95 from rfl]
  by_cases c : h ≤ 95
  · rw [if_pos (by rw [q_leI (by omega) (by omega)]; exact c), q_ix _ (by omega) (by omega), q_cl (by omega), Nat.min_eq_left c]
    rcases q_01 (hr h (by omega)) with e | e <;> rw [e] <;> rfl
  · rw [if_neg (by rw [q_leI (by omega) (by omega)]; exact c), Nat.min_eq_right (by omega)]
    rcases q_01 (hr 95 (by omega)) with e | e <;> rw [e] <;> rfl
theorem t_tide (t : Nat → Int32) (a1 a2 : Int32) : ∃ r t', p_X8_tide t a1 a2 = some (r, t') ∧ p_X9_tide t a1 a2 = some (r, 0, t') := by
  unfold p_X8_tide p_X9_tide
  simp only [q_within, q_isHour, q_in_0_60, q_b1, q_ifp]
  by_cases h1 : 0 ≤ a1 ∧ a1 ≤ 95
  · simp only [if_pos h1]
    by_cases h2 : 0 ≤ a2 ∧ a2 ≤ 60
    · simp only [if_pos h2]
      obtain ⟨j, -, hj, rfl⟩ := q_rng (a := 0) (b := 95) (by omega) (by omega) h1
      simp (disch := omega) only [q_ix, q_cl]
      exact ⟨_, _, rfl, rfl⟩
    · simp only [if_neg h2]; exact ⟨_, _, rfl, rfl⟩
  · simp only [if_neg h1]; exact ⟨_, _, rfl, rfl⟩
theorem sim_tide : k_Sim_tide R_all := by
  intro S L M a1 a2 hR
  obtain ⟨hc, ht, hrn, hru, hs, hk0, hk1, hk2, hp⟩ := hR
  obtain ⟨r, t', g1, g2⟩ := t_tide (M 12) a1 a2
  refine ⟨r, k_su S 1 t', L, k_su (k_su M 0 (fun _ => 0)) 12 t', ?_, ?_, hc, rfl, hrn, hru, hs, hk0, hk1, hk2, hp⟩
  · unfold pX_tide; rw [show S 1 = M 12 from ht, g1]; rfl
  · unfold pM_tide; rw [g2]; rfl
theorem q_upd_kr {f : Nat → Int32} {N : Nat} {a b : Int} (h : ∀ i, i < N → kr (f i) a b) {j : Nat} {x : Int32} (hx : kr x a b) : ∀ i, i < N → kr (upd f j x i) a b := by
  intro i hi
  by_cases e : i = j
  · subst e; rw [upd_s]; exact hx
  · rw [upd_n e]; exact h i hi
theorem t_rain {t : Nat → Int32} (ht : ∀ h, h < 96 → kr (t h) 0 1) {a1 a2 : Int32} (h2 : a2 = 0 ∨ a2 = 1) : ∃ r t', p_X8_rain t a1 a2 = some (r, t') ∧ p_X9_rain t a1 a2 = some (r, 0, t') ∧ ∀ h, h < 96 → kr (t' h) 0 1 := by
  unfold p_X8_rain p_X9_rain
  simp only [q_within, q_isHour, q_b1, q_ifp]
  by_cases h1 : 0 ≤ a1 ∧ a1 ≤ 95
  · simp only [if_pos h1]
    obtain ⟨j, -, hj, rfl⟩ := q_rng (a := 0) (b := 95) (by omega) (by omega) h1
    simp (disch := omega) only [q_ix, q_cl, q_asNumber, q_b1]
    have e : (if t j = 0 then (0 : Int32) else 1) = t j := by
      rcases q_01 (ht j (by omega)) with e | e <;> rw [e] <;> rfl
    rw [e]
    rcases h2 with rfl | rfl
    · rw [if_pos rfl, show vp_nar .boolean 0 = 0 from by decide +kernel]
      exact ⟨_, _, rfl, rfl, q_upd_kr ht ⟨by decide, by decide⟩⟩
    · rw [if_neg (by decide), show vp_nar .boolean 1 = 1 from by decide +kernel]
      exact ⟨_, _, rfl, rfl, q_upd_kr ht ⟨by decide, by decide⟩⟩
  · simp only [if_neg h1]; exact ⟨_, _, rfl, rfl, ht⟩
theorem sim_rain : k_Sim_rain R_all := by
  intro S L M a1 a2 hR h2
  obtain ⟨hc, ht, ⟨hrn, hrn2⟩, hru, hs, hk0, hk1, hk2, hp⟩ := hR
  obtain ⟨r, t', g1, g2, g3⟩ := t_rain (t := M 13) hrn2 (a1 := a1) h2
  refine ⟨r, k_su S 2 t', L, k_su (k_su M 0 (fun _ => 0)) 13 t', ?_, ?_, hc, ht, ⟨rfl, g3⟩, hru, hs, hk0, hk1, hk2, hp⟩
  · unfold pX_rain; rw [hrn, g1]; rfl
  · unfold pM_rain; rw [g2]; rfl
theorem q_kr {x : Int32} {a b : Int32} (h : a ≤ x ∧ x ≤ b) : kr x a.toInt b.toInt := ⟨Int32.le_iff_toInt_le.mp h.1, Int32.le_iff_toInt_le.mp h.2⟩
theorem t_tap {t : Nat → Int32} (ht : ∀ h, h < 30 → kr (t h) (-1) 1) (a1 a2 : Int32) : ∃ r t', p_X8_tap t a1 a2 = some (r, t') ∧ p_X9_tap t a1 a2 = some (r, 0, t') ∧ ∀ h, h < 30 → kr (t' h) (-1) 1 := by
  unfold p_X8_tap p_X9_tap
  simp only [q_within, q_in_0_29, q_in_m1_1, q_b1, q_ifp]
  by_cases h1 : 0 ≤ a1 ∧ a1 ≤ 29
  · simp only [if_pos h1]
    by_cases h2 : -1 ≤ a2 ∧ a2 ≤ 1
    · simp only [if_pos h2]
      obtain ⟨j, -, hj, rfl⟩ := q_rng (a := 0) (b := 29) (by omega) (by omega) h1
      simp (disch := omega) only [q_ix, q_cl]
      exact ⟨_, _, rfl, rfl, q_upd_kr ht (q_kr h2)⟩
    · simp only [if_neg h2]; exact ⟨_, _, rfl, rfl, ht⟩
  · simp only [if_neg h1]; exact ⟨_, _, rfl, rfl, ht⟩
theorem sim_tap : k_Sim_tap R_all := by
  intro S L M a1 a2 hR
  obtain ⟨hc, ht, hrn, hru, hs, hk0, hk1, hk2, ⟨hp, hp2⟩⟩ := hR
  obtain ⟨r, t', g1, g2, g3⟩ := t_tap (t := M 18) hp2 a1 a2
  refine ⟨r, k_su S 156 t', L, k_su (k_su M 0 (fun _ => 0)) 18 t', ?_, ?_, hc, ht, hrn, hru, hs, hk0, hk1, hk2, ⟨rfl, g3⟩⟩
  · unfold pX_tap; rw [hp, g1]; rfl
  · unfold pM_tap; rw [g2]; rfl
/-! ===== rule ===== -/
theorem R_rule_rl {f g : Nat → Int32} (h : R_rule f g) : R_rl f g ∧ R_pos g := by
  obtain ⟨⟨-, h1, -, -, h5, h6, h7⟩, -, k1, -, -, k5, k6, k7⟩ := h
  have z : (0 : Int32).toInt = 0 := by decide
  refine ⟨⟨h1, fun b hb => ?_⟩, k1, fun b hb => ?_⟩
  · match b, hb with
    | 0, _ => exact h5
    | 1, _ => exact h6
    | 2, _ => exact h7
  · match b, hb with
    | 0, _ => rw [Int32.le_iff_toInt_le, z]; exact k5.1
    | 1, _ => rw [Int32.le_iff_toInt_le, z]; exact k6.1
    | 2, _ => rw [Int32.le_iff_toInt_le, z]; exact k7.1
theorem x_rule (f : Nat → Int32) (p : Int32) {j : Nat} (hj : j < 8) (a2 : Int32) : p_X8_rule f p (nI j) a2 = if k_r1 j ≤ a2 ∧ a2 ≤ k_r2 j then (if j = 4 then some (p, f, a2) else some (f j, upd f j a2, p)) else some (-1, f, p) := by
  unfold p_X8_rule
  have h1 : (0 : Int32) ≤ nI j ∧ nI j ≤ 7 := ⟨nI_pos' (by omega), nI_le (b := 7) (by omega) (by omega)⟩
  simp only [q_within, q_b1, q_ifp, show (8 : Int32) - 1 = 7 from by decide]
  simp (disch := omega) only [if_pos h1, q_ix, q_cl]
  by_cases c : k_r1 j ≤ a2 ∧ a2 ≤ k_r2 j
  · rw [if_pos c, if_pos c]
    by_cases c2 : j = 4
    · subst c2; rfl
    · rw [if_neg (by rw [show (4 : Int32) = nI 4 from rfl, q_eqI (by omega) (by omega)]; exact c2), if_neg c2]
  · rw [if_neg c, if_neg c]
theorem y_rule (g m : Nat → Int32) {j : Nat} (hj : j < 8) (a2 : Int32) : p_X9_rule g m (nI j) a2 = if k_r1 j ≤ a2 ∧ a2 ≤ k_r2 j then (if j = 4 then some (m 5, 0, upd g 4 a2, upd m 5 a2) else some (g j, 0, upd g j a2, m)) else some (-1, 0, g, m) := by
  have h1 : (0 : Int32) ≤ nI j ∧ nI j ≤ 7 := ⟨nI_pos' (by omega), nI_le (b := 7) (by omega) (by omega)⟩
  unfold p_X9_rule lj_X9_rule_39 lj_X9_rule_73 lj_X9_rule_110
  simp only [q_in_0_7, q_in, q_b1, q_ifp]
  simp only [if_pos h1]
  match j, hj with
  | 0, _ =>
    rw [show k_r1 0 = 0 from rfl, show k_r2 0 = 40 from rfl]
    by_cases c : (0 : Int32) ≤ a2 ∧ a2 ≤ 40
    · rw [if_pos c]
      simp (decide := true) only [if_pos c, q_ix (n := 0) (N := 8), q_cl (n := 0), if_true, if_false]
    · rw [if_neg c]
      simp (decide := true) only [if_neg c, if_true, if_false]
  | 1, _ =>
    rw [show k_r1 1 = 100 from rfl, show k_r2 1 = 1000 from rfl]
    by_cases c : (100 : Int32) ≤ a2 ∧ a2 ≤ 1000
    · rw [if_pos c]
      simp (decide := true) only [if_pos c, q_ix (n := 1) (N := 8), q_cl (n := 1), if_true, if_false]
    · rw [if_neg c]
      simp (decide := true) only [if_neg c, if_true, if_false]
  | 2, _ =>
    rw [show k_r1 2 = 0 from rfl, show k_r2 2 = 2000 from rfl]
    by_cases c : (0 : Int32) ≤ a2 ∧ a2 ≤ 2000
    · rw [if_pos c]
      simp (decide := true) only [if_pos c, q_ix (n := 2) (N := 8), q_cl (n := 2), if_true, if_false]
    · rw [if_neg c]
      simp (decide := true) only [if_neg c, if_true, if_false]
  | 3, _ =>
    rw [show k_r1 3 = 1 from rfl, show k_r2 3 = 20 from rfl]
    by_cases c : (1 : Int32) ≤ a2 ∧ a2 ≤ 20
    · rw [if_pos c]
      simp (decide := true) only [if_pos c, q_ix (n := 3) (N := 8), q_cl (n := 3), if_true, if_false]
    · rw [if_neg c]
      simp (decide := true) only [if_neg c, if_true, if_false]
  | 4, _ =>
    rw [show k_r1 4 = 0 from rfl, show k_r2 4 = 1000 from rfl]
    by_cases c : (0 : Int32) ≤ a2 ∧ a2 ≤ 1000
    · rw [if_pos c]
      simp (decide := true) only [if_pos c, q_ix (n := 4) (N := 8), q_cl (n := 4), if_true, if_false]
    · rw [if_neg c]
      simp (decide := true) only [if_neg c, if_true, if_false]
  | 5, _ =>
    rw [show k_r1 5 = 0 from rfl, show k_r2 5 = 1000 from rfl]
    by_cases c : (0 : Int32) ≤ a2 ∧ a2 ≤ 1000
    · rw [if_pos c]
      simp (decide := true) only [if_pos c, q_ix (n := 5) (N := 8), q_cl (n := 5), if_true, if_false]
    · rw [if_neg c]
      simp (decide := true) only [if_neg c, if_true, if_false]
  | 6, _ =>
    rw [show k_r1 6 = 0 from rfl, show k_r2 6 = 1000 from rfl]
    by_cases c : (0 : Int32) ≤ a2 ∧ a2 ≤ 1000
    · rw [if_pos c]
      simp (decide := true) only [if_pos c, q_ix (n := 6) (N := 8), q_cl (n := 6), if_true, if_false]
    · rw [if_neg c]
      simp (decide := true) only [if_neg c, if_true, if_false]
  | 7, _ =>
    rw [show k_r1 7 = 0 from rfl, show k_r2 7 = 1000 from rfl]
    by_cases c : (0 : Int32) ≤ a2 ∧ a2 ≤ 1000
    · rw [if_pos c]
      simp (decide := true) only [if_pos c, q_ix (n := 7) (N := 8), q_cl (n := 7), if_true, if_false]
    · rw [if_neg c]
      simp (decide := true) only [if_neg c, if_true, if_false]
theorem R_rule_upd {f g : Nat → Int32} (h : R_rule f g) {j : Nat} (hj : j < 8) (h4 : j ≠ 4) {a : Int32} (c : k_r1 j ≤ a ∧ a ≤ k_r2 j) : R_rule (upd f j a) (upd g j a) := by
  obtain ⟨⟨e0, e1, e2, e3, e5, e6, e7⟩, k0, k1, k2, k3, k5, k6, k7⟩ := h
  match j, hj with
  | 0, _ => exact ⟨⟨rfl, e1, e2, e3, e5, e6, e7⟩, q_kr c, k1, k2, k3, k5, k6, k7⟩
  | 1, _ => exact ⟨⟨e0, rfl, e2, e3, e5, e6, e7⟩, k0, q_kr c, k2, k3, k5, k6, k7⟩
  | 2, _ => exact ⟨⟨e0, e1, rfl, e3, e5, e6, e7⟩, k0, k1, q_kr c, k3, k5, k6, k7⟩
  | 3, _ => exact ⟨⟨e0, e1, e2, rfl, e5, e6, e7⟩, k0, k1, k2, q_kr c, k5, k6, k7⟩
  | 4, _ => exact absurd rfl h4
  | 5, _ => exact ⟨⟨e0, e1, e2, e3, rfl, e6, e7⟩, k0, k1, k2, k3, q_kr c, k6, k7⟩
  | 6, _ => exact ⟨⟨e0, e1, e2, e3, e5, rfl, e7⟩, k0, k1, k2, k3, k5, q_kr c, k7⟩
  | 7, _ => exact ⟨⟨e0, e1, e2, e3, e5, e6, rfl⟩, k0, k1, k2, k3, k5, k6, q_kr c⟩
theorem R_rule_g4 {f g : Nat → Int32} (h : R_rule f g) (a : Int32) : R_rule f (upd g 4 a) := h
theorem upd5_inv {m : Nat → Int32} (h : k_Inv m) {a : Int32} (ha : kr a 0 1000) : k_Inv (upd m 5 a) :=
  k_Inv_frame h (k_Rng_upd h.1 ha) (upd_n (by omega)) (upd_n (by omega)) (upd_n (by omega)) (fun j hj => upd_n (by omega)) (fun j hj => upd_n (by omega)) (fun j hj => ⟨upd_n (by omega), upd_n (by omega), upd_n (by omega)⟩)
theorem t_rule {f g m : Nat → Int32} (h : R_rule f g) (hm : k_Inv m) (a1 a2 : Int32) : ∃ r f' g' m', p_X8_rule f (m 5) a1 a2 = some (r, f', m' 5) ∧ p_X9_rule g m a1 a2 = some (r, 0, g', m') ∧ R_rule f' g' ∧ k_Inv m' ∧ ∀ k, k ≠ 5 → m' k = m k := by
  by_cases h1 : 0 ≤ a1 ∧ a1 ≤ 7
  · obtain ⟨j, -, hj, rfl⟩ := q_rng (a := 0) (b := 7) (by omega) (by omega) h1
    rw [x_rule f (m 5) (by omega) a2, y_rule g m (by omega) a2]
    by_cases c : k_r1 j ≤ a2 ∧ a2 ≤ k_r2 j
    · rw [if_pos c, if_pos c]
      by_cases c2 : j = 4
      · subst c2
        rw [if_pos rfl, if_pos rfl]
        exact ⟨_, _, _, upd m 5 a2, by rw [upd_s], rfl, R_rule_g4 h a2, upd5_inv hm (q_kr c), fun k hk => upd_n hk⟩
      · rw [if_neg c2, if_neg c2]
        have e : f j = g j := by
          obtain ⟨⟨e0, e1, e2, e3, e5, e6, e7⟩, -⟩ := h
          match j, hj with
          | 0, _ => exact e0
          | 1, _ => exact e1
          | 2, _ => exact e2
          | 3, _ => exact e3
          | 4, _ => exact absurd rfl c2
          | 5, _ => exact e5
          | 6, _ => exact e6
          | 7, _ => exact e7
        rw [e]
        exact ⟨_, _, _, m, rfl, rfl, R_rule_upd h (by omega) c2 c, hm, fun _ _ => rfl⟩
    · rw [if_neg c, if_neg c]
      exact ⟨_, _, _, m, rfl, rfl, h, hm, fun _ _ => rfl⟩
  · unfold p_X8_rule p_X9_rule
    simp only [q_within, q_in_0_7, q_b1, q_ifp, show (8 : Int32) - 1 = 7 from by decide, if_neg h1]
    exact ⟨_, _, _, m, rfl, rfl, h, hm, fun _ _ => rfl⟩
