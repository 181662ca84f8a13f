/-! ===== sim_plan, sim_orders ===== -/
theorem x_mayPlan (o w a : Int32) : p_X8_mayPlan o w a = some (if w ≤ 100 ∧ ¬ 96 < o + a then 1 else 0) := by
  unfold p_X8_mayPlan
  rw [x_lost]
  by_cases c : w ≤ 100
  · rw [if_pos c, q_b1, if_pos rfl]
    by_cases c2 : 96 < o + a
    · rw [if_pos c2, if_neg (fun hh => hh.2 c2)]
    · rw [if_neg c2, if_pos ⟨c, c2⟩]
  · rw [if_neg c, q_b1, if_neg (show ¬ (1 : Int32) = 0 from by decide), if_neg (fun hh => c hh.1)]
theorem q_1_6 {a : Int32} (h : 1 ≤ a ∧ a ≤ 6) : ∃ n, a = nI n ∧ 0 < n ∧ n ≤ 6 := by
  obtain ⟨h1, h2⟩ := h
  rw [Int32.le_iff_toInt_le] at h1 h2
  obtain ⟨n, e, -, hn, -⟩ := kr_nI (x := a) (a := 1) (b := 6) ⟨h1, h2⟩ (by decide) (by decide)
  rw [e, nI_toInt (by omega)] at h1
  have h1' : (1 : Int) ≤ (n : Int) := h1
  exact ⟨n, e, by omega, by omega⟩
theorem xy_plan {m rn td ru ru' sk sd hs lg tr wo sta dn : Nat → Int32} (h : k_Inv m) (hrn : ∀ h, h < 96 → kr (rn h) 0 1) (hse : ∀ i, i < 12 → sk i = m (73 + i) ∧ sd i = m (85 + i) ∧ hs i = m (97 + i) ∧ lg i = m (109 + i) ∧ tr i = m (121 + i) ∧ wo i = m (133 + i) ∧ sta i = m (145 + i) ∧ dn i = m (157 + i)) (hru : ru' 3 = ru 3) (hmen : kr (ru 3) 1 20) (ms : Int64) (p1 p2 p3 p4 : Int32) (se0 hr0 mb0 tried0 begins0 : Nat → Int32) (hands0 : Nat → Int64) (v1 v2 v3 v4 : Int32) (ct0 bg0 best0 : Nat → Int32) (a1 a2 : Int32) : ∃ r w v, p_X8_plan (m 0) (m 1) (m 2) (m 5) (m 12) ms p1 p2 p3 p4 sta se0 lg dn hr0 rn td sk sd mb0 hands0 hs ru' tr wo tried0 begins0 a1 a2 = some (r, w) ∧ p_X9_plan v1 v2 v3 v4 m ct0 bg0 rn td ru best0 a1 a2 = some (r, 0, v) := by
  obtain ⟨e12, hn12, -⟩ := s_ns_e h.1
  obtain ⟨o, eo, -, ho, -⟩ := kr_nI (rg_ho h.1) (by decide) (by decide)
  obtain ⟨men, eme, -, hme, -⟩ := kr_nI hmen (by decide) (by decide)
  have hN := s_N_le m
  unfold p_X8_plan p_X9_plan
  rw [x_mayPlan, y_lost, q_within, q_in_1_6, q_within, show p_X9_in a2.toInt64 0 (2 + m 12).toInt64 = some (if 0 ≤ a2 ∧ a2 ≤ 2 + m 12 then 1 else 0) from q_in a2 0 (2 + m 12)]
  by_cases c1 : 1 ≤ a1 ∧ a1 ≤ 6
  · simp only [if_pos c1, q_b1, show ((1 : Int32) = 0) = False from by decide, if_false]
    by_cases c2 : 0 ≤ a2 ∧ a2 ≤ 2 + m 12
    · simp only [if_pos c2, show ((1 : Int32) = 0) = False from by decide, if_false]
      by_cases cw : m 2 ≤ 100
      · simp only [if_pos cw, if_true]
        by_cases c3 : 96 < m 0 + a1
        · rw [q_ifp, if_neg (show ¬ (m 2 ≤ 100 ∧ ¬ 96 < m 0 + a1) from fun hh => hh.2 c3), if_neg (show ¬ m 0 + a1 ≤ 96 from fun hh => by rw [Int32.le_iff_toInt_le] at hh; rw [Int32.lt_iff_toInt_lt] at c3; omega)]
          exact ⟨_, _, _, rfl, rfl⟩
        · rw [q_ifp, if_pos (show (m 2 ≤ 100 ∧ ¬ 96 < m 0 + a1) from ⟨cw, c3⟩), if_pos (show m 0 + a1 ≤ 96 from by rw [Int32.le_iff_toInt_le]; rw [Int32.lt_iff_toInt_lt] at c3; omega)]
          obtain ⟨n, en, hn0, hn6⟩ := q_1_6 c1
          obtain ⟨ct, bg, best, y1, y2, y3⟩ := y_findplan (td := td) (rn := rn) (ru := ru) h hrn eo (by omega) eme (by omega) hn0 hn6 v3 v4 ct0 bg0 best0
          obtain ⟨ms', se, hr, mb, hn, tried, begins, x1, x2, x3⟩ := x_make (td := td) (rn := rn) (ru := ru') (o := o) (men := men) h hrn hse (by omega) (by rw [hru, eme]) (by omega) hn0 hn6 se0 hr0 mb0 tried0 begins0 hands0
          rw [en, eo, x1, y1, q_b11, q_b7]
          by_cases d3 : 3 ≤ a2
          · have n0 : ¬ a2 = 0 := fun e => by rw [e] at d3; exact absurd d3 (by decide)
            have n1 : ¬ a2 = 1 := fun e => by rw [e] at d3; exact absurd d3 (by decide)
            have n2 : ¬ a2 = 2 := fun e => by rw [e] at d3; exact absurd d3 (by decide)
            obtain ⟨s, es, hs100⟩ : ∃ s, a2 - 3 = nI s ∧ s < 100 := by
              have g1 := c2.2
              rw [e12, show (2 : Int32) = nI 2 from rfl, nI_add] at g1
              obtain ⟨t, et, -, ht, -⟩ := kr_nI (x := a2) (a := 3) (b := 14) ⟨by rw [Int32.le_iff_toInt_le] at d3; exact d3, by rw [Int32.le_iff_toInt_le, nI_toInt (by omega)] at g1; omega⟩ (by decide) (by decide)
              rw [et, Int32.le_iff_toInt_le, nI_toInt (by omega)] at d3
              have d3' : (3 : Int) ≤ (t : Int) := d3
              exact ⟨t - 3, by rw [et, show (3 : Int32) = nI 3 from rfl, pk_sub (by omega)], by omega⟩
            rw [if_pos d3, if_neg n0, if_neg n1, if_neg n2, es, x_beginningOf h (fun k hk => (x2 k hk).1) hs100 x3, y_beginningOf h y2 hn0 hn6 hs100 es y3, q_b1, q_b1]
            exact ⟨_, _, _, rfl, rfl⟩
          · rw [if_neg d3]
            by_cases d0 : a2 = 0
            · rw [if_pos d0, if_pos d0]
              exact ⟨_, _, _, rfl, rfl⟩
            · rw [if_neg d0, if_neg d0]
              by_cases d1 : a2 = 1
              · rw [if_pos d1, if_pos d1]
                exact ⟨_, _, _, rfl, rfl⟩
              · have d2 : a2 = 2 := by
                  have g0 := c2.1
                  rw [Int32.le_iff_toInt_le] at g0 d3
                  rw [← Int32.toInt_inj] at d0 d1 ⊢
                  have z0 : (0 : Int32).toInt = 0 := by decide
                  have z1 : (1 : Int32).toInt = 1 := by decide
                  have z2 : (2 : Int32).toInt = 2 := by decide
                  have z3 : (3 : Int32).toInt = 3 := by decide
                  omega
                rw [if_neg d1, if_neg d1, if_pos d2, x_seamBits h (fun k hk => (x2 k hk).1), q_b1]
                exact ⟨_, _, _, rfl, rfl⟩
      · simp only [if_neg cw, show ((1 : Int32) = 0) = False from by decide, if_false]
        rw [q_ifp, if_neg (show ¬ (m 2 ≤ 100 ∧ ¬ 96 < m 0 + a1) from fun hh => cw hh.1)]
        exact ⟨_, _, _, rfl, rfl⟩
    · simp only [if_neg c2, if_true]; exact ⟨_, _, _, rfl, rfl⟩
  · simp only [if_neg c1, q_b1, if_true]; exact ⟨_, _, _, rfl, rfl⟩
theorem xy_orders {m rn td ru ru' sk sd hs lg tr wo sta dn : Nat → Int32} (h : k_Inv m) (hrn : ∀ h, h < 96 → kr (rn h) 0 1) (hse : ∀ i, i < 12 → sk i = m (73 + i) ∧ sd i = m (85 + i) ∧ hs i = m (97 + i) ∧ lg i = m (109 + i) ∧ tr i = m (121 + i) ∧ wo i = m (133 + i) ∧ sta i = m (145 + i) ∧ dn i = m (157 + i)) (hru : ru' 3 = ru 3) (hmen : kr (ru 3) 1 20) (ms : Int64) (p1 p2 p3 p4 : Int32) (se0 hr0 mb0 tried0 begins0 : Nat → Int32) (hands0 : Nat → Int64) (v1 v2 v3 v4 : Int32) (ct0 bg0 best0 : Nat → Int32) (a1 a2 : Int32) : ∃ r w v, p_X8_orders (m 0) (m 1) (m 2) (m 5) ms p1 p2 p3 p4 (m 12) sta se0 lg dn hr0 rn td sk sd mb0 hands0 hs ru' tr wo tried0 begins0 a1 a2 = some (r, w) ∧ p_X9_orders v1 v2 v3 v4 m ct0 bg0 rn td ru best0 a1 a2 = some (r, 0, v) := by
  obtain ⟨o, eo, -, ho, -⟩ := kr_nI (rg_ho h.1) (by decide) (by decide)
  obtain ⟨men, eme, -, hme, -⟩ := kr_nI hmen (by decide) (by decide)
  have hN := s_N_le m
  unfold p_X8_orders p_X9_orders
  rw [x_mayPlan, y_lost, q_within, q_in_1_6, q_within, show p_X9_in a2.toInt64 0 (a1 - 1).toInt64 = some (if 0 ≤ a2 ∧ a2 ≤ a1 - 1 then 1 else 0) from q_in a2 0 (a1 - 1)]
  by_cases c1 : 1 ≤ a1 ∧ a1 ≤ 6
  · simp only [if_pos c1, q_b1, show ((1 : Int32) = 0) = False from by decide, if_false]
    by_cases c2 : 0 ≤ a2 ∧ a2 ≤ a1 - 1
    · simp only [if_pos c2, show ((1 : Int32) = 0) = False from by decide, if_false]
      by_cases cw : m 2 ≤ 100
      · simp only [if_pos cw, if_true]
        by_cases c3 : 96 < m 0 + a1
        · rw [q_ifp, if_neg (show ¬ (m 2 ≤ 100 ∧ ¬ 96 < m 0 + a1) from fun hh => hh.2 c3), if_neg (show ¬ m 0 + a1 ≤ 96 from fun hh => by rw [Int32.le_iff_toInt_le] at hh; rw [Int32.lt_iff_toInt_lt] at c3; omega)]
          exact ⟨_, _, _, rfl, rfl⟩
        · rw [q_ifp, if_pos (show (m 2 ≤ 100 ∧ ¬ 96 < m 0 + a1) from ⟨cw, c3⟩), if_pos (show m 0 + a1 ≤ 96 from by rw [Int32.le_iff_toInt_le]; rw [Int32.lt_iff_toInt_lt] at c3; omega)]
          obtain ⟨n, en, hn0, hn6⟩ := q_1_6 c1
          obtain ⟨ct, bg, best, y1, y2, y3⟩ := y_findplan (td := td) (rn := rn) (ru := ru) h hrn eo (by omega) eme (by omega) hn0 hn6 v3 v4 ct0 bg0 best0
          obtain ⟨ms', se, hr, mb, hn, tried, begins, x1, x2, x3⟩ := x_make (td := td) (rn := rn) (ru := ru') (o := o) (men := men) h hrn hse (by omega) (by rw [hru, eme]) (by omega) hn0 hn6 se0 hr0 mb0 tried0 begins0 hands0
          obtain ⟨a, ea, ha⟩ : ∃ a, a2 = nI a ∧ a < 100 := by
            have g1 := c2.2
            have g0 := c2.1
            rw [en, show (1 : Int32) = nI 1 from rfl, pk_sub (by omega), Int32.le_iff_toInt_le, nI_toInt (by omega)] at g1
            rw [Int32.le_iff_toInt_le] at g0
            obtain ⟨t, et, -, ht, -⟩ := kr_nI (x := a2) (a := 0) (b := 5) ⟨g0, by omega⟩ (by decide) (by decide)
            exact ⟨t, et, by omega⟩
          rw [en, eo, x1, y1, q_b11, q_b7, ea, x_orders h (fun k hk => (x2 k hk).1) (fun k hk => (x2 k hk).2.1) hn0 hn6 ha x3, y_orders h y2 hn0 hn6 ha y3, q_b1, q_b1]
          exact ⟨_, _, _, rfl, rfl⟩
      · simp only [if_neg cw, show ((1 : Int32) = 0) = False from by decide, if_false]
        rw [q_ifp, if_neg (show ¬ (m 2 ≤ 100 ∧ ¬ 96 < m 0 + a1) from fun hh => cw hh.1)]
        exact ⟨_, _, _, rfl, rfl⟩
    · simp only [if_neg c2, if_true]; exact ⟨_, _, _, rfl, rfl⟩
  · simp only [if_neg c1, q_b1, if_true]; exact ⟨_, _, _, rfl, rfl⟩
theorem sim_plan : k_Sim_plan R_all := by
  intro S L M a1 a2 hR
  obtain ⟨hc, ht, ⟨hrn, hrn2⟩, hru, hs, hk0, hk1, hk2, hp⟩ := hR
  obtain ⟨⟨e0, e1, e2, e5, e3, e4, e6, e7, e8, e9, eo, ets, ew, eta, ess⟩, hth, hta, hse, hI⟩ := id hs
  have key : ∃ r w v, p_X8_plan (S 4 0) (S 5 0) (S 6 0) (S 7 0) (S 23 0) (L 0 0) (S 116 0) (S 117 0) (S 118 0) (S 119 0) (S 30) (S 120) (S 27) (S 31) (S 121) (S 2) (S 1) (S 24) (S 25) (S 122) (L 1) (S 26) (S 3) (S 28) (S 29) (S 123) (S 124) a1 a2 = some (r, w) ∧ p_X9_plan (M 2 0) (M 3 0) (M 4 0) (M 5 0) (M 9) (M 15) (M 16) (M 13) (M 12) (M 14) (M 17) a1 a2 = some (r, 0, v) := by
    rw [e0, e1, e2, e5, ess, hrn, show S 1 = M 12 from ht]
    exact xy_plan hI hrn2 hse hru.1.2.2.2.1 hru.2.2.2.2.1 _ _ _ _ _ _ _ _ _ _ _ _ _ _ _ _ _ _ a1 a2
  obtain ⟨r, w, v, g1, g2⟩ := key
  obtain ⟨w0, w1, w2, w3, w4, w5, w6, w7, w8, w9, w10⟩ := w
  obtain ⟨v1, v2, v3, v4, v5, v6, v7⟩ := v
  have eX : pX_plan S L a1 a2 = some (r, (k_su (k_su (k_su (k_su (k_su (k_su (k_su (k_su (k_su S 116 (fun _ => w1)) 117 (fun _ => w2)) 118 (fun _ => w3)) 119 (fun _ => w4)) 120 w5) 121 w6) 122 w7) 123 w9) 124 w10), (k_su (k_su L 0 (fun _ => w0)) 1 w8)) := by unfold pX_plan; rw [g1]; rfl
  have eM : pM_plan M a1 a2 = some (r, (k_su (k_su (k_su (k_su (k_su (k_su (k_su (k_su M 0 (fun _ => 0)) 2 (fun _ => v1)) 3 (fun _ => v2)) 4 (fun _ => v3)) 5 (fun _ => v4)) 15 v5) 16 v6) 17 v7)) := by unfold pM_plan; rw [g2]; rfl
  exact ⟨_, _, _, _, eX, eM, hc, ht, ⟨hrn, hrn2⟩, hru, hs, hk0, hk1, hk2, hp⟩
theorem sim_orders : k_Sim_orders R_all := by
  intro S L M a1 a2 hR
  obtain ⟨hc, ht, ⟨hrn, hrn2⟩, hru, hs, hk0, hk1, hk2, hp⟩ := hR
  obtain ⟨⟨e0, e1, e2, e5, e3, e4, e6, e7, e8, e9, eo, ets, ew, eta, ess⟩, hth, hta, hse, hI⟩ := id hs
  have key : ∃ r w v, p_X8_orders (S 4 0) (S 5 0) (S 6 0) (S 7 0) (L 0 0) (S 116 0) (S 117 0) (S 118 0) (S 119 0) (S 23 0) (S 30) (S 120) (S 27) (S 31) (S 121) (S 2) (S 1) (S 24) (S 25) (S 122) (L 1) (S 26) (S 3) (S 28) (S 29) (S 123) (S 124) a1 a2 = some (r, w) ∧ p_X9_orders (M 2 0) (M 3 0) (M 4 0) (M 5 0) (M 9) (M 15) (M 16) (M 13) (M 12) (M 14) (M 17) a1 a2 = some (r, 0, v) := by
    rw [e0, e1, e2, e5, ess, hrn, show S 1 = M 12 from ht]
    exact xy_orders hI hrn2 hse hru.1.2.2.2.1 hru.2.2.2.2.1 _ _ _ _ _ _ _ _ _ _ _ _ _ _ _ _ _ _ a1 a2
  obtain ⟨r, w, v, g1, g2⟩ := key
  obtain ⟨w0, w1, w2, w3, w4, w5, w6, w7, w8, w9, w10⟩ := w
  obtain ⟨v1, v2, v3, v4, v5, v6, v7⟩ := v
  have eX : pX_orders S L a1 a2 = some (r, (k_su (k_su (k_su (k_su (k_su (k_su (k_su (k_su (k_su S 116 (fun _ => w1)) 117 (fun _ => w2)) 118 (fun _ => w3)) 119 (fun _ => w4)) 120 w5) 121 w6) 122 w7) 123 w9) 124 w10), (k_su (k_su L 0 (fun _ => w0)) 1 w8)) := by unfold pX_orders; rw [g1]; rfl
  have eM : pM_orders M a1 a2 = some (r, (k_su (k_su (k_su (k_su (k_su (k_su (k_su (k_su M 0 (fun _ => 0)) 2 (fun _ => v1)) 3 (fun _ => v2)) 4 (fun _ => v3)) 5 (fun _ => v4)) 15 v5) 16 v6) 17 v7)) := by unfold pM_orders; rw [g2]; rfl
  exact ⟨_, _, _, _, eX, eM, hc, ht, ⟨hrn, hrn2⟩, hru, hs, hk0, hk1, hk2, hp⟩
