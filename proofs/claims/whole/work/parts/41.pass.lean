/-! ===== in RAIN nobody works ===== -/
theorem y_nowork {m td : Nat → Int32} (h : k_Rng m) (a1 wet x : Int32) (hw : ¬ wet = 0) : k_lp (fun s : Int32 × Int32 × (Nat → Int32) => lb_X9_pass_21 a1 wet td s.1 s.2.1 s.2.2) k_fuel (x, 0, m) = some (x, m) := by
  obtain ⟨e12, hn, -⟩ := s_ns_e h
  refine q_run (body := fun s : Int32 × Int32 × (Nat → Int32) => lb_X9_pass_21 a1 wet td s.1 s.2.1 s.2.2) (fun i => (x, nI i, m)) (x, m) (s_ns m) (fun i hi => ?_) ?_ (by omega)
  · show lb_X9_pass_21 a1 wet td x (nI i) m = some (.inl (x, nI (i + 1), m))
    unfold lb_X9_pass_21
    rw [e12, q_ifge _ _ hi (by omega), if_neg hw, nI_succ]
    by_cases c : (a1 >>> (nI i &&& 31)) &&& 1 = 1
    · rw [if_pos c]
    · rw [if_neg c]
  · show lb_X9_pass_21 a1 wet td x (nI (s_ns m)) m = _
    unfold lb_X9_pass_21
    rw [e12, q_ifle _ _ (Nat.le_refl _) (by omega)]
/-! ===== the flood ===== -/
def s_fl (m td : Nat → Int32) (o : Nat) : Nat := fb_ct (fun i => decide (m (145 + i) = 1) && !s_bare m td i o) (s_ns m)
theorem x_floodlp {m td sk sd sta : Nat → Int32} {ss : Int32} (h : k_Rng m) (hss : ss = m 12) {o : Nat} (ho2 : o < 1000) (h1 : ∀ i, i < 12 → sk i = m (73 + i) ∧ sd i = m (85 + i) ∧ sta i = m (145 + i)) : k_lp (fun s : Int32 × Int32 => lb_X4_flood_4 ss sta (m 1) td sk sd (nI o) s.1 s.2) k_fuel (0, 0) = some (nI (s_fl m td o)) := by
  obtain ⟨e12, hn, -⟩ := s_ns_e h
  have key : k_lp (fun s : Int32 × Int32 => lb_X4_flood_4 ss sta (m 1) td sk sd (nI o) s.1 s.2) k_fuel (0, 0) = some (0 + q_sum (fun i => if (decide (m (145 + i) = 1) && !s_bare m td i o) then 1 else 0) (s_ns m)) := by
    refine q_sumlp _ (s_ns m) 0 (fun i x hi => ?_) (fun x => ?_) (by omega)
    · show lb_X4_flood_4 ss sta (m 1) td sk sd (nI o) x (nI i) = _
      unfold lb_X4_flood_4
      rw [hss, e12, q_ifge _ _ hi (by omega), q_ix _ (by omega) (by omega), q_cl (by omega), x_isBare (by omega) ho2 (h1 i (by omega)).1 (h1 i (by omega)).2.1, q_b1, q_ifp, (h1 i (by omega)).2.2]
      by_cases c : m (145 + i) = 1
      · cases hb : s_bare m td i o <;> simp [c]
      · simp [c]
    · show lb_X4_flood_4 ss sta (m 1) td sk sd (nI o) x (nI (s_ns m)) = _
      unfold lb_X4_flood_4
      rw [hss, e12, q_ifle _ _ (Nat.le_refl _) (by omega)]
  rw [key, Int32.zero_add, q_sum_cnt (p := fun i => decide (m (145 + i) = 1) && !s_bare m td i o) (fun i hi => rfl)]
  rfl
theorem y_floodlp {c td ru : Nat → Int32} {men : Int32} (h : k_Rng c) {o : Nat} (ho : c 0 = nI o) (ho2 : o < 1000) : k_lp (fun s : Int32 × Int32 => lb_X9_pass_334 c ru men td s.1 s.2) k_fuel (0, 0) = some (nI (10 * s_fl c td o)) := by
  obtain ⟨e12, hn, -⟩ := s_ns_e h
  have key : k_lp (fun s : Int32 × Int32 => lb_X9_pass_334 c ru men td s.1 s.2) k_fuel (0, 0) = some (0 + q_sum (fun i => if (decide (c (145 + i) = 1) && !s_bare c td i o) then 10 else 0) (s_ns c)) := by
    refine q_sumlp _ (s_ns c) 0 (fun i x hi => ?_) (fun x => ?_) (by omega)
    · show lb_X9_pass_334 c ru men td x (nI i) = _
      unfold lb_X9_pass_334
      rw [upd_n (show (12 : Nat) ≠ 7 by omega), upd_n (show (0 : Nat) ≠ 7 by omega), e12, ho, q_ifge _ _ hi (by omega), q_o145, q_ix _ (by omega) (by omega), q_cl (by omega), upd_n (show 145 + i ≠ 7 by omega), y_isBare _ td (by omega) ho2, s_bare_cong (m := c) (upd_n (by omega)) (upd_n (by omega)) (upd_n (by omega)), q_b1, q_ifp]
      by_cases c1 : c (145 + i) = 1
      · cases hb : s_bare c td i o <;> simp [c1]
      · simp [c1]
    · show lb_X9_pass_334 c ru men td x (nI (s_ns c)) = _
      unfold lb_X9_pass_334
      rw [upd_n (show (12 : Nat) ≠ 7 by omega), e12, q_ifle _ _ (Nat.le_refl _) (by omega)]
  rw [key, Int32.zero_add, q_sum_mul, show (10 : Int32) = nI 10 from rfl, pk_mul, Nat.mul_comm]
  rfl
theorem s_fl_le {m td : Nat → Int32} {o : Nat} (h : k_Rng m) : s_fl m td o ≤ 12 := Nat.le_trans (fb_ct_le _ _) (s_ns_e h).2.1
/-! ===== an HOUR goes by ===== -/
theorem updk_inv {m : Nat → Int32} (h : k_Inv m) {k : Nat} {a : Int32} (hk : k < 10) (ha : kr a (k_lo k) (k_hi k)) : k_Inv (upd m k a) :=
  k_Inv_frame h (k_Rng_upd h.1 ha) (upd_n (by omega)) (upd_n (by omega)) (upd_n (by omega)) (fun j hj => upd_n (by omega)) (fun j hj => upd_n (by omega)) (fun j hj => ⟨upd_n (by omega), upd_n (by omega), upd_n (by omega)⟩)
theorem xy_pass {m rn ru ru' td wt ma pr sg sk sd hd lg tr sta dn : Nat → Int32} {ot ts tas ss : Int32} {o : Nat} (h : k_Inv m) (hrn : ∀ h, h < 96 → kr (rn h) 0 1) (hrl : R_rl ru' ru) (hpos : R_pos ru) (hr3 : ru' 3 = ru 3) (ho : m 0 = nI o) (ho2 : o < 96) (hw : m 2 ≤ 100) (hot : ot = nI (k_out m)) (hts : ts = m 10) (hwt : ∀ i, i < 12 → wt i = m (13 + i)) (htas : tas = m 11) (hta : ∀ i, i < 6 → ma i = m (49 + i) ∧ pr i = m (55 + i) ∧ sg i = m (61 + i)) (hss : ss = m 12) (hse : ∀ i, i < 12 → sk i = m (73 + i) ∧ sd i = m (85 + i) ∧ hd i = m (97 + i) ∧ lg i = m (109 + i) ∧ tr i = m (121 + i) ∧ sta i = m (145 + i) ∧ dn i = m (157 + i)) (a1 : Int32) : ∃ m' sta' dn', p_X4_passHour (m 0) (m 1) (m 2) (m 5) (m 6) (m 7) (m 8) rn ss sta td sk sd ru' ot ts wt (nI (k_wh m)) tas pr sg ma hd dn tr lg a1 = some (m' 0, m' 1, m' 2, m' 5, m' 3, m' 4, m' 6, m' 7, m' 8, sta', nI (k_wh m'), dn') ∧ p_X9_pass m rn ru td a1 = some m' ∧ k_Inv m' ∧ (∀ j, j < 12 → sta' j = m' (145 + j) ∧ dn' j = m' (157 + j)) ∧ m' 0 = nI (o + 1) ∧ m' 3 = 0 ∧ m' 4 = 0 ∧ ∀ k, ((9 ≤ k ∧ k < 67) ∨ (73 ≤ k ∧ k < 145)) → m' k = m k := by
  -- what work leaves: c, men
  have work : ∃ dn' sta' hm men c, (if rn (min o 95) = 0 then p_X4_work (m 0) (m 1) (m 5) (m 6) (m 7) ru' ss hd td sk sd sta dn tr lg a1 else some (m 5, m 6, m 7, sta, dn)) = some (c 5, c 6, hm, sta', dn') ∧ k_lp (fun s => lb_X9_pass_21 a1 (rn (min o 95)) td s.1 s.2.1 s.2.2) k_fuel (ru 3, 0, m) = some (men, c) ∧ hm = m 7 + (ru 3 - men) ∧ (∀ j, j < 12 → dn' j = c (157 + j) ∧ sta' j = c (145 + j)) ∧ k_Inv c ∧ ∀ k, (k ≠ 5 ∧ k ≠ 6 ∧ k < 145) → c k = m k := by
    by_cases cw : rn (min o 95) = 0
    · obtain ⟨dn', sta', hm, men, c, g1, g2, g3, g4, g5, g6⟩ := xy_work (ru := ru) h hss ho (by omega) hr3 hse a1
      refine ⟨dn', sta', hm, men, c, ?_, ?_, g3, g4, g5, g6⟩
      · rw [if_pos cw]; unfold p_X4_work; rw [g1, q_b5]
      · rw [cw]; exact g2
    · exact ⟨dn, sta, m 7, ru 3, m, by rw [if_neg cw], y_nowork h.1 a1 _ (ru 3) cw, by rw [Int32.sub_self, Int32.add_zero], fun j hj => ⟨(hse j hj).2.2.2.2.2.2, (hse j hj).2.2.2.2.2.1⟩, h, fun _ _ => rfl⟩
  obtain ⟨dn', sta', hm, men, c, w1, w2, w3, w4, w5, w6⟩ := work
  obtain ⟨W, eW, eW2, hW, -⟩ := kr_nI (rg_wa h.1) (by decide) (by decide)
  have hW100 : W ≤ 100 := by
    rw [eW, show (100 : Int32) = nI 100 from rfl, q_leI (by omega) (by omega)] at hw; exact hw
  have c0 : c 0 = nI o := by rw [w6 0 (by omega), ho]
  have c2 : c 2 = nI W := by rw [w6 2 (by omega), eW]
  have hfl := s_fl_le (td := td) (o := o) w5.1
  -- the new WATER
  have flood : ∃ t : Int32, ∃ V : Nat, V ≤ 220 ∧ nI W + t = nI V ∧ p_X4_flood (nI o) (m 1) (nI W) ss sta' td sk sd = some (nI V) ∧ p_X9_pass m rn ru td a1 = lj_X9_pass_432 ru (rn (min o 95)) c men t := by
    have fx := x_floodlp (m := c) (td := td) (sk := sk) (sd := sd) (sta := sta') (ss := ss) w5.1 (by rw [hss, w6 12 (by omega)]) (o := o) (by omega) (fun i hi => ⟨by rw [(hse i hi).1, w6 _ (by omega)], by rw [(hse i hi).2.1, w6 _ (by omega)], (w4 i hi).2⟩)
    rw [w6 1 (by omega)] at fx
    have fy := y_floodlp (c := c) (td := td) (ru := ru) (men := men) w5.1 c0 (by omega)
    unfold p_X4_flood p_X9_pass
    rw [fx, ho, y_rains hrn (by omega), q_b1, q_b1, w2, q_b2, fy, q_b1]
    rcases Nat.eq_zero_or_pos (s_fl c td o) with z | z
    · rw [z, if_pos (show nI 0 ≤ 0 by decide), if_pos (show nI (10 * 0) ≤ 0 by decide), upd_n (show (2 : Nat) ≠ 7 by omega), c2]
      by_cases c5 : 5 ≤ W
      · refine ⟨-5, W - 5, by omega, ?_, ?_, ?_⟩
        · have : nI W + (-5 : Int32) = nI W - nI 5 := by rw [Int32.sub_eq_add_neg]; rfl
          rw [this, pk_sub c5]
        · have e5 : nI W - 5 = nI (W - 5) := pk_sub (b := 5) c5
          rw [e5]
          rcases Nat.eq_zero_or_pos (W - 5) with z5 | z5
          · rw [z5]; rfl
          · rw [if_pos (show (0 : Int32) < nI (W - 5) from nI_lt (a := 0) z5 (by omega))]
        · rw [if_pos (show (5 : Int32) ≤ nI W from nI_le (a := 5) c5 (by omega))]
      · refine ⟨-(nI W), 0, by omega, ?_, ?_, ?_⟩
        · rw [← Int32.sub_eq_add_neg, Int32.sub_self]; rfl
        · rw [if_neg]
          · rfl
          · rw [Int32.lt_iff_toInt_lt, show (5 : Int32) = nI 5 from rfl, pk_sub_toInt (by omega) (by omega), show (0 : Int32).toInt = 0 from by decide]
            omega
        · rw [if_neg (show ¬ (5 : Int32) ≤ nI W from nI_ge (b := 5) (by omega) (by omega))]
    · refine ⟨nI (10 * s_fl c td o), W + 10 * s_fl c td o, by omega, nI_add _ _, ?_, ?_⟩
      · rw [if_neg (nI_nle z (by omega)), show (10 : Int32) = nI 10 from rfl, pk_mul, nI_add]
      · rw [if_neg (nI_nle (by omega) (by omega))]
  obtain ⟨t, V, hV, hVt, fX, fY⟩ := flood
  -- the row behind the flood
  have fr8 : ∀ k, k ≠ 2 → k ≠ 7 → (upd (upd c 7 ((c 7) + ((ru 3) - men))) 2 (nI V)) k = c k := fun k a b => by rw [upd_n a, upd_n b]
  have I8 : k_Inv (upd (upd c 7 ((c 7) + ((ru 3) - men))) 2 (nI V)) := by
    refine updk_inv (updk_inv w5 (by omega) ?_) (by omega) ?_
    · have := fb_rng ((c 7) + ((ru 3) - men))
      exact ⟨by show -2147483648 ≤ _; omega, by show _ ≤ 2147483647; omega⟩
    · show 0 ≤ _ ∧ _ ≤ 220
      rw [q_ti (by omega)]; omega
  have r8 : (upd (upd c 7 ((c 7) + ((ru 3) - men))) 2 (((upd c 7 ((c 7) + ((ru 3) - men))) 2) + t)) = upd (upd c 7 ((c 7) + ((ru 3) - men))) 2 (nI V) := by
    rw [upd_n (show (2 : Nat) ≠ 7 by omega), c2, hVt]
  have fr8m : ∀ k, (k ≠ 2 ∧ k ≠ 5 ∧ k ≠ 6 ∧ k ≠ 7 ∧ k < 145) → (upd (upd c 7 ((c 7) + ((ru 3) - men))) 2 (nI V)) k = m k := fun k hk => by rw [fr8 k (by omega) (by omega), w6 k (by omega)]
  obtain ⟨m', t1, t2, t3, t4, t5⟩ := xy_tackles (ru := ru) (ru' := ru') (wt := wt) (ma := ma) (pr := pr) (sg := sg) (ot := ot) (ts := ts) (tas := tas) (he := m 1) (wet := rn (min o 95)) hrl hpos (rg_he h.1) (s_W (upd (upd c 7 ((c 7) + ((ru 3) - men))) 2 (nI V))) (upd (upd c 7 ((c 7) + ((ru 3) - men))) 2 (nI V)) 0 rfl (by have := s_W_le I8.1; omega) I8 (fr8m 1 (by omega)) (by rw [hot, k_out_cong (m := m) (fr8m 10 (by omega)) (fun i hi => fr8m _ (by omega))]) (by rw [hts, fr8m 10 (by omega)]) (fun i hi => by rw [hwt i hi, fr8m _ (by omega)]) (by rw [htas, fr8m 11 (by omega)]) (fun i hi => by rw [(hta i hi).1, fr8m _ (by omega)]) (fun i hi => by rw [(hta i hi).2.1, fr8m _ (by omega)]) (fun i hi => by rw [(hta i hi).2.2, fr8m _ (by omega)])
  have hF : s_W (upd (upd c 7 ((c 7) + ((ru 3) - men))) 2 (nI V)) + 2 < 100000 := by have := s_W_le I8.1; omega
  have t1' := t1 k_fuel hF
  have t2' := t2 k_fuel hF
  rw [k_wh_cong (m := m) (m' := upd (upd c 7 ((c 7) + ((ru 3) - men))) 2 (nI V)) (fr8m 11 (by omega)) (fun i hi => fr8m _ (by omega)), fr8m 8 (by omega)] at t2'
  have at' : ∀ k, (k ≠ 1 ∧ k ≠ 8 ∧ (k < 67 ∨ 73 ≤ k)) → m' k = (upd (upd c 7 ((c 7) + ((ru 3) - men))) 2 (nI V)) k := fun k hk => t5 k hk.1 hk.2.1 hk.2.2
  have tack : p_X4_partTackles (nI o) (m 1) (m 8) rn ru' ot ts wt (nI (k_wh m)) tas pr sg ma = some (m' 1, m' 8, nI (k_wh m')) := by
    unfold p_X4_partTackles
    rw [x_rainsIn hrn (by omega), q_b1]
    have : k_lp (fun s : Int32 × Int32 × Int32 => lb_X4_partTackles_14 ru' ot ts wt (m 1) tas pr sg ma (rn (min o 95)) s.1 s.2.1 s.2.2) k_fuel (0, nI (k_wh m), m 8) = some (nI (k_wh m'), m' 8) := t2'
    rw [this, q_b2, t3]
    by_cases z : nI (k_wh m') = 0
    · rw [if_pos z, if_pos z]
    · rw [if_neg z, if_neg z]
  have e0' : m' 0 = nI o := by rw [at' 0 (by omega), fr8m 0 (by omega), ho]
  refine ⟨upd (upd (upd m' 0 ((m' 0) + 1)) 3 0) 4 0, sta', dn', ?_, ?_, ?_, fun j hj => ?_, ?_, ?_, ?_, fun k hk => ?_⟩
  · have z0 : (upd (upd (upd m' 0 ((m' 0) + 1)) 3 0) 4 0) 0 = nI o + 1 := by simp (disch := omega) only [upd_n, upd_s]; rw [e0']
    have z1 : (upd (upd (upd m' 0 ((m' 0) + 1)) 3 0) 4 0) 1 = m' 1 := by simp (disch := omega) only [upd_n]
    have z2 : (upd (upd (upd m' 0 ((m' 0) + 1)) 3 0) 4 0) 2 = nI V := by simp (disch := omega) only [upd_n]; rw [at' 2 (by omega), upd_s]
    have z3 : (upd (upd (upd m' 0 ((m' 0) + 1)) 3 0) 4 0) 3 = 0 := by simp (disch := omega) only [upd_n, upd_s]
    have z4 : (upd (upd (upd m' 0 ((m' 0) + 1)) 3 0) 4 0) 4 = 0 := by rw [upd_s]
    have z5 : (upd (upd (upd m' 0 ((m' 0) + 1)) 3 0) 4 0) 5 = c 5 := by simp (disch := omega) only [upd_n]; rw [at' 5 (by omega), fr8 5 (by omega) (by omega)]
    have z6 : (upd (upd (upd m' 0 ((m' 0) + 1)) 3 0) 4 0) 6 = c 6 := by simp (disch := omega) only [upd_n]; rw [at' 6 (by omega), fr8 6 (by omega) (by omega)]
    have z7 : (upd (upd (upd m' 0 ((m' 0) + 1)) 3 0) 4 0) 7 = hm := by simp (disch := omega) only [upd_n]; rw [at' 7 (by omega), upd_n (by omega), upd_s, w3, w6 7 (by omega)]
    have z8 : (upd (upd (upd m' 0 ((m' 0) + 1)) 3 0) 4 0) 8 = m' 8 := by simp (disch := omega) only [upd_n]
    have zw : k_wh (upd (upd (upd m' 0 ((m' 0) + 1)) 3 0) 4 0) = k_wh m' := k_wh_cong (by simp (disch := omega) only [upd_n]) (fun i hi => by simp (disch := omega) only [upd_n])
    rw [z0, z1, z2, z3, z4, z5, z6, z7, z8, zw]
    unfold p_X4_passHour
    rw [ho, eW, x_rainsIn hrn (by omega), q_b1]
    rw [ho] at w1
    by_cases cw : rn (min o 95) = 0
    · rw [if_pos cw] at w1 ⊢
      rw [w1, q_b5, fX, q_b1, tack, q_b3]
    · rw [if_neg cw] at w1 ⊢
      have hh := Option.some.inj w1
      simp only [Prod.mk.injEq] at hh
      obtain ⟨q1, q2, q3, q4, q5⟩ := hh
      rw [q1, q2, q3, q4, q5, fX, q_b1, tack, q_b3]
  · rw [fY]
    unfold lj_X9_pass_432
    rw [r8]
    have : k_lp (fun s => lb_X9_pass_434 ru (rn (min o 95)) s) k_fuel (upd (upd c 7 ((c 7) + ((ru 3) - men))) 2 (nI V)) = some m' := t1'
    rw [this, q_b1]
  · refine updk_inv (updk_inv (updk_inv t4 (by omega) ?_) (by omega) ⟨by decide, by decide⟩) (by omega) ⟨by decide, by decide⟩
    show 0 ≤ _ ∧ _ ≤ 96
    rw [e0', nI_1, q_ti (by omega)]; omega
  · simp (disch := omega) only [upd_n]
    rw [at' _ (by omega), at' _ (by omega), fr8 _ (by omega) (by omega), fr8 _ (by omega) (by omega)]
    exact ⟨(w4 j hj).2, (w4 j hj).1⟩
  · simp (disch := omega) only [upd_n, upd_s]
    rw [e0', nI_1]
  · simp (disch := omega) only [upd_n, upd_s]
  · rw [upd_s]
  · simp (disch := omega) only [upd_n]
    rw [at' k (by omega), fr8m k (by omega)]
