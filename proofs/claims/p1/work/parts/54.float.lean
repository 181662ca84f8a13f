theorem q_b12 {T0 T1 T2 T3 T4 T5 T6 T7 T8 T9 T10 T11 α : Type} (f : T0 → T1 → T2 → T3 → T4 → T5 → T6 → T7 → T8 → T9 → T10 → T11 → Option α) (v0 : T0) (v1 : T1) (v2 : T2) (v3 : T3) (v4 : T4) (v5 : T5) (v6 : T6) (v7 : T7) (v8 : T8) (v9 : T9) (v10 : T10) (v11 : T11) : k_b12 (some (v0, v1, v2, v3, v4, v5, v6, v7, v8, v9, v10, v11)) f = f v0 v1 v2 v3 v4 v5 v6 v7 v8 v9 v10 v11 := rfl
theorem q_b28 {T0 T1 T2 T3 T4 T5 T6 T7 T8 T9 T10 T11 T12 T13 T14 T15 T16 T17 T18 T19 T20 T21 T22 T23 T24 T25 T26 T27 α : Type} (f : T0 → T1 → T2 → T3 → T4 → T5 → T6 → T7 → T8 → T9 → T10 → T11 → T12 → T13 → T14 → T15 → T16 → T17 → T18 → T19 → T20 → T21 → T22 → T23 → T24 → T25 → T26 → T27 → Option α) (v0 : T0) (v1 : T1) (v2 : T2) (v3 : T3) (v4 : T4) (v5 : T5) (v6 : T6) (v7 : T7) (v8 : T8) (v9 : T9) (v10 : T10) (v11 : T11) (v12 : T12) (v13 : T13) (v14 : T14) (v15 : T15) (v16 : T16) (v17 : T17) (v18 : T18) (v19 : T19) (v20 : T20) (v21 : T21) (v22 : T22) (v23 : T23) (v24 : T24) (v25 : T25) (v26 : T26) (v27 : T27) : k_b28 (some (v0, v1, v2, v3, v4, v5, v6, v7, v8, v9, v10, v11, v12, v13, v14, v15, v16, v17, v18, v19, v20, v21, v22, v23, v24, v25, v26, v27)) f = f v0 v1 v2 v3 v4 v5 v6 v7 v8 v9 v10 v11 v12 v13 v14 v15 v16 v17 v18 v19 v20 v21 v22 v23 v24 v25 v26 v27 := rfl
theorem y_save (m a : Nat → Int32) : k_lp (fun s : Int32 × (Nat → Int32) => lb_X9_findFloat_9 m s.1 s.2) k_fuel (0, a) = some (fb_put a m 0 169) := by
  have := q_run (body := fun s : Int32 × (Nat → Int32) => lb_X9_findFloat_9 m s.1 s.2) (fun i => (nI i, fb_put a m 0 i)) (fb_put a m 0 169) 169 (fun i hi => by
    show lb_X9_findFloat_9 m (nI i) (fb_put a m 0 i) = some (.inl (nI (i + 1), fb_put a m 0 (i + 1)))
    unfold lb_X9_findFloat_9
    have e := fb_put_succ a m 0 i
    rw [Nat.zero_add] at e
    rw [show (169 : Int32) = nI 169 from rfl, q_ifge _ _ hi (by omega), q_ix _ (by omega) (by omega), q_ix _ (by omega) (by omega), q_cl (by omega), nI_1, e]) (by
    show lb_X9_findFloat_9 m (nI 169) _ = _
    unfold lb_X9_findFloat_9
    rw [show (169 : Int32) = nI 169 from rfl, q_ifle _ _ (Nat.le_refl _) (by omega)]) (by omega)
  rw [fb_put_0] at this
  exact this
theorem y_rest (a c : Nat → Int32) : k_lp (fun s : Int32 × (Nat → Int32) => lb_X9_findFloat_200 a s.1 s.2) k_fuel (0, c) = some (fb_put c a 0 169) := by
  have := q_run (body := fun s : Int32 × (Nat → Int32) => lb_X9_findFloat_200 a s.1 s.2) (fun i => (nI i, fb_put c a 0 i)) (fb_put c a 0 169) 169 (fun i hi => by
    show lb_X9_findFloat_200 a (nI i) (fb_put c a 0 i) = some (.inl (nI (i + 1), fb_put c a 0 (i + 1)))
    unfold lb_X9_findFloat_200
    have e := fb_put_succ c a 0 i
    rw [Nat.zero_add] at e
    rw [show (169 : Int32) = nI 169 from rfl, q_ifge _ _ hi (by omega), q_ix _ (by omega) (by omega), q_ix _ (by omega) (by omega), q_cl (by omega), nI_1, e]) (by
    show lb_X9_findFloat_200 a (nI 169) _ = _
    unfold lb_X9_findFloat_200
    rw [show (169 : Int32) = nI 169 from rfl, q_ifle _ _ (Nat.le_refl _) (by omega)]) (by omega)
  rw [fb_put_0] at this
  exact this
theorem y_195n {a c ru m td : Nat → Int32} {ls t74 : Int32} (hR : k_Inv (fb_put c a 0 169)) : lj_X9_findFloat_195 a c 0 ru m td ls t74 = some (-4, ls, c 0, fb_put c a 0 169, a) := by
  obtain ⟨e10, hn, -⟩ := s_nt_e hR.1
  have hp : 2 ^ s_nt (fb_put c a 0 169) ≤ 2 ^ 12 := Nat.pow_le_pow_right (by omega) hn
  have h12 : (2 : Nat) ^ 12 = 4096 := by decide
  have hpos := Nat.two_pow_pos (s_nt (fb_put c a 0 169))
  unfold lj_X9_findFloat_195
  rw [y_rest, q_b1]
  have : k_lp (fun s : Int32 × Int32 × Int32 => lb_X9_findFloat_231 (fb_put c a 0 169) 0 ru m c t74 td s.1 s.2.1 s.2.2) k_fuel (0, (-4), ls) = some (-4, ls) := by
    refine q_run (body := fun s : Int32 × Int32 × Int32 => lb_X9_findFloat_231 (fb_put c a 0 169) 0 ru m c t74 td s.1 s.2.1 s.2.2) (fun _ => (nI 0, (-4), ls)) _ 0 (fun j hj => absurd hj (by omega)) ?_ (by omega)
    show lb_X9_findFloat_231 (fb_put c a 0 169) 0 ru m c t74 td (nI 0) (-4) ls = _
    unfold lb_X9_findFloat_231
    rw [e10, q_one _ (by omega), q_ifge _ _ hpos (by omega), if_pos rfl]
  rw [this, q_b2]
theorem y_155n {a c ru m td : Nat → Int32} {ls : Int32} (hR : k_Inv (fb_put c a 0 169)) : lj_X9_findFloat_155 c a ru m td ls 0 = some (-4, ls, c 0, fb_put c a 0 169, a) := by
  unfold lj_X9_findFloat_155
  rw [y_195n hR, y_195n hR]
  by_cases q : 0 ≤ c 1
  · rw [if_pos q]
  · rw [if_neg q]
theorem y_155y {a c ru m td : Nat → Int32} {ls : Int32} (hR : k_Inv (fb_put c a 0 169)) {o U : Nat} (ho : o ≤ 96) (hU : U ≤ 110) (hm : m 0 = nI o) (hc : c 0 + (if 0 ≤ c 1 then c 1 else -(c 1)) = nI U) : lj_X9_findFloat_155 c a ru m td ls 1 = some ((if (s_best (fb_put c a 0 169) ru td o U (2 ^ s_nt (fb_put c a 0 169))).1 = 96 then -4 else nI (s_best (fb_put c a 0 169) ru td o U (2 ^ s_nt (fb_put c a 0 169))).1), (if (s_best (fb_put c a 0 169) ru td o U (2 ^ s_nt (fb_put c a 0 169))).1 = 96 then ls else nI (s_best (fb_put c a 0 169) ru td o U (2 ^ s_nt (fb_put c a 0 169))).2), c 0, fb_put c a 0 169, a) := by
  have gen : ∀ t74 : Int32, c 0 + t74 = nI U → lj_X9_findFloat_195 a c 1 ru m td ls t74 = some ((if (s_best (fb_put c a 0 169) ru td o U (2 ^ s_nt (fb_put c a 0 169))).1 = 96 then -4 else nI (s_best (fb_put c a 0 169) ru td o U (2 ^ s_nt (fb_put c a 0 169))).1), (if (s_best (fb_put c a 0 169) ru td o U (2 ^ s_nt (fb_put c a 0 169))).1 = 96 then ls else nI (s_best (fb_put c a 0 169) ru td o U (2 ^ s_nt (fb_put c a 0 169))).2), c 0, fb_put c a 0 169, a) := by
    intro t74 h74
    unfold lj_X9_findFloat_195
    rw [y_rest, q_b1, y_best hR ho hU hm h74, q_b2]
  unfold lj_X9_findFloat_155
  by_cases q : 0 ≤ c 1
  · rw [if_pos q] at hc ⊢
    exact gen _ hc
  · rw [if_neg q] at hc ⊢
    exact gen _ hc
theorem xy_found {m rn ru ru' td wt un ma pr sg sk sd hd lg tr wo sta dn g_wt g_un g_ma g_pr g_sg g_sk g_sd g_hd g_lg g_tr g_wo g_sta g_dn : Nat → Int32} {ot ts tas ss fh fth fsh ls0 : Int32} {aside : Nat → Int32} (hI : k_Inv m) (hrn : ∀ h, h < 96 → kr (rn h) 0 1) (hru : R_rule ru' ru) (hot : ot = nI (k_out m)) (hts : ts = m 10) (hth : ∀ i, i < 12 → wt i = m (13 + i) ∧ un i = m (25 + i)) (htas : tas = m 11) (hta : ∀ i, i < 6 → ma i = m (49 + i) ∧ pr i = m (55 + i) ∧ sg i = m (61 + i)) (hss : ss = m 12) (hse : ∀ i, i < 12 → sk i = m (73 + i) ∧ sd i = m (85 + i) ∧ hd i = m (97 + i) ∧ lg i = m (109 + i) ∧ tr i = m (121 + i) ∧ wo i = m (133 + i) ∧ sta i = m (145 + i) ∧ dn i = m (157 + i)) (h8 : fb_ct (fun i => decide (m (37 + i) = 0)) (s_nt m) ≤ 8) : ∃ bf ho' th' sh' w, p_X0_isFound fh fth fsh (m 0) (m 1) (m 2) (m 5) (m 3) (m 4) (m 6) (m 7) (m 8) (m 9) ot ts wt g_wt un g_un (nI (k_wh m)) tas ma g_ma pr g_pr sg g_sg ss sk g_sk sd g_sd hd g_hd lg g_lg tr g_tr wo g_wo sta g_sta dn g_dn rn td ru' = some (bf, ho', th', sh', w) ∧ ∃ lh ls sh2 now' aside', p_X9_findFloat ls0 m aside rn ru td = some (lh, ls, sh2, now', aside') ∧ (∀ k, k < 169 → now' k = m k) ∧ ((bf = 0 ∧ lh = -4) ∨ (bf = 1 ∧ ¬ lh = -4 ∧ ho' = lh ∧ th' = ls ∧ sh' = sh2)) := by
  obtain ⟨hrl, hpos⟩ := R_rule_rl hru
  obtain ⟨o, eo0, hoo⟩ := s_hour hI.1
  obtain ⟨e10, hn, -⟩ := s_nt_e hI.1
  obtain ⟨cf, dn', sta', x2, t1, t2, t3, t4, t5, t6⟩ := xy_trial (m := m) (rn := rn) (ru := ru) (ru' := ru') (td := td) (wt := (k_cpy 12 wt g_wt)) (ma := (k_cpy 6 ma g_ma)) (pr := (k_cpy 6 pr g_pr)) (sg := (k_cpy 6 sg g_sg)) (sk := (k_cpy 12 sk g_sk)) (sd := (k_cpy 12 sd g_sd)) (hd := (k_cpy 12 hd g_hd)) (lg := (k_cpy 12 lg g_lg)) (tr := (k_cpy 12 tr g_tr)) (ot := ot) (ts := ts) (tas := tas) (ss := ss) hrn hrl hpos hru.1.2.2.2.1 hot hts (fun i hi => (q_cpy i hi).trans (hth i hi).1) htas (fun i hi => ⟨(q_cpy i hi).trans (hta i hi).1, (q_cpy i hi).trans (hta i hi).2.1, (q_cpy i hi).trans (hta i hi).2.2⟩) hss (fun i hi => ⟨(q_cpy i hi).trans (hse i hi).1, (q_cpy i hi).trans (hse i hi).2.1, (q_cpy i hi).trans (hse i hi).2.2.1, (q_cpy i hi).trans (hse i hi).2.2.2.1, (q_cpy i hi).trans (hse i hi).2.2.2.2.1⟩) (96 - o) o (by omega) m (k_cpy 12 dn g_dn) (k_cpy 12 sta g_sta) hI (fun _ _ => rfl) eo0 (fun i hi => ⟨(q_cpy i hi).trans (hse i hi).2.2.2.2.2.2.1, (q_cpy i hi).trans (hse i hi).2.2.2.2.2.2.2⟩)
  have t1' := t1 k_fuel (by show _ < 100000; omega)
  have t2' := t2 k_fuel (by show _ < 100000; omega)
  rw [← eo0] at t1'
  obtain ⟨x, x1, -, x3⟩ := xy_bits t3.1 (sta := sta') (ss := ss) (by rw [hss, t4 12 (by omega)]) (fun i hi => (t5 i hi).1)
  have hput : ∀ k, k < 169 → fb_put cf (fb_put aside m 0 169) 0 169 k = m k := by
    intro k hk
    rw [fb_put_in (a := 0) (by omega) (by omega), fb_put_in (a := 0) (by omega) (by omega)]
    rfl
  have hR : k_Inv (fb_put cf (fb_put aside m 0 169) 0 169) := k_Inv_frame hI (fun k hk => by rw [hput k hk]; exact hI.1 k hk) (hput _ (by omega)) (hput _ (by omega)) (hput _ (by omega)) (fun j hj => hput _ (by omega)) (fun j hj => hput _ (by omega)) (fun j hj => ⟨hput _ (by omega), hput _ (by omega), hput _ (by omega)⟩)
  have hbo := q_01 (rg_bo hI.1)
  have hwe := q_01 (rg_we hI.1)
  have yF : p_X9_findFloat ls0 m aside rn ru td = if x2 = 0 then lj_X9_findFloat_155 cf (fb_put aside m 0 169) ru m td ls0 0 else if cf 2 ≤ 100 then lj_X9_findFloat_155 cf (fb_put aside m 0 169) ru m td ls0 1 else lj_X9_findFloat_155 cf (fb_put aside m 0 169) ru m td ls0 0 := by
    unfold p_X9_findFloat
    rw [y_save, q_b1, t2', q_b2, y_lost, q_b1]
    by_cases z : x2 = 0
    · rw [if_pos z, if_pos z]
    · rw [if_neg z, if_neg z]
      by_cases cw : cf 2 ≤ 100
      · rw [if_pos cw, if_pos cw]; rfl
      · rw [if_neg cw, if_neg cw]; rfl
  rw [yF, y_155n hR]
  unfold p_X0_isFound
  rw [x_copy hbo hwe, q_b28, t1', q_b12, x_lost, q_b1, x1, q_b1]
  by_cases cw : cf 2 ≤ 100
  · rw [if_pos cw, if_pos rfl, if_pos cw]
    rcases t6 with ⟨y1, y2⟩ | ⟨y1, y2⟩
    · have x0 : x = 0 := by rw [x3]; exact y2
      subst y1
      rw [if_pos x0, if_neg (show ¬ (1 : Int32) = 0 by decide)]
      obtain ⟨o2, eo2, ho2⟩ := s_hour t3.1
      obtain ⟨q, eq, hq, -⟩ := s_abs (rg_he t3.1)
      have hU : cf 0 + (if 0 ≤ cf 1 then cf 1 else -(cf 1)) = nI (o2 + q) := by rw [eo2, eq, nI_add]
      have hU2 : cf 0 + (if 0 ≤ cf 1 then cf 1 else 0 - cf 1) = nI (o2 + q) := by rw [Int32.zero_sub]; exact hU
      rw [hU2, eo0]
      have nt' : s_nt (fb_put cf (fb_put aside m 0 169) 0 169) = s_nt m := s_nt_cong (hput 10 (by omega))
      have xb := x_best (m := fb_put cf (fb_put aside m 0 169) 0 169) (ru := ru) (ru' := ru') (td := td) (wt := wt) (un := un) (ot := ot) (ts := ts) (th0 := fth) hR hrl hru.1.1 hru.1.2.2.1 (by rw [hot, k_out_cong (m := m) (m' := fb_put cf (fb_put aside m 0 169) 0 169) (hput 10 (by omega)) (fun i hi => hput _ (by omega))]) (by rw [hts, hput 10 (by omega)]) (fun i hi => by rw [(hth i hi).1, (hth i hi).2, hput _ (by omega), hput _ (by omega)]; exact ⟨rfl, rfl⟩) (by
        rw [nt', fb_ct_cong (p := s_po (fb_put cf (fb_put aside m 0 169) 0 169)) (q := fun i => decide (m (37 + i) = 0)) (fun j hj => by
          show decide (fb_put cf (fb_put aside m 0 169) 0 169 (37 + j) = 0) = _
          rw [hput _ (by omega)])]
        exact h8) (o := o) (U := o2 + q) hoo (by omega)
      have yb := y_155y (a := fb_put aside m 0 169) (c := cf) (ru := ru) (m := m) (td := td) (ls := ls0) hR hoo (U := o2 + q) (by omega) eo0 hU
      rw [xb, q_b2, yb]
      generalize hBe : s_best (fb_put cf (fb_put aside m 0 169) 0 169) ru td o (o2 + q) (2 ^ s_nt (fb_put cf (fb_put aside m 0 169) 0 169)) = B
      by_cases cB : B.1 = 96
      · rw [if_pos cB, if_pos cB, if_pos (show (96 : Int32) ≤ nI B.1 by rw [cB]; decide)]
        exact ⟨_, _, _, _, _, rfl, _, _, _, _, _, rfl, hput, Or.inl ⟨rfl, rfl⟩⟩
      · have hb := (s_best_le (fb_put cf (fb_put aside m 0 169) 0 169) ru td o (o2 + q) (2 ^ s_nt (fb_put cf (fb_put aside m 0 169) 0 169))).1
        rw [hBe] at hb
        have hne : ¬ nI B.1 = -4 := by
          intro e
          have := congrArg Int32.toInt e
          rw [q_ti (by omega), show (-4 : Int32).toInt = -4 from by decide] at this
          omega
        rw [if_neg cB, if_neg cB, if_neg cB, if_neg (show ¬ (96 : Int32) ≤ nI B.1 from nI_ge (b := 96) (by omega) (by omega))]
        exact ⟨_, _, _, _, _, rfl, _, _, _, _, _, rfl, hput, Or.inr ⟨rfl, hne, rfl, rfl, rfl⟩⟩
    · have x0 : ¬ x = 0 := by rw [x3]; exact y2
      subst y1
      rw [if_neg x0, if_pos rfl]
      exact ⟨_, _, _, _, _, rfl, _, _, _, _, _, rfl, hput, Or.inl ⟨rfl, rfl⟩⟩
  · rw [if_neg cw, if_neg (show ¬ (1 : Int32) = 0 by decide), if_neg cw]
    refine ⟨_, _, _, _, _, rfl, ?_⟩
    by_cases z : x2 = 0
    · rw [if_pos z]
      exact ⟨_, _, _, _, _, rfl, hput, Or.inl ⟨rfl, rfl⟩⟩
    · rw [if_neg z]
      exact ⟨_, _, _, _, _, rfl, hput, Or.inl ⟨rfl, rfl⟩⟩
theorem y_outs {m : Nat → Int32} (h : k_Rng m) : k_lp (fun s : Int32 × Int32 => lb_X9_toFloat_23 m s.1 s.2) k_fuel (0, 0) = some (nI (fb_ct (fun i => decide (m (37 + i) = 0)) (s_nt m))) := by
  obtain ⟨e10, hn, -⟩ := s_nt_e h
  have key : k_lp (fun s : Int32 × Int32 => lb_X9_toFloat_23 m s.1 s.2) k_fuel (0, 0) = some (0 + q_sum (fun i => 1 - m (37 + i)) (s_nt m)) := by
    refine q_sumlp _ (s_nt m) 0 (fun i x hi => ?_) (fun x => ?_) (by omega)
    · show lb_X9_toFloat_23 m x (nI i) = _
      unfold lb_X9_toFloat_23
      rw [e10]
      simp (disch := omega) only [q_ifge, q_ifle, q_o5, q_o13, q_o25, q_o37, q_o49, q_o55, q_o61, q_o67, q_o73, q_o85, q_o97, q_o109, q_o121, q_o133, q_o145, q_o157, q_ix, q_cl, q_b1, q_b2, q_hasBit, q_ifp, Nat.le_refl]
    · show lb_X9_toFloat_23 m x (nI (s_nt m)) = _
      unfold lb_X9_toFloat_23
      rw [e10]
      simp (disch := omega) only [q_ifge, q_ifle, q_o5, q_o13, q_o25, q_o37, q_o49, q_o55, q_o61, q_o67, q_o73, q_o85, q_o97, q_o109, q_o121, q_o133, q_o145, q_o157, q_ix, q_cl, q_b1, q_b2, q_hasBit, q_ifp, Nat.le_refl]
  rw [key, Int32.zero_add, q_sum_cnt (p := fun i => decide (m (37 + i) = 0)) (fun i hi => by
    rcases q_01 (rg_in h (i := i) (by omega)) with e | e <;> rw [e] <;> rfl)]
theorem sim_toFloat : k_Sim_toFloat R_all := by
  intro S L M a1 hR
  obtain ⟨hc, ht, ⟨hrn, hrn2⟩, hru, hs, hk0, hk1, hk2, hp⟩ := hR
  obtain ⟨⟨e0, e1, e2, e5, e3, e4, e6, e7, e8, e9, eo, ets, ew, eta, ess⟩, hth, hta, hse, hI⟩ := id hs
  obtain ⟨e10, hn, -⟩ := s_nt_e hI.1
  have key : ∃ r w, p_X8_toFloat (S 4 0) (S 5 0) (S 6 0) (S 7 0) (S 8 0) (S 9 0) (S 10 0) (S 11 0) (S 12 0) (S 13 0) (S 14 0) (S 15 0) (S 125 0) (S 126 0) (S 127 0) (S 128 0) (S 129 0) (S 130 0) (S 131 0) (S 132 0) (S 133 0) (S 134 0) (S 135 0) (S 136 0) (S 137 0) (S 138 0) (S 139 0) (S 16) (S 140) (S 17) (S 141) (S 142 0) (S 143 0) (S 18 0) (S 19 0) (S 20) (S 144) (S 21) (S 145) (S 22) (S 146) (S 147 0) (S 23 0) (S 24) (S 148) (S 25) (S 149) (S 26) (S 150) (S 27) (S 151) (S 28) (S 152) (S 29) (S 153) (S 30) (S 154) (S 31) (S 155) (S 2) (S 1) (S 3) a1 = some (r, w) ∧ ∃ lh ls sh now' aside', p_X9_toFloat (M 6 0) (M 7 0) (M 8 0) (M 9) (M 10) (M 13) (M 14) (M 12) a1 = some (r, 0, lh, ls, sh, now', aside') ∧ ∀ k, k < 169 → now' k = M 9 k := by
    unfold p_X8_toFloat p_X9_toFloat
    rw [eo, x_outs hI.1, y_outs hI.1, e2, x_lost, y_lost]
    simp only [q_within, q_in_0_2, q_b1, q_ifp]
    have hle := fb_ct_le (fun i => decide (M 9 (37 + i) = 0)) (s_nt (M 9))
    by_cases h1 : 0 ≤ a1 ∧ a1 ≤ 2
    · simp only [if_pos h1]
      by_cases c8 : fb_ct (fun i => decide (M 9 (37 + i) = 0)) (s_nt (M 9)) ≤ 8
      · have c8a : nI (fb_ct (fun i => decide (M 9 (37 + i) = 0)) (s_nt (M 9))) ≤ 8 := nI_le (b := 8) c8 (by omega)
        have c8b : ¬ (8 : Int32) < nI (fb_ct (fun i => decide (M 9 (37 + i) = 0)) (s_nt (M 9))) := nI_nlt (a := 8) c8 (by omega)
        simp only [if_pos c8a, if_neg c8b]
        by_cases cw : M 9 2 ≤ 100
        · simp only [if_pos cw, if_true]
          obtain ⟨bf, ho', th', sh', w, g1, lh, ls, sh2, now', aside', g2, g3, g4⟩ := xy_found (m := M 9) (rn := M 13) (ru := M 14) (ru' := S 3) (td := M 12) (wt := S 16) (g_wt := S 140) (un := S 17) (g_un := S 141) (ma := S 20) (g_ma := S 144) (pr := S 21) (g_pr := S 145) (sg := S 22) (g_sg := S 146) (sk := S 24) (g_sk := S 148) (sd := S 25) (g_sd := S 149) (hd := S 26) (g_hd := S 150) (lg := S 27) (g_lg := S 151) (tr := S 28) (g_tr := S 152) (wo := S 29) (g_wo := S 153) (sta := S 30) (g_sta := S 154) (dn := S 31) (g_dn := S 155) (ot := nI (k_out (M 9))) (ts := S 15 0) (tas := S 19 0) (ss := S 23 0) (fh := S 125 0) (fth := S 126 0) (fsh := S 127 0) (ls0 := M 7 0) (aside := M 10) hI hrn2 hru rfl ets hth eta hta ess hse c8
          rw [e0, e1, e3, e4, e5, e6, e7, e8, e9, ew, hrn, show S 1 = M 12 from ht, g1, g2]
          obtain ⟨w3, w4, w5, w6, w7, w8, w9, w10, w11, w12, w13, w14, w15, w16, w17, w18, w19, w20, w21, w22, w23, w24, w25, w26, w27, w28, w29, w30⟩ := w
          rcases g4 with ⟨b0, l4⟩ | ⟨b1, l4, q1, q2, q3⟩
          · subst b0; subst l4
            exact ⟨-4, _, rfl, -4, ls, sh2, now', aside', rfl, g3⟩
          · subst b1; subst q1; subst q2; subst q3
            rw [q_b5]
            simp only [if_neg l4]
            by_cases d0 : a1 = 0
            · subst d0
              exact ⟨_, _, rfl, _, _, _, _, _, rfl, g3⟩
            · by_cases d1 : a1 = 1
              · subst d1
                exact ⟨_, _, rfl, _, _, _, _, _, rfl, g3⟩
              · simp only [if_neg d0, if_neg d1]
                exact ⟨_, _, rfl, _, _, _, _, _, rfl, g3⟩
        · simp only [if_neg cw, show ((1 : Int32) = 0) = False from by decide, if_false]
          exact ⟨_, _, rfl, _, _, _, _, _, rfl, fun _ _ => rfl⟩
      · have c8a : ¬ nI (fb_ct (fun i => decide (M 9 (37 + i) = 0)) (s_nt (M 9))) ≤ 8 := nI_ge (a := 8) (by omega) (by omega)
        have c8b : (8 : Int32) < nI (fb_ct (fun i => decide (M 9 (37 + i) = 0)) (s_nt (M 9))) := nI_lt (a := 8) (by omega) (by omega)
        simp only [if_neg c8a, if_pos c8b]
        by_cases cw : M 9 2 ≤ 100
        · simp only [if_pos cw, if_true]
          exact ⟨_, _, rfl, _, _, _, _, _, rfl, fun _ _ => rfl⟩
        · simp only [if_neg cw, show ((1 : Int32) = 0) = False from by decide, if_false]
          exact ⟨_, _, rfl, _, _, _, _, _, rfl, fun _ _ => rfl⟩
    · simp only [if_neg h1]; exact ⟨_, _, rfl, _, _, _, _, _, rfl, fun _ _ => rfl⟩
  obtain ⟨r, w, g1, lh, ls, sh, now', aside', g2, g3⟩ := key
  obtain ⟨w0, w1, w2, w3, w4, w5, w6, w7, w8, w9, w10, w11, w12, w13, w14, w15, w16, w17, w18, w19, w20, w21, w22, w23, w24, w25, w26, w27, w28, w29, w30⟩ := w
  have eX : pX_toFloat S L a1 = some (r, (k_su (k_su (k_su (k_su (k_su (k_su (k_su (k_su (k_su (k_su (k_su (k_su (k_su (k_su (k_su (k_su (k_su (k_su (k_su (k_su (k_su (k_su (k_su (k_su (k_su (k_su (k_su (k_su (k_su (k_su (k_su S 125 (fun _ => w0)) 126 (fun _ => w1)) 127 (fun _ => w2)) 128 (fun _ => w3)) 129 (fun _ => w4)) 130 (fun _ => w5)) 131 (fun _ => w6)) 132 (fun _ => w7)) 133 (fun _ => w8)) 134 (fun _ => w9)) 135 (fun _ => w10)) 136 (fun _ => w11)) 137 (fun _ => w12)) 138 (fun _ => w13)) 139 (fun _ => w14)) 140 w15) 141 w16) 142 (fun _ => w17)) 143 (fun _ => w18)) 144 w19) 145 w20) 146 w21) 147 (fun _ => w22)) 148 w23) 149 w24) 150 w25) 151 w26) 152 w27) 153 w28) 154 w29) 155 w30), L) := by unfold pX_toFloat; rw [g1]; rfl
  have eM : pM_toFloat M a1 = some (r, (k_su (k_su (k_su (k_su (k_su (k_su M 0 (fun _ => 0)) 6 (fun _ => lh)) 7 (fun _ => ls)) 8 (fun _ => sh)) 9 now') 10 aside')) := by unfold pM_toFloat; rw [g2]; rfl
  exact ⟨_, _, _, _, eX, eM, hc, ht, ⟨hrn, hrn2⟩, hru, R_ship_copy hs g3 (fun _ _ => rfl) (fun _ _ => rfl) (fun _ _ => rfl) (fun _ _ => rfl) (fun _ _ => rfl) (fun _ _ => rfl) (fun _ _ => rfl) (fun _ _ => rfl) (fun _ _ => rfl) (fun _ _ => rfl) (fun _ _ => rfl) (fun _ _ => rfl) (fun _ _ => rfl), hk0, hk1, hk2, hp⟩
