theorem sim_greatest : k_Sim_greatest R_all := by
  intro S L M a1 hR h2
  obtain ⟨hc, ht, hrn, hru, hs, hk0, hk1, hk2, hp⟩ := hR
  obtain ⟨⟨e0, e1, e2, e5, e3, e4, e6, e7, e8, e9, eo, ets, ew, eta, ess⟩, hth, hta, hse, hI⟩ := id hs
  obtain ⟨hrl, hpos⟩ := R_rule_rl hru
  have xh := fun a => x_holds (ru := M 14) hI.1 hI.2.2.1 hrl eo ets (fun i hi => (hth i hi).1) eta (fun i hi => (hta i hi).1) (fun i hi => (hta i hi).2.1) (fun i hi => (hta i hi).2.2) a a1
  have key : ∃ k : Nat, k_lp (fun s : Int32 => lb_X8_greatest_3 (S 3) (S 14 0) (S 15 0) (S 16) (S 18 0) (S 19 0) (S 21) (S 22) (S 20) a1 s) k_fuel 9 = some (nI k) ∧ k_lp (fun s : Int32 => lb_X9_greatest_8 (M 9) (M 14) a1 s) k_fuel 9 = some (nI k) := by
    have gen : ∀ n : Nat, n ≤ 9 → ∃ k : Nat, (∀ F, n < F → k_lp (fun s : Int32 => lb_X8_greatest_3 (S 3) (S 14 0) (S 15 0) (S 16) (S 18 0) (S 19 0) (S 21) (S 22) (S 20) a1 s) F (nI n) = some (nI k)) ∧ (∀ F, n < F → k_lp (fun s : Int32 => lb_X9_greatest_8 (M 9) (M 14) a1 s) F (nI n) = some (nI k)) := by
      intro n
      induction n with
      | zero =>
        intro _
        refine ⟨0, fun F hF => ?_, fun F hF => ?_⟩
        · obtain ⟨F, rfl⟩ : ∃ f, F = f + 1 := ⟨F - 1, by omega⟩
          unfold k_lp lb_X8_greatest_3
          rw [if_pos (by decide)]
        · obtain ⟨F, rfl⟩ : ∃ f, F = f + 1 := ⟨F - 1, by omega⟩
          unfold k_lp lb_X9_greatest_8
          rw [show nI 0 = 0 from rfl, y_holds hI.1 hI.2.2.1 hpos ⟨by decide, by decide⟩, q_b1, s_holds_0 (s_force_0 _ _)]
          rfl
      | succ n ih =>
        intro hn
        obtain ⟨k, k1, k2⟩ := ih (by omega)
        have hd : nI (n + 1) + (-1) = nI n := pk_m1 n
        cases hh : s_holds (M 9) (M 14) (nI (n + 1)) a1 with
        | true =>
          refine ⟨n + 1, fun F hF => ?_, fun F hF => ?_⟩
          · obtain ⟨F, rfl⟩ : ∃ f, F = f + 1 := ⟨F - 1, by omega⟩
            unfold k_lp lb_X8_greatest_3
            rw [if_neg (nI_nle (by omega) (by omega)), ew, xh, q_b1, hh]
            rfl
          · obtain ⟨F, rfl⟩ : ∃ f, F = f + 1 := ⟨F - 1, by omega⟩
            unfold k_lp lb_X9_greatest_8
            rw [y_holds hI.1 hI.2.2.1 hpos ⟨by rw [q_ti (by omega)]; omega, by rw [q_ti (by omega)]; omega⟩, q_b1, hh]
            rfl
        | false =>
          refine ⟨k, fun F hF => ?_, fun F hF => ?_⟩
          · obtain ⟨F, rfl⟩ : ∃ f, F = f + 1 := ⟨F - 1, by omega⟩
            unfold k_lp lb_X8_greatest_3
            rw [if_neg (nI_nle (by omega) (by omega)), ew, xh, q_b1, hh, hd, ← ew]
            exact k1 F (by omega)
          · obtain ⟨F, rfl⟩ : ∃ f, F = f + 1 := ⟨F - 1, by omega⟩
            unfold k_lp lb_X9_greatest_8
            rw [y_holds hI.1 hI.2.2.1 hpos ⟨by rw [q_ti (by omega)]; omega, by rw [q_ti (by omega)]; omega⟩, q_b1, hh, hd]
            exact k2 F (by omega)
    obtain ⟨k, k1, k2⟩ := gen 9 (by omega)
    exact ⟨k, k1 k_fuel (by show 9 < 100000; omega), k2 k_fuel (by show 9 < 100000; omega)⟩
  obtain ⟨k, k1, k2⟩ := key
  refine ⟨nI k, S, L, k_su M 0 (fun _ => 0), ?_, ?_, hc, ht, hrn, hru, hs, hk0, hk1, hk2, hp⟩
  · unfold pX_greatest p_X8_greatest; rw [k1]; rfl
  · unfold pM_greatest p_X9_greatest; rw [k2]; rfl
theorem sim_tackleTold : k_Sim_tackleTold R_all := by
  intro S L M a1 a2 hR
  obtain ⟨hc, ht, ⟨hrn, hrn2⟩, hru, hs, hk0, hk1, hk2, hp⟩ := hR
  obtain ⟨⟨e0, e1, e2, e5, e3, e4, e6, e7, e8, e9, eo, ets, ew, eta, ess⟩, hth, hta, hse, hI⟩ := id hs
  obtain ⟨hrl, hpos⟩ := R_rule_rl hru
  obtain ⟨o, eo0, hoo⟩ := s_hour hI.1
  obtain ⟨e11, hn, -⟩ := s_na_e hI.1
  have frc := fun a => x_force (ru := M 14) hI.1 hrl.1 eo ets (fun i hi => (hth i hi).1) a
  have key : ∃ r, p_X8_tackleTold (S 4 0) (S 5 0) (S 18 0) (S 19 0) (S 3) (S 14 0) (S 15 0) (S 16) (S 21) (S 2) (S 22) a1 a2 = some r ∧ p_X9_tackleTold (M 9) (M 13) (M 14) a1 a2 = some (r, 0) := by
    unfold p_X8_tackleTold p_X9_tackleTold
    rw [frc, eta, ew, e0, e1, e11, eo0]
    simp only [q_within, q_in_0_c, q_in_0_3, q_b1, q_ifp]
    by_cases h1 : 0 ≤ a1 ∧ a1 ≤ nI (s_na (M 9)) - 1
    · simp only [if_pos h1]
      obtain ⟨j, hj, rfl⟩ := q_idx (by omega) h1
      by_cases h2 : 0 ≤ a2 ∧ a2 ≤ 3
      · simp only [if_pos h2]
        rw [q_hasBit _ (by omega), k_wh_bt hI.1 (by omega), decide_eq_true hj, Bool.true_and, q_b1, q_ifp, q_o67, q_ix _ (by omega) (by omega), q_cl (by omega)]
        by_cases c : M 9 (67 + j) = 1
        · have c' : ¬ M 9 (67 + j) = 0 := by rw [q_wh1 hI.1 (by omega)]; exact fun hh => hh c
          rw [if_pos (by simpa using c), if_neg c', x_share hI.1, y_takes hI.1, q_b1, q_b1, x_ropeTakes hI.1 hI.2.2.1 hj (hta j (by omega)).2.1, y_ropeOf hI.1 hI.2.2.1 _ hj, hrn, x_rainsIn hrn2 (by omega), y_rains hrn2 (by omega)]
          simp only [q_b1]
          rw [x_ropeMay (by omega) (hta j (by omega)).2.2, y_may (by omega)]
          simp only [q_b1]
          by_cases d0 : a2 = 0
          · simp only [if_pos d0]; exact ⟨_, rfl, rfl⟩
          simp only [if_neg d0]
          by_cases d1 : a2 = 1
          · simp only [if_pos d1]; exact ⟨_, rfl, rfl⟩
          simp only [if_neg d1]
          by_cases d2 : a2 = 2
          · simp only [if_pos d2]; exact ⟨_, rfl, rfl⟩
          simp only [if_neg d2]
          exact ⟨_, rfl, rfl⟩
        · have c' : M 9 (67 + j) = 0 := by rw [q_wh1 hI.1 (by omega)]; exact c
          rw [if_neg (by simpa using c), if_pos c']
          exact ⟨_, rfl, rfl⟩
      · simp only [if_neg h2]; exact ⟨_, rfl, rfl⟩
    · simp only [if_neg h1]; exact ⟨_, rfl, rfl⟩
  obtain ⟨r, g1, g2⟩ := key
  refine ⟨r, S, L, k_su M 0 (fun _ => 0), ?_, ?_, hc, ht, ⟨hrn, hrn2⟩, hru, hs, hk0, hk1, hk2, hp⟩
  · unfold pX_tackleTold; rw [g1]; rfl
  · unfold pM_tackleTold; rw [g2]; rfl
theorem sim_seamTold : k_Sim_seamTold R_all := by
  intro S L M a1 a2 hR
  obtain ⟨hc, ht, hrn, hru, hs, hk0, hk1, hk2, hp⟩ := hR
  obtain ⟨⟨e0, e1, e2, e5, e3, e4, e6, e7, e8, e9, eo, ets, ew, eta, ess⟩, hth, hta, hse, hI⟩ := id hs
  obtain ⟨o, eo0, hoo⟩ := s_hour hI.1
  obtain ⟨e12, hn, -⟩ := s_ns_e hI.1
  have key : ∃ r, p_X8_seamTold (S 4 0) (S 5 0) (S 23 0) (S 30) (S 1) (S 24) (S 25) (S 31) a1 a2 = some r ∧ p_X9_seamTold (M 9) (M 12) a1 a2 = some (r, 0) := by
    unfold p_X8_seamTold p_X9_seamTold p_X4_hoursBare
    rw [ess, e0, e1, e12, eo0, show S 1 = M 12 from ht]
    simp only [q_within, q_in_0_c, q_in_0_3, q_b1, q_ifp]
    by_cases h1 : 0 ≤ a1 ∧ a1 ≤ nI (s_ns (M 9)) - 1
    · simp only [if_pos h1]
      obtain ⟨j, hj, rfl⟩ := q_idx (by omega) h1
      obtain ⟨z0, z1, -, -, -, -, z6, z7⟩ := hse j (by omega)
      have lp : ∃ k : Nat, k_lp (fun s : Int32 => lb_X4_hoursBare_5 (M 9 1) (M 12) (S 24) (S 25) (nI j) s) k_fuel (nI o) = some (nI (o + k)) ∧ k_lp (fun s : Int32 => lb_X9_seamTold_100 (M 9) (M 12) (nI j) s) k_fuel 0 = some (nI k) := by
        have gen : ∀ d k : Nat, o + k + d = 96 → ∃ k2 : Nat, (∀ F, d < F → k_lp (fun s : Int32 => lb_X4_hoursBare_5 (M 9 1) (M 12) (S 24) (S 25) (nI j) s) F (nI (o + k)) = some (nI (o + k2))) ∧ (∀ F, d < F → k_lp (fun s : Int32 => lb_X9_seamTold_100 (M 9) (M 12) (nI j) s) F (nI k) = some (nI k2)) := by
          intro d
          induction d with
          | zero =>
            intro k hk
            refine ⟨k, fun F hF => ?_, fun F hF => ?_⟩
            · obtain ⟨F, rfl⟩ : ∃ f, F = f + 1 := ⟨F - 1, by omega⟩
              unfold k_lp lb_X4_hoursBare_5
              rw [show o + k = 96 from by omega, if_pos (by decide)]
            · obtain ⟨F, rfl⟩ : ∃ f, F = f + 1 := ⟨F - 1, by omega⟩
              unfold k_lp lb_X9_seamTold_100
              rw [eo0, nI_add, show o + k = 96 from by omega, if_pos (by decide)]
          | succ d ih =>
            intro k hk
            obtain ⟨k2, i1, i2⟩ := ih (k + 1) (by omega)
            have hlt : ¬ (96 : Int32) ≤ nI (o + k) := nI_ge (b := 96) (by omega) (by omega)
            cases hb : s_bare (M 9) (M 12) j (o + k) with
            | true =>
              refine ⟨k2, fun F hF => ?_, fun F hF => ?_⟩
              · obtain ⟨F, rfl⟩ : ∃ f, F = f + 1 := ⟨F - 1, by omega⟩
                unfold k_lp lb_X4_hoursBare_5
                rw [if_neg hlt, x_isBare (by omega) (by omega) z0 z1, q_b1, hb]
                show k_lp _ F (nI (o + k) + 1) = _
                rw [nI_1]
                exact i1 F (by omega)
              · obtain ⟨F, rfl⟩ : ∃ f, F = f + 1 := ⟨F - 1, by omega⟩
                have hb2 : lb_X9_seamTold_100 (M 9) (M 12) (nI j) (nI k) = some (.inl (nI (k + 1))) := by
                  unfold lb_X9_seamTold_100
                  rw [eo0, nI_add, if_neg hlt, y_isBare _ _ (by omega) (by omega), q_b1, hb, ← nI_1]
                  rfl
                unfold k_lp
                rw [hb2]
                exact i2 F (by omega)
            | false =>
              refine ⟨k, fun F hF => ?_, fun F hF => ?_⟩
              · obtain ⟨F, rfl⟩ : ∃ f, F = f + 1 := ⟨F - 1, by omega⟩
                unfold k_lp lb_X4_hoursBare_5
                rw [if_neg hlt, x_isBare (by omega) (by omega) z0 z1, q_b1, hb]
                rfl
              · obtain ⟨F, rfl⟩ : ∃ f, F = f + 1 := ⟨F - 1, by omega⟩
                unfold k_lp lb_X9_seamTold_100
                rw [eo0, nI_add, if_neg hlt, y_isBare _ _ (by omega) (by omega), q_b1, hb]
                rfl
        obtain ⟨k2, i1, i2⟩ := gen (96 - o) 0 (by omega)
        exact ⟨k2, i1 k_fuel (by show _ < 100000; omega), i2 k_fuel (by show _ < 100000; omega)⟩
      obtain ⟨k, l1, l2⟩ := lp
      rw [l1, l2, x_isBare (by omega) (by omega) z0 z1, y_isBare _ _ (by omega) (by omega)]
      simp only [q_b1, q_asNumber, q_o145, q_o157]
      simp (disch := omega) only [q_ix, q_cl]
      rw [z6, z7]
      by_cases h2 : 0 ≤ a2 ∧ a2 ≤ 3
      · simp only [if_pos h2]
        obtain ⟨b, -, hb, rfl⟩ := q_rng (a := 0) (b := 3) (by omega) (by omega) h2
        match b, hb with
        | 0, _ => exact ⟨_, rfl, rfl⟩
        | 1, _ =>
          simp only [show (nI 1 = 0) = False from by decide, show (nI 1 = 1) = True from by decide, show ((3 : Int32) ≤ nI 1) = False from by decide, if_true, if_false]
          cases s_bare (M 9) (M 12) j o <;> exact ⟨_, rfl, rfl⟩
        | 2, _ => exact ⟨_, rfl, rfl⟩
        | 3, _ =>
          refine ⟨nI k, ?_, rfl⟩
          show some (nI (o + k) - nI o) = _
          rw [pk_sub (by omega), show o + k - o = k from by omega]
      · simp only [if_neg h2]
        have n0 : ¬ a2 = 0 := fun e => h2 (by rw [e]; decide)
        have n1 : ¬ a2 = 1 := fun e => h2 (by rw [e]; decide)
        have n2 : ¬ a2 = 2 := fun e => h2 (by rw [e]; decide)
        have n3 : ¬ a2 = 3 := fun e => h2 (by rw [e]; decide)
        simp only [if_neg n0, if_neg n1, if_neg n2, if_neg n3]
        exact ⟨_, rfl, rfl⟩
    · simp only [if_neg h1]; exact ⟨_, rfl, rfl⟩
  obtain ⟨r, g1, g2⟩ := key
  refine ⟨r, S, L, k_su M 0 (fun _ => 0), ?_, ?_, hc, ht, hrn, hru, hs, hk0, hk1, hk2, hp⟩
  · unfold pX_seamTold; rw [g1]; rfl
  · unfold pM_seamTold; rw [g2]; rfl
