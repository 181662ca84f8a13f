theorem q_one : ∀ n, n < 13 → (1 : Int32) <<< (nI n &&& 31) = nI (2 ^ n) := by decide +kernel
theorem q_ord {n : Nat} (hn : n ≤ 12) (a : Int32) : ((a.toUInt32 >>> ((nI n).toUInt32 &&& Int32.toUInt32 31)).toInt32 = 0) = (0 ≤ a ∧ a ≤ (1 <<< (nI n &&& 31)) - 1) := by
  have hp : 0 < 2 ^ n := Nat.two_pow_pos n
  have hp2 : 2 ^ n ≤ 2 ^ 12 := Nat.pow_le_pow_right (by omega) hn
  have h12 : (2 : Nat) ^ 12 = 4096 := by decide
  rw [q_one n (by omega)]
  have es : nI (2 ^ n) - 1 = nI (2 ^ n - 1) := pk_sub (b := 1) hp
  rw [es]
  refine propext ⟨fun h => ?_, fun h => ?_⟩
  · obtain ⟨k, hk, e, -⟩ := q_ofbits (x := a) (n := n) (by omega) (fun i hi h2 => by
      have h3 : bt ((a.toUInt32 >>> ((nI n).toUInt32 &&& Int32.toUInt32 31)).toInt32) (i - n) = bt 0 (i - n) := by rw [h]
      rw [b_ushr n (by omega), b_0, show n + (i - n) = i from by omega] at h3
      exact h3)
    rw [e]
    exact ⟨nI_pos' (by omega), nI_le (by omega) (by omega)⟩
  · obtain ⟨k, -, hk, rfl⟩ := q_rng (a := 0) (b := 2 ^ n - 1) (by omega) (by omega) h
    refine b_ext fun i hi => ?_
    rw [b_ushr n (by omega), b_0]
    rcases Nat.lt_or_ge (n + i) 32 with h2 | h2
    · rw [bt_nI _ h2]
      apply Nat.testBit_lt_two_pow
      have : 2 ^ n ≤ 2 ^ (n + i) := Nat.pow_le_pow_right (by omega) (by omega)
      omega
    · exact b_big h2
theorem sim_hour : k_Sim_hour R_all := by
  intro S L M a1 hR
  obtain ⟨hc, ht, ⟨hrn, hrn2⟩, hru, hs, hk0, hk1, hk2, hp⟩ := hR
  obtain ⟨⟨e0, e1, e2, e5, e3, e4, e6, e7, e8, e9, eo, ets, ew, eta, ess⟩, hth, hta, hse, hI⟩ := hs
  obtain ⟨hrl, hpos⟩ := R_rule_rl hru
  obtain ⟨o, eo0, hoo⟩ := s_hour hI.1
  obtain ⟨e12, hn, -⟩ := s_ns_e hI.1
  have key : ∃ r m' sta' dn', p_X8_hour (S 4 0) (S 5 0) (S 6 0) (S 7 0) (S 8 0) (S 9 0) (S 10 0) (S 11 0) (S 12 0) (S 23 0) (S 2) (S 30) (S 1) (S 24) (S 25) (S 3) (S 14 0) (S 15 0) (S 16) (S 18 0) (S 19 0) (S 21) (S 22) (S 20) (S 26) (S 31) (S 28) (S 27) a1 = some (r, m' 0, m' 1, m' 2, m' 5, m' 3, m' 4, m' 6, m' 7, m' 8, sta', nI (k_wh m'), dn') ∧ p_X9_hour (M 9) (M 13) (M 14) (M 12) a1 = some (r, 0, m') ∧ k_Inv m' ∧ (∀ j, j < 12 → sta' j = m' (145 + j) ∧ dn' j = m' (157 + j)) ∧ ∀ k, ((9 ≤ k ∧ k < 67) ∨ (73 ≤ k ∧ k < 145)) → m' k = M 9 k := by
    have same : ∀ v : Int32, ∃ r m' sta' dn', (some (v, M 9 0, M 9 1, M 9 2, M 9 5, M 9 3, M 9 4, M 9 6, M 9 7, M 9 8, S 30, nI (k_wh (M 9)), S 31) : Option (Int32 × Int32 × Int32 × Int32 × Int32 × Int32 × Int32 × Int32 × Int32 × Int32 × (Nat → Int32) × Int32 × (Nat → Int32))) = some (r, m' 0, m' 1, m' 2, m' 5, m' 3, m' 4, m' 6, m' 7, m' 8, sta', nI (k_wh m'), dn') ∧ (some (v, 0, M 9) : Option (Int32 × Int32 × (Nat → Int32))) = some (r, 0, m') ∧ k_Inv m' ∧ (∀ j, j < 12 → sta' j = m' (145 + j) ∧ dn' j = m' (157 + j)) ∧ ∀ k, ((9 ≤ k ∧ k < 67) ∨ (73 ≤ k ∧ k < 145)) → m' k = M 9 k :=
      fun v => ⟨v, M 9, S 30, S 31, rfl, rfl, hI, fun j hj => ⟨(hse j hj).2.2.2.2.2.2.1, (hse j hj).2.2.2.2.2.2.2⟩, fun _ _ => rfl⟩
    unfold p_X8_hour p_X9_hour
    rw [e0, e1, e2, e3, e4, e5, e6, e7, e8, ew, ess, e12, x_lost, y_lost, q_in_0_c, hrn, show S 1 = M 12 from ht]
    simp only [q_b1, q_ifp, q_ord hn a1]
    by_cases ca : 0 ≤ a1 ∧ a1 ≤ (1 <<< (nI (s_ns (M 9)) &&& 31)) - 1
    · simp only [if_pos ca]
      by_cases cw : M 9 2 ≤ 100
      · simp only [if_pos cw, if_true]
        by_cases co : o ≤ 95
        · have c1 : M 9 0 < 96 := by rw [eo0]; exact nI_lt (b := 96) (by omega) (by omega)
          have c2 : M 9 0 ≤ 95 := by rw [eo0]; exact nI_le (b := 95) co (by omega)
          simp only [if_pos c1, if_pos c2]
          obtain ⟨m', sta', dn', g1, g2, g3, g4, -, -, -, g5⟩ := xy_pass (m := M 9) (rn := M 13) (ru := M 14) (ru' := S 3) (td := M 12) (wt := S 16) (ma := S 20) (pr := S 21) (sg := S 22) (sk := S 24) (sd := S 25) (hd := S 26) (lg := S 27) (tr := S 28) (sta := S 30) (dn := S 31) (ot := S 14 0) (ts := S 15 0) (tas := S 19 0) (ss := nI (s_ns (M 9))) hI hrn2 hrl hpos hru.1.2.2.2.1 eo0 (by omega) cw eo ets (fun i hi => (hth i hi).1) eta hta e12.symm (fun i hi => by
            obtain ⟨z0, z1, z2, z3, z4, z5, z6, z7⟩ := hse i hi
            exact ⟨z0, z1, z2, z3, z4, z6, z7⟩) a1
          rw [g1, g2, q_b1]
          exact ⟨m' 2, m', sta', dn', rfl, rfl, g3, g4, g5⟩
        · have c1 : ¬ M 9 0 < 96 := by rw [eo0]; exact nI_nlt (b := 96) (by omega) (by omega)
          have c2 : ¬ M 9 0 ≤ 95 := by rw [eo0]; exact nI_ge (a := 95) (by omega) (by omega)
          simp only [if_neg c1, if_neg c2]
          exact same _
      · simp only [if_neg cw, show ((1 : Int32) = 0) = False from by decide, if_false]
        exact same _
    · simp only [if_neg ca]; exact same _
  obtain ⟨r, m', sta', dn', g1, g2, gI, g4, g5⟩ := key
  have eX : pX_hour S L a1 = some (r, (k_su (k_su (k_su (k_su (k_su (k_su (k_su (k_su (k_su (k_su (k_su (k_su S 4 (fun _ => m' 0)) 5 (fun _ => m' 1)) 6 (fun _ => m' 2)) 7 (fun _ => m' 5)) 8 (fun _ => m' 3)) 9 (fun _ => m' 4)) 10 (fun _ => m' 6)) 11 (fun _ => m' 7)) 12 (fun _ => m' 8)) 30 sta') 18 (fun _ => nI (k_wh m'))) 31 dn'), L) := by unfold pX_hour; rw [g1]; rfl
  have eM : pM_hour M a1 = some (r, k_su (k_su M 0 (fun _ => 0)) 9 m') := by unfold pM_hour; rw [g2]; rfl
  refine ⟨r, _, L, _, eX, eM, hc, ht, ⟨hrn, hrn2⟩, hru, ⟨⟨rfl, rfl, rfl, rfl, rfl, rfl, rfl, rfl, rfl, e9.trans (g5 9 (by omega)).symm, eo.trans (congrArg nI (k_out_cong (m := M 9) (g5 10 (by omega)) (fun i hi => g5 _ (by omega)))).symm, ets.trans (g5 10 (by omega)).symm, rfl, eta.trans (g5 11 (by omega)).symm, ess.trans (g5 12 (by omega)).symm⟩, fun i hi => ⟨(hth i hi).1.trans (g5 _ (by omega)).symm, (hth i hi).2.trans (g5 _ (by omega)).symm⟩, fun i hi => ⟨(hta i hi).1.trans (g5 _ (by omega)).symm, (hta i hi).2.1.trans (g5 _ (by omega)).symm, (hta i hi).2.2.trans (g5 _ (by omega)).symm⟩, fun i hi => ⟨(hse i hi).1.trans (g5 _ (by omega)).symm, (hse i hi).2.1.trans (g5 _ (by omega)).symm, (hse i hi).2.2.1.trans (g5 _ (by omega)).symm, (hse i hi).2.2.2.1.trans (g5 _ (by omega)).symm, (hse i hi).2.2.2.2.1.trans (g5 _ (by omega)).symm, (hse i hi).2.2.2.2.2.1.trans (g5 _ (by omega)).symm, (g4 i hi).1, (g4 i hi).2⟩, gI⟩, hk0, hk1, hk2, hp⟩
