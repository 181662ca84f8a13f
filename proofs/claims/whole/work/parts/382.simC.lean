/-! ===== a thing, a tackle, a seam more ===== -/
theorem q_sub1 {n : Nat} (hn : n ≤ 12) : (nI n - 1).toInt = (n : Int) - 1 := by
  rw [show (1 : Int32) = nI 1 from rfl, pk_sub_toInt (by omega) (by omega)]; rfl
theorem q_idx {n : Nat} (hn : n ≤ 12) {a : Int32} (h : 0 ≤ a ∧ a ≤ nI n - 1) : ∃ j, j < n ∧ a = nI j := by
  obtain ⟨h1, h2⟩ := h
  rw [Int32.le_iff_toInt_le] at h1 h2
  rw [q_sub1 hn] at h2
  rw [show (0 : Int32).toInt = 0 from by decide] at h1
  refine ⟨a.toInt.toNat, by omega, Int32.toInt_inj.mp ?_⟩
  rw [q_ti (by omega)]; omega
theorem q_idxm {n : Nat} (hn : n ≤ 12) {a : Int32} (h : -1 ≤ a ∧ a ≤ nI n - 1) : (a = -1) ∨ ∃ j, j < n ∧ a = nI j := by
  obtain ⟨h1, h2⟩ := h
  by_cases c : a = -1
  · exact Or.inl c
  · refine Or.inr (q_idx hn ⟨?_, h2⟩)
    rw [Int32.le_iff_toInt_le] at h1 ⊢
    rw [show (-1 : Int32).toInt = -1 from by decide] at h1
    rw [show (0 : Int32).toInt = 0 from by decide]
    have : a.toInt ≠ -1 := fun e => c (Int32.toInt_inj.mp (by rw [e]; decide))
    omega
def m_thing (m : Nat → Int32) (a1 a2 : Int32) : Nat → Int32 := upd (upd (upd (upd m (13 + s_nt m) a1) (25 + s_nt m) a2) (37 + s_nt m) 1) 10 (m 10 + 1)
theorem m_thing_inv {m : Nat → Int32} (h : k_Inv m) (hn : s_nt m < 12) {a1 a2 : Int32} (h1 : kr a1 1 100) (h2 : -1 ≤ a2.toInt ∧ a2.toInt < s_nt m) : k_Inv (m_thing m a1 a2) ∧ nI (k_out (m_thing m a1 a2)) = nI (k_out m) ∧ s_nt (m_thing m a1 a2) = s_nt m + 1 := by
  obtain ⟨e10, -, e10'⟩ := s_nt_e h.1
  have er : k_Rng (m_thing m a1 a2) := by
    have l13 : ∀ i, i < 12 → k_lo (13 + i) = 0 ∧ k_hi (13 + i) = 100 := by decide
    have l25 : ∀ i, i < 12 → k_lo (25 + i) = -1 ∧ k_hi (25 + i) = 11 := by decide
    have l37 : ∀ i, i < 12 → k_lo (37 + i) = 0 ∧ k_hi (37 + i) = 1 := by decide
    unfold m_thing
    refine k_Rng_upd (k_Rng_upd (k_Rng_upd (k_Rng_upd h.1 ?_) ?_) ?_) ?_
    · rw [(l13 _ hn).1, (l13 _ hn).2]; exact ⟨by have := h1.1; omega, h1.2⟩
    · rw [(l25 _ hn).1, (l25 _ hn).2]; exact ⟨h2.1, by omega⟩
    · rw [(l37 _ hn).1, (l37 _ hn).2]; exact ⟨by decide, by decide⟩
    · rw [e10, nI_1]
      show 0 ≤ _ ∧ _ ≤ 12
      rw [q_ti (by omega)]; omega
  have e1 : m_thing m a1 a2 10 = nI (s_nt m + 1) := by unfold m_thing; rw [upd_s, e10, nI_1]
  have e2 : s_nt (m_thing m a1 a2) = s_nt m + 1 := by unfold s_nt; rw [e1, q_cl (by omega)]; rfl
  have fr : ∀ k, k ≠ 10 → k ≠ 13 + s_nt m → k ≠ 25 + s_nt m → k ≠ 37 + s_nt m → m_thing m a1 a2 k = m k := by
    intro k k1 k2 k3 k4
    unfold m_thing
    rw [upd_n k1, upd_n k4, upd_n k3, upd_n k2]
  have e10'' : (m_thing m a1 a2 10).toInt = (s_nt m : Int) + 1 := by rw [e1, q_ti (by omega)]; rfl
  refine ⟨⟨er, fun i hi => ?_, fun i hi => ?_, fun i hi => ?_⟩, ?_, e2⟩
  · rw [e10''] at hi
    by_cases c : i = s_nt m
    · subst c
      have : m_thing m a1 a2 (25 + s_nt m) = a2 := by unfold m_thing; simp (disch := omega) only [upd_n, upd_s]
      rw [this]; omega
    · rw [fr _ (by omega) (by omega) (by omega) (by omega)]
      exact h.2.1 i (by omega)
  · have hn6 := (s_na_e h.1).2.2
    have hn7 := (s_na_e h.1).2.1
    rw [fr 11 (by omega) (by omega) (by omega) (by omega)] at hi
    rw [fr _ (by omega) (by omega) (by omega) (by omega)]
    exact h.2.2.1 i hi
  · have hn6 := (s_ns_e h.1).2.2
    have hn7 := (s_ns_e h.1).2.1
    rw [fr 12 (by omega) (by omega) (by omega) (by omega)] at hi
    rw [fr _ (by omega) (by omega) (by omega) (by omega), fr _ (by omega) (by omega) (by omega) (by omega), fr _ (by omega) (by omega) (by omega) (by omega)]
    exact h.2.2.2 i hi
  · refine (k_out_of er fun i hi => ?_).symm
    rw [k_out_bt h.1 hi, e2]
    by_cases c : i = s_nt m
    · subst c
      have : m_thing m a1 a2 (37 + s_nt m) = 1 := by unfold m_thing; simp (disch := omega) only [upd_n, upd_s]
      rw [this]; simp
    · by_cases c2 : i < s_nt m
      · rw [fr _ (by omega) (by omega) (by omega) (by omega)]; simp [c2, show i < s_nt m + 1 from by omega]
      · simp [c2, show ¬ i < s_nt m + 1 from by omega]
theorem t_thing {m wt un : Nat → Int32} {ot ts : Int32} (h : k_Inv m) (eo : ot = nI (k_out m)) (ets : ts = m 10) (hth : ∀ i, i < 12 → wt i = m (13 + i) ∧ un i = m (25 + i)) (a1 a2 : Int32) : ∃ r ts' wt' un' m', p_X8_thing ot ts wt un a1 a2 = some (r, ts', wt', un') ∧ p_X9_thing m a1 a2 = some (r, 0, m') ∧ k_Inv m' ∧ nI (k_out m') = nI (k_out m) ∧ ts' = m' 10 ∧ (∀ i, i < 12 → wt' i = m' (13 + i) ∧ un' i = m' (25 + i)) ∧ (∀ k, (k ≠ 10 ∧ (k < 13 ∨ 49 ≤ k)) → m' k = m k) := by
  obtain ⟨e10, hn, e10'⟩ := s_nt_e h.1
  subst eo; subst ets
  unfold p_X8_thing p_X9_thing
  rw [e10]
  simp only [q_within, q_in_1_100, q_in_m1_c, q_b1, q_ifp]
  by_cases h1 : 1 ≤ a1 ∧ a1 ≤ 100
  · simp only [if_pos h1]
    by_cases h2 : -1 ≤ a2 ∧ a2 ≤ nI (s_nt m) - 1
    · simp only [if_pos h2]
      have full : s_nt m < 12 → -1 ≤ a2.toInt ∧ a2.toInt < s_nt m → ∃ r ts' wt' un' m', (if nI (s_nt m) < 12 then k_b4 (p_X7_add (nI (s_nt m)) wt un a1 a2) fun r7 w8 w9 w10 => some (r7, w8, w9, w10) else some (-3, nI (s_nt m), wt, un)) = some (r, ts', wt', un') ∧ (if nI (s_nt m) = 12 then some (-3, (0 : Int32), m) else k_ix (13 + nI (s_nt m)) 169 (k_ix (25 + nI (s_nt m)) 169 (k_ix (37 + nI (s_nt m)) 169 (some (nI (s_nt m), 0, upd (upd (upd (upd m (13 + nI (s_nt m)).toNatClampNeg a1) (25 + nI (s_nt m)).toNatClampNeg a2) (37 + nI (s_nt m)).toNatClampNeg 1) 10 (((upd (upd (upd m (13 + nI (s_nt m)).toNatClampNeg a1) (25 + nI (s_nt m)).toNatClampNeg a2) (37 + nI (s_nt m)).toNatClampNeg 1) 10) + 1)))))) = some (r, 0, m') ∧ k_Inv m' ∧ nI (k_out m') = nI (k_out m) ∧ ts' = m' 10 ∧ (∀ i, i < 12 → wt' i = m' (13 + i) ∧ un' i = m' (25 + i)) ∧ (∀ k, (k ≠ 10 ∧ (k < 13 ∨ 49 ≤ k)) → m' k = m k) := by
        intro hlt ha2
        obtain ⟨i1, i2, i3⟩ := m_thing_inv h hlt (q_kr h1) ha2
        refine ⟨nI (s_nt m), nI (s_nt m + 1), upd wt (s_nt m) a1, upd un (s_nt m) a2, m_thing m a1 a2, ?_, ?_, i1, i2, ?_, fun i hi => ?_, fun k k1 => ?_⟩
        · rw [if_pos (show nI (s_nt m) < 12 from nI_lt (b := 12) hlt (by omega))]
          unfold p_X7_add
          simp (disch := omega) only [q_ix, q_cl]
          rw [nI_1, nI_pred]; rfl
        · rw [if_neg (by rw [show (12 : Int32) = nI 12 from rfl, q_eqI (by omega) (by omega)]; omega)]
          simp (disch := omega) only [q_o13, q_o25, q_o37, q_ix, q_cl, upd_n]
          unfold m_thing; rfl
        · unfold m_thing; rw [upd_s, e10, nI_1]
        · by_cases c : i = s_nt m
          · subst c
            unfold m_thing
            simp (disch := omega) only [upd_n, upd_s, and_self]
          · unfold m_thing
            simp (disch := omega) only [upd_n]
            exact hth i hi
        · unfold m_thing
          simp (disch := omega) only [upd_n]
      have full12 : ¬ s_nt m < 12 → (nI (s_nt m) = 12) ∧ ¬ nI (s_nt m) < 12 := by
        intro c
        have : s_nt m = 12 := by omega
        rw [this]; exact ⟨rfl, by decide⟩
      have same : ∀ v : Int32, ∃ r ts' wt' un' m', (some (v, nI (s_nt m), wt, un) : Option (Int32 × Int32 × (Nat → Int32) × (Nat → Int32))) = some (r, ts', wt', un') ∧ (some (v, 0, m) : Option (Int32 × Int32 × (Nat → Int32))) = some (r, 0, m') ∧ k_Inv m' ∧ nI (k_out m') = nI (k_out m) ∧ ts' = m' 10 ∧ (∀ i, i < 12 → wt' i = m' (13 + i) ∧ un' i = m' (25 + i)) ∧ (∀ k, (k ≠ 10 ∧ (k < 13 ∨ 49 ≤ k)) → m' k = m k) :=
        fun v => ⟨v, _, _, _, m, rfl, rfl, h, rfl, e10.symm, hth, fun _ _ => rfl⟩
      rcases q_idxm hn h2 with rfl | ⟨j, hj, rfl⟩
      · simp only [show ((-1 : Int32) < 0) = True from by decide, if_true]
        by_cases c : s_nt m < 12
        · exact full c ⟨by decide, by rw [show (-1 : Int32).toInt = -1 from by decide]; omega⟩
        · obtain ⟨c1, c2⟩ := full12 c
          rw [if_neg c2, if_pos c1]
          exact same _
      · rw [if_neg (nI_pos (by omega)), if_neg (nI_pos (by omega)), q_hasBit _ (by omega), q_b1, q_ifp, k_out_bt h.1 (by omega), decide_eq_true hj, Bool.true_and, q_o37, q_ix _ (by omega) (by omega), q_cl (by omega)]
        by_cases c0 : m (37 + j) = 0
        · rw [if_pos (by simpa using c0), if_pos c0]
          exact same _
        · rw [if_neg (by simpa using c0), if_neg c0]
          by_cases c : s_nt m < 12
          · exact full c (by rw [q_ti (by omega)]; omega)
          · obtain ⟨c1, c2⟩ := full12 c
            rw [if_neg c2, if_pos c1]
            exact same _
    · simp only [if_neg h2]; exact ⟨_, _, _, _, m, rfl, rfl, h, rfl, e10.symm, hth, fun _ _ => rfl⟩
  · simp only [if_neg h1]; exact ⟨_, _, _, _, m, rfl, rfl, h, rfl, e10.symm, hth, fun _ _ => rfl⟩
theorem sim_thing : k_Sim_thing R_all := by
  intro S L M a1 a2 hR
  obtain ⟨hc, ht, hrn, hru, hs, hk0, hk1, hk2, hp⟩ := hR
  obtain ⟨⟨e0, e1, e2, e5, e3, e4, e6, e7, e8, e9, eo, ets, ew, eta, ess⟩, hth, hta, hse, hI⟩ := hs
  obtain ⟨r, ts', wt', un', m', g1, g2, gI, go, gts, gth, g5⟩ := t_thing hI eo ets hth a1 a2
  refine ⟨r, k_su (k_su (k_su S 15 (fun _ => ts')) 16 wt') 17 un', L, k_su (k_su M 0 (fun _ => 0)) 9 m', ?_, ?_, hc, ht, hrn, hru, ⟨⟨e0.trans (g5 0 (by omega)).symm, e1.trans (g5 1 (by omega)).symm, e2.trans (g5 2 (by omega)).symm, e5.trans (g5 5 (by omega)).symm, e3.trans (g5 3 (by omega)).symm, e4.trans (g5 4 (by omega)).symm, e6.trans (g5 6 (by omega)).symm, e7.trans (g5 7 (by omega)).symm, e8.trans (g5 8 (by omega)).symm, e9.trans (g5 9 (by omega)).symm, eo.trans go.symm, gts, ew.trans (congrArg nI (k_wh_cong (m := M 9) (g5 11 (by omega)) (fun i hi => g5 _ (by omega)))).symm, eta.trans (g5 11 (by omega)).symm, ess.trans (g5 12 (by omega)).symm⟩, gth, fun i hi => ⟨(hta i hi).1.trans (g5 _ (by omega)).symm, (hta i hi).2.1.trans (g5 _ (by omega)).symm, (hta i hi).2.2.trans (g5 _ (by omega)).symm⟩, fun i hi => ⟨(hse i hi).1.trans (g5 _ (by omega)).symm, (hse i hi).2.1.trans (g5 _ (by omega)).symm, (hse i hi).2.2.1.trans (g5 _ (by omega)).symm, (hse i hi).2.2.2.1.trans (g5 _ (by omega)).symm, (hse i hi).2.2.2.2.1.trans (g5 _ (by omega)).symm, (hse i hi).2.2.2.2.2.1.trans (g5 _ (by omega)).symm, (hse i hi).2.2.2.2.2.2.1.trans (g5 _ (by omega)).symm, (hse i hi).2.2.2.2.2.2.2.trans (g5 _ (by omega)).symm⟩, gI⟩, hk0, hk1, hk2, hp⟩
  · unfold pX_thing; rw [g1]; rfl
  · unfold pM_thing; rw [g2]; rfl
def m_tackle (m : Nat → Int32) (a1 a2 a3 : Int32) : Nat → Int32 := upd (upd (upd (upd (upd m (49 + s_na m) a1) (55 + s_na m) a2) (61 + s_na m) a3) (67 + s_na m) 1) 11 (m 11 + 1)
theorem m_tackle_inv {m : Nat → Int32} (h : k_Inv m) (hn : s_na m < 6) {a1 a2 a3 : Int32} (h1 : kr a1 0 2) (h2 : kr a2 1 6) (h3 : kr a3 1 400) : k_Inv (m_tackle m a1 a2 a3) ∧ nI (k_wh m) ||| (1 <<< (nI (s_na m) &&& 31)) = nI (k_wh (m_tackle m a1 a2 a3)) := by
  obtain ⟨e11, -, e11'⟩ := s_na_e h.1
  have er : k_Rng (m_tackle m a1 a2 a3) := by
    have l49 : ∀ i, i < 6 → k_lo (49 + i) = 0 ∧ k_hi (49 + i) = 2 := by decide
    have l55 : ∀ i, i < 6 → k_lo (55 + i) = 0 ∧ k_hi (55 + i) = 6 := by decide
    have l61 : ∀ i, i < 6 → k_lo (61 + i) = 0 ∧ k_hi (61 + i) = 400 := by decide
    have l67 : ∀ i, i < 6 → k_lo (67 + i) = 0 ∧ k_hi (67 + i) = 1 := by decide
    unfold m_tackle
    refine k_Rng_upd (k_Rng_upd (k_Rng_upd (k_Rng_upd (k_Rng_upd h.1 ?_) ?_) ?_) ?_) ?_
    · rw [(l49 _ hn).1, (l49 _ hn).2]; exact h1
    · rw [(l55 _ hn).1, (l55 _ hn).2]; exact ⟨by have := h2.1; omega, h2.2⟩
    · rw [(l61 _ hn).1, (l61 _ hn).2]; exact ⟨by have := h3.1; omega, h3.2⟩
    · rw [(l67 _ hn).1, (l67 _ hn).2]; exact ⟨by decide, by decide⟩
    · rw [e11, nI_1]
      show 0 ≤ _ ∧ _ ≤ 6
      rw [q_ti (by omega)]; omega
  have e1 : m_tackle m a1 a2 a3 11 = nI (s_na m + 1) := by unfold m_tackle; rw [upd_s, e11, nI_1]
  have e2 : s_na (m_tackle m a1 a2 a3) = s_na m + 1 := by unfold s_na; rw [e1, q_cl (by omega)]; rfl
  have fr : ∀ k, k ≠ 11 → k ≠ 49 + s_na m → k ≠ 55 + s_na m → k ≠ 61 + s_na m → k ≠ 67 + s_na m → m_tackle m a1 a2 a3 k = m k := by
    intro k k1 k2 k3 k4 k5
    unfold m_tackle
    rw [upd_n k1, upd_n k5, upd_n k4, upd_n k3, upd_n k2]
  have e11'' : (m_tackle m a1 a2 a3 11).toInt = (s_na m : Int) + 1 := by rw [e1, q_ti (by omega)]; rfl
  refine ⟨⟨er, fun i hi => ?_, fun i hi => ?_, fun i hi => ?_⟩, ?_⟩
  · have hn6 := (s_nt_e h.1).2.2
    have hn7 := (s_nt_e h.1).2.1
    rw [fr 10 (by omega) (by omega) (by omega) (by omega) (by omega)] at hi
    rw [fr _ (by omega) (by omega) (by omega) (by omega) (by omega)]
    exact h.2.1 i hi
  · rw [e11''] at hi
    by_cases c : i = s_na m
    · subst c
      have : m_tackle m a1 a2 a3 (55 + s_na m) = a2 := by unfold m_tackle; simp (disch := omega) only [upd_n, upd_s]
      rw [this]; exact h2.1
    · rw [fr _ (by omega) (by omega) (by omega) (by omega) (by omega)]
      exact h.2.2.1 i (by omega)
  · have hn6 := (s_ns_e h.1).2.2
    have hn7 := (s_ns_e h.1).2.1
    rw [fr 12 (by omega) (by omega) (by omega) (by omega) (by omega)] at hi
    rw [fr _ (by omega) (by omega) (by omega) (by omega) (by omega), fr _ (by omega) (by omega) (by omega) (by omega) (by omega), fr _ (by omega) (by omega) (by omega) (by omega) (by omega)]
    exact h.2.2.2 i hi
  · refine k_wh_of er fun i hi => ?_
    rw [b_or, bt_one _ (by omega) hi, k_wh_bt h.1 hi, e2]
    by_cases c : i = s_na m
    · subst c
      have : m_tackle m a1 a2 a3 (67 + s_na m) = 1 := by unfold m_tackle; simp (disch := omega) only [upd_n, upd_s]
      rw [this]; simp
    · by_cases c2 : i < s_na m
      · rw [fr _ (by omega) (by omega) (by omega) (by omega) (by omega)]; simp [c, c2, show i < s_na m + 1 from by omega]
      · simp [c, c2, show ¬ i < s_na m + 1 from by omega]
theorem t_tackle {m ma pr sg : Nat → Int32} {wh tas : Int32} (h : k_Inv m) (ew : wh = nI (k_wh m)) (eta : tas = m 11) (hta : ∀ i, i < 6 → ma i = m (49 + i) ∧ pr i = m (55 + i) ∧ sg i = m (61 + i)) (a1 a2 a3 : Int32) : ∃ r wh' ts' ma' pr' sg' m', p_X8_tackle wh tas ma pr sg a1 a2 a3 = some (r, wh', ts', ma', pr', sg') ∧ p_X9_tackle m a1 a2 a3 = some (r, 0, m') ∧ k_Inv m' ∧ wh' = nI (k_wh m') ∧ ts' = m' 11 ∧ (∀ i, i < 6 → ma' i = m' (49 + i) ∧ pr' i = m' (55 + i) ∧ sg' i = m' (61 + i)) ∧ (∀ k, (k ≠ 11 ∧ (k < 49 ∨ 73 ≤ k)) → m' k = m k) := by
  obtain ⟨e11, hn, e11'⟩ := s_na_e h.1
  subst ew; subst eta
  unfold p_X8_tackle p_X9_tackle
  rw [e11]
  simp only [q_within, q_in_0_2, q_in_1_6, q_in_1_400, q_b1, q_ifp]
  have same : ∀ v : Int32, ∃ r wh' ts' ma' pr' sg' m', (some (v, nI (k_wh m), nI (s_na m), ma, pr, sg) : Option (Int32 × Int32 × Int32 × (Nat → Int32) × (Nat → Int32) × (Nat → Int32))) = some (r, wh', ts', ma', pr', sg') ∧ (some (v, 0, m) : Option (Int32 × Int32 × (Nat → Int32))) = some (r, 0, m') ∧ k_Inv m' ∧ wh' = nI (k_wh m') ∧ ts' = m' 11 ∧ (∀ i, i < 6 → ma' i = m' (49 + i) ∧ pr' i = m' (55 + i) ∧ sg' i = m' (61 + i)) ∧ (∀ k, (k ≠ 11 ∧ (k < 49 ∨ 73 ≤ k)) → m' k = m k) :=
    fun v => ⟨v, _, _, _, _, _, m, rfl, rfl, h, rfl, e11.symm, hta, fun _ _ => rfl⟩
  by_cases h1 : 0 ≤ a1 ∧ a1 ≤ 2
  · simp only [if_pos h1]
    by_cases h2 : 1 ≤ a2 ∧ a2 ≤ 6
    · simp only [if_pos h2]
      by_cases h3 : 1 ≤ a3 ∧ a3 ≤ 400
      · simp only [if_pos h3]
        by_cases c : s_na m < 6
        · obtain ⟨i1, i2⟩ := m_tackle_inv h c (q_kr h1) (q_kr h2) (q_kr h3)
          refine ⟨nI (s_na m), nI (k_wh m) ||| (1 <<< (nI (s_na m) &&& 31)), nI (s_na m + 1), upd ma (s_na m) a1, upd pr (s_na m) a2, upd sg (s_na m) a3, m_tackle m a1 a2 a3, ?_, ?_, i1, i2, ?_, fun i hi => ?_, fun k k1 => ?_⟩
          · rw [if_pos (show nI (s_na m) < 6 from nI_lt (b := 6) c (by omega))]
            unfold p_X6_add
            simp (disch := omega) only [q_ix, q_cl]
            rw [nI_1, nI_pred]; rfl
          · rw [if_neg (by rw [show (6 : Int32) = nI 6 from rfl, q_eqI (by omega) (by omega)]; omega)]
            simp (disch := omega) only [q_o49, q_o55, q_o61, q_o67, q_ix, q_cl, upd_n]
            unfold m_tackle; rfl
          · unfold m_tackle; rw [upd_s, e11, nI_1]
          · by_cases c : i = s_na m
            · subst c
              unfold m_tackle
              simp (disch := omega) only [upd_n, upd_s, and_self]
            · unfold m_tackle
              simp (disch := omega) only [upd_n]
              exact hta i hi
          · unfold m_tackle
            simp (disch := omega) only [upd_n]
        · have : s_na m = 6 := by omega
          rw [if_neg (by rw [this]; decide), if_pos (by rw [this]; rfl)]
          exact same _
      · simp only [if_neg h3]; exact same _
    · simp only [if_neg h2]; exact same _
  · simp only [if_neg h1]; exact same _
theorem sim_tackle : k_Sim_tackle R_all := by
  intro S L M a1 a2 a3 hR
  obtain ⟨hc, ht, hrn, hru, hs, hk0, hk1, hk2, hp⟩ := hR
  obtain ⟨⟨e0, e1, e2, e5, e3, e4, e6, e7, e8, e9, eo, ets, ew, eta, ess⟩, hth, hta, hse, hI⟩ := hs
  obtain ⟨r, wh', ts', ma', pr', sg', m', g1, g2, gI, gw, gts, gth, g5⟩ := t_tackle hI ew eta hta a1 a2 a3
  refine ⟨r, k_su (k_su (k_su (k_su (k_su S 18 (fun _ => wh')) 19 (fun _ => ts')) 20 ma') 21 pr') 22 sg', L, k_su (k_su M 0 (fun _ => 0)) 9 m', ?_, ?_, hc, ht, hrn, hru, ⟨⟨e0.trans (g5 0 (by omega)).symm, e1.trans (g5 1 (by omega)).symm, e2.trans (g5 2 (by omega)).symm, e5.trans (g5 5 (by omega)).symm, e3.trans (g5 3 (by omega)).symm, e4.trans (g5 4 (by omega)).symm, e6.trans (g5 6 (by omega)).symm, e7.trans (g5 7 (by omega)).symm, e8.trans (g5 8 (by omega)).symm, e9.trans (g5 9 (by omega)).symm, eo.trans (congrArg nI (k_out_cong (m := M 9) (g5 10 (by omega)) (fun i hi => g5 _ (by omega)))).symm, ets.trans (g5 10 (by omega)).symm, gw, gts, ess.trans (g5 12 (by omega)).symm⟩, fun i hi => ⟨(hth i hi).1.trans (g5 _ (by omega)).symm, (hth i hi).2.trans (g5 _ (by omega)).symm⟩, gth, fun i hi => ⟨(hse i hi).1.trans (g5 _ (by omega)).symm, (hse i hi).2.1.trans (g5 _ (by omega)).symm, (hse i hi).2.2.1.trans (g5 _ (by omega)).symm, (hse i hi).2.2.2.1.trans (g5 _ (by omega)).symm, (hse i hi).2.2.2.2.1.trans (g5 _ (by omega)).symm, (hse i hi).2.2.2.2.2.1.trans (g5 _ (by omega)).symm, (hse i hi).2.2.2.2.2.2.1.trans (g5 _ (by omega)).symm, (hse i hi).2.2.2.2.2.2.2.trans (g5 _ (by omega)).symm⟩, gI⟩, hk0, hk1, hk2, hp⟩
  · unfold pX_tackle; rw [g1]; rfl
  · unfold pM_tackle; rw [g2]; rfl
