/-! ===== a seam more ===== -/
def m_seam (m : Nat → Int32) (a1 a2 a3 a4 a5 a6 : Int32) : Nat → Int32 := upd (upd (upd (upd (upd (upd (upd (upd (upd m (73 + s_ns m) a1) (85 + s_ns m) a2) (97 + s_ns m) a3) (109 + s_ns m) a4) (121 + s_ns m) a5) (133 + s_ns m) a6) (145 + s_ns m) 0) (157 + s_ns m) 0) 12 (m 12 + 1)
theorem m_seam_at {m : Nat → Int32} {a1 a2 a3 a4 a5 a6 : Int32} {k : Nat} (h : k ≠ 12) (hk : k ≠ 73 + s_ns m ∧ k ≠ 85 + s_ns m ∧ k ≠ 97 + s_ns m ∧ k ≠ 109 + s_ns m ∧ k ≠ 121 + s_ns m ∧ k ≠ 133 + s_ns m ∧ k ≠ 145 + s_ns m ∧ k ≠ 157 + s_ns m) : m_seam m a1 a2 a3 a4 a5 a6 k = m k := by
  obtain ⟨k0, k1, k2, k3, k4, k5, k6, k7⟩ := hk
  unfold m_seam
  rw [upd_n h, upd_n k7, upd_n k6, upd_n k5, upd_n k4, upd_n k3, upd_n k2, upd_n k1, upd_n k0]
theorem m_seam_new {m : Nat → Int32} (hn : s_ns m < 12) (a1 a2 a3 a4 a5 a6 : Int32) : m_seam m a1 a2 a3 a4 a5 a6 (73 + s_ns m) = a1 ∧ m_seam m a1 a2 a3 a4 a5 a6 (85 + s_ns m) = a2 ∧ m_seam m a1 a2 a3 a4 a5 a6 (97 + s_ns m) = a3 ∧ m_seam m a1 a2 a3 a4 a5 a6 (109 + s_ns m) = a4 ∧ m_seam m a1 a2 a3 a4 a5 a6 (121 + s_ns m) = a5 ∧ m_seam m a1 a2 a3 a4 a5 a6 (133 + s_ns m) = a6 ∧ m_seam m a1 a2 a3 a4 a5 a6 (145 + s_ns m) = 0 ∧ m_seam m a1 a2 a3 a4 a5 a6 (157 + s_ns m) = 0 := by
  unfold m_seam
  simp (disch := omega) only [upd_n, upd_s, and_self]
theorem m_seam_inv {m : Nat → Int32} (h : k_Inv m) (hn : s_ns m < 12) {a1 a2 a3 a4 a5 a6 : Int32} (h1 : kr a1 1 10) (h2 : kr a2 0 1) (h3 : kr a3 1 6) (h4 : kr a4 1 4) (h5 : kr a5 0 50) (h6 : kr a6 1 100) : k_Inv (m_seam m a1 a2 a3 a4 a5 a6) := by
  obtain ⟨e12, -, e12'⟩ := s_ns_e h.1
  have er : k_Rng (m_seam m a1 a2 a3 a4 a5 a6) := by
    have l73 : ∀ i, i < 12 → k_lo (73 + i) = 0 ∧ k_hi (73 + i) = 10 := by decide
    have l85 : ∀ i, i < 12 → k_lo (85 + i) = 0 ∧ k_hi (85 + i) = 1 := by decide
    have l97 : ∀ i, i < 12 → k_lo (97 + i) = 0 ∧ k_hi (97 + i) = 6 := by decide
    have l109 : ∀ i, i < 12 → k_lo (109 + i) = 0 ∧ k_hi (109 + i) = 4 := by decide
    have l121 : ∀ i, i < 12 → k_lo (121 + i) = 0 ∧ k_hi (121 + i) = 50 := by decide
    have l133 : ∀ i, i < 12 → k_lo (133 + i) = 0 ∧ k_hi (133 + i) = 100 := by decide
    have l145 : ∀ i, i < 12 → k_lo (145 + i) = 0 ∧ k_hi (145 + i) = 2 := by decide
    have l157 : ∀ i, i < 12 → k_lo (157 + i) = 0 ∧ k_hi (157 + i) = 4 := by decide
    unfold m_seam
    refine k_Rng_upd (k_Rng_upd (k_Rng_upd (k_Rng_upd (k_Rng_upd (k_Rng_upd (k_Rng_upd (k_Rng_upd (k_Rng_upd h.1 ?_) ?_) ?_) ?_) ?_) ?_) ?_) ?_) ?_
    · rw [(l73 _ hn).1, (l73 _ hn).2]; exact ⟨by have := h1.1; omega, h1.2⟩
    · rw [(l85 _ hn).1, (l85 _ hn).2]; exact h2
    · rw [(l97 _ hn).1, (l97 _ hn).2]; exact ⟨by have := h3.1; omega, h3.2⟩
    · rw [(l109 _ hn).1, (l109 _ hn).2]; exact ⟨by have := h4.1; omega, h4.2⟩
    · rw [(l121 _ hn).1, (l121 _ hn).2]; exact h5
    · rw [(l133 _ hn).1, (l133 _ hn).2]; exact ⟨by have := h6.1; omega, h6.2⟩
    · rw [(l145 _ hn).1, (l145 _ hn).2]; exact ⟨by decide, by decide⟩
    · rw [(l157 _ hn).1, (l157 _ hn).2]; exact ⟨by decide, by decide⟩
    · rw [e12, nI_1]
      show 0 ≤ _ ∧ _ ≤ 12
      rw [q_ti (by omega)]; omega
  have e1 : m_seam m a1 a2 a3 a4 a5 a6 12 = nI (s_ns m + 1) := by unfold m_seam; rw [upd_s, e12, nI_1]
  have e12'' : (m_seam m a1 a2 a3 a4 a5 a6 12).toInt = (s_ns m : Int) + 1 := by rw [e1, q_ti (by omega)]; rfl
  have hn6 := (s_nt_e h.1).2
  have hn7 := (s_na_e h.1).2
  refine ⟨er, fun i hi => ?_, fun i hi => ?_, fun i hi => ?_⟩
  · rw [m_seam_at (by omega) (by omega)] at hi
    rw [m_seam_at (by omega) (by omega)]
    exact h.2.1 i hi
  · rw [m_seam_at (by omega) (by omega)] at hi
    rw [m_seam_at (by omega) (by omega)]
    exact h.2.2.1 i hi
  · rw [e12''] at hi
    by_cases c : i = s_ns m
    · subst c
      obtain ⟨-, -, -, n4, -, -, n7, n8⟩ := m_seam_new hn a1 a2 a3 a4 a5 a6
      rw [n7, n8, n4]
      exact ⟨fun _ => by decide, fun hh => absurd hh (by decide), h4.1⟩
    · rw [m_seam_at (by omega) (by omega), m_seam_at (by omega) (by omega), m_seam_at (by omega) (by omega)]
      exact h.2.2.2 i (by omega)
theorem t_seam {m sk sd hd lg tr wo sta dn : Nat → Int32} {ts : Int32} (h : k_Inv m) (ess : ts = m 12) (hse : ∀ i, i < 12 → sk i = m (73 + i) ∧ sd i = m (85 + i) ∧ hd i = m (97 + i) ∧ lg i = m (109 + i) ∧ tr i = m (121 + i) ∧ wo i = m (133 + i) ∧ sta i = m (145 + i) ∧ dn i = m (157 + i)) (a1 a2 a3 a4 a5 a6 : Int32) : ∃ r ts' sk' sd' hd' lg' tr' wo' sta' dn' m', p_X8_seam ts sk sd hd lg tr wo sta dn a1 a2 a3 a4 a5 a6 = some (r, ts', sk', sd', hd', lg', tr', wo', sta', dn') ∧ p_X9_seam m a1 a2 a3 a4 a5 a6 = some (r, 0, m') ∧ k_Inv m' ∧ ts' = m' 12 ∧ (∀ i, i < 12 → sk' i = m' (73 + i) ∧ sd' i = m' (85 + i) ∧ hd' i = m' (97 + i) ∧ lg' i = m' (109 + i) ∧ tr' i = m' (121 + i) ∧ wo' i = m' (133 + i) ∧ sta' i = m' (145 + i) ∧ dn' i = m' (157 + i)) ∧ (∀ k, (k ≠ 12 ∧ k < 73) → m' k = m k) := by
  obtain ⟨e12, hn, e12'⟩ := s_ns_e h.1
  subst ess
  unfold p_X8_seam p_X9_seam
  rw [e12]
  simp only [q_within, q_in_1_10, q_in_0_1, q_in_1_6, q_in_1_4, q_in_0_50, q_in_1_100, q_b1, q_ifp]
  have same : ∀ v : Int32, ∃ r ts' sk' sd' hd' lg' tr' wo' sta' dn' m', (some (v, nI (s_ns m), sk, sd, hd, lg, tr, wo, sta, dn) : Option (Int32 × Int32 × (Nat → Int32) × (Nat → Int32) × (Nat → Int32) × (Nat → Int32) × (Nat → Int32) × (Nat → Int32) × (Nat → Int32) × (Nat → Int32))) = some (r, ts', sk', sd', hd', lg', tr', wo', sta', dn') ∧ (some (v, 0, m) : Option (Int32 × Int32 × (Nat → Int32))) = some (r, 0, m') ∧ k_Inv m' ∧ ts' = m' 12 ∧ (∀ i, i < 12 → sk' i = m' (73 + i) ∧ sd' i = m' (85 + i) ∧ hd' i = m' (97 + i) ∧ lg' i = m' (109 + i) ∧ tr' i = m' (121 + i) ∧ wo' i = m' (133 + i) ∧ sta' i = m' (145 + i) ∧ dn' i = m' (157 + i)) ∧ (∀ k, (k ≠ 12 ∧ k < 73) → m' k = m k) :=
    fun v => ⟨v, _, _, _, _, _, _, _, _, _, m, rfl, rfl, h, e12.symm, hse, fun _ _ => rfl⟩
  by_cases h1 : 1 ≤ a1 ∧ a1 ≤ 10
  · simp only [if_pos h1]
    by_cases h2 : 0 ≤ a2 ∧ a2 ≤ 1
    · simp only [if_pos h2]
      by_cases h3 : 1 ≤ a3 ∧ a3 ≤ 6
      · simp only [if_pos h3]
        by_cases h4 : 1 ≤ a4 ∧ a4 ≤ 4
        · simp only [if_pos h4]
          by_cases h5 : 0 ≤ a5 ∧ a5 ≤ 50
          · simp only [if_pos h5]
            by_cases h6 : 1 ≤ a6 ∧ a6 ≤ 100
            · simp only [if_pos h6]
              by_cases c : s_ns m < 12
              · have i1 := m_seam_inv h c (q_kr h1) (q_kr h2) (q_kr h3) (q_kr h4) (q_kr h5) (q_kr h6)
                obtain ⟨n1, n2, n3, n4, n5, n6, n7, n8⟩ := m_seam_new c a1 a2 a3 a4 a5 a6
                refine ⟨nI (s_ns m), nI (s_ns m + 1), upd sk (s_ns m) a1, upd sd (s_ns m) a2, upd hd (s_ns m) a3, upd lg (s_ns m) a4, upd tr (s_ns m) a5, upd wo (s_ns m) a6, upd sta (s_ns m) 0, upd dn (s_ns m) 0, m_seam m a1 a2 a3 a4 a5 a6, ?_, ?_, i1, ?_, fun i hi => ?_, fun k k1 => ?_⟩
                · rw [if_pos (show nI (s_ns m) < 12 from nI_lt (b := 12) c (by omega))]
                  unfold p_X3_add
                  simp (disch := omega) only [q_ix, q_cl]
                  rw [nI_1, nI_pred]; rfl
                · rw [if_neg (by rw [show (12 : Int32) = nI 12 from rfl, q_eqI (by omega) (by omega)]; omega)]
                  simp (disch := omega) only [q_o73, q_o85, q_o97, q_o109, q_o121, q_o133, q_o145, q_o157, q_ix, q_cl, upd_n]
                  unfold m_seam; rw [e12]
                · unfold m_seam; rw [upd_s, e12, nI_1]
                · by_cases c2 : i = s_ns m
                  · subst c2
                    rw [n1, n2, n3, n4, n5, n6, n7, n8]
                    simp only [upd_s, and_self]
                  · obtain ⟨z0, z1, z2, z3, z4, z5, z6, z7⟩ := hse i hi
                    simp only [upd_n c2]
                    exact ⟨z0.trans (m_seam_at (by omega) (by omega)).symm, z1.trans (m_seam_at (by omega) (by omega)).symm, z2.trans (m_seam_at (by omega) (by omega)).symm, z3.trans (m_seam_at (by omega) (by omega)).symm, z4.trans (m_seam_at (by omega) (by omega)).symm, z5.trans (m_seam_at (by omega) (by omega)).symm, z6.trans (m_seam_at (by omega) (by omega)).symm, z7.trans (m_seam_at (by omega) (by omega)).symm⟩
                · exact m_seam_at k1.1 (by omega)
              · have : s_ns m = 12 := by omega
                rw [if_neg (by rw [this]; decide), if_pos (by rw [this]; rfl)]
                exact same _
            · simp only [if_neg h6]; exact same _
          · simp only [if_neg h5]; exact same _
        · simp only [if_neg h4]; exact same _
      · simp only [if_neg h3]; exact same _
    · simp only [if_neg h2]; exact same _
  · simp only [if_neg h1]; exact same _
theorem sim_seam : k_Sim_seam R_all := by
  intro S L M a1 a2 a3 a4 a5 a6 hR
  obtain ⟨hc, ht, hrn, hru, hs, hk0, hk1, hk2, hp⟩ := hR
  obtain ⟨⟨e0, e1, e2, e5, e3, e4, e6, e7, e8, e9, eo, ets, ew, eta, ess⟩, hth, hta, hse, hI⟩ := hs
  obtain ⟨r, ts', sk', sd', hd', lg', tr', wo', sta', dn', m', g1, g2, gI, gts, gse, g5⟩ := t_seam hI ess hse a1 a2 a3 a4 a5 a6
  refine ⟨r, (k_su (k_su (k_su (k_su (k_su (k_su (k_su (k_su (k_su S 23 (fun _ => ts')) 24 sk') 25 sd') 26 hd') 27 lg') 28 tr') 29 wo') 30 sta') 31 dn'), L, k_su (k_su M 0 (fun _ => 0)) 9 m', ?_, ?_, hc, ht, hrn, hru, ⟨⟨e0.trans (g5 0 (by omega)).symm, e1.trans (g5 1 (by omega)).symm, e2.trans (g5 2 (by omega)).symm, e5.trans (g5 5 (by omega)).symm, e3.trans (g5 3 (by omega)).symm, e4.trans (g5 4 (by omega)).symm, e6.trans (g5 6 (by omega)).symm, e7.trans (g5 7 (by omega)).symm, e8.trans (g5 8 (by omega)).symm, e9.trans (g5 9 (by omega)).symm, eo.trans (congrArg nI (k_out_cong (m := M 9) (g5 10 (by omega)) (fun i hi => g5 _ (by omega)))).symm, ets.trans (g5 10 (by omega)).symm, ew.trans (congrArg nI (k_wh_cong (m := M 9) (g5 11 (by omega)) (fun i hi => g5 _ (by omega)))).symm, eta.trans (g5 11 (by omega)).symm, gts⟩, fun i hi => ⟨(hth i hi).1.trans (g5 _ (by omega)).symm, (hth i hi).2.trans (g5 _ (by omega)).symm⟩, fun i hi => ⟨(hta i hi).1.trans (g5 _ (by omega)).symm, (hta i hi).2.1.trans (g5 _ (by omega)).symm, (hta i hi).2.2.trans (g5 _ (by omega)).symm⟩, gse, gI⟩, hk0, hk1, hk2, hp⟩
  · unfold pX_seam; rw [g1]; rfl
  · unfold pM_seam; rw [g2]; rfl
