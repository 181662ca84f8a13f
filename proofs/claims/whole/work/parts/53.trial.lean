/-! ===== the OPEN ones as ORDERS ===== -/
theorem xy_bits {c sta : Nat → Int32} {ss : Int32} (h : k_Rng c) (hs : ss = c 12) (h1 : ∀ i, i < 12 → sta i = c (145 + i)) : ∃ x, p_X3_bitsOf ss sta 1 = some x ∧ k_lp (fun s : Int32 × Int32 => lb_X9_findFloat_59 c s.1 s.2) k_fuel (0, 0) = some x ∧ (x = 0) = (s_st c 1 = 0) := by
  obtain ⟨e12, hn, -⟩ := s_ns_e h
  obtain ⟨x, x1, x2⟩ := x_bitsOf h hs h1 1
  have k1 : k_lp (fun s : Int32 × Int32 => lb_X3_bitsOf_4 ss sta 1 s.1 s.2) k_fuel (0, 0) = some (q_fold (s_orf c 1) 0 (s_ns c)) := by
    refine q_foldlp _ (s_ns c) 0 (fun i x hi => ?_) (fun x => ?_) (by omega)
    · show lb_X3_bitsOf_4 ss sta 1 x (nI i) = _
      unfold lb_X3_bitsOf_4
      rw [hs, e12]
      simp (disch := omega) only [q_ifge, q_ifle, q_o5, q_o13, q_o25, q_o37, q_o49, q_o55, q_o61, q_o67, q_o73, q_o85, q_o97, q_o109, q_o121, q_o133, q_o145, q_o157, q_ix, q_cl, q_b1, q_b2, q_hasBit, q_ifp, Nat.le_refl]
      rw [h1 i (by omega)]
      unfold s_orf
      by_cases q : c (145 + i) = 1
      · rw [if_pos q, if_pos q]
      · rw [if_neg q, if_neg q]
    · show lb_X3_bitsOf_4 ss sta 1 x (nI (s_ns c)) = _
      unfold lb_X3_bitsOf_4
      rw [hs, e12]
      simp (disch := omega) only [q_ifge, q_ifle, q_o5, q_o13, q_o25, q_o37, q_o49, q_o55, q_o61, q_o67, q_o73, q_o85, q_o97, q_o109, q_o121, q_o133, q_o145, q_o157, q_ix, q_cl, q_b1, q_b2, q_hasBit, q_ifp, Nat.le_refl]
  have k2 : k_lp (fun s : Int32 × Int32 => lb_X9_findFloat_59 c s.1 s.2) k_fuel (0, 0) = some (q_fold (s_orf c 1) 0 (s_ns c)) := by
    refine q_foldlp _ (s_ns c) 0 (fun i x hi => ?_) (fun x => ?_) (by omega)
    · show lb_X9_findFloat_59 c x (nI i) = _
      unfold lb_X9_findFloat_59
      rw [e12]
      simp (disch := omega) only [q_ifge, q_ifle, q_o5, q_o13, q_o25, q_o37, q_o49, q_o55, q_o61, q_o67, q_o73, q_o85, q_o97, q_o109, q_o121, q_o133, q_o145, q_o157, q_ix, q_cl, q_b1, q_b2, q_hasBit, q_ifp, Nat.le_refl]
      unfold s_orf
      by_cases q : c (145 + i) = 1
      · rw [if_pos q, if_pos q]
      · rw [if_neg q, if_neg q]
    · show lb_X9_findFloat_59 c x (nI (s_ns c)) = _
      unfold lb_X9_findFloat_59
      rw [e12]
      simp (disch := omega) only [q_ifge, q_ifle, q_o5, q_o13, q_o25, q_o37, q_o49, q_o55, q_o61, q_o67, q_o73, q_o85, q_o97, q_o109, q_o121, q_o133, q_o145, q_o157, q_ix, q_cl, q_b1, q_b2, q_hasBit, q_ifp, Nat.le_refl]
  have ex : x = q_fold (s_orf c 1) 0 (s_ns c) := by
    unfold p_X3_bitsOf at x1
    rw [k1, q_b1] at x1
    exact (Option.some.inj x1).symm
  exact ⟨x, x1, by rw [k2, ← ex], s_st_0 h x2⟩
/-! ===== the trial ===== -/
theorem xy_trial {m rn ru ru' td wt ma pr sg sk sd hd lg tr : Nat → Int32} {ot ts tas ss : Int32} (hrn : ∀ h, h < 96 → kr (rn h) 0 1) (hrl : R_rl ru' ru) (hpos : R_pos ru) (hr3 : ru' 3 = ru 3) (hot : ot = nI (k_out m)) (hts : ts = m 10) (hwt : ∀ i, i < 12 → wt i = m (13 + i)) (htas : tas = m 11) (hta : ∀ i, i < 6 → ma i = m (49 + i) ∧ pr i = m (55 + i) ∧ sg i = m (61 + i)) (hss : ss = m 12) (hse : ∀ i, i < 12 → sk i = m (73 + i) ∧ sd i = m (85 + i) ∧ hd i = m (97 + i) ∧ lg i = m (109 + i) ∧ tr i = m (121 + i)) : ∀ (d o : Nat), o + d = 96 → ∀ (c dn sta : Nat → Int32), k_Inv c → (∀ k, ((9 ≤ k ∧ k < 67) ∨ (73 ≤ k ∧ k < 145)) → c k = m k) → c 0 = nI o → (∀ j, j < 12 → sta j = c (145 + j) ∧ dn j = c (157 + j)) → ∃ cf dn' sta' x2, (∀ F, d + 2 < F → k_lp (fun s : Int32 × (Nat → Int32) × (Nat → Int32) × Int32 × Int32 × Int32 × Int32 × Int32 × Int32 × Int32 × Int32 × Int32 × Int32 => lb_X0_isFound_13 ss rn td sk sd ru' ot ts wt tas pr sg ma hd tr lg s.1 s.2.1 s.2.2.1 s.2.2.2.1 s.2.2.2.2.1 s.2.2.2.2.2.1 s.2.2.2.2.2.2.1 s.2.2.2.2.2.2.2.1 s.2.2.2.2.2.2.2.2.1 s.2.2.2.2.2.2.2.2.2.1 s.2.2.2.2.2.2.2.2.2.2.1 s.2.2.2.2.2.2.2.2.2.2.2.1 s.2.2.2.2.2.2.2.2.2.2.2.2) F (nI o, dn, sta, c 3, c 1, c 4, c 0, c 7, c 8, c 5, c 6, c 2, nI (k_wh c)) = some (dn', sta', cf 3, cf 1, cf 4, cf 0, cf 7, cf 8, cf 5, cf 6, cf 2, nI (k_wh cf))) ∧ (∀ F, d + 2 < F → k_lp (fun s : Int32 × (Nat → Int32) => lb_X9_findFloat_42 rn ru td s.1 s.2) F (1, c) = some (x2, cf)) ∧ k_Inv cf ∧ (∀ k, ((9 ≤ k ∧ k < 67) ∨ (73 ≤ k ∧ k < 145)) → cf k = m k) ∧ (∀ j, j < 12 → sta' j = cf (145 + j) ∧ dn' j = cf (157 + j)) ∧ ((x2 = 1 ∧ s_st cf 1 = 0) ∨ (x2 = 0 ∧ ¬ s_st cf 1 = 0)) := by
  intro d
  induction d with
  | zero =>
    intro o ho c dn sta hI hag hc0 hds
    have o96 : o = 96 := by omega
    subst o96
    obtain ⟨x, x1, x2, x3⟩ := xy_bits hI.1 (sta := sta) (ss := ss) (by rw [hss, hag 12 (by omega)]) (fun i hi => (hds i hi).1)
    have hw := Nat.le_trans (fb_ct_le (fun i => decide (c (145 + i) = 1)) (s_ns c)) (s_ns_e hI.1).2.1
    have hw : s_st c 1 ≤ 12 := hw
    have cls : ∀ F, 0 + 2 < F → k_lp (fun s : Int32 × (Nat → Int32) × (Nat → Int32) × Int32 × Int32 × Int32 × Int32 × Int32 × Int32 × Int32 × Int32 × Int32 × Int32 => lb_X0_isFound_13 ss rn td sk sd ru' ot ts wt tas pr sg ma hd tr lg s.1 s.2.1 s.2.2.1 s.2.2.2.1 s.2.2.2.2.1 s.2.2.2.2.2.1 s.2.2.2.2.2.2.1 s.2.2.2.2.2.2.2.1 s.2.2.2.2.2.2.2.2.1 s.2.2.2.2.2.2.2.2.2.1 s.2.2.2.2.2.2.2.2.2.2.1 s.2.2.2.2.2.2.2.2.2.2.2.1 s.2.2.2.2.2.2.2.2.2.2.2.2) F (nI 96, dn, sta, c 3, c 1, c 4, c 0, c 7, c 8, c 5, c 6, c 2, nI (k_wh c)) = some (dn, sta, c 3, c 1, c 4, c 0, c 7, c 8, c 5, c 6, c 2, nI (k_wh c)) := by
      intro F hF
      obtain ⟨F, rfl⟩ : ∃ f, F = f + 1 := ⟨F - 1, by omega⟩
      unfold k_lp
      have : lb_X0_isFound_13 ss rn td sk sd ru' ot ts wt tas pr sg ma hd tr lg (nI 96) dn sta (c 3) (c 1) (c 4) (c 0) (c 7) (c 8) (c 5) (c 6) (c 2) (nI (k_wh c)) = some (.inr (dn, sta, c 3, c 1, c 4, c 0, c 7, c 8, c 5, c 6, c 2, nI (k_wh c))) := by
        unfold lb_X0_isFound_13
        rw [if_pos (show (96 : Int32) ≤ nI 96 by decide)]
      rw [this]
    by_cases z : s_st c 1 = 0
    · refine ⟨c, dn, sta, 1, cls, fun F hF => ?_, hI, hag, hds, Or.inl ⟨rfl, z⟩⟩
      obtain ⟨F, rfl⟩ : ∃ f, F = f + 1 := ⟨F - 1, by omega⟩
      unfold k_lp
      have : lb_X9_findFloat_42 rn ru td 1 c = some (.inr (1, c)) := by
        unfold lb_X9_findFloat_42
        rw [if_neg (by decide), y_states hI.1, q_b1, z, if_pos (by decide)]
      rw [this]
    · refine ⟨c, dn, sta, 0, cls, fun F hF => ?_, hI, hag, hds, Or.inr ⟨rfl, z⟩⟩
      obtain ⟨F, rfl⟩ : ∃ f, F = f + 1 + 1 := ⟨F - 2, by omega⟩
      unfold k_lp
      have : lb_X9_findFloat_42 rn ru td 1 c = some (.inl (0, c)) := by
        unfold lb_X9_findFloat_42 lj_X9_findFloat_126
        rw [if_neg (by decide), y_states hI.1, q_b1, if_neg (nI_nle (by omega) (by omega)), x2, q_b1, y_lost, q_b1, hc0, if_pos (show (96 : Int32) ≤ nI 96 by decide)]
        by_cases cw : c 2 ≤ 100
        · rw [if_pos cw]; rfl
        · rw [if_neg cw]; rfl
      rw [this]
      show k_lp (fun s : Int32 × (Nat → Int32) => lb_X9_findFloat_42 rn ru td s.1 s.2) (F + 1) (0, c) = _
      unfold k_lp
      have : lb_X9_findFloat_42 rn ru td 0 c = some (.inr (0, c)) := by
        unfold lb_X9_findFloat_42
        rw [if_pos rfl]
      rw [this]
  | succ d ih =>
    intro o ho c dn sta hI hag hc0 hds
    obtain ⟨x, x1, x2, x3⟩ := xy_bits hI.1 (sta := sta) (ss := ss) (by rw [hss, hag 12 (by omega)]) (fun i hi => (hds i hi).1)
    have hw := Nat.le_trans (fb_ct_le (fun i => decide (c (145 + i) = 1)) (s_ns c)) (s_ns_e hI.1).2.1
    have hw : s_st c 1 ≤ 12 := hw
    have n96 : ¬ (96 : Int32) ≤ nI o := nI_ge (b := 96) (by omega) (by omega)
    have clsx : (¬ c 2 ≤ 100 ∨ s_st c 1 = 0) → ∀ F, d + 1 + 2 < F → k_lp (fun s : Int32 × (Nat → Int32) × (Nat → Int32) × Int32 × Int32 × Int32 × Int32 × Int32 × Int32 × Int32 × Int32 × Int32 × Int32 => lb_X0_isFound_13 ss rn td sk sd ru' ot ts wt tas pr sg ma hd tr lg s.1 s.2.1 s.2.2.1 s.2.2.2.1 s.2.2.2.2.1 s.2.2.2.2.2.1 s.2.2.2.2.2.2.1 s.2.2.2.2.2.2.2.1 s.2.2.2.2.2.2.2.2.1 s.2.2.2.2.2.2.2.2.2.1 s.2.2.2.2.2.2.2.2.2.2.1 s.2.2.2.2.2.2.2.2.2.2.2.1 s.2.2.2.2.2.2.2.2.2.2.2.2) F (nI o, dn, sta, c 3, c 1, c 4, c 0, c 7, c 8, c 5, c 6, c 2, nI (k_wh c)) = some (dn, sta, c 3, c 1, c 4, c 0, c 7, c 8, c 5, c 6, c 2, nI (k_wh c)) := by
      intro hx F hF
      obtain ⟨F, rfl⟩ : ∃ f, F = f + 1 := ⟨F - 1, by omega⟩
      unfold k_lp
      have : lb_X0_isFound_13 ss rn td sk sd ru' ot ts wt tas pr sg ma hd tr lg (nI o) dn sta (c 3) (c 1) (c 4) (c 0) (c 7) (c 8) (c 5) (c 6) (c 2) (nI (k_wh c)) = some (.inr (dn, sta, c 3, c 1, c 4, c 0, c 7, c 8, c 5, c 6, c 2, nI (k_wh c))) := by
        unfold lb_X0_isFound_13
        rw [if_neg n96, x_lost, q_b1]
        by_cases cw : c 2 ≤ 100
        · rw [if_pos cw, if_pos rfl, x1, q_b1, if_pos (by rw [x3]; exact hx.resolve_left (fun hh => hh cw))]
        · rw [if_neg cw, if_neg (by decide)]
      rw [this]
    by_cases z : s_st c 1 = 0
    · refine ⟨c, dn, sta, 1, clsx (Or.inr z), fun F hF => ?_, hI, hag, hds, Or.inl ⟨rfl, z⟩⟩
      obtain ⟨F, rfl⟩ : ∃ f, F = f + 1 := ⟨F - 1, by omega⟩
      unfold k_lp
      have : lb_X9_findFloat_42 rn ru td 1 c = some (.inr (1, c)) := by
        unfold lb_X9_findFloat_42
        rw [if_neg (by decide), y_states hI.1, q_b1, z, if_pos (by decide)]
      rw [this]
    · by_cases cw : c 2 ≤ 100
      · obtain ⟨c', sta', dn', g1, g2, g3, g4, g5, -, -, g8⟩ := xy_pass (m := c) (rn := rn) (ru := ru) (ru' := ru') (td := td) (wt := wt) (ma := ma) (pr := pr) (sg := sg) (sk := sk) (sd := sd) (hd := hd) (lg := lg) (tr := tr) (sta := sta) (dn := dn) (ot := ot) (ts := ts) (tas := tas) (ss := ss) hI hrn hrl hpos hr3 hc0 (by omega) cw (by rw [hot, k_out_cong (m := m) (m' := c) (hag 10 (by omega)) (fun i hi => hag _ (by omega))]) (by rw [hts, hag 10 (by omega)]) (fun i hi => by rw [hwt i hi, hag _ (by omega)]) (by rw [htas, hag 11 (by omega)]) (fun i hi => by rw [(hta i hi).1, (hta i hi).2.1, (hta i hi).2.2, hag _ (by omega), hag _ (by omega), hag _ (by omega)]; exact ⟨rfl, rfl, rfl⟩) (by rw [hss, hag 12 (by omega)]) (fun i hi => by
          obtain ⟨z0, z1, z2, z3, z4⟩ := hse i hi
          exact ⟨z0.trans (hag _ (by omega)).symm, z1.trans (hag _ (by omega)).symm, z2.trans (hag _ (by omega)).symm, z3.trans (hag _ (by omega)).symm, z4.trans (hag _ (by omega)).symm, (hds i hi).1, (hds i hi).2⟩) x
        obtain ⟨cf, dn2, sta2, y2, i1, i2, i3, i4, i5, i6⟩ := ih (o + 1) (by omega) c' dn' sta' g3 (fun k hk => (g8 k hk).trans (hag k hk)) g5 g4
        refine ⟨cf, dn2, sta2, y2, fun F hF => ?_, fun F hF => ?_, i3, i4, i5, i6⟩
        · obtain ⟨F, rfl⟩ : ∃ f, F = f + 1 := ⟨F - 1, by omega⟩
          unfold k_lp
          have : lb_X0_isFound_13 ss rn td sk sd ru' ot ts wt tas pr sg ma hd tr lg (nI o) dn sta (c 3) (c 1) (c 4) (c 0) (c 7) (c 8) (c 5) (c 6) (c 2) (nI (k_wh c)) = some (.inl (nI (o + 1), dn', sta', c' 3, c' 1, c' 4, c' 0, c' 7, c' 8, c' 5, c' 6, c' 2, nI (k_wh c'))) := by
            unfold lb_X0_isFound_13
            rw [if_neg n96, x_lost, q_b1, if_pos cw, if_pos rfl, x1, q_b1, if_neg (by rw [x3]; exact z), q_b1, g1, nI_1]
            rfl
          rw [this]
          exact i1 F (by omega)
        · obtain ⟨F, rfl⟩ : ∃ f, F = f + 1 := ⟨F - 1, by omega⟩
          unfold k_lp
          have : lb_X9_findFloat_42 rn ru td 1 c = some (.inl (1, c')) := by
            unfold lb_X9_findFloat_42 lj_X9_findFloat_126
            rw [if_neg (by decide), y_states hI.1, q_b1, if_neg (nI_nle (by omega) (by omega)), x2, q_b1, y_lost, q_b1, if_pos cw, if_pos rfl, hc0, if_neg n96, if_neg (by decide), g2, q_b1]
          rw [this]
          exact i2 F (by omega)
      · refine ⟨c, dn, sta, 0, clsx (Or.inl cw), fun F hF => ?_, hI, hag, hds, Or.inr ⟨rfl, z⟩⟩
        obtain ⟨F, rfl⟩ : ∃ f, F = f + 1 + 1 := ⟨F - 2, by omega⟩
        unfold k_lp
        have : lb_X9_findFloat_42 rn ru td 1 c = some (.inl (0, c)) := by
          unfold lb_X9_findFloat_42 lj_X9_findFloat_126
          rw [if_neg (by decide), y_states hI.1, q_b1, if_neg (nI_nle (by omega) (by omega)), x2, q_b1, y_lost, q_b1, if_neg cw]
          rfl
        rw [this]
        show k_lp (fun s : Int32 × (Nat → Int32) => lb_X9_findFloat_42 rn ru td s.1 s.2) (F + 1) (0, c) = _
        unfold k_lp
        have : lb_X9_findFloat_42 rn ru td 0 c = some (.inr (0, c)) := by
          unfold lb_X9_findFloat_42
          rw [if_pos rfl]
        rw [this]
