/-! ===== book, count ===== -/
theorem xy_worth {m sta wo : Nat → Int32} {ss : Int32} (h : k_Rng m) (hs : ss = m 12) (h1 : ∀ i, i < 12 → sta i = m (145 + i)) (h2 : ∀ i, i < 12 → wo i = m (133 + i)) : ∃ v, p_X3_worthTight ss sta wo = some v ∧ k_lp (fun s : Int32 × Int32 => lb_X9_book_80 m s.1 s.2) k_fuel (0, 0) = some v := by
  obtain ⟨e12, hn, -⟩ := s_ns_e h
  subst hs
  have k1 : k_lp (fun s : Int32 × Int32 => lb_X3_worthTight_4 (m 12) sta wo s.1 s.2) k_fuel (0, 0) = some (0 + q_sum (fun i => if m (145 + i) = 2 then m (133 + i) else 0) (s_ns m)) := by
    refine q_sumlp _ (s_ns m) 0 (fun i x hi => ?_) (fun x => ?_) (by omega)
    · show lb_X3_worthTight_4 (m 12) sta wo x (nI i) = _
      unfold lb_X3_worthTight_4
      rw [e12]
      simp (disch := omega) only [q_ifge, q_ifle, q_o5, q_o13, q_o25, q_o37, q_o49, q_o55, q_o61, q_o67, q_o73, q_o85, q_o97, q_o109, q_o121, q_o133, q_o145, q_o157, q_ix, q_cl, q_b1, q_b2, q_hasBit, q_ifp, Nat.le_refl]
      rw [h1 i (by omega), h2 i (by omega)]
      by_cases c : m (145 + i) = 2 <;> simp [c]
    · show lb_X3_worthTight_4 (m 12) sta wo x (nI (s_ns m)) = _
      unfold lb_X3_worthTight_4
      rw [e12]
      simp (disch := omega) only [q_ifge, q_ifle, q_o5, q_o13, q_o25, q_o37, q_o49, q_o55, q_o61, q_o67, q_o73, q_o85, q_o97, q_o109, q_o121, q_o133, q_o145, q_o157, q_ix, q_cl, q_b1, q_b2, q_hasBit, q_ifp, Nat.le_refl]
  have k2 : k_lp (fun s : Int32 × Int32 => lb_X9_book_80 m s.1 s.2) k_fuel (0, 0) = some (0 + q_sum (fun i => if m (145 + i) = 2 then m (133 + i) else 0) (s_ns m)) := by
    refine q_sumlp _ (s_ns m) 0 (fun i x hi => ?_) (fun x => ?_) (by omega)
    · show lb_X9_book_80 m x (nI i) = _
      unfold lb_X9_book_80
      rw [e12]
      simp (disch := omega) only [q_ifge, q_ifle, q_o5, q_o13, q_o25, q_o37, q_o49, q_o55, q_o61, q_o67, q_o73, q_o85, q_o97, q_o109, q_o121, q_o133, q_o145, q_o157, q_ix, q_cl, q_b1, q_b2, q_hasBit, q_ifp, Nat.le_refl]
      by_cases c : m (145 + i) = 2 <;> simp [c]
    · show lb_X9_book_80 m x (nI (s_ns m)) = _
      unfold lb_X9_book_80
      rw [e12]
      simp (disch := omega) only [q_ifge, q_ifle, q_o5, q_o13, q_o25, q_o37, q_o49, q_o55, q_o61, q_o67, q_o73, q_o85, q_o97, q_o109, q_o121, q_o133, q_o145, q_o157, q_ix, q_cl, q_b1, q_b2, q_hasBit, q_ifp, Nat.le_refl]
  exact ⟨_, by unfold p_X3_worthTight; rw [k1, q_b1], k2⟩
theorem sim_book : k_Sim_book R_all := by
  intro S L M a1 hR
  obtain ⟨hc, ht, hrn, hru, hs, hk0, hk1, hk2, hp⟩ := hR
  obtain ⟨⟨e0, e1, e2, e5, e3, e4, e6, e7, e8, e9, eo, ets, ew, eta, ess⟩, hth, hta, hse, hI⟩ := id hs
  obtain ⟨v, v1, v2⟩ := xy_worth hI.1 ess (fun i hi => (hse i hi).2.2.2.2.2.2.1) (fun i hi => (hse i hi).2.2.2.2.2.1)
  have key : ∃ r, p_X8_book (S 7 0) (S 10 0) (S 11 0) (S 12 0) (S 13 0) (S 23 0) (S 30) (S 29) a1 = some r ∧ p_X9_book (M 9) a1 = some (r, 0) := by
    unfold p_X8_book p_X9_book
    rw [v1, v2, e5, e6, e7, e8, e9]
    simp only [q_b1]
    by_cases c0 : a1 = 0
    · simp only [if_pos c0]; exact ⟨_, rfl, rfl⟩
    simp only [if_neg c0]
    by_cases c1 : a1 = 1
    · simp only [if_pos c1]; exact ⟨_, rfl, rfl⟩
    simp only [if_neg c1]
    by_cases c2 : a1 = 2
    · simp only [if_pos c2]; exact ⟨_, rfl, rfl⟩
    simp only [if_neg c2]
    by_cases c3 : a1 = 3
    · simp only [if_pos c3]; exact ⟨_, rfl, rfl⟩
    simp only [if_neg c3]
    by_cases c4 : a1 = 4
    · simp only [if_pos c4]; exact ⟨_, rfl, rfl⟩
    simp only [if_neg c4]
    by_cases c5 : a1 = 5
    · simp only [if_pos c5]; exact ⟨_, rfl, rfl⟩
    simp only [if_neg c5]
    exact ⟨_, rfl, rfl⟩
  obtain ⟨r, g1, g2⟩ := key
  refine ⟨r, S, L, k_su M 0 (fun _ => 0), ?_, ?_, hc, ht, hrn, hru, hs, hk0, hk1, hk2, hp⟩
  · unfold pX_book; rw [g1]; rfl
  · unfold pM_book; rw [g2]; rfl
theorem x_outs {m : Nat → Int32} (h : k_Rng m) : p_J6_bitCount_0f7a4 (nI (k_out m)) = some (nI (fb_ct (fun i => decide (m (37 + i) = 0)) (s_nt m))) :=
  q_bitCount (s_nt_e h).2.1 (fun i hi => k_out_bt h hi)
theorem y_ins {m : Nat → Int32} (h : k_Rng m) : k_lp (fun s : Int32 × Int32 => lb_X9_count_70 m s.1 s.2) k_fuel (0, 0) = some (nI (fb_ct (fun i => !decide (m (37 + i) = 0)) (s_nt m))) := by
  obtain ⟨e10, hn, -⟩ := s_nt_e h
  have key : k_lp (fun s : Int32 × Int32 => lb_X9_count_70 m s.1 s.2) k_fuel (0, 0) = some (0 + q_sum (fun i => m (37 + i)) (s_nt m)) := by
    refine q_sumlp _ (s_nt m) 0 (fun i x hi => ?_) (fun x => ?_) (by omega)
    · show lb_X9_count_70 m x (nI i) = _
      unfold lb_X9_count_70
      rw [e10]
      simp (disch := omega) only [q_ifge, q_ifle, q_o5, q_o13, q_o25, q_o37, q_o49, q_o55, q_o61, q_o67, q_o73, q_o85, q_o97, q_o109, q_o121, q_o133, q_o145, q_o157, q_ix, q_cl, q_b1, q_b2, q_hasBit, q_ifp, Nat.le_refl]
    · show lb_X9_count_70 m x (nI (s_nt m)) = _
      unfold lb_X9_count_70
      rw [e10]
      simp (disch := omega) only [q_ifge, q_ifle, q_o5, q_o13, q_o25, q_o37, q_o49, q_o55, q_o61, q_o67, q_o73, q_o85, q_o97, q_o109, q_o121, q_o133, q_o145, q_o157, q_ix, q_cl, q_b1, q_b2, q_hasBit, q_ifp, Nat.le_refl]
  rw [key, Int32.zero_add, q_sum_cnt (p := fun i => !decide (m (37 + i) = 0)) (fun i hi => by
    rcases q_01 (rg_in h (i := i) (by omega)) with e | e <;> simp [e])]
theorem sim_count : k_Sim_count R_all := by
  intro S L M a1 hR
  obtain ⟨hc, ht, hrn, hru, hs, hk0, hk1, hk2, hp⟩ := hR
  obtain ⟨⟨e0, e1, e2, e5, e3, e4, e6, e7, e8, e9, eo, ets, ew, eta, ess⟩, hth, hta, hse, hI⟩ := id hs
  obtain ⟨x1, x11, x12⟩ := x_bitsOf hI.1 ess (fun i hi => (hse i hi).2.2.2.2.2.2.1) 1
  obtain ⟨x2, x21, x22⟩ := x_bitsOf hI.1 ess (fun i hi => (hse i hi).2.2.2.2.2.2.1) 2
  obtain ⟨e10, hn, -⟩ := s_nt_e hI.1
  have hb1 := q_bitCount (s_ns_e hI.1).2.1 x12
  have hb2 := q_bitCount (s_ns_e hI.1).2.1 x22
  have key : ∃ r, p_X8_count (S 0 0) (S 4 0) (S 14 0) (S 15 0) (S 18 0) (S 19 0) (S 23 0) (S 30) a1 = some r ∧ p_X9_count (M 1 0) (M 9) a1 = some (r, 0) := by
    unfold p_X8_count p_X9_count
    rw [x11, x21, eo, ew, x_outs hI.1, x_count hI.1, y_ins hI.1, y_wholes hI.1, y_states hI.1, y_states hI.1, hc.1, e0, ets, eta, ess]
    simp only [q_b1]
    rw [hb1, hb2]
    simp only [q_b1]
    by_cases c0 : a1 = 0
    · simp only [if_pos c0]; exact ⟨_, rfl, rfl⟩
    simp only [if_neg c0]
    by_cases c1 : a1 = 1
    · simp only [if_pos c1]
      refine ⟨_, ?_, rfl⟩
      have hct := fb_ct_not (fun i => decide (M 9 (37 + i) = 0)) (s_nt (M 9))
      rw [e10, pk_sub (fb_ct_le _ _)]
      have : s_nt (M 9) - fb_ct (fun i => decide (M 9 (37 + i) = 0)) (s_nt (M 9)) = fb_ct (fun i => !decide (M 9 (37 + i) = 0)) (s_nt (M 9)) := by omega
      rw [this]
    simp only [if_neg c1]
    by_cases c2 : a1 = 2
    · simp only [if_pos c2]; exact ⟨_, rfl, rfl⟩
    simp only [if_neg c2]
    by_cases c3 : a1 = 3
    · simp only [if_pos c3]; exact ⟨_, rfl, rfl⟩
    simp only [if_neg c3]
    by_cases c4 : a1 = 4
    · simp only [if_pos c4]; exact ⟨_, rfl, rfl⟩
    simp only [if_neg c4]
    by_cases c5 : a1 = 5
    · simp only [if_pos c5]; exact ⟨_, rfl, rfl⟩
    simp only [if_neg c5]
    by_cases c6 : a1 = 6
    · simp only [if_pos c6]; exact ⟨_, rfl, rfl⟩
    simp only [if_neg c6]
    by_cases c7 : a1 = 7
    · simp only [if_pos c7]; exact ⟨_, rfl, rfl⟩
    simp only [if_neg c7]
    by_cases c8 : a1 = 8
    · simp only [if_pos c8]; exact ⟨_, rfl, rfl⟩
    simp only [if_neg c8]
    exact ⟨_, rfl, rfl⟩
  obtain ⟨r, g1, g2⟩ := key
  refine ⟨r, S, L, k_su M 0 (fun _ => 0), ?_, ?_, hc, ht, hrn, hru, hs, hk0, hk1, hk2, hp⟩
  · unfold pX_count; rw [g1]; rfl
  · unfold pM_count; rw [g2]; rfl
/-! ===== worm ===== -/
theorem q_pl {t : Nat → Int32} (ht : ∀ p, p < 30 → kr (t p) (-1) 1) {i : Nat} (hi : i < 30) : t i = -1 ∨ t i = 0 ∨ t i = 1 := by
  obtain ⟨h1, h2⟩ := ht i hi
  have : (t i).toInt = -1 ∨ (t i).toInt = 0 ∨ (t i).toInt = 1 := by omega
  rcases this with e | e | e
  · exact Or.inl (Int32.toInt_inj.mp (by rw [e]; decide))
  · exact Or.inr (Or.inl (Int32.toInt_inj.mp (by rw [e]; decide)))
  · exact Or.inr (Or.inr (Int32.toInt_inj.mp (by rw [e]; decide)))
theorem xy_least {t : Nat → Int32} (ht : ∀ p, p < 30 → kr (t p) (-1) 1) {n : Nat} (hn : n ≤ 30) : ∃ v, p_X1_least t (nI n) = some v ∧ k_lp (fun s : Int32 × Int32 => lb_X9_worm_41 (nI n) t 0 s.1 s.2) k_fuel (0, 0) = some v := by
  have k1 : k_lp (fun s : Int32 × Int32 => lb_X1_least_4 (nI n) t s.1 s.2) k_fuel (0, 0) = some (0 + q_sum (fun i => if t i = 1 then 1 else 0) n) := by
    refine q_sumlp _ n 0 (fun i x hi => ?_) (fun x => ?_) (by omega)
    · show lb_X1_least_4 (nI n) t x (nI i) = _
      unfold lb_X1_least_4
      simp (disch := omega) only [q_ifge, q_ifle, q_o5, q_o13, q_o25, q_o37, q_o49, q_o55, q_o61, q_o67, q_o73, q_o85, q_o97, q_o109, q_o121, q_o133, q_o145, q_o157, q_ix, q_cl, q_b1, q_b2, q_hasBit, q_ifp, Nat.le_refl]
      by_cases c : t i = 1 <;> simp [c]
    · show lb_X1_least_4 (nI n) t x (nI n) = _
      unfold lb_X1_least_4
      simp (disch := omega) only [q_ifge, q_ifle, q_o5, q_o13, q_o25, q_o37, q_o49, q_o55, q_o61, q_o67, q_o73, q_o85, q_o97, q_o109, q_o121, q_o133, q_o145, q_o157, q_ix, q_cl, q_b1, q_b2, q_hasBit, q_ifp, Nat.le_refl]
  have k2 : k_lp (fun s : Int32 × Int32 => lb_X9_worm_41 (nI n) t 0 s.1 s.2) k_fuel (0, 0) = some (0 + q_sum (fun i => if t i = 1 then 1 else 0) n) := by
    refine q_sumlp _ n 0 (fun i x hi => ?_) (fun x => ?_) (by omega)
    · show lb_X9_worm_41 (nI n) t 0 x (nI i) = _
      unfold lb_X9_worm_41
      simp (disch := omega) only [q_ifge, q_ifle, q_o5, q_o13, q_o25, q_o37, q_o49, q_o55, q_o61, q_o67, q_o73, q_o85, q_o97, q_o109, q_o121, q_o133, q_o145, q_o157, q_ix, q_cl, q_b1, q_b2, q_hasBit, q_ifp, Nat.le_refl]
      by_cases c : t i = 1 <;> simp [c]
    · show lb_X9_worm_41 (nI n) t 0 x (nI n) = _
      unfold lb_X9_worm_41
      simp (disch := omega) only [q_ifge, q_ifle, q_o5, q_o13, q_o25, q_o37, q_o49, q_o55, q_o61, q_o67, q_o73, q_o85, q_o97, q_o109, q_o121, q_o133, q_o145, q_o157, q_ix, q_cl, q_b1, q_b2, q_hasBit, q_ifp, Nat.le_refl]
  exact ⟨_, by unfold p_X1_least; rw [k1, q_b1], k2⟩
theorem xy_most {t : Nat → Int32} (ht : ∀ p, p < 30 → kr (t p) (-1) 1) {n : Nat} (hn : n ≤ 30) : ∃ v, p_X1_most t (nI n) = some v ∧ k_lp (fun s : Int32 × Int32 => lb_X9_worm_41 (nI n) t 1 s.1 s.2) k_fuel (0, 0) = some v := by
  have k1 : k_lp (fun s : Int32 × Int32 => lb_X1_most_4 (nI n) t s.1 s.2) k_fuel (0, 0) = some (0 + q_sum (fun i => if t i = 0 then 0 else 1) n) := by
    refine q_sumlp _ n 0 (fun i x hi => ?_) (fun x => ?_) (by omega)
    · show lb_X1_most_4 (nI n) t x (nI i) = _
      unfold lb_X1_most_4
      simp (disch := omega) only [q_ifge, q_ifle, q_o5, q_o13, q_o25, q_o37, q_o49, q_o55, q_o61, q_o67, q_o73, q_o85, q_o97, q_o109, q_o121, q_o133, q_o145, q_o157, q_ix, q_cl, q_b1, q_b2, q_hasBit, q_ifp, Nat.le_refl]
      by_cases c : t i = 0 <;> simp [c]
    · show lb_X1_most_4 (nI n) t x (nI n) = _
      unfold lb_X1_most_4
      simp (disch := omega) only [q_ifge, q_ifle, q_o5, q_o13, q_o25, q_o37, q_o49, q_o55, q_o61, q_o67, q_o73, q_o85, q_o97, q_o109, q_o121, q_o133, q_o145, q_o157, q_ix, q_cl, q_b1, q_b2, q_hasBit, q_ifp, Nat.le_refl]
  have k2 : k_lp (fun s : Int32 × Int32 => lb_X9_worm_41 (nI n) t 1 s.1 s.2) k_fuel (0, 0) = some (0 + q_sum (fun i => if t i = 0 then 0 else 1) n) := by
    refine q_sumlp _ n 0 (fun i x hi => ?_) (fun x => ?_) (by omega)
    · show lb_X9_worm_41 (nI n) t 1 x (nI i) = _
      unfold lb_X9_worm_41
      simp (disch := omega) only [q_ifge, q_ifle, q_o5, q_o13, q_o25, q_o37, q_o49, q_o55, q_o61, q_o67, q_o73, q_o85, q_o97, q_o109, q_o121, q_o133, q_o145, q_o157, q_ix, q_cl, q_b1, q_b2, q_hasBit, q_ifp, Nat.le_refl]
      rcases q_pl ht (i := i) (by omega) with c | c | c <;> simp [c]
    · show lb_X9_worm_41 (nI n) t 1 x (nI n) = _
      unfold lb_X9_worm_41
      simp (disch := omega) only [q_ifge, q_ifle, q_o5, q_o13, q_o25, q_o37, q_o49, q_o55, q_o61, q_o67, q_o73, q_o85, q_o97, q_o109, q_o121, q_o133, q_o145, q_o157, q_ix, q_cl, q_b1, q_b2, q_hasBit, q_ifp, Nat.le_refl]
  exact ⟨_, by unfold p_X1_most; rw [k1, q_b1], k2⟩
/-- the runs at least: so many, and whether the last plank is in one -/
def s_lr (t : Nat → Int32) : Nat → Nat × Bool
  | 0 => (0, false)
  | i + 1 => (if t i = 1 ∧ (s_lr t i).2 = false then (s_lr t i).1 + 1 else (s_lr t i).1, if t i = 1 then true else if t i = 0 then false else (s_lr t i).2)
theorem s_lr_le (t : Nat → Int32) : ∀ i, (s_lr t i).1 ≤ i
  | 0 => Nat.le_refl 0
  | i + 1 => by
    have ih := s_lr_le t i
    unfold s_lr
    split <;> omega
theorem q_min (a b : Int32) : (if a ≤ b then a else b) = (if b < a then b else a) := by
  by_cases c : a ≤ b
  · rw [if_pos c, if_neg (fun h => absurd c (q_nle.mpr h))]
  · rw [if_neg c, if_pos (q_nle.mp c)]
theorem x_leastRuns {t : Nat → Int32} {n : Nat} (hn : n ≤ 30) : p_X1_leastRuns t (nI n) = some (nI (s_lr t n).1) := by
  have k1 : k_lp (fun s : Int32 × Int32 × Int32 => lb_X1_leastRuns_7 (nI n) t s.1 s.2.1 s.2.2) k_fuel (0, 0, 0) = some (nI (s_lr t n).1) := by
    refine q_run (fun i => (nI (s_lr t i).1, (if (s_lr t i).2 = true then (1 : Int32) else 0), nI i)) _ n (fun i hi => ?_) ?_ (by omega)
    · show lb_X1_leastRuns_7 (nI n) t (nI (s_lr t i).1) (if (s_lr t i).2 = true then (1 : Int32) else 0) (nI i) = some (.inl (nI (s_lr t (i + 1)).1, (if (s_lr t (i + 1)).2 = true then (1 : Int32) else 0), nI (i + 1)))
      unfold lb_X1_leastRuns_7
      simp (disch := omega) only [q_ifge, q_ifle, q_o5, q_o13, q_o25, q_o37, q_o49, q_o55, q_o61, q_o67, q_o73, q_o85, q_o97, q_o109, q_o121, q_o133, q_o145, q_o157, q_ix, q_cl, q_b1, q_b2, q_hasBit, q_ifp, Nat.le_refl]
      have e1 : (s_lr t (i + 1)).1 = if t i = 1 ∧ (s_lr t i).2 = false then (s_lr t i).1 + 1 else (s_lr t i).1 := rfl
      have e2 : (s_lr t (i + 1)).2 = if t i = 1 then true else if t i = 0 then false else (s_lr t i).2 := rfl
      rw [e1, e2, nI_succ]
      by_cases c1 : t i = 1
      · cases hb : (s_lr t i).2 <;> simp [c1, nI_succ]
      · by_cases c0 : t i = 0
        · cases hb : (s_lr t i).2 <;> simp [c0]
        · cases hb : (s_lr t i).2 <;> simp [c1, c0]
    · show lb_X1_leastRuns_7 (nI n) t _ _ (nI n) = _
      unfold lb_X1_leastRuns_7
      simp (disch := omega) only [q_ifge, q_ifle, q_o5, q_o13, q_o25, q_o37, q_o49, q_o55, q_o61, q_o67, q_o73, q_o85, q_o97, q_o109, q_o121, q_o133, q_o145, q_o157, q_ix, q_cl, q_b1, q_b2, q_hasBit, q_ifp, Nat.le_refl]
  unfold p_X1_leastRuns
  rw [k1, q_b1]
theorem y_leastRuns {t : Nat → Int32} (ht : ∀ p, p < 30 → kr (t p) (-1) 1) {n : Nat} (hn : n ≤ 30) : ∃ x4, k_lp (fun s : Int32 × Int32 × Int32 => lb_X9_worm_111_1 (nI n) 2 t s.1 s.2.1 s.2.2) k_fuel (0, 1000, 0) = some x4 ∧ (if x4.2 ≤ x4.1 then x4.2 else x4.1) = nI (s_lr t n).1 := by
  refine q_lpI (body := fun s : Int32 × Int32 × Int32 => lb_X9_worm_111_1 (nI n) 2 t s.1 s.2.1 s.2.2) (fun i s => s.2.2 = nI i ∧ (((s_lr t i).2 = false ∧ s.1 = nI (s_lr t i).1 ∧ ∃ w, s.2.1 = nI w ∧ (s_lr t i).1 + 1 ≤ w ∧ w ≤ 1000) ∨ ((s_lr t i).2 = true ∧ s.2.1 = nI (s_lr t i).1 ∧ ∃ a, s.1 = nI a ∧ (s_lr t i).1 ≤ a ∧ a ≤ 1000))) (fun e => (if e.2 ≤ e.1 then e.2 else e.1) = nI (s_lr t n).1) n (fun i s hi hs => ?_) (fun s hs => ?_) (0, 1000, 0) ⟨rfl, Or.inl ⟨rfl, rfl, 1000, rfl, by show 0 + 1 ≤ 1000; omega, by omega⟩⟩ (by omega)
  · obtain ⟨s1, s2, s3⟩ := s
    obtain ⟨h3, h⟩ := hs
    have h3' : s3 = nI i := h3
    subst h3'
    have hle := s_lr_le t i
    have e1 : (s_lr t (i + 1)).1 = if t i = 1 ∧ (s_lr t i).2 = false then (s_lr t i).1 + 1 else (s_lr t i).1 := rfl
    have e2 : (s_lr t (i + 1)).2 = if t i = 1 then true else if t i = 0 then false else (s_lr t i).2 := rfl
    generalize s_lr t (i + 1) = q at e1 e2 ⊢
    generalize s_lr t i = p at hle e1 e2 h
    obtain ⟨r, b⟩ := p
    obtain ⟨r', b'⟩ := q
    simp only at e1 e2 h hle
    have hl1000 : (1000 : Int32) = nI 1000 := rfl
    rcases h with ⟨hb, ha, w, hw, hw1, hw2⟩ | ⟨hb, hw, a, ha, ha1, ha2⟩
    · subst hb
      have ha' : s1 = nI r := ha
      have hw' : s2 = nI w := hw
      subst ha'; subst hw'
      refine ⟨.inl (if t i = 1 then (1000 : Int32) else nI r, if t i = 0 then (1000 : Int32) else nI (r + 1), nI i + 1), ?_, Or.inl ⟨_, rfl, nI_1 i, ?_⟩⟩
      · show lb_X9_worm_111_1 (nI n) 2 t (nI r) (nI w) (nI i) = _
        unfold lb_X9_worm_111_1 lj_X9_worm_162_1 lj_X9_worm_196_1 lj_X9_worm_227_1 lj_X9_worm_259_1
        have hix : ∀ {α : Type} (k : Option α), k_ix (nI i) 30 k = k := fun k => q_ix k (by omega) (by omega)
        rw [q_ifge _ _ hi (by omega), nI_1, q_cl (by omega)]
        simp only [hix]
        simp only [if_true]
        have hc1 : (nI r ≤ nI w) := nI_le (by omega) (by omega)
        by_cases hc : w ≤ r + 1
        · have : w = r + 1 := by omega
          subst this
          simp only [if_pos (show nI (r + 1) ≤ nI (r + 1) from nI_le (by omega) (by omega)), if_pos hc1]
          rcases q_pl ht (i := i) (by omega) with c | c | c <;> simp [c]
        · simp only [if_neg (show ¬ nI w ≤ nI (r + 1) from nI_ge (by omega) (by omega)), if_pos hc1]
          rcases q_pl ht (i := i) (by omega) with c | c | c <;> simp [c]
      · rcases q_pl ht (i := i) (by omega) with c | c | c
        · simp [c] at e1 e2 ⊢
          subst e1; subst e2
          exact Or.inl ⟨rfl, rfl, _, rfl, by omega, by omega⟩
        · simp [c] at e1 e2 ⊢
          subst e1; subst e2
          exact Or.inl ⟨rfl, rfl, 1000, rfl, by omega, by omega⟩
        · simp [c] at e1 e2 ⊢
          subst e1; subst e2
          exact Or.inr ⟨rfl, rfl, 1000, rfl, by omega, by omega⟩
    · subst hb
      have ha' : s1 = nI a := ha
      have hw' : s2 = nI r := hw
      subst ha'; subst hw'
      refine ⟨.inl (if t i = 1 then (1000 : Int32) else nI r, if t i = 0 then (1000 : Int32) else nI r, nI i + 1), ?_, Or.inl ⟨_, rfl, nI_1 i, ?_⟩⟩
      · show lb_X9_worm_111_1 (nI n) 2 t (nI a) (nI r) (nI i) = _
        unfold lb_X9_worm_111_1 lj_X9_worm_162_1 lj_X9_worm_196_1 lj_X9_worm_227_1 lj_X9_worm_259_1
        have hix : ∀ {α : Type} (k : Option α), k_ix (nI i) 30 k = k := fun k => q_ix k (by omega) (by omega)
        rw [q_ifge _ _ hi (by omega), nI_1, q_cl (by omega)]
        simp only [hix]
        simp only [if_true, if_pos (show nI r ≤ nI (a + 1) from nI_le (by omega) (by omega))]
        by_cases hc : a ≤ r
        · have : a = r := by omega
          subst this
          simp only [if_pos (show nI a ≤ nI a from nI_le (by omega) (by omega))]
          rcases q_pl ht (i := i) (by omega) with c | c | c <;> simp [c]
        · simp only [if_neg (show ¬ nI a ≤ nI r from nI_ge (by omega) (by omega))]
          rcases q_pl ht (i := i) (by omega) with c | c | c <;> simp [c]
      · rcases q_pl ht (i := i) (by omega) with c | c | c
        · simp [c] at e1 e2 ⊢
          subst e1; subst e2
          exact Or.inr ⟨rfl, rfl, _, rfl, by omega, by omega⟩
        · simp [c] at e1 e2 ⊢
          subst e1; subst e2
          exact Or.inl ⟨rfl, rfl, 1000, rfl, by omega, by omega⟩
        · simp [c] at e1 e2 ⊢
          subst e1; subst e2
          exact Or.inr ⟨rfl, rfl, 1000, rfl, by omega, by omega⟩
  · obtain ⟨s1, s2, s3⟩ := s
    obtain ⟨h3, h⟩ := hs
    have h3' : s3 = nI n := h3
    subst h3'
    refine ⟨(s1, s2), ?_, ?_⟩
    · show lb_X9_worm_111_1 (nI n) 2 t s1 s2 (nI n) = _
      unfold lb_X9_worm_111_1
      rw [q_ifle _ _ (Nat.le_refl _) (by omega)]
    · show (if s2 ≤ s1 then s2 else s1) = _
      have hle := s_lr_le t n
      rcases h with ⟨hb, ha, w, hw, hw1, hw2⟩ | ⟨hb, hw, a, ha, ha1, ha2⟩
      · have ha' : s1 = nI (s_lr t n).1 := ha
        have hw' : s2 = nI w := hw
        rw [ha', hw', if_neg (nI_ge (by omega) (by omega))]
      · have ha' : s1 = nI a := ha
        have hw' : s2 = nI (s_lr t n).1 := hw
        rw [ha', hw', if_pos (nI_le (by omega) (by omega))]
/-- the runs at most: with WORM in the last plank, and without (none: it can't be) -/
def s_mw : Option Nat → Option Nat → Option Nat
  | none, none => none
  | none, some c => some (c + 1)
  | some w, none => some w
  | some w, some c => some (if w < c + 1 then c + 1 else w)
def s_mc2 : Option Nat → Option Nat → Option Nat
  | none, none => none
  | none, some c => some c
  | some w, none => some w
  | some w, some c => some (if w < c then c else w)
def s_mr (t : Nat → Int32) : Nat → Option Nat × Option Nat
  | 0 => (none, some 0)
  | i + 1 => (if t i = 0 then none else s_mw (s_mr t i).1 (s_mr t i).2, if t i = 1 then none else s_mc2 (s_mr t i).1 (s_mr t i).2)
def s_ok (o : Option Nat) (b : Nat) : Prop := ∀ v, o = some v → v ≤ b
theorem s_mr_inv (t : Nat → Int32) : ∀ i, s_ok (s_mr t i).1 i ∧ s_ok (s_mr t i).2 i ∧ ¬ ((s_mr t i).1 = none ∧ (s_mr t i).2 = none)
  | 0 => ⟨fun v h => (by cases h), fun v h => (by cases h; exact Nat.le_refl 0), fun h => (by cases h.2)⟩
  | i + 1 => by
    obtain ⟨h1, h2, h3⟩ := s_mr_inv t i
    have e1 : (s_mr t (i + 1)).1 = if t i = 0 then none else s_mw (s_mr t i).1 (s_mr t i).2 := rfl
    have e2 : (s_mr t (i + 1)).2 = if t i = 1 then none else s_mc2 (s_mr t i).1 (s_mr t i).2 := rfl
    rw [e1, e2]
    generalize (s_mr t i).1 = w at h1 h3 ⊢
    generalize (s_mr t i).2 = c at h2 h3 ⊢
    have g1 : s_ok (s_mw w c) (i + 1) := by
      intro v hv
      cases w with
      | none =>
        cases c with
        | none => cases hv
        | some c => have := h2 c rfl; cases hv; omega
      | some w =>
        have := h1 w rfl
        cases c with
        | none => cases hv; omega
        | some c =>
          have := h2 c rfl
          simp only [s_mw] at hv
          have hv' := Option.some.inj hv
          split at hv' <;> omega
    have g2 : s_ok (s_mc2 w c) (i + 1) := by
      intro v hv
      cases w with
      | none =>
        cases c with
        | none => cases hv
        | some c => have := h2 c rfl; cases hv; omega
      | some w =>
        have := h1 w rfl
        cases c with
        | none => cases hv; omega
        | some c =>
          have := h2 c rfl
          simp only [s_mc2] at hv
          have hv' := Option.some.inj hv
          split at hv' <;> omega
    have g3 : s_mw w c ≠ none := by
      intro hh
      cases w with
      | none =>
        cases c with
        | none => exact h3 ⟨rfl, rfl⟩
        | some c => cases hh
      | some w => cases c <;> cases hh
    have g4 : s_mc2 w c ≠ none := by
      intro hh
      cases w with
      | none =>
        cases c with
        | none => exact h3 ⟨rfl, rfl⟩
        | some c => cases hh
      | some w => cases c <;> cases hh
    refine ⟨?_, ?_, ?_⟩
    · by_cases c0 : t i = 0
      · rw [if_pos c0]; intro v hv; cases hv
      · rw [if_neg c0]; exact g1
    · by_cases c1 : t i = 1
      · rw [if_pos c1]; intro v hv; cases hv
      · rw [if_neg c1]; exact g2
    · by_cases c1 : t i = 1
      · rw [if_pos c1, if_neg (by rw [c1]; decide)]
        exact fun hh => g3 hh.1
      · rw [if_neg c1]
        exact fun hh => g4 hh.2
theorem q_mw {d : Int32} (hd : d.toInt ≤ -31 ∧ -1000 ≤ d.toInt) {w c : Option Nat} (hw : s_ok w 30) (hc : s_ok c 30) (h : ¬ (w = none ∧ c = none)) : (if q_enc d w < q_enc d c + 1 then q_enc d c + 1 else q_enc d w) = q_enc d (s_mw w c) ∧ (if q_enc d w < q_enc d c then q_enc d c else q_enc d w) = q_enc d (s_mc2 w c) := by
  have d1 : (d + 1).toInt = d.toInt + 1 := fb_addI (by rw [show (1 : Int32).toInt = 1 from by decide]; omega) (by rw [show (1 : Int32).toInt = 1 from by decide]; omega)
  have lo : ∀ k : Nat, k ≤ 31 → d < nI k ∧ ¬ nI k < d ∧ ¬ nI k < d + 1 := by
    intro k hk
    refine ⟨?_, ?_, ?_⟩
    · rw [Int32.lt_iff_toInt_lt, q_ti (by omega)]; omega
    · rw [Int32.lt_iff_toInt_lt, q_ti (by omega)]; omega
    · rw [Int32.lt_iff_toInt_lt, q_ti (by omega), d1]; omega
  cases w with
  | none =>
    cases c with
    | none => exact absurd ⟨rfl, rfl⟩ h
    | some c =>
      have := hc c rfl
      show (if d < nI c + 1 then nI c + 1 else d) = nI (c + 1) ∧ (if d < nI c then nI c else d) = nI c
      rw [nI_1, if_pos (lo (c + 1) (by omega)).1, if_pos (lo c (by omega)).1]
      exact ⟨rfl, rfl⟩
  | some w =>
    have := hw w rfl
    cases c with
    | none =>
      show (if nI w < d + 1 then d + 1 else nI w) = nI w ∧ (if nI w < d then d else nI w) = nI w
      rw [if_neg (lo w (by omega)).2.2, if_neg (lo w (by omega)).2.1]
      exact ⟨rfl, rfl⟩
    | some c =>
      have := hc c rfl
      show (if nI w < nI c + 1 then nI c + 1 else nI w) = nI (if w < c + 1 then c + 1 else w) ∧ (if nI w < nI c then nI c else nI w) = nI (if w < c then c else w)
      rw [nI_1]
      refine ⟨?_, ?_⟩
      · by_cases q : w < c + 1
        · rw [if_pos (nI_lt q (by omega)), if_pos q]
        · rw [if_neg (nI_nlt (by omega) (by omega)), if_neg q]
      · by_cases q : w < c
        · rw [if_pos (nI_lt q (by omega)), if_pos q]
        · rw [if_neg (nI_nlt (by omega) (by omega)), if_neg q]
theorem x_mostRuns {t : Nat → Int32} {n : Nat} (hn : n ≤ 30) : p_X1_mostRuns t (nI n) = some (q_enc (-31) (s_mc2 (s_mr t n).1 (s_mr t n).2)) := by
  have k1 : k_lp (fun s : Int32 × Int32 × Int32 => lb_X1_mostRuns_11 (nI n) t s.1 s.2.1 s.2.2) k_fuel ((-31), 0, 0) = some (q_enc (-31) (s_mr t n).1, q_enc (-31) (s_mr t n).2) := by
    refine q_run (fun i => (q_enc (-31) (s_mr t i).1, q_enc (-31) (s_mr t i).2, nI i)) _ n (fun i hi => ?_) ?_ (by omega)
    · show lb_X1_mostRuns_11 (nI n) t (q_enc (-31) (s_mr t i).1) (q_enc (-31) (s_mr t i).2) (nI i) = some (.inl (q_enc (-31) (s_mr t (i + 1)).1, q_enc (-31) (s_mr t (i + 1)).2, nI (i + 1)))
      obtain ⟨h1, h2, h3⟩ := s_mr_inv t i
      obtain ⟨a1, a2⟩ := q_mw (d := -31) ⟨by decide, by decide⟩ (w := (s_mr t i).1) (c := (s_mr t i).2) (fun v hv => by have := h1 v hv; omega) (fun v hv => by have := h2 v hv; omega) h3
      unfold lb_X1_mostRuns_11
      rw [a1, a2]
      simp (disch := omega) only [q_ifge, q_ifle, q_o5, q_o13, q_o25, q_o37, q_o49, q_o55, q_o61, q_o67, q_o73, q_o85, q_o97, q_o109, q_o121, q_o133, q_o145, q_o157, q_ix, q_cl, q_b1, q_b2, q_hasBit, q_ifp, Nat.le_refl]
      have e1 : (s_mr t (i + 1)).1 = if t i = 0 then none else s_mw (s_mr t i).1 (s_mr t i).2 := rfl
      have e2 : (s_mr t (i + 1)).2 = if t i = 1 then none else s_mc2 (s_mr t i).1 (s_mr t i).2 := rfl
      rw [e1, e2, nI_succ]
      by_cases c0 : t i = 0
      · simp [c0]; rfl
      · by_cases c1 : t i = 1
        · simp [c1]; rfl
        · simp [c0, c1]
    · show lb_X1_mostRuns_11 (nI n) t _ _ (nI n) = _
      unfold lb_X1_mostRuns_11
      simp (disch := omega) only [q_ifge, q_ifle, q_o5, q_o13, q_o25, q_o37, q_o49, q_o55, q_o61, q_o67, q_o73, q_o85, q_o97, q_o109, q_o121, q_o133, q_o145, q_o157, q_ix, q_cl, q_b1, q_b2, q_hasBit, q_ifp, Nat.le_refl]
  obtain ⟨h1, h2, h3⟩ := s_mr_inv t n
  obtain ⟨a1, a2⟩ := q_mw (d := -31) ⟨by decide, by decide⟩ (w := (s_mr t n).1) (c := (s_mr t n).2) (fun v hv => by have := h1 v hv; omega) (fun v hv => by have := h2 v hv; omega) h3
  unfold p_X1_mostRuns
  rw [k1, q_b2, a2]
theorem q_max (a b : Int32) : (if a ≤ b then b else a) = (if b < a then a else b) := by
  by_cases c : a ≤ b
  · rw [if_pos c, if_neg (fun h => absurd c (q_nle.mpr h))]
  · rw [if_neg c, if_pos (q_nle.mp c)]
theorem y_mostRuns {t : Nat → Int32} {n : Nat} (hn : n ≤ 30) : k_lp (fun s : Int32 × Int32 × Int32 => lb_X9_worm_111 (nI n) 3 t s.1 s.2.1 s.2.2) k_fuel (0, (-1000), 0) = some (q_enc (-1000) (s_mr t n).2, q_enc (-1000) (s_mr t n).1) := by
  refine q_run (fun i => (q_enc (-1000) (s_mr t i).2, q_enc (-1000) (s_mr t i).1, nI i)) _ n (fun i hi => ?_) ?_ (by omega)
  · show lb_X9_worm_111 (nI n) 3 t (q_enc (-1000) (s_mr t i).2) (q_enc (-1000) (s_mr t i).1) (nI i) = some (.inl (q_enc (-1000) (s_mr t (i + 1)).2, q_enc (-1000) (s_mr t (i + 1)).1, nI (i + 1)))
    obtain ⟨h1, h2, h3⟩ := s_mr_inv t i
    obtain ⟨a1, a2⟩ := q_mw (d := -1000) ⟨by decide, by decide⟩ (w := (s_mr t i).1) (c := (s_mr t i).2) (fun v hv => by have := h1 v hv; omega) (fun v hv => by have := h2 v hv; omega) h3
    have e1 : (s_mr t (i + 1)).1 = if t i = 0 then none else s_mw (s_mr t i).1 (s_mr t i).2 := rfl
    have e2 : (s_mr t (i + 1)).2 = if t i = 1 then none else s_mc2 (s_mr t i).1 (s_mr t i).2 := rfl
    rw [e1, e2, nI_succ]
    have p1 : ∀ A B : Int32, ∀ f : Int32 → Option ((Int32 × Int32 × Int32) ⊕ (Int32 × Int32)), (if A ≤ B then f B else f A) = f (if B < A then A else B) := by
      intro A B f
      rw [← q_max]
      by_cases c : A ≤ B
      · rw [if_pos c, if_pos c]
      · rw [if_neg c, if_neg c]
    have p2 : ∀ A B : Int32, ∀ f : Int32 → Option ((Int32 × Int32 × Int32) ⊕ (Int32 × Int32)), (if A ≤ B then f B else f A) = f (if B < A then A else B) := p1
    have last : ∀ nw nn : Option Nat, lj_X9_worm_196 (nI i) t 3 (q_enc (-1000) nw) (q_enc (-1000) nn) = some (.inl (q_enc (-1000) (if t i = 1 then none else nn), q_enc (-1000) (if t i = 0 then none else nw), nI i + 1)) := by
      intro nw nn
      unfold lj_X9_worm_196 lj_X9_worm_227 lj_X9_worm_259
      simp (disch := omega) only [q_ifge, q_ifle, q_o5, q_o13, q_o25, q_o37, q_o49, q_o55, q_o61, q_o67, q_o73, q_o85, q_o97, q_o109, q_o121, q_o133, q_o145, q_o157, q_ix, q_cl, q_b1, q_b2, q_hasBit, q_ifp, Nat.le_refl]
      by_cases c0 : t i = 0
      · simp [c0]; rfl
      · by_cases c1 : t i = 1
        · simp [c1]; rfl
        · simp [c0, c1]
    have mid : ∀ nw : Option Nat, lj_X9_worm_162 3 (q_enc (-1000) (s_mr t i).2) (q_enc (-1000) (s_mr t i).1) (nI i) t (q_enc (-1000) nw) = some (.inl (q_enc (-1000) (if t i = 1 then none else s_mc2 (s_mr t i).1 (s_mr t i).2), q_enc (-1000) (if t i = 0 then none else nw), nI i + 1)) := by
      intro nw
      unfold lj_X9_worm_162
      rw [if_neg (by decide)]
      have := p1 (q_enc (-1000) (s_mr t i).1) (q_enc (-1000) (s_mr t i).2) (fun z => lj_X9_worm_196 (nI i) t 3 (q_enc (-1000) nw) z)
      have h9 : (if q_enc (-1000) (s_mr t i).2 < q_enc (-1000) (s_mr t i).1 then q_enc (-1000) (s_mr t i).1 else q_enc (-1000) (s_mr t i).2) = q_enc (-1000) (s_mc2 (s_mr t i).1 (s_mr t i).2) := by
        rw [← a2]
        by_cases q1 : q_enc (-1000) (s_mr t i).1 < q_enc (-1000) (s_mr t i).2
        · rw [if_pos q1, if_neg (fun q2 => by rw [Int32.lt_iff_toInt_lt] at q1 q2; omega)]
        · rw [if_neg q1]
          by_cases q2 : q_enc (-1000) (s_mr t i).2 < q_enc (-1000) (s_mr t i).1
          · rw [if_pos q2]
          · rw [if_neg q2]; exact q_le_anti (q_nlt.mp q1) (q_nlt.mp q2)
      rw [h9] at this
      exact this.trans (last nw _)
    unfold lb_X9_worm_111
    rw [q_ifge _ _ hi (by omega), if_neg (by decide)]
    have := p1 (q_enc (-1000) (s_mr t i).2 + 1) (q_enc (-1000) (s_mr t i).1) (fun z => lj_X9_worm_162 3 (q_enc (-1000) (s_mr t i).2) (q_enc (-1000) (s_mr t i).1) (nI i) t z)
    rw [a1] at this
    exact this.trans (mid _)
  · show lb_X9_worm_111 (nI n) 3 t _ _ (nI n) = _
    unfold lb_X9_worm_111
    rw [q_ifle _ _ (Nat.le_refl _) (by omega)]
theorem sim_worm : k_Sim_worm R_all := by
  intro S L M a1 a2 hR
  obtain ⟨hc, ht, hrn, hru, hs, hk0, hk1, hk2, ⟨hp, hp2⟩⟩ := hR
  have key : ∃ r, p_X8_worm (S 156) a1 a2 = some r ∧ p_X9_worm (M 18) a1 a2 = some (r, 0) := by
    unfold p_X8_worm p_X9_worm
    rw [hp]
    simp only [q_within, q_in_1_30, q_in_0_3, q_b1, q_ifp]
    by_cases h1 : 1 ≤ a1 ∧ a1 ≤ 30
    · simp only [if_pos h1]
      obtain ⟨n, hn1, hn, rfl⟩ := q_rng (a := 1) (b := 30) (by omega) (by omega) h1
      by_cases h2 : 0 ≤ a2 ∧ a2 ≤ 3
      · simp only [if_pos h2]
        obtain ⟨b, -, hb, rfl⟩ := q_rng (a := 0) (b := 3) (by omega) (by omega) h2
        match b, hb with
        | 0, _ =>
          obtain ⟨v, v1, v2⟩ := xy_least hp2 hn
          rw [v1, show nI 0 = 0 from rfl, v2]
          exact ⟨v, rfl, rfl⟩
        | 1, _ =>
          obtain ⟨v, v1, v2⟩ := xy_most hp2 hn
          rw [v1, show nI 1 = 1 from rfl, v2]
          exact ⟨v, rfl, rfl⟩
        | 2, _ =>
          obtain ⟨x4, v2, v3⟩ := y_leastRuns hp2 hn
          rw [x_leastRuns hn, show nI 2 = 2 from rfl, v2]
          refine ⟨nI (s_lr (M 18) n).1, rfl, ?_⟩
          obtain ⟨p, q⟩ := x4
          show (if q ≤ p then lj_X9_worm_298_1 q else lj_X9_worm_298_1 p) = _
          rw [← v3]
          show _ = some ((if q ≤ p then q else p), (0 : Int32))
          by_cases c : q ≤ p
          · rw [if_pos c, if_pos c]; rfl
          · rw [if_neg c, if_neg c]; rfl
        | 3, _ =>
          rw [x_mostRuns hn, show nI 3 = 3 from rfl, y_mostRuns hn]
          obtain ⟨h1, h2, h3⟩ := s_mr_inv (M 18) n
          obtain ⟨a1, a2⟩ := q_mw (d := -1000) ⟨by decide, by decide⟩ (w := (s_mr (M 18) n).1) (c := (s_mr (M 18) n).2) (fun v hv => by have := h1 v hv; omega) (fun v hv => by have := h2 v hv; omega) h3
          refine ⟨q_enc (-31) (s_mc2 (s_mr (M 18) n).1 (s_mr (M 18) n).2), rfl, ?_⟩
          show (if q_enc (-1000) (s_mr (M 18) n).2 ≤ q_enc (-1000) (s_mr (M 18) n).1 then lj_X9_worm_298 (q_enc (-1000) (s_mr (M 18) n).1) else lj_X9_worm_298 (q_enc (-1000) (s_mr (M 18) n).2)) = _
          have hne : ∃ v, s_mc2 (s_mr (M 18) n).1 (s_mr (M 18) n).2 = some v := by
            cases hw : (s_mr (M 18) n).1 with
            | none =>
              cases hcc : (s_mr (M 18) n).2 with
              | none => exact absurd ⟨hw, hcc⟩ h3
              | some c => exact ⟨_, rfl⟩
            | some w => cases hcc : (s_mr (M 18) n).2 <;> exact ⟨_, rfl⟩
          obtain ⟨v, hv⟩ := hne
          rw [hv] at a2 ⊢
          have h9 : (if q_enc (-1000) (s_mr (M 18) n).2 ≤ q_enc (-1000) (s_mr (M 18) n).1 then q_enc (-1000) (s_mr (M 18) n).1 else q_enc (-1000) (s_mr (M 18) n).2) = nI v := by
            refine Eq.trans ?_ a2
            by_cases q1 : q_enc (-1000) (s_mr (M 18) n).1 < q_enc (-1000) (s_mr (M 18) n).2
            · rw [if_pos q1, if_neg (q_nle.mpr q1)]
            · rw [if_neg q1, if_pos (q_nlt.mp q1)]
          show _ = some (nI v, (0 : Int32))
          rw [← h9]
          by_cases c : q_enc (-1000) (s_mr (M 18) n).2 ≤ q_enc (-1000) (s_mr (M 18) n).1
          · rw [if_pos c, if_pos c]; rfl
          · rw [if_neg c, if_neg c]; rfl
      · simp only [if_neg h2]
        have n0 : ¬ a2 = 0 := fun e => h2 (by rw [e]; decide)
        have n1 : ¬ a2 = 1 := fun e => h2 (by rw [e]; decide)
        have n2 : ¬ a2 = 2 := fun e => h2 (by rw [e]; decide)
        have n3 : ¬ a2 = 3 := fun e => h2 (by rw [e]; decide)
        simp only [if_neg n0, if_neg n1, if_neg n2, if_neg n3]
        exact ⟨_, rfl, rfl⟩
    · simp only [if_neg h1]; exact ⟨_, rfl, rfl⟩
  obtain ⟨r, g1, g2⟩ := key
  refine ⟨r, S, L, k_su M 0 (fun _ => 0), ?_, ?_, hc, ht, hrn, hru, hs, hk0, hk1, hk2, ⟨hp, hp2⟩⟩
  · unfold pX_worm; rw [g1]; rfl
  · unfold pM_worm; rw [g2]; rfl
