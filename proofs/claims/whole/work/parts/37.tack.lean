/-! ===== as long as HEEL does not HOLD, a rope parts ===== -/
theorem s_force_cong {m m' ru : Nat → Int32} (h : k_Rng m) (h1 : m' 10 = m 10) (h2 : ∀ i, i < 12 → m' (37 + i) = m (37 + i)) (h3 : ∀ i, i < 12 → m' (13 + i) = m (13 + i)) (a : Int32) : s_force m' ru a = s_force m ru a := by
  unfold s_force; rw [s_total_cong h h1 h2 h3]
/-- the cells that a parting may write -/
def R_pt (m m' : Nat → Int32) : Prop := ∀ k, k ≠ 1 → k ≠ 8 → (k < 67 ∨ 73 ≤ k) → m' k = m k
theorem k_wh_cut {m : Nat → Int32} (h : k_Rng m) {i : Nat} (hi : i < s_na m) (hw : m (67 + i) = 1) : nI (k_wh m) &&& ((1 <<< (nI i &&& 31)) ^^^ (-1)) = nI (k_wh (s_cut m i)) := by
  have hn := (s_na_e h).2.1
  refine k_wh_of (s_cut_rng h (by omega)) fun j hj => ?_
  rw [b_and, bt_not _ hj, bt_one i (by omega) hj, k_wh_bt h hj, s_na_cong (s_cut_at (m := m) (i := i) (by omega) (by omega) (by omega))]
  by_cases c : j = i
  · subst c; rw [s_cut_i]; simp
  · by_cases c2 : j < s_na m
    · rw [s_cut_at (by omega) (by omega) (by omega)]; simp [c]
    · simp [c2]
theorem xy_tackles {ru ru' wt ma pr sg : Nat → Int32} {ot ts tas he wet : Int32} (hr : R_rl ru' ru) (hpos : R_pos ru) (hhe : kr he (-9) 9) : ∀ (w : Nat) (m : Nat → Int32) (c : Nat), s_W m = w → c + w ≤ 6 → k_Inv m → m 1 = he → ot = nI (k_out m) → ts = m 10 → (∀ i, i < 12 → wt i = m (13 + i)) → tas = m 11 → (∀ i, i < 6 → ma i = m (49 + i)) → (∀ i, i < 6 → pr i = m (55 + i)) → (∀ i, i < 6 → sg i = m (61 + i)) → ∃ m', (∀ F, w + 2 < F → k_lp (fun s => lb_X9_pass_434 ru wet s) F m = some m') ∧ (∀ F, w + 2 < F → k_lp (fun s : Int32 × Int32 × Int32 => lb_X4_partTackles_14 ru' ot ts wt he tas pr sg ma wet s.1 s.2.1 s.2.2) F (nI c, nI (k_wh m), m 8) = some (nI (k_wh m'), m' 8)) ∧ m' 1 = (if nI (k_wh m') = 0 then 0 else he) ∧ k_Inv m' ∧ R_pt m m' := by
  intro w
  induction w with
  | zero =>
    intro m c hw hc hI h1 h2 h3 h4 ht g0 g1 g2
    obtain ⟨hR, -, hP, -⟩ := id hI
    have hn := (s_na_e hR).2.1
    obtain ⟨f, ef, hf, hf0⟩ := s_force_n hR hpos.1 hhe (ru := ru)
    have esh : s_share m (s_force m ru he) = 0 := by unfold s_share; rw [if_pos hw]
    have hwh : nI (k_wh m) = 0 := by rw [k_wh_0 hR]; exact hw
    have hcls : ∀ F, 0 + 2 < F → k_lp (fun s : Int32 × Int32 × Int32 => lb_X4_partTackles_14 ru' ot ts wt he tas pr sg ma wet s.1 s.2.1 s.2.2) F (nI c, nI (k_wh m), m 8) = some (nI (k_wh m), m 8) := by
      intro F hF
      obtain ⟨F, rfl⟩ : ∃ f, F = f + 1 := ⟨F - 1, by omega⟩
      unfold k_lp
      have : lb_X4_partTackles_14 ru' ot ts wt he tas pr sg ma wet (nI c) (nI (k_wh m)) (m 8) = some (.inr (nI (k_wh m), m 8)) := by
        unfold lb_X4_partTackles_14
        by_cases c6 : (6 : Int32) ≤ nI c
        · rw [if_pos c6]
        · rw [if_neg c6, x_force hR hr.1 h2 h3 h4, q_b1, x_first hR hP hn ht g0 g1 g2 hr.2, q_b1, esh, s_first_0 hR hP hpos, if_neg (by decide)]
      rw [this]
    by_cases hz : f = 0
    · have hs : s_holds m ru (m 1) wet = true := s_holds_0 (by rw [h1, ef, hz]; rfl)
      refine ⟨m, fun F hF => ?_, hcls, ?_, hI, fun _ _ _ _ => rfl⟩
      · obtain ⟨F, rfl⟩ : ∃ f, F = f + 1 := ⟨F - 1, by omega⟩
        unfold k_lp
        have : lb_X9_pass_434 ru wet m = some (.inr m) := by
          unfold lb_X9_pass_434
          rw [y_holds hR hP hpos (by rw [h1]; exact hhe), q_b1, hs]; rfl
        rw [this]
      · rw [if_pos hwh, h1]; exact hf0.mp hz
    · have hs : s_holds m ru (m 1) wet = false := by
        unfold s_holds
        rw [h1, ef]
        have : ¬ nI f = 0 := nI_ne0 (by omega) (by omega)
        simp [this, hw]
      have hp1 : s_part m ru wet = upd m 1 0 := by
        unfold s_part
        rw [h1, esh, s_first_0 hR hP hpos]
        show s_flat m = _
        unfold s_flat; rw [if_pos hw]
      refine ⟨upd m 1 0, fun F hF => ?_, fun F hF => ?_, ?_, upd1_inv hI, fun k k1 _ _ => upd_n k1⟩
      · obtain ⟨F, rfl⟩ : ∃ f, F = f + 1 + 1 := ⟨F - 2, by omega⟩
        unfold k_lp
        have : lb_X9_pass_434 ru wet m = some (.inl (upd m 1 0)) := by
          unfold lb_X9_pass_434
          rw [y_holds hR hP hpos (by rw [h1]; exact hhe), q_b1, hs, y_part hR hP, q_b1, hp1]; rfl
        rw [this]
        show k_lp (fun s => lb_X9_pass_434 ru wet s) (F + 1) (upd m 1 0) = _
        unfold k_lp
        have h2 : lb_X9_pass_434 ru wet (upd m 1 0) = some (.inr (upd m 1 0)) := by
          unfold lb_X9_pass_434
          have hI' := upd1_inv hI
          rw [upd_s, y_holds hI'.1 hI'.2.2.1 hpos ⟨by decide, by decide⟩, q_b1, s_holds_0 (s_force_0 _ _)]; rfl
        rw [h2]
      · rw [hcls F hF, k_wh_cong (m := m) (m' := upd m 1 0) (upd_n (by omega)) (fun i hi => upd_n (by omega)), upd_n (by omega)]
      · rw [upd_s, k_wh_cong (m := m) (m' := upd m 1 0) (upd_n (by omega)) (fun i hi => upd_n (by omega)), if_pos hwh]
  | succ w ih =>
    intro m c hw hc hI h1 h2 h3 h4 ht g0 g1 g2
    obtain ⟨hR, -, hP, -⟩ := id hI
    have hn := (s_na_e hR).2.1
    obtain ⟨f, ef, hf, hf0⟩ := s_force_n hR hpos.1 hhe (ru := ru)
    have hwh : ¬ nI (k_wh m) = 0 := by rw [k_wh_0 hR]; omega
    have hc6 : ¬ (6 : Int32) ≤ nI c := by rw [show (6 : Int32) = nI 6 from rfl, q_leI (by omega) (by omega)]; omega
    cases hfi : s_first m ru (s_share m (s_force m ru he)) wet with
    | none =>
      have hs : s_holds m ru (m 1) wet = true := by
        unfold s_holds
        rw [h1, hfi]
        have : ¬ s_W m = 0 := by omega
        simp [this]
      refine ⟨m, fun F hF => ?_, fun F hF => ?_, ?_, hI, fun _ _ _ _ => rfl⟩
      · obtain ⟨F, rfl⟩ : ∃ f, F = f + 1 := ⟨F - 1, by omega⟩
        unfold k_lp
        have : lb_X9_pass_434 ru wet m = some (.inr m) := by
          unfold lb_X9_pass_434
          rw [y_holds hR hP hpos (by rw [h1]; exact hhe), q_b1, hs]; rfl
        rw [this]
      · obtain ⟨F, rfl⟩ : ∃ f, F = f + 1 := ⟨F - 1, by omega⟩
        unfold k_lp
        have : lb_X4_partTackles_14 ru' ot ts wt he tas pr sg ma wet (nI c) (nI (k_wh m)) (m 8) = some (.inr (nI (k_wh m), m 8)) := by
          unfold lb_X4_partTackles_14
          rw [if_neg hc6, x_force hR hr.1 h2 h3 h4, q_b1, x_first hR hP hn ht g0 g1 g2 hr.2, q_b1, hfi, if_neg (by decide)]
        rw [this]
      · rw [if_neg hwh, h1]
    | some i =>
      obtain ⟨hi, hwi⟩ := s_first_some hfi
      have hfne : ¬ s_force m ru he = 0 := by
        intro e
        rw [e] at hfi
        obtain ⟨s, es, hs, hs0, -⟩ := s_share_n hR (f := 0) (by omega)
        rw [show (0 : Int32) = nI 0 from rfl, es, hs0 rfl, show nI 0 = 0 from rfl, s_first_0 hR hP hpos] at hfi
        cases hfi
      have hs : s_holds m ru (m 1) wet = false := by
        unfold s_holds
        rw [h1, hfi]
        simp [hfne]
      have hp1 : s_part m ru wet = s_flat (s_cut m i) := by
        unfold s_part
        rw [h1, hfi]
      have hWc := s_W_cut hi hn hwi
      have hIc := s_cut_inv hI (i := i) (by omega)
      have at_ : ∀ k, k ≠ 67 + i → k ≠ 8 → s_cut m i k = m k := fun k e1 e2 => s_cut_at (by omega) e1 e2
      have hclsstep : lb_X4_partTackles_14 ru' ot ts wt he tas pr sg ma wet (nI c) (nI (k_wh m)) (m 8) = some (.inl (nI (c + 1), nI (k_wh (s_cut m i)), s_cut m i 8)) := by
        unfold lb_X4_partTackles_14
        rw [if_neg hc6, x_force hR hr.1 h2 h3 h4, q_b1, x_first hR hP hn ht g0 g1 g2 hr.2, q_b1, hfi, if_pos (show (0 : Int32) ≤ q_enc (-1) (some i) from nI_pos' (by omega)), nI_succ, s_cut_8]
        show some (Sum.inl (nI c + 1, nI (k_wh m) &&& ((1 <<< (nI i &&& 31)) ^^^ (-1)), m 8 + 1)) = _
        rw [k_wh_cut hR hi hwi]
      by_cases hlast : s_W (s_cut m i) = 0
      · -- the last one parts
        have hfl : s_flat (s_cut m i) = upd (s_cut m i) 1 0 := by unfold s_flat; rw [if_pos hlast]
        obtain ⟨m', a1, a2, a3, a4, a5⟩ := ih (s_cut m i) (c + 1) (by omega) (by omega) hIc (by rw [at_ 1 (by omega) (by omega), h1]) (by rw [h2, k_out_cong (m := m) (m' := s_cut m i) (at_ 10 (by omega) (by omega)) (fun j hj => at_ _ (by omega) (by omega))]) (by rw [h3, at_ 10 (by omega) (by omega)]) (fun j hj => by rw [h4 j hj, at_ _ (by omega) (by omega)]) (by rw [ht, at_ 11 (by omega) (by omega)]) (fun j hj => by rw [g0 j hj, at_ _ (by omega) (by omega)]) (fun j hj => by rw [g1 j hj, at_ _ (by omega) (by omega)]) (fun j hj => by rw [g2 j hj, at_ _ (by omega) (by omega)])
        have hkw : nI (k_wh (s_cut m i)) = 0 := by rw [k_wh_0 hIc.1]; exact hlast
        refine ⟨upd (s_cut m i) 1 0, fun F hF => ?_, fun F hF => ?_, ?_, upd1_inv hIc, fun k k1 k2 k3 => by rw [upd_n k1]; exact at_ k (by omega) k2⟩
        · obtain ⟨F, rfl⟩ : ∃ f, F = f + 1 + 1 := ⟨F - 2, by omega⟩
          unfold k_lp
          have : lb_X9_pass_434 ru wet m = some (.inl (upd (s_cut m i) 1 0)) := by
            unfold lb_X9_pass_434
            rw [y_holds hR hP hpos (by rw [h1]; exact hhe), q_b1, hs, y_part hR hP, q_b1, hp1, hfl]; rfl
          rw [this]
          show k_lp (fun s => lb_X9_pass_434 ru wet s) (F + 1) (upd (s_cut m i) 1 0) = _
          unfold k_lp
          have h2 : lb_X9_pass_434 ru wet (upd (s_cut m i) 1 0) = some (.inr (upd (s_cut m i) 1 0)) := by
            unfold lb_X9_pass_434
            have hI' := upd1_inv hIc
            rw [upd_s, y_holds hI'.1 hI'.2.2.1 hpos ⟨by decide, by decide⟩, q_b1, s_holds_0 (s_force_0 _ _)]; rfl
          rw [h2]
        · obtain ⟨F, rfl⟩ : ∃ f, F = f + 1 := ⟨F - 1, by omega⟩
          unfold k_lp
          rw [hclsstep]
          show k_lp (fun s : Int32 × Int32 × Int32 => lb_X4_partTackles_14 ru' ot ts wt he tas pr sg ma wet s.1 s.2.1 s.2.2) F (nI (c + 1), nI (k_wh (s_cut m i)), s_cut m i 8) = _
          obtain ⟨F, rfl⟩ : ∃ f, F = f + 1 := ⟨F - 1, by omega⟩
          unfold k_lp
          have : lb_X4_partTackles_14 ru' ot ts wt he tas pr sg ma wet (nI (c + 1)) (nI (k_wh (s_cut m i))) (s_cut m i 8) = some (.inr (nI (k_wh (s_cut m i)), s_cut m i 8)) := by
            unfold lb_X4_partTackles_14
            by_cases c6 : (6 : Int32) ≤ nI (c + 1)
            · rw [if_pos c6]
            · have e1 : ot = nI (k_out (s_cut m i)) := by rw [h2, k_out_cong (m := m) (m' := s_cut m i) (at_ 10 (by omega) (by omega)) (fun j hj => at_ _ (by omega) (by omega))]
              have esh : s_share (s_cut m i) (s_force (s_cut m i) ru he) = 0 := by unfold s_share; rw [if_pos hlast]
              rw [if_neg c6, x_force hIc.1 hr.1 e1 (by rw [h3, at_ 10 (by omega) (by omega)]) (fun j hj => by rw [h4 j hj, at_ _ (by omega) (by omega)]), q_b1, x_first hIc.1 hIc.2.2.1 (s_na_e hIc.1).2.1 (by rw [ht, at_ 11 (by omega) (by omega)]) (fun j hj => by rw [g0 j hj, at_ _ (by omega) (by omega)]) (fun j hj => by rw [g1 j hj, at_ _ (by omega) (by omega)]) (fun j hj => by rw [g2 j hj, at_ _ (by omega) (by omega)]) hr.2, q_b1, esh, s_first_0 hIc.1 hIc.2.2.1 hpos, if_neg (by decide)]
          rw [this, k_wh_cong (m := s_cut m i) (m' := upd (s_cut m i) 1 0) (upd_n (by omega)) (fun i hi => upd_n (by omega)), upd_n (by omega)]
        · rw [upd_s, k_wh_cong (m := s_cut m i) (m' := upd (s_cut m i) 1 0) (upd_n (by omega)) (fun i hi => upd_n (by omega)), if_pos hkw]
      · have hfl : s_flat (s_cut m i) = s_cut m i := by unfold s_flat; rw [if_neg hlast]
        obtain ⟨m', a1, a2, a3, a4, a5⟩ := ih (s_cut m i) (c + 1) (by omega) (by omega) hIc (by rw [at_ 1 (by omega) (by omega), h1]) (by rw [h2, k_out_cong (m := m) (m' := s_cut m i) (at_ 10 (by omega) (by omega)) (fun j hj => at_ _ (by omega) (by omega))]) (by rw [h3, at_ 10 (by omega) (by omega)]) (fun j hj => by rw [h4 j hj, at_ _ (by omega) (by omega)]) (by rw [ht, at_ 11 (by omega) (by omega)]) (fun j hj => by rw [g0 j hj, at_ _ (by omega) (by omega)]) (fun j hj => by rw [g1 j hj, at_ _ (by omega) (by omega)]) (fun j hj => by rw [g2 j hj, at_ _ (by omega) (by omega)])
        refine ⟨m', fun F hF => ?_, fun F hF => ?_, a3, a4, fun k k1 k2 k3 => by rw [a5 k k1 k2 k3]; exact at_ k (by omega) k2⟩
        · obtain ⟨F, rfl⟩ : ∃ f, F = f + 1 := ⟨F - 1, by omega⟩
          unfold k_lp
          have : lb_X9_pass_434 ru wet m = some (.inl (s_cut m i)) := by
            unfold lb_X9_pass_434
            rw [y_holds hR hP hpos (by rw [h1]; exact hhe), q_b1, hs, y_part hR hP, q_b1, hp1, hfl]; rfl
          rw [this]
          exact a1 F (by omega)
        · obtain ⟨F, rfl⟩ : ∃ f, F = f + 1 := ⟨F - 1, by omega⟩
          unfold k_lp
          rw [hclsstep]
          exact a2 F (by omega)
