/-- the ship is the same where the row differs in one number of its head -/
theorem sim_rule : k_Sim_rule R_all := by
  intro S L M a1 a2 hR
  obtain ⟨hc, ht, hrn, hru, hs, hk0, hk1, hk2, hp⟩ := hR
  obtain ⟨⟨e0, e1, e2, e5, e3, e4, e6, e7, e8, e9, eo, ets, ew, eta, ess⟩, hth, hta, hse, hI⟩ := hs
  obtain ⟨r, f', g', m', g1, g2, g3, g4, g5⟩ := t_rule hru hI a1 a2
  refine ⟨r, k_su (k_su S 3 f') 7 (fun _ => m' 5), L, k_su (k_su (k_su M 0 (fun _ => 0)) 14 g') 9 m', ?_, ?_, hc, ht, hrn, g3, ⟨⟨?_, ?_, ?_, rfl, ?_, ?_, ?_, ?_, ?_, ?_, ?_, ?_, ?_, ?_, ?_⟩, fun i hi => ?_, fun i hi => ?_, fun i hi => ?_, g4⟩, hk0, hk1, hk2, hp⟩
  · unfold pX_rule; rw [e5, g1]; rfl
  · unfold pM_rule; rw [g2]; rfl
  · exact e0.trans (g5 0 (by omega)).symm
  · exact e1.trans (g5 1 (by omega)).symm
  · exact e2.trans (g5 2 (by omega)).symm
  · exact e3.trans (g5 3 (by omega)).symm
  · exact e4.trans (g5 4 (by omega)).symm
  · exact e6.trans (g5 6 (by omega)).symm
  · exact e7.trans (g5 7 (by omega)).symm
  · exact e8.trans (g5 8 (by omega)).symm
  · exact e9.trans (g5 9 (by omega)).symm
  · refine eo.trans ?_
    exact congrArg nI (k_out_cong (m := M 9) (m' := m') (g5 10 (by omega)) (fun i hi => g5 _ (by omega))).symm
  · exact ets.trans (g5 10 (by omega)).symm
  · refine ew.trans ?_
    exact congrArg nI (k_wh_cong (m := M 9) (m' := m') (g5 11 (by omega)) (fun i hi => g5 _ (by omega))).symm
  · exact eta.trans (g5 11 (by omega)).symm
  · exact ess.trans (g5 12 (by omega)).symm
  · exact ⟨(hth i hi).1.trans (g5 _ (by omega)).symm, (hth i hi).2.trans (g5 _ (by omega)).symm⟩
  · exact ⟨(hta i hi).1.trans (g5 _ (by omega)).symm, (hta i hi).2.1.trans (g5 _ (by omega)).symm, (hta i hi).2.2.trans (g5 _ (by omega)).symm⟩
  · obtain ⟨a, b, c, d, e, f, g, h⟩ := hse i hi
    exact ⟨a.trans (g5 _ (by omega)).symm, b.trans (g5 _ (by omega)).symm, c.trans (g5 _ (by omega)).symm, d.trans (g5 _ (by omega)).symm, e.trans (g5 _ (by omega)).symm, f.trans (g5 _ (by omega)).symm, g.trans (g5 _ (by omega)).symm, h.trans (g5 _ (by omega)).symm⟩
