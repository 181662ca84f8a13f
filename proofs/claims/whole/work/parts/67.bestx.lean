/-! ===== the class's search over sets, and the questions ===== -/
theorem q_b7 {T0 T1 T2 T3 T4 T5 T6 α : Type} (f : T0 → T1 → T2 → T3 → T4 → T5 → T6 → Option α) (v0 : T0) (v1 : T1) (v2 : T2) (v3 : T3) (v4 : T4) (v5 : T5) (v6 : T6) : k_b7 (some (v0, v1, v2, v3, v4, v5, v6)) f = f v0 v1 v2 v3 v4 v5 v6 := rfl
theorem q_b11 {T0 T1 T2 T3 T4 T5 T6 T7 T8 T9 T10 α : Type} (f : T0 → T1 → T2 → T3 → T4 → T5 → T6 → T7 → T8 → T9 → T10 → Option α) (v0 : T0) (v1 : T1) (v2 : T2) (v3 : T3) (v4 : T4) (v5 : T5) (v6 : T6) (v7 : T7) (v8 : T8) (v9 : T9) (v10 : T10) : k_b11 (some (v0, v1, v2, v3, v4, v5, v6, v7, v8, v9, v10)) f = f v0 v1 v2 v3 v4 v5 v6 v7 v8 v9 v10 := rfl
theorem x_pitchL {m tr dn : Nat → Int32} (h : k_Rng m) {s : Nat} (hs : s < 12) (h1 : tr s = m (121 + s)) (h2 : dn s = m (157 + s)) : p_X3_pitchLacking dn tr (nI s) = some (if m (157 + s) = 0 then m (121 + s) else 0) := by
  obtain ⟨D, eD, -, hD, -⟩ := kr_nI (rg_dn h hs) (by decide) (by decide)
  unfold p_X3_pitchLacking
  rw [q_ix _ hs (by omega), q_cl (by omega), h1, h2, q_ix _ hs (by omega), eD]
  by_cases c : D = 0
  · subst c
    rw [if_pos (show nI 0 ≤ 0 from Int32.le_refl _), if_pos (show nI 0 = 0 from rfl)]
  · rw [if_neg (nI_nle (by omega) (by omega)), if_neg (nI_ne0 (by omega) (by omega))]
theorem x_sums {m se tr wo dn : Nat → Int32} (h : k_Inv m) (hse : ∀ k, k < s_N m → se k = nI (s_c m k)) (hf : ∀ i, i < 12 → tr i = m (121 + i) ∧ wo i = m (133 + i) ∧ dn i = m (157 + i)) (x : Nat) : k_lp (fun s : Int32 × Int32 × Int32 => lb_X2_tryOut_8 (nI (s_N m)) (nI x) dn tr se wo s.1 s.2.1 s.2.2) k_fuel (0, 0, 0) = some (s_Wt m x, s_Pt m x) := by
  have hN := s_N_le m
  refine q_run (body := fun s : Int32 × Int32 × Int32 => lb_X2_tryOut_8 (nI (s_N m)) (nI x) dn tr se wo s.1 s.2.1 s.2.2) (fun i => (q_sum (s_wf m (s_e x)) i, q_sum (s_pf m (s_e x)) i, nI i)) _ (s_N m) (fun k hk => ?_) ?_ (by omega)
  · obtain ⟨c12, -, -, -, -, -⟩ := s_lkN h hk
    obtain ⟨f1, f2, f3⟩ := hf (s_c m k) c12
    show lb_X2_tryOut_8 (nI (s_N m)) (nI x) dn tr se wo (q_sum (s_wf m (s_e x)) k) (q_sum (s_pf m (s_e x)) k) (nI k) = some (.inl (q_sum (s_wf m (s_e x)) k + s_wf m (s_e x) k, q_sum (s_pf m (s_e x)) k + s_pf m (s_e x) k, nI (k + 1)))
    generalize q_sum (s_wf m (s_e x)) k = z1
    generalize q_sum (s_pf m (s_e x)) k = z2
    have hb : p_X8_hasBit (nI x) (nI k) = some (if s_e x k = true then 1 else 0) := by
      rw [q_hasBit _ (by omega), bt_nI _ (by omega)]; rfl
    unfold lb_X2_tryOut_8 s_wf s_pf
    rw [q_ifge _ _ hk (by omega), hb, q_cl (by omega), hse k hk, q_cl (by omega), x_pitchL h.1 c12 f1 f3, f2]
    by_cases ce : s_e x k = true
    · rw [if_pos ce, q_b1, if_neg (show ¬ (1 : Int32) = 0 from by decide), q_ix _ (by omega) (by omega), q_ix _ c12 (by omega), q_b1, if_neg (show ¬ (1 : Int32) = 0 from by decide), q_ix _ (by omega) (by omega), q_b1, if_pos ce, if_pos ce, nI_1]
    · rw [if_neg ce, q_b1, if_pos rfl, q_b1, if_pos rfl, if_neg ce, if_neg ce, nI_1]
  · show lb_X2_tryOut_8 (nI (s_N m)) (nI x) dn tr se wo _ _ (nI (s_N m)) = _
    unfold lb_X2_tryOut_8
    rw [q_ifle _ _ (Nat.le_refl _) (by omega)]; rfl
def s_js (m : Nat → Int32) (n x w : Nat) (bg : Nat → Int32) : Prop := ∀ k, k < s_N m → s_e x k = true → bg k = nI (s_dg (s_e x) (s_N m) n (s_N m - (k + 1)) w)
theorem x_try {m rn td se hr mb tr wo dn : Nat → Int32} {hn : Nat → Int64} (h : k_Inv m) {o n men : Nat} (hn0 : 0 < n) (hn6 : n ≤ 6) (hmen : men ≤ 100) (hg : s_gI m rn td o n (s_N m) (s_c m) se hr mb hn) (hf : ∀ i, i < 12 → tr i = m (121 + i) ∧ wo i = m (133 + i) ∧ dn i = m (157 + i)) (j : Nat) (tried begins : Nat → Int32) (hb : s_js m n (s_B m rn td o n men j).1 (s_B m rn td o n men j).2.2.2 begins) : ∃ tr' bg', p_X2_tryOut (lN ((127 - men) * 72340172838076673)) (nI (s_N m)) (nI (s_B m rn td o n men j).1) (s_B m rn td o n men j).2.1 (s_B m rn td o n men j).2.2.1 (m 5) se dn tr wo tried mb hn begins (nI (j + 1)) = some (nI (s_B m rn td o n men (j + 1)).1, (s_B m rn td o n men (j + 1)).2.1, (s_B m rn td o n men (j + 1)).2.2.1, tr', bg') ∧ s_js m n (s_B m rn td o n men (j + 1)).1 (s_B m rn td o n men (j + 1)).2.2.2 bg' := by
  have hN := s_N_le m
  have place : ¬ m 5 < s_Pt m (j + 1) → ∀ pl w p, ∃ R tr', p_X2_isPlaced 7 (lN ((127 - men) * 72340172838076673)) (nI (s_N m)) pl w p tried mb hn (nI (j + 1)) 0 0 = some (R, tr') ∧ ((s_fd m rn td o n men (j + 1) = none ∧ R = 0) ∨ ∃ w, s_fd m rn td o n men (j + 1) = some w ∧ R = 1 ∧ s_js m n (j + 1) w tr') := by
    intro hp pl w p
    obtain ⟨R, tr', g1, -, g3⟩ := x_placed (e := s_e (j + 1)) (N := s_N m) (n := n) (ok := fun k b => s_okb m rn td o n (s_c m k) b) (lk := fun k => s_lk m (s_c m k)) (hd := fun k => s_hd m (s_c m k)) (men := men) (c := nI (j + 1)) (pl := pl) (wo := w) (pi := p) (mb := mb) (hn := hn) hN hn0 hn6 (fun k hk => bt_nI _ (by omega)) (fun k hk b hb => (hg k hk).2.2.1 b (by omega)) (fun k hk b hb => by
      obtain ⟨-, -, l1, -, -, -⟩ := s_lkN h hk
      have hb' : s_okb m rn td o n (s_c m k) b = true := hb
      unfold s_okb at hb'
      rw [Bool.and_eq_true] at hb'
      have := of_decide_eq_true hb'.1
      exact ⟨by omega, by show b + s_lk m (s_c m k) ≤ 8; omega⟩) (fun k hk => (hg k hk).2.2.2) (fun k hk => (s_lkN h hk).2.2.2.1) hmen (s_N m) (Nat.le_refl _) 7 (by omega) (fun _ => 0) tried (fun h hh => Nat.zero_le _)
    rw [Nat.sub_self] at g1
    have efd : s_fd m rn td o n men (j + 1) = q_find (s_F (s_V (s_e (j + 1)) (s_N m) n (fun k b => s_okb m rn td o n (s_c m k) b) (fun k => s_lk m (s_c m k)) (fun k => s_hd m (s_c m k)) men (s_N m) (fun _ => 0))) (s_q (s_e (j + 1)) (s_N m) n (s_N m)) := by
      unfold s_fd
      rw [if_neg hp]; rfl
    refine ⟨R, tr', g1, ?_⟩
    rw [efd]
    rcases g3 with g3 | ⟨w, w1, w2, w3⟩
    · exact Or.inl g3
    · refine Or.inr ⟨w, w1, w2, fun k hk hke => ?_⟩
      have := w3 (s_N m - (k + 1)) (by omega) (by rw [show s_N m - (s_N m - (k + 1) + 1) = k from by omega]; exact hke)
      rw [show s_N m - (s_N m - (k + 1) + 1) = k from by omega] at this
      exact this
  have eB : s_B m rn td o n men (j + 1) = if (s_B m rn td o n men j).2.1 < s_Wt m (j + 1) ∨ (s_Wt m (j + 1) = (s_B m rn td o n men j).2.1 ∧ s_Pt m (j + 1) < (s_B m rn td o n men j).2.2.1) then (match s_fd m rn td o n men (j + 1) with | none => s_B m rn td o n men j | some w => (j + 1, s_Wt m (j + 1), s_Pt m (j + 1), w)) else s_B m rn td o n men j := rfl
  have same : ∀ tr' : Nat → Int32, s_B m rn td o n men (j + 1) = s_B m rn td o n men j → ∃ tr'' bg', some (nI (s_B m rn td o n men j).1, (s_B m rn td o n men j).2.1, (s_B m rn td o n men j).2.2.1, tr', begins) = some (nI (s_B m rn td o n men (j + 1)).1, (s_B m rn td o n men (j + 1)).2.1, (s_B m rn td o n men (j + 1)).2.2.1, tr'', bg') ∧ s_js m n (s_B m rn td o n men (j + 1)).1 (s_B m rn td o n men (j + 1)).2.2.2 bg' := fun tr' e => by
    rw [e]
    exact ⟨tr', begins, rfl, hb⟩
  have fdn : m 5 < s_Pt m (j + 1) → s_fd m rn td o n men (j + 1) = none := fun hp => if_pos hp
  have none' : s_fd m rn td o n men (j + 1) = none → s_B m rn td o n men (j + 1) = s_B m rn td o n men j := fun e => by
    rw [eB, e]
    split <;> rfl
  unfold p_X2_tryOut
  rw [x_sums h (fun k hk => (hg k hk).1) hf, q_b2]
  have go : ((s_B m rn td o n men j).2.1 < s_Wt m (j + 1) ∨ (s_Wt m (j + 1) = (s_B m rn td o n men j).2.1 ∧ s_Pt m (j + 1) < (s_B m rn td o n men j).2.2.1)) → ∃ tr' bg', (if m 5 < s_Pt m (j + 1) then some (nI (s_B m rn td o n men j).1, (s_B m rn td o n men j).2.1, (s_B m rn td o n men j).2.2.1, tried, begins) else k_b2 (p_X2_isPlaced 7 (lN ((127 - men) * 72340172838076673)) (nI (s_N m)) (nI (s_B m rn td o n men j).1) (s_B m rn td o n men j).2.1 (s_B m rn td o n men j).2.2.1 tried mb hn (nI (j + 1)) 0 0) fun r32 w_h_tried_33 => if r32 = 0 then some (nI (s_B m rn td o n men j).1, (s_B m rn td o n men j).2.1, (s_B m rn td o n men j).2.2.1, w_h_tried_33, begins) else some (nI (j + 1), s_Wt m (j + 1), s_Pt m (j + 1), w_h_tried_33, k_cpy 5 w_h_tried_33 begins)) = some (nI (s_B m rn td o n men (j + 1)).1, (s_B m rn td o n men (j + 1)).2.1, (s_B m rn td o n men (j + 1)).2.2.1, tr', bg') ∧ s_js m n (s_B m rn td o n men (j + 1)).1 (s_B m rn td o n men (j + 1)).2.2.2 bg' := by
    intro hc
    by_cases cp : m 5 < s_Pt m (j + 1)
    · rw [if_pos cp]
      exact same _ (none' (fdn cp))
    · rw [if_neg cp]
      obtain ⟨R, tr', g1, g2⟩ := place cp (nI (s_B m rn td o n men j).1) (s_B m rn td o n men j).2.1 (s_B m rn td o n men j).2.2.1
      rw [g1, q_b2]
      rcases g2 with ⟨g2, rfl⟩ | ⟨w, g2, rfl, g3⟩
      · rw [if_pos rfl]
        exact same _ (none' g2)
      · rw [if_neg (show ¬ (1 : Int32) = 0 from by decide)]
        have e2 : s_B m rn td o n men (j + 1) = (j + 1, s_Wt m (j + 1), s_Pt m (j + 1), w) := by rw [eB, if_pos hc, g2]
        rw [e2]
        refine ⟨_, _, rfl, fun k hk hke => ?_⟩
        show (if k < 5 then tr' k else begins k) = _
        rw [if_pos (by omega)]
        exact g3 k hk hke
  by_cases c1 : (s_B m rn td o n men j).2.1 < s_Wt m (j + 1)
  · rw [if_pos c1]
    exact go (Or.inl c1)
  · rw [if_neg c1]
    by_cases c2 : s_Wt m (j + 1) = (s_B m rn td o n men j).2.1
    · rw [if_pos c2]
      by_cases c3 : s_Pt m (j + 1) < (s_B m rn td o n men j).2.2.1
      · rw [if_neg (fun hh => by rw [Int32.le_iff_toInt_le] at hh; rw [Int32.lt_iff_toInt_lt] at c3; omega)]
        exact go (Or.inr ⟨c2, c3⟩)
      · rw [if_pos (by rw [Int32.le_iff_toInt_le]; rw [Int32.lt_iff_toInt_lt] at c3; omega)]
        exact same _ (by rw [eB, if_neg (fun hh => hh.elim c1 (fun q => c3 q.2))])
    · rw [if_neg c2]
      exact same _ (by rw [eB, if_neg (fun hh => hh.elim c1 (fun q => c2 q.1))])
theorem x_make {m rn td ru sk sd hs lg tr wo sta dn : Nat → Int32} (h : k_Inv m) (hrn : ∀ h, h < 96 → kr (rn h) 0 1) (hse : ∀ i, i < 12 → sk i = m (73 + i) ∧ sd i = m (85 + i) ∧ hs i = m (97 + i) ∧ lg i = m (109 + i) ∧ tr i = m (121 + i) ∧ wo i = m (133 + i) ∧ sta i = m (145 + i) ∧ dn i = m (157 + i)) {o men n : Nat} (ho : o ≤ 96) (hru : ru 3 = nI men) (hmen : men ≤ 100) (hn0 : 0 < n) (hn6 : n ≤ 6) (se0 hr0 mb0 tried0 begins0 : Nat → Int32) (hands0 : Nat → Int64) : ∃ ms se hr mb hn tried begins, p_X2_make (nI o) (m 1) (m 5) (m 12) sta se0 lg dn hr0 rn td sk sd mb0 hands0 hs ru tr wo tried0 begins0 (nI n) = some (ms, nI (s_N m), nI (s_B m rn td o n men (2 ^ s_N m - 1)).1, (s_B m rn td o n men (2 ^ s_N m - 1)).2.1, (s_B m rn td o n men (2 ^ s_N m - 1)).2.2.1, se, hr, mb, hn, tried, begins) ∧ s_gI m rn td o n (s_N m) (s_c m) se hr mb hn ∧ s_js m n (s_B m rn td o n men (2 ^ s_N m - 1)).1 (s_B m rn td o n men (2 ^ s_N m - 1)).2.2.2 begins := by
  have hN := s_N_le m
  have h32 := q_p5 (s_N m) (by omega)
  have hpos := Nat.two_pow_pos (s_N m)
  obtain ⟨se, hr, mb, hn, g1, g2⟩ := x_gather (sk := sk) (sd := sd) (hs := hs) (lg := lg) (tr := tr) (sta := sta) (dn := dn) (td := td) h hrn (fun i hi => ⟨(hse i hi).1, (hse i hi).2.1, (hse i hi).2.2.1, (hse i hi).2.2.2.1, (hse i hi).2.2.2.2.2.2.1, (hse i hi).2.2.2.2.2.2.2⟩) ho hn6 se0 hr0 mb0 hands0
  have hf : ∀ i, i < 12 → tr i = m (121 + i) ∧ wo i = m (133 + i) ∧ dn i = m (157 + i) := fun i hi => ⟨(hse i hi).2.2.2.2.1, (hse i hi).2.2.2.2.2.1, (hse i hi).2.2.2.2.2.2.2⟩
  have z0 : s_js m n (s_B m rn td o n men 0).1 (s_B m rn td o n men 0).2.2.2 begins0 := fun k hk hke => Bool.noConfusion ((s_e0 k).symm.trans hke)
  have ems : ((127 - ru 3).toInt64) * 72340172838076673 = lN ((127 - men) * 72340172838076673) := by
    rw [hru, show (127 : Int32) = nI 127 from rfl, pk_sub (by omega), nI_l (by omega), show (72340172838076673 : Int64) = lN 72340172838076673 from rfl, lN_mul]
  obtain ⟨E, hE, hE2⟩ := q_lpI (body := fun s : Int32 × (Nat → Int32) × (Nat → Int32) × Int32 × Int32 × Int32 => lb_X2_make_44 (nI (s_N m)) ru (m 5) se dn tr wo mb hn s.1 s.2.1 s.2.2.1 s.2.2.2.1 s.2.2.2.2.1 s.2.2.2.2.2) (fun j s => s.1 = nI (j + 1) ∧ s_js m n (s_B m rn td o n men j).1 (s_B m rn td o n men j).2.2.2 s.2.1 ∧ s.2.2.2.1 = (s_B m rn td o n men j).2.2.1 ∧ s.2.2.2.2.1 = nI (s_B m rn td o n men j).1 ∧ s.2.2.2.2.2 = (s_B m rn td o n men j).2.1) (fun E => s_js m n (s_B m rn td o n men (2 ^ s_N m - 1)).1 (s_B m rn td o n men (2 ^ s_N m - 1)).2.2.2 E.1 ∧ E.2.2.1 = (s_B m rn td o n men (2 ^ s_N m - 1)).2.2.1 ∧ E.2.2.2.1 = nI (s_B m rn td o n men (2 ^ s_N m - 1)).1 ∧ E.2.2.2.2 = (s_B m rn td o n men (2 ^ s_N m - 1)).2.1) (2 ^ s_N m - 1) (fun j s hj hs' => by
    obtain ⟨s1, bg, tried, pitch, planned, worth⟩ := s
    obtain ⟨q1, q2, q3, q4, q5⟩ := hs'
    have q1' : s1 = nI (j + 1) := q1
    have q3' : pitch = (s_B m rn td o n men j).2.2.1 := q3
    have q4' : planned = nI (s_B m rn td o n men j).1 := q4
    have q5' : worth = (s_B m rn td o n men j).2.1 := q5
    obtain ⟨tr', bg', t1, t2⟩ := x_try (men := men) h hn0 hn6 hmen g2 hf j tried bg q2
    show ∃ X, lb_X2_make_44 (nI (s_N m)) ru (m 5) se dn tr wo mb hn s1 bg tried pitch planned worth = some X ∧ _
    unfold lb_X2_make_44
    rw [q1', q3', q4', q5', q_sh5 _ (by omega), q_ifge _ _ (show j + 1 < 2 ^ s_N m by omega) (by omega), ems, t1, q_b5]
    exact ⟨_, rfl, Or.inl ⟨_, rfl, nI_1 (j + 1), t2, rfl, rfl, rfl⟩⟩) (fun s hs' => by
    obtain ⟨s1, bg, tried, pitch, planned, worth⟩ := s
    obtain ⟨q1, q2, q3, q4, q5⟩ := hs'
    have q1' : s1 = nI (2 ^ s_N m - 1 + 1) := q1
    refine ⟨(bg, tried, pitch, planned, worth), ?_, q2, q3, q4, q5⟩
    show lb_X2_make_44 (nI (s_N m)) ru (m 5) se dn tr wo mb hn s1 bg tried pitch planned worth = _
    unfold lb_X2_make_44
    rw [q1', q_sh5 _ (by omega), q_ifle _ _ (show 2 ^ s_N m ≤ 2 ^ s_N m - 1 + 1 by omega) (by omega)]) (1, begins0, tried0, 0, 0, 0) ⟨rfl, z0, rfl, rfl, rfl⟩ (by omega)
  obtain ⟨bg, tried, pitch, planned, worth⟩ := E
  obtain ⟨r1, r2, r3, r4⟩ := hE2
  have r2' : pitch = (s_B m rn td o n men (2 ^ s_N m - 1)).2.2.1 := r2
  have r3' : planned = nI (s_B m rn td o n men (2 ^ s_N m - 1)).1 := r3
  have r4' : worth = (s_B m rn td o n men (2 ^ s_N m - 1)).2.1 := r4
  refine ⟨lN ((127 - men) * 72340172838076673), se, hr, mb, hn, tried, bg, ?_, g2, r1⟩
  unfold p_X2_make
  rw [g1, q_b5, hE, q_b5, ems, r2', r3', r4']
theorem x_hasE {x k : Nat} (hk : k < 32) : p_X8_hasBit (nI x) (nI k) = some (if s_e x k = true then 1 else 0) := by
  rw [q_hasBit _ hk, bt_nI _ hk]; rfl
theorem x_seamBits {m se : Nat → Int32} (h : k_Inv m) (hse : ∀ k, k < s_N m → se k = nI (s_c m k)) (x : Nat) : p_X2_seamBits (nI (s_N m)) (nI x) se = some (nI (s_bn (s_c m) (s_N m) x)) := by
  have hN := s_N_le m
  unfold p_X2_seamBits
  have key := q_foldlp (body := fun s : Int32 × Int32 => lb_X2_seamBits_4 (nI (s_N m)) (nI x) se s.1 s.2) (s_bI (s_c m) x) (s_N m) 0 (fun k z hk => by
    show lb_X2_seamBits_4 (nI (s_N m)) (nI x) se z (nI k) = _
    unfold lb_X2_seamBits_4 s_bI
    rw [q_ifge _ _ hk (by omega), x_hasE (by omega), q_b1, q_ifp, q_cl (by omega), hse k hk]
    by_cases ce : s_e x k = true
    · have ce' : x.testBit k = true := ce
      rw [if_pos ce, if_pos ce', q_ix _ (by omega) (by omega)]
    · have ce' : ¬ x.testBit k = true := ce
      rw [if_neg ce, if_neg ce', Int32.or_zero]) (fun z => by
    show lb_X2_seamBits_4 (nI (s_N m)) (nI x) se z (nI (s_N m)) = _
    unfold lb_X2_seamBits_4
    rw [q_ifle _ _ (Nat.le_refl _) (by omega)]) (by omega)
  rw [key, q_b1, s_bI_e x (s_N m) (fun a b h1 h2 => s_c_mono h1 h2) (fun k hk => (s_lkN h hk).1)]
def s_bo (m : Nat → Int32) (n x w s k : Nat) : Option Int32 := if s_e x k = true ∧ s_c m k = s then some (nI (s_dg (s_e x) (s_N m) n (s_N m - (k + 1)) w)) else none
def q_or4 : Option Int32 → Int32
  | none => -4
  | some v => v
theorem x_beginningOf {m se bg : Nat → Int32} (h : k_Inv m) (hse : ∀ k, k < s_N m → se k = nI (s_c m k)) {n x w s : Nat} (hs : s < 100) (hb : s_js m n x w bg) : p_X2_beginningOf (nI (s_N m)) (nI x) se bg (nI s) = some (q_or4 (q_find (s_bo m n x w s) (s_N m))) := by
  have hN := s_N_le m
  unfold p_X2_beginningOf
  have key := q_findlp (body := fun t => lb_X2_beginningOf_2 (nI (s_N m)) (nI x) se (nI s) bg t) (s_bo m n x w s) (s_N m) (fun k hk => by
    have c12 := (s_lkN h hk).1
    show lb_X2_beginningOf_2 (nI (s_N m)) (nI x) se (nI s) bg (nI k) = _
    unfold lb_X2_beginningOf_2 s_bo
    rw [q_ifge _ _ hk (by omega), x_hasE (by omega), q_b1, q_ifp, q_cl (by omega), hse k hk]
    by_cases ce : s_e x k = true
    · rw [if_pos ce, q_ix _ (by omega) (by omega), q_ix _ (by omega) (by omega), hb k hk ce]
      by_cases cs : s_c m k = s
      · rw [if_pos (by rw [cs]), if_pos ⟨ce, cs⟩]
      · rw [if_neg (fun e => cs (by have := congrArg Int32.toNatClampNeg e; rw [q_cl (by omega), q_cl (by omega)] at this; exact this)), if_neg (fun hh => cs hh.2)]
    · rw [if_neg ce, if_neg (fun hh => ce hh.1)]) (by
    show lb_X2_beginningOf_2 (nI (s_N m)) (nI x) se (nI s) bg (nI (s_N m)) = _
    unfold lb_X2_beginningOf_2
    rw [q_ifle _ _ (Nat.le_refl _) (by omega)]) (by omega)
  rw [key]
  cases q_find (s_bo m n x w s) (s_N m) <;> rfl
theorem s_c_inj {m : Nat → Int32} {a b : Nat} (ha : a < s_N m) (hb : b < s_N m) (e : s_c m a = s_c m b) : a = b := by
  rcases Nat.lt_trichotomy a b with c | c | c
  · have := s_c_mono c hb; omega
  · exact c
  · have := s_c_mono c ha; omega
theorem y_beginningOf {m ct best : Nat → Int32} (h : k_Inv m) (hct : ∀ k, k < s_N m → ct k = nI (s_c m k)) {n x w s : Nat} (hn0 : 0 < n) (hn6 : n ≤ 6) (hs : s < 100) {a2 : Int32} (ha : a2 - 3 = nI s) (hb : s_is m n x w best) : k_lp (fun t : Int32 × Int32 => lb_X9_plan_105 (nI (s_N m)) ct a2 best t.1 t.2) k_fuel ((-4), 0) = some (q_or4 (q_find (s_bo m n x w s) (s_N m))) := by
  have hN := s_N_le m
  refine q_run (body := fun t : Int32 × Int32 => lb_X9_plan_105 (nI (s_N m)) ct a2 best t.1 t.2) (fun i => (q_or4 (q_find (s_bo m n x w s) i), nI i)) _ (s_N m) (fun k hk => ?_) ?_ (by omega)
  · have c12 := (s_lkN h hk).1
    have hdg := s_dg_lt (s_e x) (s_N m) hn0 (s_N m - (k + 1)) w
    have step : q_find (s_bo m n x w s) (k + 1) = match s_bo m n x w s k with | none => q_find (s_bo m n x w s) k | some v => some v := by
      cases hk1 : q_find (s_bo m n x w s) k with
      | none =>
        rw [q_find_sn hk1]
        cases s_bo m n x w s k <;> rfl
      | some v =>
        rw [q_find_ss hk1]
        have : s_bo m n x w s k = none := by
          obtain ⟨i, hi, hv, -⟩ := q_find_some.mp hk1
          unfold s_bo at hv ⊢
          by_cases c : s_e x i = true ∧ s_c m i = s
          · refine if_neg fun hh => ?_
            have := s_c_inj (m := m) (a := i) (b := k) (by omega) hk (by rw [c.2, hh.2])
            omega
          · rw [if_neg c] at hv; cases hv
        rw [this]
    show lb_X9_plan_105 (nI (s_N m)) ct a2 best (q_or4 (q_find (s_bo m n x w s) k)) (nI k) = some (.inl (q_or4 (q_find (s_bo m n x w s) (k + 1)), nI (k + 1)))
    rw [step]
    generalize q_find (s_bo m n x w s) k = z
    unfold lb_X9_plan_105 s_bo
    rw [q_ifge _ _ hk (by omega), q_ix _ (by omega) (by omega), q_cl (by omega), hct k hk, ha, hb k hk, q_ix _ (by omega) (by omega), q_ix _ (by omega) (by omega)]
    by_cases cs : s_c m k = s
    · rw [if_pos (by rw [cs])]
      by_cases ce : s_e x k = true
      · rw [if_pos ce, if_neg (show ¬ nI _ < 0 from nI_pos (by omega)), if_pos ⟨ce, cs⟩, nI_1]; rfl
      · rw [if_neg ce, if_pos (show (-1 : Int32) < 0 from by decide), if_neg (fun hh => ce hh.1), nI_1]
    · rw [if_neg (fun e => cs (by have := congrArg Int32.toNatClampNeg e; rw [q_cl (by omega), q_cl (by omega)] at this; exact this)), if_neg (fun hh => cs hh.2), nI_1]
  · show lb_X9_plan_105 (nI (s_N m)) ct a2 best _ (nI (s_N m)) = _
    unfold lb_X9_plan_105
    rw [q_ifle _ _ (Nat.le_refl _) (by omega)]
def s_or (m : Nat → Int32) (n x w a k : Nat) (z : Int32) : Int32 := if s_e x k = true ∧ s_dg (s_e x) (s_N m) n (s_N m - (k + 1)) w ≤ a ∧ a < s_dg (s_e x) (s_N m) n (s_N m - (k + 1)) w + s_lk m (s_c m k) then z ||| (1 <<< (nI (s_c m k) &&& 31)) else z
theorem x_orders {m se bg hr : Nat → Int32} (h : k_Inv m) (hse : ∀ k, k < s_N m → se k = nI (s_c m k)) (hhr : ∀ k, k < s_N m → hr k = nI (s_lk m (s_c m k))) {n x w a : Nat} (hn0 : 0 < n) (hn6 : n ≤ 6) (ha : a < 100) (hb : s_js m n x w bg) : p_X2_ordersOf (nI (s_N m)) (nI x) bg hr se (nI a) = some (q_fold (s_or m n x w a) 0 (s_N m)) := by
  have hN := s_N_le m
  unfold p_X2_ordersOf
  have key := q_foldlp (body := fun s : Int32 × Int32 => lb_X2_ordersOf_4 (nI (s_N m)) (nI x) (nI a) bg hr se s.1 s.2) (s_or m n x w a) (s_N m) 0 (fun k z hk => by
    have hdg := s_dg_lt (s_e x) (s_N m) hn0 (s_N m - (k + 1)) w
    have l5 := (s_lkN h hk).2.1
    show lb_X2_ordersOf_4 (nI (s_N m)) (nI x) (nI a) bg hr se z (nI k) = _
    unfold lb_X2_ordersOf_4 s_or
    rw [q_ifge _ _ hk (by omega), x_hasE (by omega), q_b1, q_ifp, q_cl (by omega), hse k hk, hhr k hk]
    by_cases ce : s_e x k = true
    · rw [if_pos ce, hb k hk ce, q_ix _ (by omega) (by omega), q_ix _ (by omega) (by omega), q_ix _ (by omega) (by omega), q_ix _ (by omega) (by omega), nI_add]
      by_cases c1 : a < s_dg (s_e x) (s_N m) n (s_N m - (k + 1)) w
      · rw [if_pos (nI_lt c1 (by omega)), if_neg (fun hh => by have := hh.2.1; omega), Int32.or_zero]
      · rw [if_neg (nI_nlt (by omega) (by omega))]
        by_cases c2 : s_dg (s_e x) (s_N m) n (s_N m - (k + 1)) w + s_lk m (s_c m k) ≤ a
        · rw [if_pos (nI_le c2 (by omega)), if_neg (fun hh => by have := hh.2.2; omega), Int32.or_zero]
        · rw [if_neg (nI_ge (by omega) (by omega)), if_pos ⟨ce, by omega, by omega⟩]
    · rw [if_neg ce, if_neg (fun hh => ce hh.1), Int32.or_zero]) (fun z => by
    show lb_X2_ordersOf_4 (nI (s_N m)) (nI x) (nI a) bg hr se z (nI (s_N m)) = _
    unfold lb_X2_ordersOf_4
    rw [q_ifle _ _ (Nat.le_refl _) (by omega)]) (by omega)
  rw [key, q_b1]
theorem y_orders {m ct best : Nat → Int32} (h : k_Inv m) (hct : ∀ k, k < s_N m → ct k = nI (s_c m k)) {n x w a : Nat} (hn0 : 0 < n) (hn6 : n ≤ 6) (ha : a < 100) (hb : s_is m n x w best) : k_lp (fun s : Int32 × Int32 => lb_X9_orders_65 (nI (s_N m)) best (nI a) m ct s.1 s.2) k_fuel (0, 0) = some (q_fold (s_or m n x w a) 0 (s_N m)) := by
  have hN := s_N_le m
  refine q_foldlp (body := fun s : Int32 × Int32 => lb_X9_orders_65 (nI (s_N m)) best (nI a) m ct s.1 s.2) (s_or m n x w a) (s_N m) 0 (fun k z hk => ?_) (fun z => ?_) (by omega)
  · have hdg := s_dg_lt (s_e x) (s_N m) hn0 (s_N m - (k + 1)) w
    obtain ⟨c12, l5, -, -, -, yh⟩ := s_lkN h hk
    show lb_X9_orders_65 (nI (s_N m)) best (nI a) m ct z (nI k) = _
    unfold lb_X9_orders_65 s_or
    rw [q_ifge _ _ hk (by omega), q_ix _ (by omega) (by omega), q_cl (by omega), hb k hk, hct k hk, yh]
    by_cases ce : s_e x k = true
    · rw [if_pos ce, if_neg (show ¬ nI _ < 0 from nI_pos (by omega)), q_ix _ (by omega) (by omega), q_ix _ (by omega) (by omega), q_ix _ (by omega) (by omega), q_b1, nI_add, q_ix _ (by omega) (by omega)]
      by_cases c1 : a < s_dg (s_e x) (s_N m) n (s_N m - (k + 1)) w
      · rw [if_pos (nI_lt c1 (by omega)), if_neg (fun hh => by have := hh.2.1; omega), Int32.or_zero]
      · rw [if_neg (nI_nlt (by omega) (by omega))]
        by_cases c2 : s_dg (s_e x) (s_N m) n (s_N m - (k + 1)) w + s_lk m (s_c m k) ≤ a
        · rw [if_pos (nI_le c2 (by omega)), if_neg (fun hh => by have := hh.2.2; omega), Int32.or_zero]
        · rw [if_neg (nI_ge (by omega) (by omega)), if_pos ⟨ce, by omega, by omega⟩]
    · rw [if_neg ce, if_pos (show (-1 : Int32) < 0 from by decide), if_neg (fun hh => ce hh.1), Int32.or_zero]
  · show lb_X9_orders_65 (nI (s_N m)) best (nI a) m ct z (nI (s_N m)) = _
    unfold lb_X9_orders_65
    rw [q_ifle _ _ (Nat.le_refl _) (by omega)]
