/-! ===== what is kept when one cell is written ===== -/
theorem k_Inv_frame {m m' : Nat → Int32} (h : k_Inv m) (hr : k_Rng m') (h1 : m' 10 = m 10) (h2 : m' 11 = m 11) (h3 : m' 12 = m 12) (hu : ∀ i, i < 12 → m' (25 + i) = m (25 + i)) (hp : ∀ i, i < 6 → m' (55 + i) = m (55 + i)) (hs : ∀ i, i < 12 → m' (145 + i) = m (145 + i) ∧ m' (157 + i) = m (157 + i) ∧ m' (109 + i) = m (109 + i)) : k_Inv m' := by
  obtain ⟨g1, g2, g3, g4⟩ := h
  have e10 := s_nt_e g1
  have e11 := s_na_e g1
  have e12 := s_ns_e g1
  refine ⟨hr, fun i hi => ?_, fun i hi => ?_, fun i hi => ?_⟩
  · rw [h1] at hi
    rw [hu i (by omega)]; exact g2 i hi
  · rw [h2] at hi
    rw [hp i (by omega)]; exact g3 i hi
  · rw [h3] at hi
    obtain ⟨a, b, c⟩ := hs i (by omega)
    rw [a, b, c]; exact g4 i hi
theorem s_na_cong {m m' : Nat → Int32} (h : m' 11 = m 11) : s_na m' = s_na m := by unfold s_na; rw [h]
theorem s_nt_cong {m m' : Nat → Int32} (h : m' 10 = m 10) : s_nt m' = s_nt m := by unfold s_nt; rw [h]
theorem s_ns_cong {m m' : Nat → Int32} (h : m' 12 = m 12) : s_ns m' = s_ns m := by unfold s_ns; rw [h]
theorem k_out_cong {m m' : Nat → Int32} (h1 : m' 10 = m 10) (h2 : ∀ i, i < 12 → m' (37 + i) = m (37 + i)) : k_out m' = k_out m := by
  unfold k_out
  exact k_bits_cong fun i hi => by rw [h1, h2 i hi]
theorem k_wh_cong {m m' : Nat → Int32} (h1 : m' 11 = m 11) (h2 : ∀ i, i < 6 → m' (67 + i) = m (67 + i)) : k_wh m' = k_wh m := by
  unfold k_wh
  exact k_bits_cong fun i hi => by rw [h1, h2 i hi]
theorem s_total_cong {m m' ru : Nat → Int32} (h : k_Rng m) (h1 : m' 10 = m 10) (h2 : ∀ i, i < 12 → m' (37 + i) = m (37 + i)) (h3 : ∀ i, i < 12 → m' (13 + i) = m (13 + i)) : s_total m' ru = s_total m ru := by
  have hn := (s_nt_e h).2.1
  unfold s_total
  rw [s_nt_cong h1, q_sum_cong (f := s_wt m') (g := s_wt m) fun i hi => by unfold s_wt; rw [h2 i (by omega), h3 i (by omega)]]
/-! ===== a rope parts ===== -/
def s_cut (m : Nat → Int32) (i : Nat) : Nat → Int32 := upd (upd m (67 + i) 0) 8 (m 8 + 1)
def s_flat (m : Nat → Int32) : Nat → Int32 := if s_W m = 0 then upd m 1 0 else m
def s_part (m ru : Nat → Int32) (wet : Int32) : Nat → Int32 := match s_first m ru (s_share m (s_force m ru (m 1))) wet with
  | none => s_flat m
  | some i => s_flat (s_cut m i)
theorem s_cut_rng {m : Nat → Int32} (h : k_Rng m) {i : Nat} (hi : i < 6) : k_Rng (s_cut m i) := by
  unfold s_cut
  refine k_Rng_upd (k_Rng_upd h ?_) ?_
  · have e : ∀ i, i < 6 → k_lo (67 + i) = 0 ∧ k_hi (67 + i) = 1 := by decide
    rw [(e i hi).1, (e i hi).2]; exact ⟨by decide, by decide⟩
  · have := fb_rng (m 8 + 1)
    exact ⟨by show -2147483648 ≤ _; omega, by show _ ≤ 2147483647; omega⟩
theorem s_cut_at {m : Nat → Int32} {i k : Nat} (hi : i < 6) (h1 : k ≠ 67 + i) (h2 : k ≠ 8) : s_cut m i k = m k := by
  unfold s_cut; rw [upd_n h2, upd_n h1]
theorem s_cut_8 {m : Nat → Int32} {i : Nat} : s_cut m i 8 = m 8 + 1 := by unfold s_cut; rw [upd_s]
theorem s_cut_i {m : Nat → Int32} {i : Nat} : s_cut m i (67 + i) = 0 := by unfold s_cut; rw [upd_n (by omega), upd_s]
theorem s_cut_inv {m : Nat → Int32} (h : k_Inv m) {i : Nat} (hi : i < 6) : k_Inv (s_cut m i) :=
  k_Inv_frame h (s_cut_rng h.1 hi) (s_cut_at hi (by omega) (by omega)) (s_cut_at hi (by omega) (by omega)) (s_cut_at hi (by omega) (by omega)) (fun j hj => s_cut_at hi (by omega) (by omega)) (fun j hj => s_cut_at hi (by omega) (by omega)) (fun j hj => ⟨s_cut_at hi (by omega) (by omega), s_cut_at hi (by omega) (by omega), s_cut_at hi (by omega) (by omega)⟩)
theorem s_W_cut {m : Nat → Int32} {i : Nat} (hi : i < s_na m) (h6 : s_na m ≤ 6) (hw : m (67 + i) = 1) : s_W (s_cut m i) + 1 = s_W m := by
  unfold s_W
  rw [s_na_cong (s_cut_at (m := m) (i := i) (by omega) (by omega) (by omega))]
  have e := fb_ct_upd (fun k => decide (m (67 + k) = 1)) false (i := i) hi
  rw [fb_ct_cong (p := fun k => decide (s_cut m i (67 + k) = 1)) (q := fun k => if k = i then false else decide (m (67 + k) = 1)) (fun k hk => by
    by_cases c : k = i
    · subst c; rw [s_cut_i]; simp
    · rw [s_cut_at (by omega) (by omega) (by omega), if_neg c])]
  have e2 : (if (decide (m (67 + i) = 1)) = true then 1 else 0) = 1 := by simp [hw]
  have e3 : fb_ct (fun k => if k = i then false else decide (m (67 + k) = 1)) (s_na m) + (if (decide (m (67 + i) = 1)) = true then 1 else 0) = fb_ct (fun k => decide (m (67 + k) = 1)) (s_na m) + 0 := e
  rw [e2] at e3
  exact e3
theorem upd1_rng {m : Nat → Int32} (h : k_Rng m) : k_Rng (upd m 1 0) := k_Rng_upd h ⟨by decide, by decide⟩
theorem upd1_inv {m : Nat → Int32} (h : k_Inv m) : k_Inv (upd m 1 0) :=
  k_Inv_frame h (upd1_rng h.1) (upd_n (by omega)) (upd_n (by omega)) (upd_n (by omega)) (fun j hj => upd_n (by omega)) (fun j hj => upd_n (by omega)) (fun j hj => ⟨upd_n (by omega), upd_n (by omega), upd_n (by omega)⟩)
theorem s_W_upd1 (m : Nat → Int32) (x : Int32) : s_W (upd m 1 x) = s_W m := by
  unfold s_W
  rw [s_na_cong (m' := upd m 1 x) (upd_n (by omega))]
  exact fb_ct_cong fun k hk => by rw [upd_n (by omega)]
theorem y_lowest {m ru : Nat → Int32} (h : k_Rng m) (b : Nat) (hb : b < 3) (x : Int32) : k_lp (fun s : Int32 × Int32 => lb_X9_part_101 m ru (nI b) s.1 s.2) k_fuel (x, (m 11) - 1) = some (q_enc x (s_mc m ru (s_share m (s_force m ru (m 1))) b)) := by
  obtain ⟨e11, hn, -⟩ := s_na_e h
  generalize hsh : s_share m (s_force m ru (m 1)) = sh
  obtain ⟨e, he, hE⟩ := q_lpI (body := fun s : Int32 × Int32 => lb_X9_part_101 m ru (nI b) s.1 s.2) (fun k s => s.2 = nI (s_na m - k) - 1 ∧ ((s.1 = x ∧ (nI (s_on m b) * sh ≤ ru (5 + b) ∨ ∀ i, s_na m - k ≤ i → i < s_na m → s_onp m b i = false)) ∨ (¬ nI (s_on m b) * sh ≤ ru (5 + b) ∧ ∃ i, s_na m - k ≤ i ∧ i < s_na m ∧ s_onp m b i = true ∧ (∀ j, s_na m - k ≤ j → j < i → s_onp m b j = false) ∧ s.1 = nI i))) (fun e => e = q_enc x (s_mc m ru sh b)) (s_na m) (fun k s hk hs => by
    obtain ⟨s1, s2⟩ := s
    obtain ⟨h1, h2⟩ := hs
    have h1' : s2 = nI (s_na m - (k + 1)) := by
      have : s2 = nI (s_na m - k) - 1 := h1
      rw [this, show s_na m - k = s_na m - (k + 1) + 1 from by omega, nI_pred]
    subst h1'
    have hlt : s_na m - (k + 1) < 6 := by omega
    show ∃ X, lb_X9_part_101 m ru (nI b) s1 (nI (s_na m - (k + 1))) = some X ∧ _
    unfold lb_X9_part_101
    rw [if_neg (nI_pos (by omega)), y_mastOf h, hsh, q_b1, q_o5, q_ix _ (by omega) (by omega), q_cl (by omega), q_o67, q_o49, q_ix _ (by omega) (by omega), q_cl (by omega), q_ix _ (by omega) (by omega), q_cl (by omega)]
    have hd : nI (s_na m - (k + 1)) + (-1) = nI (s_na m - (k + 1)) - 1 := by rw [Int32.sub_eq_add_neg]
    rw [hd]
    by_cases c : nI (s_on m b) * sh ≤ ru (5 + b)
    · rw [if_pos c]
      refine ⟨_, rfl, Or.inl ⟨_, rfl, rfl, ?_⟩⟩
      rcases h2 with ⟨h3, -⟩ | ⟨h3, -⟩
      · exact Or.inl ⟨h3, Or.inl c⟩
      · exact absurd c h3
    · rw [if_neg c]
      cases hp : s_onp m b (s_na m - (k + 1)) with
      | true =>
        have hp2 := hp
        unfold s_onp at hp2
        simp only [Bool.and_eq_true, decide_eq_true_eq] at hp2
        rw [if_pos hp2.1, if_pos hp2.2]
        refine ⟨_, rfl, Or.inl ⟨_, rfl, rfl, Or.inr ⟨c, s_na m - (k + 1), by omega, by omega, hp, fun j hj1 hj2 => by omega, rfl⟩⟩⟩
      | false =>
        have hX : (if m (67 + (s_na m - (k + 1))) = 1 then (if m (49 + (s_na m - (k + 1))) = nI b then some (Sum.inl (nI (s_na m - (k + 1)), nI (s_na m - (k + 1)) - 1)) else some (Sum.inl (s1, nI (s_na m - (k + 1)) - 1))) else some (Sum.inl (s1, nI (s_na m - (k + 1)) - 1))) = (some (Sum.inl (s1, nI (s_na m - (k + 1)) - 1)) : Option ((Int32 × Int32) ⊕ Int32)) := by
          unfold s_onp at hp
          by_cases c1 : m (67 + (s_na m - (k + 1))) = 1
          · by_cases c2 : m (49 + (s_na m - (k + 1))) = nI b
            · simp [c1, c2] at hp
            · rw [if_pos c1, if_neg c2]
          · rw [if_neg c1]
        rw [hX]
        refine ⟨_, rfl, Or.inl ⟨_, rfl, rfl, ?_⟩⟩
        rcases h2 with ⟨h3, h4⟩ | ⟨h3, i, h4, h5, h6, h7, h8⟩
        · refine Or.inl ⟨h3, Or.inr fun i hi1 hi2 => ?_⟩
          rcases h4 with h4 | h4
          · exact absurd h4 c
          · by_cases e : i = s_na m - (k + 1)
            · subst e; exact hp
            · exact h4 i (by omega) hi2
        · refine Or.inr ⟨h3, i, by omega, h5, h6, fun j hj1 hj2 => ?_, h8⟩
          by_cases e : j = s_na m - (k + 1)
          · subst e; exact hp
          · exact h7 j (by omega) hj2) (fun s hs => by
    obtain ⟨s1, s2⟩ := s
    obtain ⟨h1, h2⟩ := hs
    have h1' : s2 = nI 0 - 1 := by
      have : s2 = nI (s_na m - s_na m) - 1 := h1
      rw [this, Nat.sub_self]
    subst h1'
    refine ⟨s1, ?_, ?_⟩
    · show lb_X9_part_101 m ru (nI b) s1 (nI 0 - 1) = _
      unfold lb_X9_part_101
      rw [if_pos (by decide)]
    · unfold s_mc
      rcases h2 with ⟨h3, h4⟩ | ⟨h3, i, h4, h5, h6, h7, h8⟩
      · rcases h4 with h4 | h4
        · rw [if_pos h4]; exact h3
        · by_cases c : nI (s_on m b) * sh ≤ ru (5 + b)
          · rw [if_pos c]; exact h3
          · rw [if_neg c]
            have : s_low m b = none := by
              unfold s_low
              rw [q_find_none]
              intro i hi
              rw [h4 i (by omega) hi]; rfl
            rw [this]; exact h3
      · rw [if_neg h3]
        have : s_low m b = some i := by
          unfold s_low
          rw [q_find_some]
          exact ⟨i, h5, by rw [h6]; rfl, fun j hj => by rw [h7 j (by omega) hj]; rfl⟩
        rw [this]; exact h8) (x, (m 11) - 1) ⟨by rw [e11]; rfl, Or.inl ⟨rfl, Or.inr fun i hi1 hi2 => by omega⟩⟩ (by omega)
  rw [he, hE]
theorem q_enc_enc (d : Int32) (o : Option Nat) : q_enc (q_enc d o) none = q_enc d o := rfl
theorem y_part {m ru : Nat → Int32} (h : k_Rng m) (hp : k_Par m) (wet : Int32) : p_X9_part m ru wet = some (s_part m ru wet) := by
  obtain ⟨e11, hn, -⟩ := s_na_e h
  unfold p_X9_part
  rw [y_mostOver h hp wet, q_b2]
  have hfl : ∀ x : Nat → Int32, k_Rng x → (k_b1 (p_X9_wholes x) fun r88 => if r88 = 0 then some (upd x 1 0) else some x) = some (s_flat x) := by
    intro x hx
    have := s_W_le hx
    rw [y_wholes hx, q_b1]
    unfold s_flat
    rcases Nat.eq_zero_or_pos (s_W x) with c | c
    · rw [c, if_pos (show nI 0 = 0 from rfl), if_pos rfl]
    · rw [if_neg (nI_ne0 c (by omega)), if_neg (by omega)]
  have hl : k_lp (fun s : Int32 × Int32 => lb_X9_part_81 (s_ro m (s_share m (s_force m ru (m 1))) wet (s_na m)).1 m ru s.1 s.2) k_fuel (q_enc (-4) (s_ro m (s_share m (s_force m ru (m 1))) wet (s_na m)).2, 2) = some (q_enc (-4) (s_first m ru (s_share m (s_force m ru (m 1))) wet)) := by
    rcases s_ro_inv (m := m) (s_share m (s_force m ru (m 1))) wet (s_na m) with ⟨h1, h2, -⟩ | ⟨j, h1, h2, -, h4, -⟩
    · unfold s_first
      rw [h1, h2]
      have := q_run (body := fun s : Int32 × Int32 => lb_X9_part_81 0 m ru s.1 s.2) (fun k => (match k with | 0 => (-4 : Int32) | 1 => q_enc (-4) (s_mc m ru (s_share m (s_force m ru (m 1))) 2) | 2 => q_enc (q_enc (-4) (s_mc m ru (s_share m (s_force m ru (m 1))) 2)) (s_mc m ru (s_share m (s_force m ru (m 1))) 1) | _ => q_enc (q_enc (q_enc (-4) (s_mc m ru (s_share m (s_force m ru (m 1))) 2)) (s_mc m ru (s_share m (s_force m ru (m 1))) 1)) (s_mc m ru (s_share m (s_force m ru (m 1))) 0), nI (3 - k) - 1)) (q_enc (q_enc (q_enc (-4) (s_mc m ru (s_share m (s_force m ru (m 1))) 2)) (s_mc m ru (s_share m (s_force m ru (m 1))) 1)) (s_mc m ru (s_share m (s_force m ru (m 1))) 0)) 3 (fun i hi => by
        match i, hi with
        | 0, _ =>
          show lb_X9_part_81 0 m ru (-4) (nI 2) = some (.inl (_, nI 1))
          unfold lb_X9_part_81
          rw [if_neg (nI_pos (by omega)), if_pos rfl, y_lowest h 2 (by omega), q_b1]; rfl
        | 1, _ =>
          show lb_X9_part_81 0 m ru _ (nI 1) = some (.inl (_, nI 0))
          unfold lb_X9_part_81
          rw [if_neg (nI_pos (by omega)), if_pos rfl, y_lowest h 1 (by omega), q_b1]; rfl
        | 2, _ =>
          show lb_X9_part_81 0 m ru _ (nI 0) = some (.inl (_, nI 0 - 1))
          unfold lb_X9_part_81
          rw [if_neg (nI_pos (by omega)), if_pos rfl, y_lowest h 0 (by omega), q_b1]; rfl) (by
        show lb_X9_part_81 0 m ru _ (nI 0 - 1) = _
        unfold lb_X9_part_81
        rw [if_pos (by decide)]; rfl) (by omega)
      refine Eq.trans this ?_
      congr 1
      show _ = q_enc (-4) (q_find (s_mc m ru (s_share m (s_force m ru (m 1)))) 3)
      unfold q_find q_find q_find q_find
      cases s_mc m ru (s_share m (s_force m ru (m 1))) 0 <;> cases s_mc m ru (s_share m (s_force m ru (m 1))) 1 <;> cases s_mc m ru (s_share m (s_force m ru (m 1))) 2 <;> rfl
    · unfold s_first
      rw [h2]
      refine q_run (fun _ => (nI j, (2 : Int32))) _ 0 (fun j hj => absurd hj (by omega)) ?_ (by omega)
      show lb_X9_part_81 _ m ru (nI j) 2 = _
      unfold lb_X9_part_81
      rw [if_neg (by decide), if_neg (fun e => by rw [e] at h4; exact absurd h4 (by decide))]; rfl
  rw [hl, q_b1]
  unfold s_part
  cases hf : s_first m ru (s_share m (s_force m ru (m 1))) wet with
  | none =>
    rw [if_pos (show q_enc (-4) none = -4 from rfl)]
    exact hfl m h
  | some i =>
    have hi := (s_first_some hf).1
    have hne : ¬ q_enc (-4) (some i) = -4 := by
      show ¬ nI i = -4
      intro e
      have := congrArg Int32.toInt e
      rw [q_ti (by omega), show (-4 : Int32).toInt = -4 from by decide] at this
      omega
    simp only [show q_enc (-4) (some i) = nI i from rfl] at hne ⊢
    rw [if_neg hne, q_o67, q_ix _ (by omega) (by omega), q_cl (by omega), upd_n (show (8 : Nat) ≠ 67 + i by omega)]
    exact hfl (s_cut m i) (s_cut_rng h (by omega))
