/-! ===== move, heel, rig ===== -/
theorem x_bears {m un : Nat → Int32} {n : Nat} (hn : n ≤ 12) (x : Int32) (h1 : ∀ i, i < 12 → un i = m (25 + i)) (a : Int32) : p_X7_bearsAny x (nI n) un a = some (if (q_find (fun i => if bt x i = false ∧ m (25 + i) = a then some () else none) n).isSome = true then 1 else 0) := by
  have key : k_lp (fun s : Int32 => lb_X7_bearsAny_2 (nI n) x un a s) k_fuel 0 = some (q_ans ((q_find (fun i => if bt x i = false ∧ m (25 + i) = a then some () else none) n).map fun _ => (1 : Int32))) := by
    have := q_findlp (body := fun s : Int32 => lb_X7_bearsAny_2 (nI n) x un a s) (fun i => if bt x i = false ∧ m (25 + i) = a then some (1 : Int32) else none) n (fun i hi => by
      show lb_X7_bearsAny_2 (nI n) x un a (nI i) = _
      unfold lb_X7_bearsAny_2
      simp (disch := omega) only [q_ifge, q_ifle, q_o5, q_o13, q_o25, q_o37, q_o49, q_o55, q_o61, q_o67, q_o73, q_o85, q_o97, q_o109, q_o121, q_o133, q_o145, q_o157, q_ix, q_cl, q_b1, q_b2, q_hasBit, q_ifp, Nat.le_refl]
      rw [h1 i (by omega)]
      by_cases c : bt x i = true
      · simp [c]
      · have c' : bt x i = false := by simpa using c
        by_cases c2 : m (25 + i) = a <;> simp [c', c2]) (by
      show lb_X7_bearsAny_2 (nI n) x un a (nI n) = _
      unfold lb_X7_bearsAny_2
      simp (disch := omega) only [q_ifge, q_ifle, q_o5, q_o13, q_o25, q_o37, q_o49, q_o55, q_o61, q_o67, q_o73, q_o85, q_o97, q_o109, q_o121, q_o133, q_o145, q_o157, q_ix, q_cl, q_b1, q_b2, q_hasBit, q_ifp, Nat.le_refl]) (by omega)
    rw [this]
    have e : ∀ k, q_find (fun i => if bt x i = false ∧ m (25 + i) = a then some (1 : Int32) else none) k = (q_find (fun i => if bt x i = false ∧ m (25 + i) = a then some () else none) k).map fun _ => (1 : Int32) := by
      intro k
      induction k with
      | zero => rfl
      | succ k ih =>
        cases hq : q_find (fun i => if bt x i = false ∧ m (25 + i) = a then some () else none) k with
        | some u =>
          rw [q_find_ss hq, q_find_ss (v := 1) (by rw [ih, hq]; rfl)]; rfl
        | none =>
          rw [q_find_sn hq, q_find_sn (by rw [ih, hq]; rfl)]
          by_cases c : bt x k = false ∧ m (25 + k) = a
          · rw [if_pos c, if_pos c]; rfl
          · rw [if_neg c, if_neg c]; rfl
    rw [e]
  unfold p_X7_bearsAny
  rw [key]
  cases q_find (fun i => if bt x i = false ∧ m (25 + i) = a then some () else none) n <;> rfl
theorem x_mayIn {un : Nat → Int32} {n : Nat} (hn : n ≤ 12) (x b : Int32) (hu : ∀ i, i < n → (un i = -1 ∨ ∃ j, j < n ∧ un i = nI j)) : p_X7_mayComeIn x (nI n) un b = some (if (∀ i, i < n → bt b i = true → ∀ j, j < n → un i = nI j → ¬ (bt x j = true ∧ bt b j = false)) then 1 else 0) := by
  have key : k_lp (fun s : Int32 => lb_X7_mayComeIn_11 (nI n) b un x s) k_fuel 0 = some (q_ans (q_find (fun i => if bt b i = true ∧ ∃ j, j < n ∧ un i = nI j ∧ (bt x j = true ∧ bt b j = false) then some (0 : Int32) else none) n)) := by
    refine q_findlp _ n (fun i hi => ?_) ?_ (by omega)
    · show lb_X7_mayComeIn_11 (nI n) b un x (nI i) = _
      unfold lb_X7_mayComeIn_11
      simp (disch := omega) only [q_ifge, q_ifle, q_o5, q_o13, q_o25, q_o37, q_o49, q_o55, q_o61, q_o67, q_o73, q_o85, q_o97, q_o109, q_o121, q_o133, q_o145, q_o157, q_ix, q_cl, q_b1, q_b2, q_hasBit, q_ifp, Nat.le_refl]
      by_cases c : bt b i = true
      · rw [if_pos c]
        rcases hu i hi with e | ⟨j, hj, e⟩
        · rw [e, if_pos (by decide)]
          have : ¬ (bt b i = true ∧ ∃ j, j < n ∧ (-1 : Int32) = nI j ∧ (bt x j = true ∧ bt b j = false)) := by
            rintro ⟨-, j, hj, e2, -⟩
            have := congrArg Int32.toInt e2
            rw [q_ti (by omega), show (-1 : Int32).toInt = -1 from by decide] at this
            omega
          simp only [if_neg this]
        · rw [e, if_neg (nI_pos (by omega)), q_hasBit _ (by omega), q_b1, q_ifp, b_and, bt_not _ (by omega)]
          by_cases c2 : bt x j = true ∧ bt b j = false
          · have : bt b i = true ∧ ∃ j', j' < n ∧ nI j = nI j' ∧ (bt x j' = true ∧ bt b j' = false) := ⟨c, j, hj, rfl, c2⟩
            simp only [if_pos this]
            rw [if_pos (by rw [c2.1, c2.2]; rfl)]
          · have : ¬ (bt b i = true ∧ ∃ j', j' < n ∧ nI j = nI j' ∧ (bt x j' = true ∧ bt b j' = false)) := by
              rintro ⟨-, j', hj', e2, h3⟩
              rw [nI_eq (by omega) (by omega)] at e2
              subst e2
              exact c2 h3
            simp only [if_neg this]
            rw [if_neg (fun hh => c2 (by
              simp only [Bool.and_eq_true, Bool.not_eq_true'] at hh
              exact hh))]
      · rw [if_neg c]
        have : ¬ (bt b i = true ∧ ∃ j, j < n ∧ un i = nI j ∧ (bt x j = true ∧ bt b j = false)) := fun hh => c hh.1
        simp only [if_neg this]
    · show lb_X7_mayComeIn_11 (nI n) b un x (nI n) = _
      unfold lb_X7_mayComeIn_11
      simp (disch := omega) only [q_ifge, q_ifle, q_o5, q_o13, q_o25, q_o37, q_o49, q_o55, q_o61, q_o67, q_o73, q_o85, q_o97, q_o109, q_o121, q_o133, q_o145, q_o157, q_ix, q_cl, q_b1, q_b2, q_hasBit, q_ifp, Nat.le_refl]
  unfold p_X7_mayComeIn
  rw [key]
  by_cases c : ∀ i, i < n → bt b i = true → ∀ j, j < n → un i = nI j → ¬ (bt x j = true ∧ bt b j = false)
  · rw [if_pos c]
    have : q_find (fun i => if bt b i = true ∧ ∃ j, j < n ∧ un i = nI j ∧ (bt x j = true ∧ bt b j = false) then some (0 : Int32) else none) n = none := by
      rw [q_find_none]
      intro i hi
      rw [if_neg]
      rintro ⟨h1, j, hj, h2, h3⟩
      exact c i hi h1 j hj h2 h3
    rw [this]; rfl
  · rw [if_neg c]
    cases hq : q_find (fun i => if bt b i = true ∧ ∃ j, j < n ∧ un i = nI j ∧ (bt x j = true ∧ bt b j = false) then some (0 : Int32) else none) n with
    | none =>
      rw [q_find_none] at hq
      refine absurd (fun i hi h1 j hj h2 h3 => ?_) c
      have := hq i hi
      rw [if_pos ⟨h1, j, hj, h2, h3⟩] at this
      cases this
    | some v =>
      obtain ⟨i, -, h2, -⟩ := q_find_some.mp hq
      split at h2
      · cases h2; rfl
      · cases h2
theorem q_und {m : Nat → Int32} (h : k_Inv m) {i : Nat} (hi : i < s_nt m) : m (25 + i) = -1 ∨ ∃ j, j < i ∧ m (25 + i) = nI j := by
  obtain ⟨e10, hn, e10'⟩ := s_nt_e h.1
  have h1 := (rg_un h.1 (i := i) (by omega)).1
  have h2 := h.2.1 i (by omega)
  by_cases c : (m (25 + i)).toInt = -1
  · exact Or.inl (Int32.toInt_inj.mp (by rw [c]; decide))
  · refine Or.inr ⟨(m (25 + i)).toInt.toNat, by omega, Int32.toInt_inj.mp ?_⟩
    rw [q_ti (by omega)]; omega
theorem q_und2 {m : Nat → Int32} (h : k_Inv m) {i : Nat} (hi : i < s_nt m) : m (25 + i) = -1 ∨ ∃ j, j < s_nt m ∧ m (25 + i) = nI j := by
  rcases q_und h hi with e | ⟨j, hj, e⟩
  · exact Or.inl e
  · exact Or.inr ⟨j, by omega, e⟩
def m_move (m : Nat → Int32) (j : Nat) : Nat → Int32 := upd (upd (upd m (37 + j) (1 - m (37 + j))) 3 1) 9 (m 9 + 1)
theorem m_move_at {m : Nat → Int32} {j k : Nat} (h : k ≠ 3 ∧ k ≠ 9 ∧ k ≠ 37 + j) : m_move m j k = m k := by
  unfold m_move; rw [upd_n h.2.1, upd_n h.1, upd_n h.2.2]
theorem m_move_inv {m : Nat → Int32} (h : k_Inv m) {j : Nat} (hj : j < s_nt m) : k_Inv (m_move m j) ∧ nI (k_out m) ^^^ (1 <<< (nI j &&& 31)) = nI (k_out (m_move m j)) := by
  obtain ⟨e10, hn, e10'⟩ := s_nt_e h.1
  have e37 : m_move m j (37 + j) = 1 - m (37 + j) := by unfold m_move; simp (disch := omega) only [upd_n, upd_s]
  have er : k_Rng (m_move m j) := by
    unfold m_move
    refine k_Rng_upd (k_Rng_upd (k_Rng_upd h.1 ?_) ⟨by decide, by decide⟩) ?_
    · have l37 : ∀ i, i < 12 → k_lo (37 + i) = 0 ∧ k_hi (37 + i) = 1 := by decide
      rw [(l37 j (by omega)).1, (l37 j (by omega)).2]
      rcases q_01 (rg_in h.1 (i := j) (by omega)) with e | e <;> rw [e] <;> exact ⟨by decide, by decide⟩
    · have := fb_rng (m 9 + 1)
      exact ⟨by show -2147483648 ≤ _; omega, by show _ ≤ 2147483647; omega⟩
  have fr : ∀ k, (k ≠ 3 ∧ k ≠ 9 ∧ k ≠ 37 + j) → m_move m j k = m k := fun k hk => m_move_at hk
  refine ⟨k_Inv_frame h er (fr _ (by omega)) (fr _ (by omega)) (fr _ (by omega)) (fun i hi => fr _ (by omega)) (fun i hi => fr _ (by omega)) (fun i hi => ⟨fr _ (by omega), fr _ (by omega), fr _ (by omega)⟩), ?_⟩
  refine k_out_of er fun i hi => ?_
  rw [b_xor, bt_one j (by omega) hi, k_out_bt h.1 hi, s_nt_cong (fr 10 (by omega))]
  by_cases c : i = j
  · subst c
    rw [e37]
    rcases q_01 (rg_in h.1 (i := i) (by omega)) with e | e <;> rw [e] <;> simp [hj] <;> decide
  · by_cases c2 : i < s_nt m
    · rw [fr _ (by omega)]; simp [c]
    · simp [c, c2]
theorem t_move {m ru ru' wt un : Nat → Int32} {ot ts : Int32} (h : k_Inv m) (hr : ru' 1 = ru 1) (eo : ot = nI (k_out m)) (ets : ts = m 10) (hth : ∀ i, i < 12 → wt i = m (13 + i) ∧ un i = m (25 + i)) (a1 : Int32) : ∃ r m', p_X8_move (m 2) (m 3) (m 9) ot ts un ru' wt a1 = some (r, m' 3, m' 9, nI (k_out m')) ∧ p_X9_move m ru a1 = some (r, 0, m') ∧ k_Inv m' ∧ ∀ k, (k ≠ 3 ∧ k ≠ 9 ∧ (k < 37 ∨ 49 ≤ k)) → m' k = m k := by
  obtain ⟨e10, hn, e10'⟩ := s_nt_e h.1
  subst eo; subst ets
  have same : ∀ v : Int32, ∃ r m', (some (v, m 3, m 9, nI (k_out m)) : Option (Int32 × Int32 × Int32 × Int32)) = some (r, m' 3, m' 9, nI (k_out m')) ∧ (some (v, 0, m) : Option (Int32 × Int32 × (Nat → Int32))) = some (r, 0, m') ∧ k_Inv m' ∧ ∀ k, (k ≠ 3 ∧ k ≠ 9 ∧ (k < 37 ∨ 49 ≤ k)) → m' k = m k :=
    fun v => ⟨v, m, rfl, rfl, h, fun _ _ => rfl⟩
  have same2 : ∀ v b : Int32, m 3 = b → ∃ r m', (some (v, b, m 9, nI (k_out m)) : Option (Int32 × Int32 × Int32 × Int32)) = some (r, m' 3, m' 9, nI (k_out m')) ∧ (some (v, 0, m) : Option (Int32 × Int32 × (Nat → Int32))) = some (r, 0, m') ∧ k_Inv m' ∧ ∀ k, (k ≠ 3 ∧ k ≠ 9 ∧ (k < 37 ∨ 49 ≤ k)) → m' k = m k := by
    intro v b hb; subst hb; exact same v
  unfold p_X8_move p_X9_move
  rw [e10, x_lost, y_lost]
  simp only [q_within, q_in_0_c, q_b1, q_ifp]
  by_cases h1 : 0 ≤ a1 ∧ a1 ≤ nI (s_nt m) - 1
  · simp only [if_pos h1]
    obtain ⟨j, hj, rfl⟩ := q_idx hn h1
    have done : ∃ r m', (k_b3 (p_X4_moveByBoat (m 9) (nI (k_out m)) (nI j)) fun w8 w9 w10 => k_b1 (p_X4_total ru' w10 (nI (s_nt m)) wt) fun r11 => some (r11, w8, w9, w10)) = some (r, m' 3, m' 9, nI (k_out m')) ∧ (k_b1 (p_X9_total ru (upd (upd (upd m (37 + j) (1 - (m (37 + j)))) 3 1) 9 ((m 9) + 1))) fun r33 => some (r33, 0, upd (upd (upd m (37 + j) (1 - (m (37 + j)))) 3 1) 9 ((m 9) + 1))) = some (r, (0 : Int32), m') ∧ k_Inv m' ∧ ∀ k, (k ≠ 3 ∧ k ≠ 9 ∧ (k < 37 ∨ 49 ≤ k)) → m' k = m k := by
      obtain ⟨i1, i2⟩ := m_move_inv h hj
      refine ⟨s_total (m_move m j) ru, m_move m j, ?_, ?_, i1, fun k hk => m_move_at (by omega)⟩
      · unfold p_X4_moveByBoat
        rw [q_b3, i2, x_total (ru := ru) i1.1 hr rfl (by rw [m_move_at (by omega), e10]) (fun i hi => by rw [(hth i hi).1, m_move_at (by omega)]), q_b1]
        have z3 : m_move m j 3 = 1 := by unfold m_move; simp (disch := omega) only [upd_n, upd_s]
        have z9 : m_move m j 9 = m 9 + 1 := by unfold m_move; rw [upd_s]
        rw [z3, z9]
      · show (k_b1 (p_X9_total ru (m_move m j)) fun r33 => some (r33, 0, m_move m j)) = _
        rw [y_total i1.1, q_b1]
    have hnx : (upd (upd m (37 + j) (1 - m (37 + j))) 3 1) 9 = m 9 := by rw [upd_n (by omega), upd_n (by omega)]
    simp (disch := omega) only [q_o37, q_o25, q_ix, q_cl]
    rw [hnx]
    rcases q_01 (rg_bo h.1) with b0 | b1
    · simp only [b0, if_true, show ((0 : Int32) = 1) = False from by decide, if_false]
      by_cases cw : m 2 ≤ 100
      · simp only [if_pos cw, if_true]
        unfold p_X7_mayMove
        rw [q_hasBit _ (by omega), q_b1, q_ifp, k_out_bt h.1 (by omega), decide_eq_true hj, Bool.true_and]
        by_cases cin : m (37 + j) = 1
        · have cin0 : ¬ m (37 + j) = 0 := by rw [q_in1 h.1 (by omega)]; exact fun hh => hh cin
          rw [if_pos cin, if_neg (by simpa using cin0), x_bears hn _ (fun i hi => (hth i hi).2), q_b1, q_ifp]
          have lp : k_lp (fun s : Int32 => lb_X9_move_61 m (nI j) s) k_fuel 0 = some (q_ans ((q_find (fun i => if bt (nI (k_out m)) i = false ∧ m (25 + i) = nI j then some () else none) (s_nt m)).map fun _ => ((-2 : Int32), (0 : Int32), m))) := by
            have := q_findlp (body := fun s : Int32 => lb_X9_move_61 m (nI j) s) (fun i => if bt (nI (k_out m)) i = false ∧ m (25 + i) = nI j then some ((-2 : Int32), (0 : Int32), m) else none) (s_nt m) (fun i hi => by
              show lb_X9_move_61 m (nI j) (nI i) = _
              unfold lb_X9_move_61
              rw [e10]
              simp (disch := omega) only [q_ifge, q_ifle, q_o5, q_o13, q_o25, q_o37, q_o49, q_o55, q_o61, q_o67, q_o73, q_o85, q_o97, q_o109, q_o121, q_o133, q_o145, q_o157, q_ix, q_cl, q_b1, q_b2, q_hasBit, q_ifp, Nat.le_refl]
              rw [k_out_bt h.1 (by omega), decide_eq_true hi, Bool.true_and]
              by_cases c : m (25 + i) = nI j
              · rw [if_pos c]
                by_cases c2 : m (37 + i) = 1
                · have c3 : ¬ m (37 + i) = 0 := by rw [q_in1 h.1 (by omega)]; exact fun hh => hh c2
                  simp [c, c2]
                · have c3 : m (37 + i) = 0 := by rw [q_in1 h.1 (by omega)]; exact c2
                  simp [c3]
              · rw [if_neg c]; simp [c]) (by
              show lb_X9_move_61 m (nI j) (nI (s_nt m)) = _
              unfold lb_X9_move_61
              rw [e10]
              simp (disch := omega) only [q_ifge, q_ifle, q_o5, q_o13, q_o25, q_o37, q_o49, q_o55, q_o61, q_o67, q_o73, q_o85, q_o97, q_o109, q_o121, q_o133, q_o145, q_o157, q_ix, q_cl, q_b1, q_b2, q_hasBit, q_ifp, Nat.le_refl]) (by omega)
            rw [this]
            have e : ∀ k, q_find (fun i => if bt (nI (k_out m)) i = false ∧ m (25 + i) = nI j then some ((-2 : Int32), (0 : Int32), m) else none) k = (q_find (fun i => if bt (nI (k_out m)) i = false ∧ m (25 + i) = nI j then some () else none) k).map fun _ => ((-2 : Int32), (0 : Int32), m) := by
              intro k
              induction k with
              | zero => rfl
              | succ k ih =>
                cases hq : q_find (fun i => if bt (nI (k_out m)) i = false ∧ m (25 + i) = nI j then some () else none) k with
                | some u =>
                  rw [q_find_ss hq, q_find_ss (v := ((-2 : Int32), (0 : Int32), m)) (by rw [ih, hq]; rfl)]; rfl
                | none =>
                  rw [q_find_sn hq, q_find_sn (by rw [ih, hq]; rfl)]
                  by_cases c : bt (nI (k_out m)) k = false ∧ m (25 + k) = nI j
                  · rw [if_pos c, if_pos c]; rfl
                  · rw [if_neg c, if_neg c]; rfl
            rw [e]
          rw [lp]
          cases hq : q_find (fun i => if bt (nI (k_out m)) i = false ∧ m (25 + i) = nI j then some () else none) (s_nt m) with
          | none => exact done
          | some u => exact same2 _ _ b0
        · have cin0 : m (37 + j) = 0 := by rw [q_in1 h.1 (by omega)]; exact cin
          rw [if_neg cin, if_pos (by simpa using cin0), x_mayIn hn _ _ (fun i hi => by rw [(hth i (by omega)).2]; exact q_und2 h hi), q_b1, q_ck01, q_b1, q_ifp]
          rcases q_und h hj with e | ⟨u, hu, e⟩
          · rw [if_pos (show m (25 + j) < 0 by rw [e]; decide), if_pos (fun i hi hb k hk e2 => by
              rw [bt_one j (by omega) (by omega)] at hb
              have : i = j := by simpa using hb
              subst this
              rw [(hth i (by omega)).2, e] at e2
              have := congrArg Int32.toInt e2
              rw [q_ti (by omega), show (-1 : Int32).toInt = -1 from by decide] at this
              omega)]
            exact done
          · rw [if_neg (show ¬ m (25 + j) < 0 by rw [e]; exact nI_pos (by omega)), e]
            simp (disch := omega) only [q_o37, q_ix, q_cl]
            by_cases cu : m (37 + u) = 0
            · rw [if_pos cu, if_neg (fun hall => by
                refine hall j hj (by rw [bt_one j (by omega) (by omega)]; simp) u (by omega) (by rw [(hth j (by omega)).2, e]) ⟨?_, ?_⟩
                · rw [k_out_bt h.1 (by omega), decide_eq_true (by omega)]; simp [cu]
                · rw [bt_one j (by omega) (by omega)]; simp; omega)]
              exact same2 _ _ b0
            · rw [if_neg cu, if_pos (fun i hi hb k hk e2 => by
                rw [bt_one j (by omega) (by omega)] at hb
                have : i = j := by simpa using hb
                subst this
                rw [(hth i (by omega)).2, e, nI_eq (by omega) (by omega)] at e2
                subst e2
                rintro ⟨h3, -⟩
                rw [k_out_bt h.1 (by omega)] at h3
                simp [cu] at h3)]
              exact done
      · simp only [if_neg cw, show ((1 : Int32) = 0) = False from by decide, if_false]
        exact same2 _ _ b0
    · simp only [b1, if_true, show ((1 : Int32) = 0) = False from by decide, if_false]
      exact same2 _ _ b1
  · simp only [if_neg h1]; exact same _
theorem sim_move : k_Sim_move R_all := by
  intro S L M a1 hR
  obtain ⟨hc, ht, hrn, hru, hs, hk0, hk1, hk2, hp⟩ := hR
  obtain ⟨⟨e0, e1, e2, e5, e3, e4, e6, e7, e8, e9, eo, ets, ew, eta, ess⟩, hth, hta, hse, hI⟩ := hs
  obtain ⟨r, m', g1, g2, gI, g5⟩ := t_move hI (R_rule_rl hru).1.1 eo ets hth a1
  refine ⟨r, k_su (k_su (k_su S 8 (fun _ => m' 3)) 13 (fun _ => m' 9)) 14 (fun _ => nI (k_out m')), L, k_su (k_su M 0 (fun _ => 0)) 9 m', ?_, ?_, hc, ht, hrn, hru, ⟨⟨e0.trans (g5 0 (by omega)).symm, e1.trans (g5 1 (by omega)).symm, e2.trans (g5 2 (by omega)).symm, e5.trans (g5 5 (by omega)).symm, rfl, e4.trans (g5 4 (by omega)).symm, e6.trans (g5 6 (by omega)).symm, e7.trans (g5 7 (by omega)).symm, e8.trans (g5 8 (by omega)).symm, rfl, rfl, ets.trans (g5 10 (by omega)).symm, ew.trans (congrArg nI (k_wh_cong (m := M 9) (g5 11 (by omega)) (fun i hi => g5 _ (by omega)))).symm, eta.trans (g5 11 (by omega)).symm, ess.trans (g5 12 (by omega)).symm⟩, fun i hi => ⟨(hth i hi).1.trans (g5 _ (by omega)).symm, (hth i hi).2.trans (g5 _ (by omega)).symm⟩, fun i hi => ⟨(hta i hi).1.trans (g5 _ (by omega)).symm, (hta i hi).2.1.trans (g5 _ (by omega)).symm, (hta i hi).2.2.trans (g5 _ (by omega)).symm⟩, fun i hi => ⟨(hse i hi).1.trans (g5 _ (by omega)).symm, (hse i hi).2.1.trans (g5 _ (by omega)).symm, (hse i hi).2.2.1.trans (g5 _ (by omega)).symm, (hse i hi).2.2.2.1.trans (g5 _ (by omega)).symm, (hse i hi).2.2.2.2.1.trans (g5 _ (by omega)).symm, (hse i hi).2.2.2.2.2.1.trans (g5 _ (by omega)).symm, (hse i hi).2.2.2.2.2.2.1.trans (g5 _ (by omega)).symm, (hse i hi).2.2.2.2.2.2.2.trans (g5 _ (by omega)).symm⟩, gI⟩, hk0, hk1, hk2, hp⟩
  · unfold pX_move; rw [e2, e3, e9, g1]; rfl
  · unfold pM_move; rw [g2]; rfl
def m_heel (m : Nat → Int32) (a : Int32) : Nat → Int32 := upd (upd m 1 a) 4 1
theorem m_heel_at {m : Nat → Int32} {a : Int32} {k : Nat} (h : k ≠ 1 ∧ k ≠ 4) : m_heel m a k = m k := by
  unfold m_heel; rw [upd_n h.2, upd_n h.1]
theorem m_heel_inv {m : Nat → Int32} (h : k_Inv m) {a : Int32} (ha : kr a (-9) 9) : k_Inv (m_heel m a) := by
  refine k_Inv_frame h ?_ (m_heel_at (by omega)) (m_heel_at (by omega)) (m_heel_at (by omega)) (fun i hi => m_heel_at (by omega)) (fun i hi => m_heel_at (by omega)) (fun i hi => ⟨m_heel_at (by omega), m_heel_at (by omega), m_heel_at (by omega)⟩)
  exact k_Rng_upd (k_Rng_upd h.1 ha) ⟨by decide, by decide⟩
theorem sim_heel : k_Sim_heel R_all := by
  intro S L M a1 hR
  obtain ⟨hc, ht, ⟨hrn, hrn2⟩, hru, hs, hk0, hk1, hk2, hp⟩ := hR
  obtain ⟨⟨e0, e1, e2, e5, e3, e4, e6, e7, e8, e9, eo, ets, ew, eta, ess⟩, hth, hta, hse, hI⟩ := hs
  obtain ⟨hrl, hpos⟩ := R_rule_rl hru
  obtain ⟨o, eo0, hoo⟩ := s_hour hI.1
  have xh := fun a w => x_holds (ru := M 14) hI.1 hI.2.2.1 hrl eo ets (fun i hi => (hth i hi).1) eta (fun i hi => (hta i hi).1) (fun i hi => (hta i hi).2.1) (fun i hi => (hta i hi).2.2) a w
  have key : ∃ r m', p_X8_heel (S 4 0) (S 5 0) (S 6 0) (S 9 0) (S 2) (S 3) (S 14 0) (S 15 0) (S 16) (S 18 0) (S 19 0) (S 21) (S 22) (S 20) a1 = some (r, m' 1, m' 4) ∧ p_X9_heel (M 9) (M 13) (M 14) a1 = some (r, 0, m') ∧ k_Inv m' ∧ ∀ k, (k ≠ 1 ∧ k ≠ 4) → m' k = M 9 k := by
    have same : ∀ v : Int32, ∃ r m', (some (v, M 9 1, M 9 4) : Option (Int32 × Int32 × Int32)) = some (r, m' 1, m' 4) ∧ (some (v, 0, M 9) : Option (Int32 × Int32 × (Nat → Int32))) = some (r, 0, m') ∧ k_Inv m' ∧ ∀ k, (k ≠ 1 ∧ k ≠ 4) → m' k = M 9 k :=
      fun v => ⟨v, M 9, rfl, rfl, hI, fun _ _ => rfl⟩
    have body : ∃ r m', (if M 9 4 = 0 then k_b1 (p_X4_isLost (M 9 2)) fun r3 => if r3 = 0 then k_b1 (p_X8_within (M 9 1 + a1) (-9) 9) fun r5 => if r5 = 0 then some ((-102), M 9 1, M 9 4) else k_b1 (p_X5_rainsIn (S 2) (M 9 0)) fun r7 => k_b1 (p_X4_holds (S 3) (S 14 0) (S 15 0) (S 16) (S 18 0) (S 19 0) (S 21) (S 22) (S 20) (M 9 1 + a1) r7) fun r8 => if r8 = 0 then some ((-102), M 9 1, M 9 4) else some (M 9 1 + a1, M 9 1 + a1, 1) else some ((-102), M 9 1, M 9 4) else some ((-102), M 9 1, M 9 4)) = some (r, m' 1, m' 4) ∧ (k_b1 (p_X9_isLost (M 9)) fun r2 => if r2 = 0 then if (M 9 4) = 1 then some ((-102), 0, M 9) else k_b1 (p_X9_in (((M 9 1) + a1).toInt64) (-9) 9) fun r5 => if r5 = 0 then some ((-102), 0, M 9) else k_b1 (p_X9_rains (M 13) (M 9 0)) fun r7 => k_b1 (p_X9_holds (M 9) (M 14) ((M 9 1) + a1) r7) fun r8 => if r8 = 0 then some ((-102), 0, M 9) else some ((M 9 1) + a1, 0, upd (upd (M 9) 1 ((M 9 1) + a1)) 4 1) else some ((-102), 0, M 9)) = some (r, (0 : Int32), m') ∧ k_Inv m' ∧ ∀ k, (k ≠ 1 ∧ k ≠ 4) → m' k = M 9 k := by
      rw [x_lost, y_lost, eo0, hrn, x_rainsIn hrn2 (by omega), y_rains hrn2 (by omega)]
      simp only [q_b1, q_within, q_in_m9_9, q_ifp]
      by_cases cw : M 9 2 ≤ 100
      · simp only [if_pos cw, if_true]
        rcases q_01 (rg_we hI.1) with b0 | b1
        · simp only [if_pos b0, if_neg (show ¬ M 9 4 = 1 by rw [b0]; decide)]
          by_cases c9 : -9 ≤ M 9 1 + a1 ∧ M 9 1 + a1 ≤ 9
          · simp only [if_pos c9]
            rw [ew, xh, y_holds hI.1 hI.2.2.1 hpos (q_kr c9), q_b1, q_b1, q_ifp, q_ifp]
            cases s_holds (M 9) (M 14) (M 9 1 + a1) (M 13 (min o 95)) with
            | true =>
              refine ⟨M 9 1 + a1, m_heel (M 9) (M 9 1 + a1), ?_, rfl, m_heel_inv hI (q_kr c9), fun k hk => m_heel_at hk⟩
              have z1 : m_heel (M 9) (M 9 1 + a1) 1 = M 9 1 + a1 := by unfold m_heel; simp (disch := omega) only [upd_n, upd_s]
              have z4 : m_heel (M 9) (M 9 1 + a1) 4 = 1 := by unfold m_heel; rw [upd_s]
              rw [z1, z4]; rfl
            | false => exact same _
          · simp only [if_neg c9]; exact same _
        · simp only [if_neg (show ¬ M 9 4 = 0 by rw [b1]; decide), if_pos b1]; exact same _
      · simp only [if_neg cw, show ((1 : Int32) = 0) = False from by decide, if_false]
        by_cases b : M 9 4 = 0
        · simp only [if_pos b]; exact same _
        · simp only [if_neg b]; exact same _
    unfold p_X8_heel p_X9_heel
    rw [e0, e1, e2, e4]
    by_cases c1 : a1 = 1
    · simp only [if_pos c1]; exact body
    · simp only [if_neg c1]
      by_cases c2 : a1 = -1
      · simp only [if_pos c2]; exact body
      · simp only [if_neg c2]; exact same _
  obtain ⟨r, m', g1, g2, gI, g5⟩ := key
  refine ⟨r, k_su (k_su S 5 (fun _ => m' 1)) 9 (fun _ => m' 4), L, k_su (k_su M 0 (fun _ => 0)) 9 m', ?_, ?_, hc, ht, ⟨hrn, hrn2⟩, hru, ⟨⟨e0.trans (g5 0 (by omega)).symm, rfl, e2.trans (g5 2 (by omega)).symm, e5.trans (g5 5 (by omega)).symm, e3.trans (g5 3 (by omega)).symm, rfl, e6.trans (g5 6 (by omega)).symm, e7.trans (g5 7 (by omega)).symm, e8.trans (g5 8 (by omega)).symm, e9.trans (g5 9 (by omega)).symm, eo.trans (congrArg nI (k_out_cong (m := M 9) (g5 10 (by omega)) (fun i hi => g5 _ (by omega)))).symm, ets.trans (g5 10 (by omega)).symm, ew.trans (congrArg nI (k_wh_cong (m := M 9) (g5 11 (by omega)) (fun i hi => g5 _ (by omega)))).symm, eta.trans (g5 11 (by omega)).symm, ess.trans (g5 12 (by omega)).symm⟩, fun i hi => ⟨(hth i hi).1.trans (g5 _ (by omega)).symm, (hth i hi).2.trans (g5 _ (by omega)).symm⟩, fun i hi => ⟨(hta i hi).1.trans (g5 _ (by omega)).symm, (hta i hi).2.1.trans (g5 _ (by omega)).symm, (hta i hi).2.2.trans (g5 _ (by omega)).symm⟩, fun i hi => ⟨(hse i hi).1.trans (g5 _ (by omega)).symm, (hse i hi).2.1.trans (g5 _ (by omega)).symm, (hse i hi).2.2.1.trans (g5 _ (by omega)).symm, (hse i hi).2.2.2.1.trans (g5 _ (by omega)).symm, (hse i hi).2.2.2.2.1.trans (g5 _ (by omega)).symm, (hse i hi).2.2.2.2.2.1.trans (g5 _ (by omega)).symm, (hse i hi).2.2.2.2.2.2.1.trans (g5 _ (by omega)).symm, (hse i hi).2.2.2.2.2.2.2.trans (g5 _ (by omega)).symm⟩, gI⟩, hk0, hk1, hk2, hp⟩
  · unfold pX_heel; rw [g1]; rfl
  · unfold pM_heel; rw [g2]; rfl
theorem upd67_inv {m : Nat → Int32} (h : k_Inv m) {j : Nat} (hj : j < 6) {a : Int32} (ha : a = 0 ∨ a = 1) : k_Inv (upd m (67 + j) a) := by
  refine k_Inv_frame h (k_Rng_upd h.1 ?_) (upd_n (by omega)) (upd_n (by omega)) (upd_n (by omega)) (fun i hi => upd_n (by omega)) (fun i hi => upd_n (by omega)) (fun i hi => ⟨upd_n (by omega), upd_n (by omega), upd_n (by omega)⟩)
  have l67 : ∀ i, i < 6 → k_lo (67 + i) = 0 ∧ k_hi (67 + i) = 1 := by decide
  rw [(l67 j hj).1, (l67 j hj).2]
  rcases ha with e | e <;> rw [e] <;> exact ⟨by decide, by decide⟩
theorem sim_rig : k_Sim_rig R_all := by
  intro S L M a1 a2 hR h2
  obtain ⟨hc, ht, ⟨hrn, hrn2⟩, hru, hs, hk0, hk1, hk2, hp⟩ := hR
  obtain ⟨⟨e0, e1, e2, e5, e3, e4, e6, e7, e8, e9, eo, ets, ew, eta, ess⟩, hth, hta, hse, hI⟩ := hs
  obtain ⟨hrl, hpos⟩ := R_rule_rl hru
  obtain ⟨o, eo0, hoo⟩ := s_hour hI.1
  obtain ⟨e11, hn, -⟩ := s_na_e hI.1
  have key : ∃ r m', p_X8_rig (S 4 0) (S 5 0) (S 18 0) (S 19 0) (S 2) (S 3) (S 14 0) (S 15 0) (S 16) (S 21) (S 22) (S 20) a1 a2 = some (r, nI (k_wh m')) ∧ p_X9_rig (M 9) (M 13) (M 14) a1 a2 = some (r, 0, m') ∧ k_Inv m' ∧ ∀ k, (k < 67 ∨ 73 ≤ k) → m' k = M 9 k := by
    unfold p_X8_rig p_X9_rig
    rw [ew, eta, e0, e1, e11]
    simp only [q_within, q_in_0_c, q_b1, q_ifp]
    by_cases h1 : 0 ≤ a1 ∧ a1 ≤ nI (s_na (M 9)) - 1
    · simp only [if_pos h1]
      obtain ⟨j, hj, rfl⟩ := q_idx (by omega) h1
      simp (disch := omega) only [q_o67, q_ix, q_cl, upd_n]
      have gen : ∀ (a wh' : Int32), (a = 0 ∨ a = 1) → wh' = nI (k_wh (upd (M 9) (67 + j) a)) → ∃ r m', (k_b1 (p_X5_rainsIn (S 2) (M 9 0)) fun r4 => k_b1 (p_X4_holds (S 3) (S 14 0) (S 15 0) (S 16) wh' (nI (s_na (M 9))) (S 21) (S 22) (S 20) (M 9 1) r4) fun r5 => if r5 = 0 then some ((-2), nI (k_wh (M 9))) else k_b1 (p_X8_hasBit (nI (k_wh (M 9))) (nI j)) fun r7 => k_b1 (p_X8_asNumber r7) fun r8 => some (r8, wh')) = some (r, nI (k_wh m')) ∧ (k_b1 (p_X9_rains (M 13) (M 9 0)) fun r6 => k_b1 (p_X9_holds (upd (M 9) (67 + j) a) (M 14) (M 9 1) r6) fun r7 => if r7 = 0 then some ((-2), 0, upd (upd (M 9) (67 + j) a) (67 + j) (M 9 (67 + j))) else some (M 9 (67 + j), 0, upd (M 9) (67 + j) a)) = some (r, (0 : Int32), m') ∧ k_Inv m' ∧ ∀ k, (k < 67 ∨ 73 ≤ k) → m' k = M 9 k := by
        intro a wh' ha hw
        have i1 := upd67_inv hI (j := j) (by omega) ha
        have e1' : upd (M 9) (67 + j) a 1 = M 9 1 := upd_n (by omega)
        have rg := rg_he hI.1
        have n11 : s_na (upd (M 9) (67 + j) a) = s_na (M 9) := s_na_cong (upd_n (by omega))
        rw [eo0, hrn, x_rainsIn hrn2 (by omega), y_rains hrn2 (by omega), q_b1, q_b1, hw, x_holds (ru := M 14) i1.1 i1.2.2.1 hrl (by rw [eo, k_out_cong (m := M 9) (m' := upd (M 9) (67 + j) a) (upd_n (by omega)) (fun i hi => upd_n (by omega))]) (by rw [ets, upd_n (by omega)]) (fun i hi => by rw [(hth i hi).1, upd_n (by omega)]) (by rw [upd_n (by omega), e11]) (fun i hi => by rw [(hta i hi).1, upd_n (by omega)]) (fun i hi => by rw [(hta i hi).2.1, upd_n (by omega)]) (fun i hi => by rw [(hta i hi).2.2, upd_n (by omega)]), y_holds i1.1 i1.2.2.1 hpos rg, q_b1, q_b1, q_ifp, q_ifp]
        cases s_holds (upd (M 9) (67 + j) a) (M 14) (M 9 1) (M 13 (min o 95)) with
        | false =>
          refine ⟨-2, M 9, rfl, ?_, hI, fun _ _ => rfl⟩
          show some ((-2 : Int32), (0 : Int32), upd (upd (M 9) (67 + j) a) (67 + j) (M 9 (67 + j))) = _
          rw [fa_upd_twice, fa_upd_same rfl]
        | true =>
          refine ⟨M 9 (67 + j), upd (M 9) (67 + j) a, ?_, rfl, i1, fun k hk => upd_n (by omega)⟩
          rw [if_pos rfl, q_hasBit _ (by omega), q_b1, q_asNumber, q_b1, k_wh_bt hI.1 (by omega), decide_eq_true hj, Bool.true_and]
          rcases q_01 (rg_wh hI.1 (i := j) (by omega)) with z | z <;> rw [z] <;> rfl
      rcases h2 with rfl | rfl
      · simp only [if_true]
        refine gen 0 _ (Or.inl rfl) ?_
        refine k_wh_of (upd67_inv hI (j := j) (by omega) (Or.inl rfl)).1 fun i hi => ?_
        rw [b_and, bt_not _ hi, bt_one j (by omega) hi, k_wh_bt hI.1 hi, s_na_cong (m := M 9) (upd_n (by omega))]
        by_cases c : i = j
        · subst c; rw [upd_s]; simp
        · rw [upd_n (by omega)]; simp [c]
      · simp only [show ((1 : Int32) = 0) = False from by decide, if_false]
        refine gen 1 _ (Or.inr rfl) ?_
        refine k_wh_of (upd67_inv hI (j := j) (by omega) (Or.inr rfl)).1 fun i hi => ?_
        rw [b_or, bt_one j (by omega) hi, k_wh_bt hI.1 hi, s_na_cong (m := M 9) (upd_n (by omega))]
        by_cases c : i = j
        · subst c; rw [upd_s]; simp [hj]
        · rw [upd_n (by omega)]; simp [c]
    · simp only [if_neg h1]; exact ⟨_, M 9, rfl, rfl, hI, fun _ _ => rfl⟩
  obtain ⟨r, m', g1, g2, gI, g5⟩ := key
  refine ⟨r, k_su S 18 (fun _ => nI (k_wh m')), L, k_su (k_su M 0 (fun _ => 0)) 9 m', ?_, ?_, hc, ht, ⟨hrn, hrn2⟩, hru, ⟨⟨e0.trans (g5 0 (by omega)).symm, e1.trans (g5 1 (by omega)).symm, e2.trans (g5 2 (by omega)).symm, e5.trans (g5 5 (by omega)).symm, e3.trans (g5 3 (by omega)).symm, e4.trans (g5 4 (by omega)).symm, e6.trans (g5 6 (by omega)).symm, e7.trans (g5 7 (by omega)).symm, e8.trans (g5 8 (by omega)).symm, e9.trans (g5 9 (by omega)).symm, eo.trans (congrArg nI (k_out_cong (m := M 9) (g5 10 (by omega)) (fun i hi => g5 _ (by omega)))).symm, ets.trans (g5 10 (by omega)).symm, rfl, eta.trans (g5 11 (by omega)).symm, ess.trans (g5 12 (by omega)).symm⟩, fun i hi => ⟨(hth i hi).1.trans (g5 _ (by omega)).symm, (hth i hi).2.trans (g5 _ (by omega)).symm⟩, fun i hi => ⟨(hta i hi).1.trans (g5 _ (by omega)).symm, (hta i hi).2.1.trans (g5 _ (by omega)).symm, (hta i hi).2.2.trans (g5 _ (by omega)).symm⟩, fun i hi => ⟨(hse i hi).1.trans (g5 _ (by omega)).symm, (hse i hi).2.1.trans (g5 _ (by omega)).symm, (hse i hi).2.2.1.trans (g5 _ (by omega)).symm, (hse i hi).2.2.2.1.trans (g5 _ (by omega)).symm, (hse i hi).2.2.2.2.1.trans (g5 _ (by omega)).symm, (hse i hi).2.2.2.2.2.1.trans (g5 _ (by omega)).symm, (hse i hi).2.2.2.2.2.2.1.trans (g5 _ (by omega)).symm, (hse i hi).2.2.2.2.2.2.2.trans (g5 _ (by omega)).symm⟩, gI⟩, hk0, hk1, hk2, hp⟩
  · unfold pX_rig; rw [g1]; rfl
  · unfold pM_rig; rw [g2]; rfl
