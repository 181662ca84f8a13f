/-! ===== one set of THINGS ===== -/
def s_okt (m : Nat → Int32) (k t : Nat) : Bool := !k.testBit t || (decide (m (37 + t) = 0) && (decide (m (25 + t) < 0) || decide (m (37 + (m (25 + t)).toNatClampNeg) = 1) || k.testBit (m (25 + t)).toNatClampNeg))
def s_ok2 (m : Nat → Int32) (k : Nat) : Bool := q_all (s_okt m k) (s_nt m)
def s_cn (m : Nat → Int32) (k : Nat) : Nat := fb_ct (fun t => k.testBit t) (s_nt m)
def s_ws (m : Nat → Int32) (k : Nat) : Int32 := q_sum (fun t => if k.testBit t = true then m (13 + t) else 0) (s_nt m)
theorem y_set {m : Nat → Int32} (h : k_Inv m) {k : Nat} (hk : k < 4096) (T : Int32) : k_lp (fun s : Int32 × Int32 × Int32 × Int32 => lb_X9_findFloat_264 m (nI k) s.1 s.2.1 s.2.2.1 s.2.2.2) k_fuel (1, T, 0, 0) = some ((if s_ok2 m k = true then 1 else 0), T + s_ws m k, nI (s_cn m k)) := by
  obtain ⟨e10, hn, -⟩ := s_nt_e h.1
  have := q_run (body := fun s : Int32 × Int32 × Int32 × Int32 => lb_X9_findFloat_264 m (nI k) s.1 s.2.1 s.2.2.1 s.2.2.2) (fun i => ((if q_all (s_okt m k) i = true then (1 : Int32) else 0), T + q_sum (fun t => if k.testBit t = true then m (13 + t) else 0) i, nI (fb_ct (fun t => k.testBit t) i), nI i)) ((if s_ok2 m k = true then 1 else 0), T + s_ws m k, nI (s_cn m k)) (s_nt m) (fun i hi => by
    show lb_X9_findFloat_264 m (nI k) (if q_all (s_okt m k) i = true then (1 : Int32) else 0) (T + q_sum (fun t => if k.testBit t = true then m (13 + t) else 0) i) (nI (fb_ct (fun t => k.testBit t) i)) (nI i) = some (.inl ((if (q_all (s_okt m k) i && s_okt m k i) = true then (1 : Int32) else 0), T + (q_sum (fun t => if k.testBit t = true then m (13 + t) else 0) i + (if k.testBit i = true then m (13 + i) else 0)), nI (fb_ct (fun t => k.testBit t) i + (if k.testBit i = true then 1 else 0)), nI (i + 1)))
    generalize q_all (s_okt m k) i = bq
    unfold lb_X9_findFloat_264 lj_X9_findFloat_352
    rw [e10, q_ifge _ _ hi (by omega), ← Int32.add_assoc, nI_succ]
    simp only [q_bit1 (nI k) (show i < 32 by omega), bt_nI k (show i < 32 by omega)]
    unfold s_okt
    by_cases cb : k.testBit i = true
    · simp only [if_pos cb]
      simp (disch := omega) only [q_o13, q_o25, q_o37, q_ix, q_cl]
      rw [nI_1]
      cases bq with
      | false => simp [cb]
      | true =>
        rw [if_neg (show ¬ (if true = true then (1 : Int32) else 0) = 0 by decide)]
        by_cases c0 : m (37 + i) = 0
        · rcases q_und2 h hi with e | ⟨u, hu, e⟩
          · simp [c0, e, cb]
          · rw [if_pos c0, e, if_neg (nI_pos (by omega)), q_o37, q_ix _ (by omega) (by omega), q_cl (by omega), q_cl (by omega)]
            simp only [q_bit1 (nI k) (show u < 32 by omega), bt_nI k (show u < 32 by omega)]
            have hneg : ¬ nI u < 0 := nI_pos (by omega)
            by_cases c1 : m (37 + u) = 1
            · simp [c0, c1, cb, hneg]
            · by_cases c2 : k.testBit u = true <;> simp [c0, c1, c2, cb, hneg]
        · simp [c0, cb]
    · simp [cb, nI_1]) (by
    show lb_X9_findFloat_264 m (nI k) _ _ _ (nI (s_nt m)) = _
    unfold lb_X9_findFloat_264
    rw [e10, q_ifle _ _ (Nat.le_refl _) (by omega)]; rfl) (by omega)
  have h0 : ((if q_all (s_okt m k) 0 = true then (1 : Int32) else 0), T + q_sum (fun t => if k.testBit t = true then m (13 + t) else 0) 0, nI (fb_ct (fun t => k.testBit t) 0), nI 0) = (1, T, 0, 0) := by
    show ((1 : Int32), T + 0, nI 0, nI 0) = _
    rw [Int32.add_zero]; rfl
  rw [← h0]; exact this
/-! ===== the first HOUR in which she floats ===== -/
def s_flo (ru td : Nat → Int32) (all : Int32) (o : Nat) : Bool := decide (¬ all < ru 2) && decide (¬ td (min o 95) < all / 20 + ru 0)
theorem y_floats (ru td : Nat → Int32) (all : Int32) {o : Nat} (ho : o < 1000) : p_X9_floats ru td (nI o) all = some (if s_flo ru td all o = true then 1 else 0) := by
  unfold p_X9_floats s_flo
  rw [y_tideIn td ho, q_b1]
  by_cases c1 : all < ru 2
  · simp [c1]
  · by_cases c2 : td (min o 95) < all / 20 + ru 0 <;> simp [c1, c2]
def s_fh (ru td : Nat → Int32) (all : Int32) (fr : Nat) : Option Nat := q_find (fun d => if s_flo ru td all (fr + d) = true then some (fr + d) else none) (96 - fr)
theorem s_fh_lt {ru td : Nat → Int32} {all : Int32} {fr o : Nat} (h : s_fh ru td all fr = some o) : fr ≤ o ∧ o < 96 ∧ s_flo ru td all o = true ∧ ∀ j, fr ≤ j → j < o → s_flo ru td all j = false := by
  obtain ⟨d, hd, h1, h2⟩ := q_find_some.mp h
  by_cases c : s_flo ru td all (fr + d) = true
  · rw [if_pos c] at h1
    cases h1
    refine ⟨by omega, by omega, c, fun j hj1 hj2 => ?_⟩
    have := h2 (j - fr) (by omega)
    rw [show fr + (j - fr) = j from by omega] at this
    cases hb : s_flo ru td all j with
    | false => rfl
    | true => rw [hb] at this; cases this
  · rw [if_neg c] at h1; cases h1
theorem s_fh_no {ru td : Nat → Int32} {all : Int32} {fr : Nat} (h : s_fh ru td all fr = none) : ∀ j, fr ≤ j → j < 96 → s_flo ru td all j = false := by
  intro j h1 h2
  have := q_find_none.mp h (j - fr) (by omega)
  rw [show fr + (j - fr) = j from by omega] at this
  cases hb : s_flo ru td all j with
  | false => rfl
  | true => rw [hb] at this; cases this
/-- the better of what stands and one more -/
def s_up (b : Nat × Nat) (k : Nat) : Option Nat → Nat × Nat
  | none => b
  | some o => if o < b.1 then (o, k) else b
theorem s_up_some (b : Nat × Nat) (k o : Nat) : s_up b k (some o) = if o < b.1 then (o, k) else b := rfl
theorem y_hours {ru td : Nat → Int32} {all ls0 : Int32} {k fr : Nat} (hfr : fr ≤ 200) {b : Nat × Nat} (hb : b.1 ≤ 96) : k_lp (fun s : Int32 × Int32 × Int32 × Int32 => lb_X9_findFloat_405 1 ru td all (nI k) s.1 s.2.1 s.2.2.1 s.2.2.2) k_fuel (nI fr, 0, (if b.1 = 96 then -4 else nI b.1), (if b.1 = 96 then ls0 else nI b.2)) = some ((if (s_up b k (s_fh ru td all fr)).1 = 96 then -4 else nI (s_up b k (s_fh ru td all fr)).1), (if (s_up b k (s_fh ru td all fr)).1 = 96 then ls0 else nI (s_up b k (s_fh ru td all fr)).2)) := by
  have stop : ∀ o x y : Int32, (96 ≤ o ∨ True) → lb_X9_findFloat_405 1 ru td all (nI k) o 1 x y = some (.inr (x, y)) := by
    intro o x y _
    unfold lb_X9_findFloat_405
    by_cases c : 96 ≤ o
    · rw [if_pos c]
    · rw [if_neg c, if_neg (by decide), if_neg (by decide)]
  have none' : ∀ o : Nat, o < 96 → s_flo ru td all o = false → ∀ x y : Int32, lb_X9_findFloat_405 1 ru td all (nI k) (nI o) 0 x y = some (.inl (nI (o + 1), 0, x, y)) := by
    intro o ho hf x y
    unfold lb_X9_findFloat_405 lj_X9_findFloat_466
    rw [if_neg (show ¬ (96 : Int32) ≤ nI o from nI_ge (b := 96) ho (by omega)), if_neg (by decide), if_pos rfl, y_floats ru td all (by omega), q_b1, hf, nI_1]; rfl
  have yes' : ∀ o : Nat, o < 96 → s_flo ru td all o = true → lb_X9_findFloat_405 1 ru td all (nI k) (nI o) 0 (if b.1 = 96 then -4 else nI b.1) (if b.1 = 96 then ls0 else nI b.2) = some (.inl (nI (o + 1), 1, (if (s_up b k (some o)).1 = 96 then -4 else nI (s_up b k (some o)).1), (if (s_up b k (some o)).1 = 96 then ls0 else nI (s_up b k (some o)).2))) := by
    intro o ho hf
    rw [s_up_some]
    unfold lb_X9_findFloat_405 lj_X9_findFloat_466
    rw [if_neg (show ¬ (96 : Int32) ≤ nI o from nI_ge (b := 96) ho (by omega)), if_neg (by decide), if_pos rfl, y_floats ru td all (by omega), q_b1, hf, nI_1, if_neg (by decide)]
    by_cases c96 : b.1 = 96
    · rw [if_pos c96, if_pos rfl, if_pos (show o < b.1 by omega)]
      simp only [if_neg (show ¬ o = 96 by omega)]
    · have hne : ¬ nI b.1 = -4 := by
        intro e
        have := congrArg Int32.toInt e
        rw [q_ti (by omega), show (-4 : Int32).toInt = -4 from by decide] at this
        omega
      rw [if_neg c96, if_neg hne]
      by_cases c : b.1 ≤ o
      · rw [if_pos (nI_le c (by omega)), if_neg (show ¬ o < b.1 by omega), if_neg c96, if_neg c96]
      · rw [if_neg (nI_ge (by omega) (by omega)), if_pos (show o < b.1 by omega)]
        simp only [if_neg (show ¬ o = 96 by omega)]
  have gen : ∀ d o F : Nat, o + d = 96 → d + 2 < F → fr ≤ o → (∀ j, fr ≤ j → j < o → s_flo ru td all j = false) → k_lp (fun s : Int32 × Int32 × Int32 × Int32 => lb_X9_findFloat_405 1 ru td all (nI k) s.1 s.2.1 s.2.2.1 s.2.2.2) F (nI o, 0, (if b.1 = 96 then -4 else nI b.1), (if b.1 = 96 then ls0 else nI b.2)) = some ((if (s_up b k (s_fh ru td all fr)).1 = 96 then -4 else nI (s_up b k (s_fh ru td all fr)).1), (if (s_up b k (s_fh ru td all fr)).1 = 96 then ls0 else nI (s_up b k (s_fh ru td all fr)).2)) := by
    intro d
    induction d with
    | zero =>
      intro o F h1 h2 h3 h4
      obtain ⟨F, rfl⟩ : ∃ f, F = f + 1 := ⟨F - 1, by omega⟩
      have e : s_fh ru td all fr = none := by
        unfold s_fh
        rw [q_find_none]
        intro j hj
        rw [h4 (fr + j) (by omega) (by omega)]; rfl
      rw [e]
      unfold k_lp
      have : lb_X9_findFloat_405 1 ru td all (nI k) (nI o) 0 (if b.1 = 96 then -4 else nI b.1) (if b.1 = 96 then ls0 else nI b.2) = some (.inr ((if b.1 = 96 then -4 else nI b.1), (if b.1 = 96 then ls0 else nI b.2))) := by
        unfold lb_X9_findFloat_405
        rw [show o = 96 from by omega, if_pos (by decide)]
      rw [this]; rfl
    | succ d ih =>
      intro o F h1 h2 h3 h4
      obtain ⟨F, rfl⟩ : ∃ f, F = f + 1 := ⟨F - 1, by omega⟩
      cases hf : s_flo ru td all o with
      | false =>
        unfold k_lp
        rw [none' o (by omega) hf]
        exact ih (o + 1) F (by omega) (by omega) (by omega) (fun j h5 h6 => by
          by_cases e : j = o
          · subst e; exact hf
          · exact h4 j h5 (by omega))
      | true =>
        have e : s_fh ru td all fr = some o := by
          unfold s_fh
          rw [q_find_some]
          refine ⟨o - fr, by omega, ?_, fun j hj => ?_⟩
          · rw [show fr + (o - fr) = o from by omega, hf]; rfl
          · rw [h4 (fr + j) (by omega) (by omega)]; rfl
        rw [e]
        unfold k_lp
        rw [yes' o (by omega) hf]
        obtain ⟨F, rfl⟩ : ∃ f, F = f + 1 := ⟨F - 1, by omega⟩
        show k_lp (fun s : Int32 × Int32 × Int32 × Int32 => lb_X9_findFloat_405 1 ru td all (nI k) s.1 s.2.1 s.2.2.1 s.2.2.2) (F + 1) _ = _
        unfold k_lp
        rw [stop _ _ _ (Or.inr trivial)]
  by_cases c : fr ≤ 96
  · exact gen (96 - fr) fr k_fuel (by omega) (by show _ < 100000; omega) (Nat.le_refl _) (fun j h1 h2 => by omega)
  · have e : s_fh ru td all fr = none := by
      unfold s_fh
      rw [show 96 - fr = 0 from by omega]; rfl
    rw [e]
    show k_lp _ (99999 + 1) _ = _
    unfold k_lp
    have : lb_X9_findFloat_405 1 ru td all (nI k) (nI fr) 0 (if b.1 = 96 then -4 else nI b.1) (if b.1 = 96 then ls0 else nI b.2) = some (.inr ((if b.1 = 96 then -4 else nI b.1), (if b.1 = 96 then ls0 else nI b.2))) := by
      unfold lb_X9_findFloat_405
      rw [if_pos (show (96 : Int32) ≤ nI fr from nI_le (a := 96) (by omega) (by omega))]
    rw [this]; rfl
/-- the class's first hour, against what stands -/
theorem x_first2 {ru ru' td : Nat → Int32} {all th0 : Int32} {k fr : Nat} (hfr : fr ≤ 200) (h0 : ru' 0 = ru 0) (h2 : ru' 2 = ru 2) {b : Nat × Nat} (hb : b.1 ≤ 96) : (k_b1 (p_X0_firstHour (nI b.1) ru' td all (nI fr)) fun r35 => p_X0_takeIfSooner (nI b.1) (if b.1 = 96 then th0 else nI b.2) (nI k) r35) = some (nI (s_up b k (s_fh ru td all fr)).1, (if (s_up b k (s_fh ru td all fr)).1 = 96 then th0 else nI (s_up b k (s_fh ru td all fr)).2)) := by
  have take : ∀ o : Nat, o ≤ 1000 → p_X0_takeIfSooner (nI b.1) (if b.1 = 96 then th0 else nI b.2) (nI k) (nI o) = some (if o < b.1 then (nI o, nI k) else (nI b.1, (if b.1 = 96 then th0 else nI b.2))) := by
    intro o ho
    unfold p_X0_takeIfSooner
    by_cases c : b.1 ≤ o
    · rw [if_pos (nI_le c (by omega)), if_neg (show ¬ o < b.1 by omega)]
    · rw [if_neg (nI_ge (by omega) (by omega)), if_pos (show o < b.1 by omega)]
  unfold p_X0_firstHour p_X5_tideNeeded p_X8_draught
  rw [h0, h2, q_b1]
  by_cases cb : ru 2 ≤ all
  · rw [if_pos cb, q_b1]
    have nlt : ¬ all < ru 2 := fun hh => absurd cb (q_nle.mpr hh)
    have fl : ∀ o, s_flo ru td all o = decide (¬ td (min o 95) < all / 20 + ru 0) := fun o => by unfold s_flo; simp [nlt]
    have gen : ∀ d o F : Nat, o + d = max fr b.1 → d < F → fr ≤ o → (∀ j, fr ≤ j → j < o → s_flo ru td all j = false) → ∃ q : Nat, k_lp (fun s : Int32 => lb_X0_firstHour_23 (nI b.1) td (all / 20 + ru 0) s) F (nI o) = some (nI q) ∧ fr ≤ q ∧ (∀ j, fr ≤ j → j < q → s_flo ru td all j = false) ∧ (b.1 ≤ q ∨ s_flo ru td all q = true) ∧ q ≤ max fr b.1 := by
      intro d
      induction d with
      | zero =>
        intro o F h1 h2 h3 h4
        obtain ⟨F, rfl⟩ : ∃ f, F = f + 1 := ⟨F - 1, by omega⟩
        refine ⟨o, ?_, h3, h4, Or.inl (by omega), by omega⟩
        unfold k_lp lb_X0_firstHour_23
        rw [if_pos (nI_le (by omega) (by omega))]
      | succ d ih =>
        intro o F h1 h2 h3 h4
        obtain ⟨F, rfl⟩ : ∃ f, F = f + 1 := ⟨F - 1, by omega⟩
        by_cases c : b.1 ≤ o
        · refine ⟨o, ?_, h3, h4, Or.inl c, by omega⟩
          unfold k_lp lb_X0_firstHour_23
          rw [if_pos (nI_le c (by omega))]
        · cases hf : s_flo ru td all o with
          | true =>
            refine ⟨o, ?_, h3, h4, Or.inr hf, by omega⟩
            rw [fl] at hf
            unfold k_lp lb_X0_firstHour_23
            rw [if_neg (nI_ge (by omega) (by omega)), x_tideIn td (by omega), q_b1, if_pos (q_nlt.mp (of_decide_eq_true hf))]
          | false =>
            obtain ⟨q, q1, q2⟩ := ih (o + 1) F (by omega) (by omega) (by omega) (fun j h5 h6 => by
              by_cases e : j = o
              · subst e; exact hf
              · exact h4 j h5 (by omega))
            refine ⟨q, ?_, q2⟩
            rw [fl] at hf
            have hlt : td (min o 95) < all / 20 + ru 0 := Classical.byContradiction fun hh => by
              rw [decide_eq_true hh] at hf; cases hf
            have st : lb_X0_firstHour_23 (nI b.1) td (all / 20 + ru 0) (nI o) = some (.inl (nI (o + 1))) := by
              unfold lb_X0_firstHour_23
              rw [if_neg (nI_ge (by omega) (by omega)), x_tideIn td (by omega), q_b1, if_neg (q_nle.mpr hlt), nI_1]
            unfold k_lp
            rw [st]
            exact q1
    obtain ⟨q, q1, q2, q3, q4, q5⟩ := gen (max fr b.1 - fr) fr k_fuel (by omega) (by show _ < 100000; omega) (Nat.le_refl _) (fun j h1 h2 => by omega)
    rw [q1, q_b1, q_b1, take q (by omega)]
    cases hs : s_fh ru td all fr with
    | none =>
      have no := s_fh_no hs
      have : ¬ q < b.1 := fun hh => by
        rcases q4 with h4 | h4
        · omega
        · rw [no q q2 (by omega)] at h4; cases h4
      rw [if_neg this]; rfl
    | some o =>
      obtain ⟨o1, o2, o3, o4⟩ := s_fh_lt hs
      rw [s_up_some]
      by_cases c : o < b.1
      · have e : q = o := by
          rcases Nat.lt_trichotomy q o with h | h | h
          · rcases q4 with h4 | h4
            · omega
            · rw [o4 q q2 h] at h4; cases h4
          · exact h
          · rw [q3 o o1 h] at o3; cases o3
        rw [e, if_pos c, if_pos c]
        simp only [if_neg (show ¬ o = 96 by omega)]
      · have : ¬ q < b.1 := fun hh => by
          rcases q4 with h4 | h4
          · omega
          · rcases Nat.lt_or_ge q o with h | h
            · rw [o4 q q2 h] at h4; cases h4
            · omega
        rw [if_neg this, if_neg c]
  · rw [if_neg cb, q_b1]
    have e : s_fh ru td all fr = none := by
      unfold s_fh
      rw [q_find_none]
      intro j hj
      have : s_flo ru td all (fr + j) = false := by unfold s_flo; simp [q_nle.mp cb]
      rw [this]; rfl
    rw [e, show (96 : Int32) = nI 96 from rfl, take 96 (by omega), if_neg (show ¬ 96 < b.1 by omega)]; rfl
