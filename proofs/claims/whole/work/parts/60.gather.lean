/-! ===== the SEAMS that count for a plan ===== -/
def s_g (m : Nat → Int32) : Nat → Nat × (Nat → Nat)
  | 0 => (0, fun _ => 0)
  | i + 1 => if (s_g m i).1 < 5 ∧ ¬ m (145 + i) = 2 then ((s_g m i).1 + 1, fun k => if k = (s_g m i).1 then i else (s_g m i).2 k) else s_g m i
theorem s_g_inv (m : Nat → Int32) : ∀ i, (s_g m i).1 ≤ 5 ∧ (s_g m i).1 ≤ i ∧ (∀ k, k < (s_g m i).1 → (s_g m i).2 k < i ∧ ¬ m (145 + (s_g m i).2 k) = 2) ∧ (∀ a b, a < b → b < (s_g m i).1 → (s_g m i).2 a < (s_g m i).2 b)
  | 0 => ⟨by show 0 ≤ 5; omega, by show 0 ≤ 0; omega, fun k hk => absurd hk (by show ¬ k < 0; omega), fun a b _ hb => absurd hb (by show ¬ b < 0; omega)⟩
  | i + 1 => by
    obtain ⟨h1, h2, h3, h4⟩ := s_g_inv m i
    have e : s_g m (i + 1) = if (s_g m i).1 < 5 ∧ ¬ m (145 + i) = 2 then ((s_g m i).1 + 1, fun k => if k = (s_g m i).1 then i else (s_g m i).2 k) else s_g m i := rfl
    by_cases c : (s_g m i).1 < 5 ∧ ¬ m (145 + i) = 2
    · rw [if_pos c] at e
      rw [e]
      refine ⟨by show (s_g m i).1 + 1 ≤ 5; omega, by show (s_g m i).1 + 1 ≤ i + 1; omega, fun k hk => ?_, fun a b hab hb => ?_⟩
      · have hk' : k < (s_g m i).1 + 1 := hk
        show (if k = (s_g m i).1 then i else (s_g m i).2 k) < i + 1 ∧ ¬ m (145 + (if k = (s_g m i).1 then i else (s_g m i).2 k)) = 2
        by_cases ck : k = (s_g m i).1
        · rw [if_pos ck]; exact ⟨by omega, c.2⟩
        · rw [if_neg ck]
          have := h3 k (by omega)
          exact ⟨by omega, this.2⟩
      · have hb' : b < (s_g m i).1 + 1 := hb
        show (if a = (s_g m i).1 then i else (s_g m i).2 a) < (if b = (s_g m i).1 then i else (s_g m i).2 b)
        rw [if_neg (show ¬ a = (s_g m i).1 by omega)]
        by_cases cb : b = (s_g m i).1
        · rw [if_pos cb]; exact (h3 a (by omega)).1
        · rw [if_neg cb]; exact h4 a b hab (by omega)
    · rw [if_neg c] at e
      rw [e]
      refine ⟨h1, by omega, fun k hk => ?_, h4⟩
      have := h3 k hk
      exact ⟨by omega, this.2⟩
def s_N (m : Nat → Int32) : Nat := (s_g m (s_ns m)).1
def s_c (m : Nat → Int32) : Nat → Nat := (s_g m (s_ns m)).2
theorem s_N_le (m : Nat → Int32) : s_N m ≤ 5 := (s_g_inv m _).1
theorem s_c_lt {m : Nat → Int32} {k : Nat} (hk : k < s_N m) : s_c m k < s_ns m ∧ ¬ m (145 + s_c m k) = 2 := (s_g_inv m _).2.2.1 k hk
theorem s_c_mono {m : Nat → Int32} {a b : Nat} (h : a < b) (hb : b < s_N m) : s_c m a < s_c m b := (s_g_inv m _).2.2.2 a b h hb
theorem y_gather {m : Nat → Int32} (h : k_Rng m) (ct0 : Nat → Int32) : ∃ ct, k_lp (fun s : Int32 × (Nat → Int32) × Int32 => lb_X9_findPlan_7 m s.1 s.2.1 s.2.2) k_fuel (0, ct0, 0) = some (ct, nI (s_N m)) ∧ ∀ k, k < s_N m → ct k = nI (s_c m k) := by
  obtain ⟨e12, hn, -⟩ := s_ns_e h
  obtain ⟨e, he, hE1, hE2⟩ := q_lpI (body := fun s : Int32 × (Nat → Int32) × Int32 => lb_X9_findPlan_7 m s.1 s.2.1 s.2.2) (fun i s => s.1 = nI i ∧ s.2.2 = nI (s_g m i).1 ∧ ∀ k, k < (s_g m i).1 → s.2.1 k = nI ((s_g m i).2 k)) (fun e => e.2 = nI (s_N m) ∧ ∀ k, k < s_N m → e.1 k = nI (s_c m k)) (s_ns m) (fun i s hi hs => by
    obtain ⟨s1, s2, s3⟩ := s
    obtain ⟨q1, q2, q3⟩ := hs
    have q1' : s1 = nI i := q1
    have q2' : s3 = nI (s_g m i).1 := q2
    have q3' : ∀ k, k < (s_g m i).1 → s2 k = nI ((s_g m i).2 k) := q3
    clear q1 q2 q3
    subst q1'; subst q2'
    have h5 := (s_g_inv m i).1
    have e : s_g m (i + 1) = if (s_g m i).1 < 5 ∧ ¬ m (145 + i) = 2 then ((s_g m i).1 + 1, fun k => if k = (s_g m i).1 then i else (s_g m i).2 k) else s_g m i := rfl
    show ∃ X, lb_X9_findPlan_7 m (nI i) s2 (nI (s_g m i).1) = some X ∧ _
    unfold lb_X9_findPlan_7
    rw [e12, q_ifge _ _ hi (by omega)]
    by_cases c5 : 5 ≤ (s_g m i).1
    · rw [if_pos (show (5 : Int32) ≤ nI (s_g m i).1 from nI_le (a := 5) c5 (by omega))]
      rw [if_neg (fun hh => by omega)] at e
      exact ⟨_, rfl, Or.inl ⟨_, rfl, nI_1 i, by rw [e], by rw [e]; exact q3'⟩⟩
    · rw [if_neg (show ¬ (5 : Int32) ≤ nI (s_g m i).1 from nI_ge (b := 5) (by omega) (by omega)), q_o145, q_ix _ (by omega) (by omega), q_cl (by omega)]
      by_cases c2 : m (145 + i) = 2
      · rw [if_pos c2]
        rw [if_neg (fun hh => hh.2 c2)] at e
        exact ⟨_, rfl, Or.inl ⟨_, rfl, nI_1 i, by rw [e], by rw [e]; exact q3'⟩⟩
      · rw [if_neg c2, q_ix _ (by omega) (by omega), q_cl (by omega)]
        rw [if_pos ⟨by omega, c2⟩] at e
        refine ⟨_, rfl, Or.inl ⟨_, rfl, nI_1 i, by rw [e]; exact nI_1 _, ?_⟩⟩
        rw [e]
        intro k hk
        have hk' : k < (s_g m i).1 + 1 := hk
        show upd s2 (s_g m i).1 (nI i) k = nI (if k = (s_g m i).1 then i else (s_g m i).2 k)
        by_cases ck : k = (s_g m i).1
        · rw [if_pos ck, ck, upd_s]
        · rw [if_neg ck, upd_n ck]; exact q3' k (by omega)) (fun s hs => by
    obtain ⟨s1, s2, s3⟩ := s
    obtain ⟨q1, q2, q3⟩ := hs
    have q1' : s1 = nI (s_ns m) := q1
    subst q1'
    refine ⟨(s2, s3), ?_, q2, q3⟩
    show lb_X9_findPlan_7 m (nI (s_ns m)) s2 s3 = _
    unfold lb_X9_findPlan_7
    rw [e12, q_ifle _ _ (Nat.le_refl _) (by omega)]) (0, ct0, 0) ⟨rfl, rfl, fun k hk => absurd hk (by show ¬ k < 0; omega)⟩ (by omega)
  obtain ⟨e1, e2⟩ := e
  have hE1' : e2 = nI (s_N m) := hE1
  subst hE1'
  exact ⟨e1, he, hE2⟩
/-! ===== what lacks, of a SEAM that counts ===== -/
def s_lk (m : Nat → Int32) (s : Nat) : Nat := (if m (145 + s) = 0 then 1 else 0) + (m (109 + s)).toNatClampNeg - (m (157 + s)).toNatClampNeg
theorem s_lk_e {m : Nat → Int32} (h : k_Inv m) {s : Nat} (hs : s < s_ns m) (h2 : ¬ m (145 + s) = 2) : 1 ≤ s_lk m s ∧ s_lk m s ≤ 5 ∧ (if m (145 + s) = 0 then 1 + m (109 + s) - m (157 + s) else 0 + m (109 + s) - m (157 + s)) = nI (s_lk m s) := by
  obtain ⟨e12, hn, e12'⟩ := s_ns_e h.1
  obtain ⟨D, eD, eD2, hD, -⟩ := kr_nI (rg_dn h.1 (i := s) (by omega)) (by decide) (by decide)
  obtain ⟨LL, eL, eL2, hL, -⟩ := kr_nI (rg_lg h.1 (i := s) (by omega)) (by decide) (by decide)
  have sea := h.2.2.2 s (by omega)
  unfold s_lk
  rw [eD, eL, q_cl (by omega), q_cl (by omega)]
  by_cases c0 : m (145 + s) = 0
  · have := sea.1 (by rw [c0]; decide)
    rw [if_pos c0, if_pos c0, show (1 : Int32) = nI 1 from rfl, nI_add, pk_sub (by omega)]
    exact ⟨by omega, by omega, rfl⟩
  · have c1 : m (145 + s) = 1 := by
      obtain ⟨r1, r2⟩ := rg_st h.1 (i := s) (by omega)
      have t0 : (m (145 + s)).toInt ≠ 0 := fun e => c0 (Int32.toInt_inj.mp (by rw [e]; decide))
      have t2 : (m (145 + s)).toInt ≠ 2 := fun e => h2 (Int32.toInt_inj.mp (by rw [e]; decide))
      exact Int32.toInt_inj.mp (by rw [show (1 : Int32).toInt = 1 from by decide]; omega)
    have := sea.2.1 (by rw [c1]; decide)
    rw [if_neg c0, if_neg c0, Int32.zero_add, pk_sub (by omega), Nat.zero_add]
    exact ⟨by omega, by omega, rfl⟩
theorem x_lack {m sta lg dn : Nat → Int32} (h : k_Inv m) (hse : ∀ i, i < 12 → sta i = m (145 + i) ∧ lg i = m (109 + i) ∧ dn i = m (157 + i)) {s : Nat} (hs : s < s_ns m) (h2 : ¬ m (145 + s) = 2) : p_X3_hoursLacking sta lg dn (nI s) = some (nI (s_lk m s)) := by
  have hn := (s_ns_e h.1).2.1
  obtain ⟨-, -, e⟩ := s_lk_e h hs h2
  obtain ⟨z1, z2, z3⟩ := hse s (by omega)
  unfold p_X3_hoursLacking
  simp (disch := omega) only [q_ix, q_cl]
  rw [z1, z2, z3, ← e]
  by_cases c0 : m (145 + s) = 0
  · rw [if_pos c0, if_pos c0]
  · rw [if_neg c0, if_neg c0]
theorem y_hoursFor {m : Nat → Int32} (h : k_Inv m) {s : Nat} (hs : s < s_ns m) (h2 : ¬ m (145 + s) = 2) : p_X9_hoursFor m (nI s) = some (nI (s_lk m s)) := by
  have hn := (s_ns_e h.1).2.1
  obtain ⟨-, -, e⟩ := s_lk_e h hs h2
  unfold p_X9_hoursFor
  simp (disch := omega) only [q_o145, q_o109, q_o157, q_ix, q_cl]
  rw [← e]
  by_cases c0 : m (145 + s) = 0
  · rw [if_pos c0, if_pos c0]
  · rw [if_neg c0, if_neg c0]
/-! ===== the beginnings that may be ===== -/
def s_dry (m rn td : Nat → Int32) (o s j : Nat) : Bool := decide (rn (min (o + j) 95) = 0) && s_bare m td s (o + j)
def s_row (p : Nat → Bool) : Nat → Nat
  | 0 => 0
  | i + 1 => if p i = true then s_row p i + 1 else 0
theorem s_row_le (p : Nat → Bool) : ∀ i, s_row p i ≤ i
  | 0 => Nat.le_refl 0
  | i + 1 => by
    have ih := s_row_le p i
    unfold s_row
    split <;> omega
theorem s_row_iff (p : Nat → Bool) : ∀ (i k : Nat), k ≤ s_row p i ↔ (k ≤ i ∧ ∀ j, i - k ≤ j → j < i → p j = true)
  | 0, k => by
    constructor
    · intro hk
      exact ⟨hk, fun j _ hj => absurd hj (by omega)⟩
    · intro hk; exact hk.1
  | i + 1, k => by
    have ih := s_row_iff p i (k - 1)
    have hle := s_row_le p i
    unfold s_row
    by_cases c : p i = true
    · rw [if_pos c]
      constructor
      · intro hk
        obtain ⟨h1, h2⟩ := ih.mp (by omega)
        refine ⟨by omega, fun j hj1 hj2 => ?_⟩
        by_cases e : j = i
        · subst e; exact c
        · exact h2 j (by omega) (by omega)
      · rintro ⟨h1, h2⟩
        have := ih.mpr ⟨by omega, fun j hj1 hj2 => h2 j (by omega) (by omega)⟩
        omega
    · rw [if_neg c]
      constructor
      · intro hk
        exact ⟨by omega, fun j hj1 hj2 => by omega⟩
      · rintro ⟨h1, h2⟩
        rcases Nat.eq_zero_or_pos k with z | z
        · omega
        · exact absurd (h2 i (by omega) (by omega)) c
theorem q_sa (a b : Int32) : a - b + 1 = a + 1 - b := by
  rw [Int32.sub_eq_add_neg, Int32.sub_eq_add_neg, Int32.add_assoc, Int32.add_assoc, Int32.add_comm (-b) 1]
def s_bgf (p : Nat → Bool) (k i : Nat) (x : Int32) : Int32 := if k ≤ s_row p (i + 1) then x ||| (1 <<< (nI (i + 1 - k) &&& 31)) else x
theorem s_bgf_bt (p : Nat → Bool) (k : Nat) (hk : 1 ≤ k) : ∀ n, n ≤ 6 → ∀ b, b < 32 → bt (q_fold (s_bgf p k) 0 n) b = (decide (b + k ≤ n) && q_all (fun j => p (b + j)) k)
  | 0, _, b, hb => by
    show bt 0 b = _
    rw [b_0, decide_eq_false (by omega), Bool.false_and]
  | n + 1, hn, b, hb => by
    have ih := s_bgf_bt p k hk n (by omega) b hb
    show bt (s_bgf p k n (q_fold (s_bgf p k) 0 n)) b = _
    generalize q_fold (s_bgf p k) 0 n = x at ih ⊢
    unfold s_bgf
    by_cases c : k ≤ s_row p (n + 1)
    · obtain ⟨c1, c2⟩ := (s_row_iff p (n + 1) k).mp c
      rw [if_pos c, b_or, ih, bt_one _ (by omega) hb]
      by_cases e : b = n + 1 - k
      · have hq : q_all (fun j => p (b + j)) k = true := q_all_iff.mpr fun j hj => c2 _ (by omega) (by omega)
        rw [hq, decide_eq_true e, decide_eq_true (show b + k ≤ n + 1 by omega)]; simp
      · rw [decide_eq_false e, Bool.or_false]
        by_cases c3 : b + k ≤ n
        · rw [decide_eq_true c3, decide_eq_true (show b + k ≤ n + 1 by omega)]
        · rw [decide_eq_false c3, decide_eq_false (show ¬ b + k ≤ n + 1 by omega)]
    · rw [if_neg c, ih]
      by_cases c3 : b + k ≤ n
      · rw [decide_eq_true c3, decide_eq_true (show b + k ≤ n + 1 by omega)]
      · rw [decide_eq_false c3, Bool.false_and]
        by_cases c4 : b + k ≤ n + 1
        · have hq : q_all (fun j => p (b + j)) k = false := by
            cases hqq : q_all (fun j => p (b + j)) k with
            | false => rfl
            | true =>
              exfalso
              refine c ((s_row_iff p (n + 1) k).mpr ⟨by omega, fun j h1 h2 => ?_⟩)
              have := q_all_iff.mp hqq (j - b) (by omega)
              have h5 : p (b + (j - b)) = true := this
              rw [show b + (j - b) = j from by omega] at h5
              exact h5
          rw [hq, Bool.and_false]
        · rw [decide_eq_false c4, Bool.false_and]
def s_okb (m rn td : Nat → Int32) (o n s b : Nat) : Bool := decide (b + s_lk m s ≤ n) && q_all (fun j => s_dry m rn td o s (b + j)) (s_lk m s)
theorem x_begins {m rn td sta lg dn sk sd : Nat → Int32} (h : k_Inv m) (hrn : ∀ h, h < 96 → kr (rn h) 0 1) (hse : ∀ i, i < 12 → sk i = m (73 + i) ∧ sd i = m (85 + i) ∧ sta i = m (145 + i) ∧ lg i = m (109 + i) ∧ dn i = m (157 + i)) {o n s : Nat} (ho : o ≤ 96) (hn6 : n ≤ 6) (hs : s < s_ns m) (h2 : ¬ m (145 + s) = 2) : ∃ x, p_X2_beginnings (nI o) (m 1) sta lg dn rn td sk sd (nI s) (nI n) = some x ∧ ∀ b, b < 32 → bt x b = s_okb m rn td o n s b := by
  have hn := (s_ns_e h.1).2.1
  obtain ⟨l1, l5, -⟩ := s_lk_e h hs h2
  have lk := x_lack (sta := sta) (lg := lg) (dn := dn) h (fun i hi => ⟨(hse i hi).2.2.1, (hse i hi).2.2.2.1, (hse i hi).2.2.2.2⟩) hs h2
  refine ⟨q_fold (s_bgf (s_dry m rn td o s) (s_lk m s)) 0 n, ?_, fun b hb => s_bgf_bt _ _ l1 n hn6 b hb⟩
  have key : k_lp (fun t : Int32 × Int32 × Int32 => lb_X2_beginnings_18 (nI n) rn (nI o) (m 1) td sk sd (nI s) (nI (s_lk m s)) t.1 t.2.1 t.2.2) k_fuel (0, 0, 0) = some (q_fold (s_bgf (s_dry m rn td o s) (s_lk m s)) 0 n) := by
    refine q_run (body := fun t : Int32 × Int32 × Int32 => lb_X2_beginnings_18 (nI n) rn (nI o) (m 1) td sk sd (nI s) (nI (s_lk m s)) t.1 t.2.1 t.2.2) (fun i => (q_fold (s_bgf (s_dry m rn td o s) (s_lk m s)) 0 i, nI (s_row (s_dry m rn td o s) i), nI i)) _ n (fun i hi => ?_) ?_ (by omega)
    · show lb_X2_beginnings_18 (nI n) rn (nI o) (m 1) td sk sd (nI s) (nI (s_lk m s)) (q_fold (s_bgf (s_dry m rn td o s) (s_lk m s)) 0 i) (nI (s_row (s_dry m rn td o s) i)) (nI i) = some (.inl (s_bgf (s_dry m rn td o s) (s_lk m s) i (q_fold (s_bgf (s_dry m rn td o s) (s_lk m s)) 0 i), nI (s_row (s_dry m rn td o s) (i + 1)), nI (i + 1)))
      generalize q_fold (s_bgf (s_dry m rn td o s) (s_lk m s)) 0 i = x
      have hrow := s_row_le (s_dry m rn td o s) i
      have er : s_row (s_dry m rn td o s) (i + 1) = if s_dry m rn td o s i = true then s_row (s_dry m rn td o s) i + 1 else 0 := rfl
      unfold lb_X2_beginnings_18 s_bgf
      rw [q_ifge _ _ hi (by omega), nI_add, x_rainsIn hrn (by omega), q_b1, x_isBare (by omega) (by omega) (hse s (by omega)).1 (hse s (by omega)).2.1, q_b1, q_ifp, if_pos (show (0 : Int32) < nI (s_lk m s) from nI_lt (a := 0) l1 (by omega)), er]
      have wet : ¬ s_dry m rn td o s i = true → (some (.inl (x, 0, nI i + 1)) : Option ((Int32 × Int32 × Int32) ⊕ Int32)) = some (.inl ((if s_lk m s ≤ (if s_dry m rn td o s i = true then s_row (s_dry m rn td o s) i + 1 else 0) then x ||| (1 <<< (nI (i + 1 - s_lk m s) &&& 31)) else x), nI (if s_dry m rn td o s i = true then s_row (s_dry m rn td o s) i + 1 else 0), nI (i + 1))) := by
        intro hd
        rw [if_neg hd, if_neg (show ¬ s_lk m s ≤ 0 by omega), nI_1]; rfl
      by_cases cr : rn (min (o + i) 95) = 0
      · rw [if_pos cr]
        by_cases cb : s_bare m td s (o + i) = true
        · have hd : s_dry m rn td o s i = true := by unfold s_dry; rw [decide_eq_true cr, cb]; rfl
          rw [if_pos cb, if_pos hd, nI_1, nI_1, q_sa, nI_1]
          by_cases cl : s_row (s_dry m rn td o s) i + 1 < s_lk m s
          · rw [if_pos (nI_lt cl (by omega)), if_neg (show ¬ s_lk m s ≤ s_row (s_dry m rn td o s) i + 1 by omega)]
          · rw [if_neg (nI_nlt (by omega) (by omega)), if_pos (show s_lk m s ≤ s_row (s_dry m rn td o s) i + 1 by omega), pk_sub (by omega)]
        · rw [if_neg cb]
          exact wet (by unfold s_dry; simp [cb])
      · rw [if_neg cr]
        exact wet (by unfold s_dry; simp [cr])
    · show lb_X2_beginnings_18 (nI n) rn (nI o) (m 1) td sk sd (nI s) (nI (s_lk m s)) _ _ (nI n) = _
      unfold lb_X2_beginnings_18
      rw [q_ifle _ _ (Nat.le_refl _) (by omega)]
  unfold p_X2_beginnings
  rw [lk, q_b1, key, q_b1]
