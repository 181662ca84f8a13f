/-! ===== sizes, sets of bits ===== -/
def s_nt (m : Nat → Int32) : Nat := (m 10).toNatClampNeg
def s_na (m : Nat → Int32) : Nat := (m 11).toNatClampNeg
def s_ns (m : Nat → Int32) : Nat := (m 12).toNatClampNeg
theorem s_nt_e {m : Nat → Int32} (h : k_Rng m) : m 10 = nI (s_nt m) ∧ s_nt m ≤ 12 ∧ (m 10).toInt = (s_nt m : Int) := by
  obtain ⟨n, h1, h2, h3⟩ := q_cnt (N := 12) (rg_nt h) (by decide)
  have e : s_nt m = n := by unfold s_nt; rw [h2, q_cl (by omega)]
  rw [e]; exact ⟨h2, h1, h3⟩
theorem s_na_e {m : Nat → Int32} (h : k_Rng m) : m 11 = nI (s_na m) ∧ s_na m ≤ 6 ∧ (m 11).toInt = (s_na m : Int) := by
  obtain ⟨n, h1, h2, h3⟩ := q_cnt (N := 6) (rg_nk h) (by decide)
  have e : s_na m = n := by unfold s_na; rw [h2, q_cl (by omega)]
  rw [e]; exact ⟨h2, h1, h3⟩
theorem s_ns_e {m : Nat → Int32} (h : k_Rng m) : m 12 = nI (s_ns m) ∧ s_ns m ≤ 12 ∧ (m 12).toInt = (s_ns m : Int) := by
  obtain ⟨n, h1, h2, h3⟩ := q_cnt (N := 12) (rg_ns h) (by decide)
  have e : s_ns m = n := by unfold s_ns; rw [h2, q_cl (by omega)]
  rw [e]; exact ⟨h2, h1, h3⟩
theorem k_out_bt {m : Nat → Int32} (h : k_Rng m) {i : Nat} (hi : i < 32) : bt (nI (k_out m)) i = (decide (i < s_nt m) && decide (m (37 + i) = 0)) := by
  obtain ⟨-, h1, h2⟩ := s_nt_e h
  rw [bt_nI _ hi, k_out, k_bits_tb, h2]
  by_cases c : i < s_nt m
  · simp [c, show i < 12 from by omega]
  · simp [c]
theorem k_wh_bt {m : Nat → Int32} (h : k_Rng m) {i : Nat} (hi : i < 32) : bt (nI (k_wh m)) i = (decide (i < s_na m) && decide (m (67 + i) = 1)) := by
  obtain ⟨-, h1, h2⟩ := s_na_e h
  rw [bt_nI _ hi, k_wh, k_bits_tb, h2]
  by_cases c : i < s_na m
  · simp [c, show i < 6 from by omega]
  · simp [c]
theorem k_out_of {m : Nat → Int32} (h : k_Rng m) {x : Int32} (hx : ∀ i, i < 32 → bt x i = (decide (i < s_nt m) && decide (m (37 + i) = 0))) : x = nI (k_out m) :=
  b_ext fun i hi => by rw [hx i hi, k_out_bt h hi]
theorem k_wh_of {m : Nat → Int32} (h : k_Rng m) {x : Int32} (hx : ∀ i, i < 32 → bt x i = (decide (i < s_na m) && decide (m (67 + i) = 1))) : x = nI (k_wh m) :=
  b_ext fun i hi => by rw [hx i hi, k_wh_bt h hi]
theorem q_in1 {m : Nat → Int32} (h : k_Rng m) {i : Nat} (hi : i < 12) : (m (37 + i) = 0) = (¬ m (37 + i) = 1) := by
  rcases q_01 (rg_in h hi) with e | e <;> simp [e]
theorem q_wh1 {m : Nat → Int32} (h : k_Rng m) {i : Nat} (hi : i < 6) : (m (67 + i) = 0) = (¬ m (67 + i) = 1) := by
  rcases q_01 (rg_wh h hi) with e | e <;> simp [e]
/-! ===== TOTAL ===== -/
def s_wt (m : Nat → Int32) (i : Nat) : Int32 := if m (37 + i) = 1 then m (13 + i) else 0
def s_total (m ru : Nat → Int32) : Int32 := ru 1 + q_sum (s_wt m) (s_nt m)
theorem y_total {m : Nat → Int32} (h : k_Rng m) (ru : Nat → Int32) : p_X9_total ru m = some (s_total m ru) := by
  obtain ⟨e10, hn, -⟩ := s_nt_e h
  have key : k_lp (fun s : Int32 × Int32 => lb_X9_total_9 m s.1 s.2) k_fuel (ru 1, 0) = some (ru 1 + q_sum (s_wt m) (s_nt m)) := by
    refine q_sumlp (s_wt m) (s_nt m) (ru 1) (fun i x hi => ?_) (fun x => ?_) (by omega)
    · show lb_X9_total_9 m x (nI i) = _
      unfold lb_X9_total_9 s_wt
      rw [e10]
      simp (disch := omega) only [q_ifge, q_ifle, q_o5, q_o13, q_o25, q_o37, q_o49, q_o55, q_o61, q_o67, q_o73, q_o85, q_o97, q_o109, q_o121, q_o133, q_o145, q_o157, q_ix, q_cl, q_b1, q_b2, q_hasBit, q_ifp, Nat.le_refl]
      by_cases c : m (37 + i) = 1 <;> simp [c]
    · show lb_X9_total_9 m x (nI (s_nt m)) = _
      unfold lb_X9_total_9
      rw [e10]
      simp (disch := omega) only [q_ifge, q_ifle, q_o5, q_o13, q_o25, q_o37, q_o49, q_o55, q_o61, q_o67, q_o73, q_o85, q_o97, q_o109, q_o121, q_o133, q_o145, q_o157, q_ix, q_cl, q_b1, q_b2, q_hasBit, q_ifp, Nat.le_refl]
  unfold p_X9_total
  rw [key, q_b1]; rfl
theorem x_weightOf {n : Nat} (hn : n ≤ 12) (wt : Nat → Int32) (b : Int32) : p_X7_weightOf (nI n) wt b = some (q_sum (fun i => if bt b i = true then wt i else 0) n) := by
  have key : k_lp (fun s : Int32 × Int32 => lb_X7_weightOf_4 (nI n) b wt s.1 s.2) k_fuel (0, 0) = some (0 + q_sum (fun i => if bt b i = true then wt i else 0) n) := by
    refine q_sumlp _ n 0 (fun i x hi => ?_) (fun x => ?_) (by omega)
    · show lb_X7_weightOf_4 (nI n) b wt x (nI i) = _
      unfold lb_X7_weightOf_4
      simp (disch := omega) only [q_ifge, q_ifle, q_o5, q_o13, q_o25, q_o37, q_o49, q_o55, q_o61, q_o67, q_o73, q_o85, q_o97, q_o109, q_o121, q_o133, q_o145, q_o157, q_ix, q_cl, q_b1, q_b2, q_hasBit, q_ifp, Nat.le_refl]
      by_cases c : bt b i = true <;> simp [c]
    · show lb_X7_weightOf_4 (nI n) b wt x (nI n) = _
      unfold lb_X7_weightOf_4
      simp (disch := omega) only [q_ifge, q_ifle, q_o5, q_o13, q_o25, q_o37, q_o49, q_o55, q_o61, q_o67, q_o73, q_o85, q_o97, q_o109, q_o121, q_o133, q_o145, q_o157, q_ix, q_cl, q_b1, q_b2, q_hasBit, q_ifp, Nat.le_refl]
  unfold p_X7_weightOf
  rw [key, q_b1, Int32.zero_add]
theorem x_total {ru' ru : Nat → Int32} {ot ts : Int32} {wt m : Nat → Int32} (h : k_Rng m) (h1 : ru' 1 = ru 1) (h2 : ot = nI (k_out m)) (h3 : ts = m 10) (h4 : ∀ i, i < 12 → wt i = m (13 + i)) : p_X4_total ru' ot ts wt = some (s_total m ru) := by
  obtain ⟨e10, hn, -⟩ := s_nt_e h
  subst h2
  unfold p_X4_total
  rw [h3, e10, x_weightOf hn, q_b1, h1]
  unfold s_total
  rw [q_sum_cong (f := fun i => if bt (nI (k_out m) ^^^ (-1)) i = true then wt i else 0) (g := s_wt m) (fun i hi => by
    show (if bt (nI (k_out m) ^^^ (-1)) i = true then wt i else 0) = s_wt m i
    rw [bt_not _ (by omega), k_out_bt h (by omega), h4 i (by omega)]
    unfold s_wt
    rcases q_01 (rg_in h (i := i) (by omega)) with e | e <;> simp [e, hi])]
theorem s_total_n {m ru : Nat → Int32} (h : k_Rng m) (hr : kr (ru 1) 100 1000) : ∃ t : Nat, s_total m ru = nI t ∧ 100 ≤ t ∧ t ≤ 2200 := by
  obtain ⟨e10, hn, -⟩ := s_nt_e h
  obtain ⟨u, hu, -, h1, h2⟩ := kr_nI hr (by decide) (by decide)
  have key : ∀ i, i < s_nt m → s_wt m i = nI (s_wt m i).toNatClampNeg ∧ (s_wt m i).toNatClampNeg ≤ 100 := by
    intro i hi
    unfold s_wt
    by_cases c : m (37 + i) = 1
    · rw [if_pos c]
      obtain ⟨w, hw, -, h3, -⟩ := kr_nI (rg_wt h (i := i) (by omega)) (by decide) (by decide)
      rw [hw, q_cl (by omega)]
      exact ⟨rfl, by omega⟩
    · rw [if_neg c]; exact ⟨by decide, by decide⟩
  refine ⟨u + fb_sm (fun i => (s_wt m i).toNatClampNeg) (s_nt m), ?_, by omega, ?_⟩
  · unfold s_total
    rw [hu, q_sum_nat (fun i hi => (key i hi).1), nI_add]
  · have := fb_sm_bound (f := fun i => (s_wt m i).toNatClampNeg) (c := 100) (n := s_nt m) (fun k hk => (key k hk).2)
    omega
/-! ===== FORCE ===== -/
def s_force (m ru : Nat → Int32) (a : Int32) : Int32 := (s_total m ru * (if 0 ≤ a then a else -a)) / 10
theorem y_force {m : Nat → Int32} (h : k_Rng m) (ru : Nat → Int32) (a : Int32) : p_X9_force ru m a = some (s_force m ru a) := by
  unfold p_X9_force s_force
  rw [y_total h, q_b1]
  by_cases c : 0 ≤ a <;> simp only [c, if_true, if_false]
theorem x_force {ru' ru : Nat → Int32} {ot ts : Int32} {wt m : Nat → Int32} (h : k_Rng m) (h1 : ru' 1 = ru 1) (h2 : ot = nI (k_out m)) (h3 : ts = m 10) (h4 : ∀ i, i < 12 → wt i = m (13 + i)) (a : Int32) : p_X4_force ru' ot ts wt a = some (s_force m ru a) := by
  unfold p_X4_force s_force
  rw [x_total h h1 h2 h3 h4, q_b1, Int32.zero_sub]
theorem s_abs {a : Int32} (h : kr a (-9) 9) : ∃ k : Nat, (if 0 ≤ a then a else -a) = nI k ∧ k ≤ 9 ∧ (k : Int) = a.toInt.natAbs := by
  obtain ⟨h1, h2⟩ := h
  refine ⟨a.toInt.natAbs, ?_, by omega, rfl⟩
  apply Int32.toInt_inj.mp
  rw [q_ti (by omega)]
  by_cases c : 0 ≤ a
  · rw [if_pos c]
    rw [Int32.le_iff_toInt_le] at c
    have : (0 : Int32).toInt = 0 := by decide
    omega
  · rw [if_neg c, fb_negI (by omega)]
    rw [Int32.le_iff_toInt_le] at c
    have : (0 : Int32).toInt = 0 := by decide
    omega
theorem s_force_n {m ru : Nat → Int32} (h : k_Rng m) (hr : kr (ru 1) 100 1000) {a : Int32} (ha : kr a (-9) 9) : ∃ f : Nat, s_force m ru a = nI f ∧ f ≤ 1980 ∧ (f = 0 ↔ a = 0) := by
  obtain ⟨t, ht, h1, h2⟩ := s_total_n h hr
  obtain ⟨k, hk, h3, h4⟩ := s_abs ha
  have hb : t * k ≤ 2200 * 9 := Nat.mul_le_mul h2 h3
  refine ⟨t * k / 10, ?_, by omega, ?_⟩
  · unfold s_force
    rw [ht, hk, pk_mul, show (10 : Int32) = nI 10 from rfl, pk_div (by omega) (by omega) (by omega)]
  · have e : a = 0 ↔ k = 0 := by
      rw [← Int32.toInt_inj, show (0 : Int32).toInt = 0 from by decide]
      omega
    rw [e]
    constructor
    · intro hz
      rcases Nat.eq_zero_or_pos k with hk0 | hk0
      · exact hk0
      · have : 100 * 1 ≤ t * k := Nat.mul_le_mul h1 hk0
        omega
    · intro hz; subst hz; simp
/-! ===== how many are WHOLE, what each takes ===== -/
def s_W (m : Nat → Int32) : Nat := fb_ct (fun i => decide (m (67 + i) = 1)) (s_na m)
theorem s_W_le {m : Nat → Int32} (h : k_Rng m) : s_W m ≤ 6 := Nat.le_trans (fb_ct_le _ _) (s_na_e h).2.1
theorem y_wholes {m : Nat → Int32} (h : k_Rng m) : p_X9_wholes m = some (nI (s_W m)) := by
  obtain ⟨e11, hn, -⟩ := s_na_e h
  have key : k_lp (fun s : Int32 × Int32 => lb_X9_wholes_4 m s.1 s.2) k_fuel (0, 0) = some (0 + q_sum (fun i => m (67 + i)) (s_na m)) := by
    refine q_sumlp _ (s_na m) 0 (fun i x hi => ?_) (fun x => ?_) (by omega)
    · show lb_X9_wholes_4 m x (nI i) = _
      unfold lb_X9_wholes_4
      rw [e11]
      simp (disch := omega) only [q_ifge, q_ifle, q_o5, q_o13, q_o25, q_o37, q_o49, q_o55, q_o61, q_o67, q_o73, q_o85, q_o97, q_o109, q_o121, q_o133, q_o145, q_o157, q_ix, q_cl, q_b1, q_b2, q_hasBit, q_ifp, Nat.le_refl]
    · show lb_X9_wholes_4 m x (nI (s_na m)) = _
      unfold lb_X9_wholes_4
      rw [e11]
      simp (disch := omega) only [q_ifge, q_ifle, q_o5, q_o13, q_o25, q_o37, q_o49, q_o55, q_o61, q_o67, q_o73, q_o85, q_o97, q_o109, q_o121, q_o133, q_o145, q_o157, q_ix, q_cl, q_b1, q_b2, q_hasBit, q_ifp, Nat.le_refl]
  unfold p_X9_wholes
  rw [key, q_b1, Int32.zero_add, q_sum_cnt (p := fun i => decide (m (67 + i) = 1)) (fun i hi => by
    rcases q_01 (rg_wh h (i := i) (by omega)) with e | e <;> simp [e])]
  rfl
theorem x_count {m : Nat → Int32} (h : k_Rng m) : p_J6_bitCount_0f7a4 (nI (k_wh m)) = some (nI (s_W m)) := by
  obtain ⟨e11, hn, -⟩ := s_na_e h
  exact q_bitCount (by omega) (fun i hi => k_wh_bt h hi)
theorem k_wh_0 {m : Nat → Int32} (h : k_Rng m) : (nI (k_wh m) = 0) = (s_W m = 0) := by
  refine propext ⟨fun e => ?_, fun e => ?_⟩
  · unfold s_W
    rw [fb_ct_zero]
    intro i hi
    have h2 := k_wh_bt h (i := i) (by have := (s_na_e h).2.1; omega)
    rw [e, b_0, decide_eq_true hi, Bool.true_and] at h2
    exact h2.symm
  · unfold s_W at e
    rw [fb_ct_zero] at e
    refine b_ext fun i hi => ?_
    rw [k_wh_bt h hi, b_0]
    by_cases c : i < s_na m
    · rw [e i c, Bool.and_false]
    · simp [c]
def s_share (m : Nat → Int32) (F : Int32) : Int32 := if s_W m = 0 then 0 else (F + nI (s_W m) - 1) / nI (s_W m)
theorem x_share {m : Nat → Int32} (h : k_Rng m) (F : Int32) : p_X6_share (nI (k_wh m)) F = some (s_share m F) := by
  have hw := s_W_le h
  unfold p_X6_share p_X8_roundedUp s_share
  rw [x_count h, q_b1]
  rcases Nat.eq_zero_or_pos (s_W m) with e | e
  · rw [e, if_neg (by decide), if_pos rfl, q_b1]
  · rw [if_pos (by show nI 0 < _; rw [q_ltI (by omega) (by omega)]; exact e), if_neg (by omega), q_ck _ (nI_ne0 e (by omega)), q_b1]
theorem y_takes {m : Nat → Int32} (h : k_Rng m) (ru : Nat → Int32) (a : Int32) : p_X9_takes m ru a = some (s_share m (s_force m ru a)) := by
  have hw := s_W_le h
  unfold p_X9_takes p_X9_up s_share
  rw [y_wholes h, q_b1]
  rcases Nat.eq_zero_or_pos (s_W m) with e | e
  · rw [e, if_pos (show nI 0 = 0 from rfl), if_pos rfl]
  · rw [if_neg (nI_ne0 e (by omega)), if_neg (by omega), y_force h, q_b1, q_ck _ (nI_ne0 e (by omega)), q_b1]
/-- rounded up, among numbers that are not negative -/
theorem q_up {a b : Nat} (ha : a ≤ 1000000) (h0 : 0 < b) (hb : b ≤ 1000) : (nI a + nI b - 1) / nI b = nI ((a + b - 1) / b) := by
  rw [nI_add, show (1 : Int32) = nI 1 from rfl, pk_sub (by omega), pk_div (by omega) h0 (by omega)]
theorem q_up_le {a b : Nat} (h0 : 0 < b) : (a + b - 1) / b ≤ a := by
  rcases Nat.eq_zero_or_pos a with e | e
  · subst e
    rw [Nat.div_eq_of_lt (by omega)]; omega
  · have : (a + b - 1) / b < a + 1 := by
      rw [Nat.div_lt_iff_lt_mul h0]
      have : a * b + b = (a + 1) * b := by rw [Nat.succ_mul]
      have : a * 1 ≤ a * b := Nat.mul_le_mul_left a h0
      have : 1 * b ≤ a * b := Nat.mul_le_mul_right b e
      omega
    omega
theorem q_up_0 {b : Nat} (h0 : 0 < b) : (0 + b - 1) / b = 0 := Nat.div_eq_of_lt (by omega)
theorem s_share_n {m : Nat → Int32} (h : k_Rng m) {f : Nat} (hf : f ≤ 1980) : ∃ s : Nat, s_share m (nI f) = nI s ∧ s ≤ f ∧ (f = 0 → s = 0) ∧ (s_W m = 0 → s = 0) := by
  have hw := s_W_le h
  unfold s_share
  rcases Nat.eq_zero_or_pos (s_W m) with e | e
  · exact ⟨0, by rw [if_pos e]; rfl, by omega, fun _ => rfl, fun _ => rfl⟩
  · refine ⟨(f + s_W m - 1) / s_W m, ?_, q_up_le e, fun hz => ?_, fun hz => by omega⟩
    · rw [if_neg (by omega), q_up (by omega) e (by omega)]
    · subst hz; exact q_up_0 e
