/-! ===== the best set ===== -/
def s_fr (m : Nat → Int32) (o U k : Nat) : Nat := max (o + s_cn m k) U
def s_res (m ru td : Nat → Int32) (o U k : Nat) : Option Nat := if s_ok2 m k = true then s_fh ru td (s_total m ru + s_ws m k) (s_fr m o U k) else none
def s_best (m ru td : Nat → Int32) (o U : Nat) : Nat → Nat × Nat
  | 0 => (96, 0)
  | k + 1 => s_up (s_best m ru td o U k) k (s_res m ru td o U k)
theorem s_best_le (m ru td : Nat → Int32) (o U : Nat) : ∀ k, (s_best m ru td o U k).1 ≤ 96 ∧ (s_best m ru td o U k).2 ≤ k
  | 0 => ⟨Nat.le_refl _, Nat.le_refl _⟩
  | k + 1 => by
    have ih := s_best_le m ru td o U k
    unfold s_best
    cases hr : s_res m ru td o U k with
    | none => exact ⟨ih.1, by have := ih.2; show (s_best m ru td o U k).2 ≤ k + 1; omega⟩
    | some q =>
      rw [s_up_some]
      by_cases c : q < (s_best m ru td o U k).1
      · rw [if_pos c]; exact ⟨by show q ≤ 96; omega, by show k ≤ k + 1; omega⟩
      · rw [if_neg c]; exact ⟨ih.1, by have := ih.2; omega⟩
theorem s_best_skip {m ru td : Nat → Int32} {o U a : Nat} : ∀ d : Nat, (∀ t, a ≤ t → t < a + d → s_ok2 m t = false) → s_best m ru td o U (a + d) = s_best m ru td o U a
  | 0, _ => rfl
  | d + 1, h => by
    have ih := s_best_skip (m := m) (ru := ru) (td := td) (o := o) (U := U) (a := a) d (fun t h1 h2 => h t h1 (by omega))
    show s_up (s_best m ru td o U (a + d)) (a + d) (s_res m ru td o U (a + d)) = _
    have : s_res m ru td o U (a + d) = none := by
      unfold s_res; rw [h (a + d) (by omega) (by omega)]; rfl
    rw [this, ih]; rfl
theorem s_cn_le {m : Nat → Int32} (h : k_Rng m) (k : Nat) : s_cn m k ≤ 12 := Nat.le_trans (fb_ct_le _ _) (s_nt_e h).2.1
theorem s_up_res {m ru td : Nat → Int32} {o U k : Nat} {b : Nat × Nat} (h : s_ok2 m k = false) : s_up b k (s_res m ru td o U k) = b := by
  unfold s_res; rw [h]; rfl
theorem y_best {m ru td : Nat → Int32} (h : k_Inv m) {o U : Nat} (ho : o ≤ 96) (hU : U ≤ 110) {t74 ls0 : Int32} {fnow c67 : Nat → Int32} (hn0 : fnow 0 = nI o) (hU0 : c67 0 + t74 = nI U) : k_lp (fun s : Int32 × Int32 × Int32 => lb_X9_findFloat_231 m 1 ru fnow c67 t74 td s.1 s.2.1 s.2.2) k_fuel (0, (-4), ls0) = some ((if (s_best m ru td o U (2 ^ s_nt m)).1 = 96 then -4 else nI (s_best m ru td o U (2 ^ s_nt m)).1), (if (s_best m ru td o U (2 ^ s_nt m)).1 = 96 then ls0 else nI (s_best m ru td o U (2 ^ s_nt m)).2)) := by
  obtain ⟨e10, hn, -⟩ := s_nt_e h.1
  have hp : 2 ^ s_nt m ≤ 2 ^ 12 := Nat.pow_le_pow_right (by omega) hn
  have h12 : (2 : Nat) ^ 12 = 4096 := by decide
  refine q_run (body := fun s : Int32 × Int32 × Int32 => lb_X9_findFloat_231 m 1 ru fnow c67 t74 td s.1 s.2.1 s.2.2) (fun k => (nI k, (if (s_best m ru td o U k).1 = 96 then -4 else nI (s_best m ru td o U k).1), (if (s_best m ru td o U k).1 = 96 then ls0 else nI (s_best m ru td o U k).2))) _ (2 ^ s_nt m) (fun k hk => ?_) ?_ (by omega)
  · show lb_X9_findFloat_231 m 1 ru fnow c67 t74 td (nI k) (if (s_best m ru td o U k).1 = 96 then -4 else nI (s_best m ru td o U k).1) (if (s_best m ru td o U k).1 = 96 then ls0 else nI (s_best m ru td o U k).2) = some (.inl (nI (k + 1), (if (s_up (s_best m ru td o U k) k (s_res m ru td o U k)).1 = 96 then -4 else nI (s_up (s_best m ru td o U k) k (s_res m ru td o U k)).1), (if (s_up (s_best m ru td o U k) k (s_res m ru td o U k)).1 = 96 then ls0 else nI (s_up (s_best m ru td o U k) k (s_res m ru td o U k)).2)))
    have hb := (s_best_le m ru td o U k).1
    have hcn := s_cn_le h.1 k
    have lj : ∀ x5 : Int32, ∀ fr : Nat, fr ≤ 200 → lj_X9_findFloat_396 x5 ru td (s_total m ru + s_ws m k) (nI k) (if (s_best m ru td o U k).1 = 96 then -4 else nI (s_best m ru td o U k).1) (if (s_best m ru td o U k).1 = 96 then ls0 else nI (s_best m ru td o U k).2) (nI fr) = if x5 = 0 then some (.inl (nI (k + 1), (if (s_best m ru td o U k).1 = 96 then -4 else nI (s_best m ru td o U k).1), (if (s_best m ru td o U k).1 = 96 then ls0 else nI (s_best m ru td o U k).2))) else if x5 = 1 then some (.inl (nI (k + 1), (if (s_up (s_best m ru td o U k) k (s_fh ru td (s_total m ru + s_ws m k) fr)).1 = 96 then -4 else nI (s_up (s_best m ru td o U k) k (s_fh ru td (s_total m ru + s_ws m k) fr)).1), (if (s_up (s_best m ru td o U k) k (s_fh ru td (s_total m ru + s_ws m k) fr)).1 = 96 then ls0 else nI (s_up (s_best m ru td o U k) k (s_fh ru td (s_total m ru + s_ws m k) fr)).2))) else lj_X9_findFloat_396 x5 ru td (s_total m ru + s_ws m k) (nI k) (if (s_best m ru td o U k).1 = 96 then -4 else nI (s_best m ru td o U k).1) (if (s_best m ru td o U k).1 = 96 then ls0 else nI (s_best m ru td o U k).2) (nI fr) := by
      intro x5 fr hfr
      by_cases c0 : x5 = 0
      · subst c0
        rw [if_pos rfl]
        unfold lj_X9_findFloat_396
        have : k_lp (fun s : Int32 × Int32 × Int32 × Int32 => lb_X9_findFloat_405 0 ru td (s_total m ru + s_ws m k) (nI k) s.1 s.2.1 s.2.2.1 s.2.2.2) k_fuel (nI fr, 0, (if (s_best m ru td o U k).1 = 96 then -4 else nI (s_best m ru td o U k).1), (if (s_best m ru td o U k).1 = 96 then ls0 else nI (s_best m ru td o U k).2)) = some ((if (s_best m ru td o U k).1 = 96 then -4 else nI (s_best m ru td o U k).1), (if (s_best m ru td o U k).1 = 96 then ls0 else nI (s_best m ru td o U k).2)) := by
          refine q_run (body := fun s : Int32 × Int32 × Int32 × Int32 => lb_X9_findFloat_405 0 ru td (s_total m ru + s_ws m k) (nI k) s.1 s.2.1 s.2.2.1 s.2.2.2) (fun _ => (nI fr, 0, (if (s_best m ru td o U k).1 = 96 then -4 else nI (s_best m ru td o U k).1), (if (s_best m ru td o U k).1 = 96 then ls0 else nI (s_best m ru td o U k).2))) _ 0 (fun j hj => absurd hj (by omega)) ?_ (by omega)
          show lb_X9_findFloat_405 0 ru td (s_total m ru + s_ws m k) (nI k) (nI fr) 0 _ _ = _
          unfold lb_X9_findFloat_405
          by_cases c : (96 : Int32) ≤ nI fr
          · rw [if_pos c]
          · rw [if_neg c, if_pos rfl]
        rw [this, q_b2, nI_1]
      · rw [if_neg c0]
        by_cases c1 : x5 = 1
        · subst c1
          rw [if_pos rfl]
          unfold lj_X9_findFloat_396
          rw [y_hours hfr hb, q_b2, nI_1]
        · rw [if_neg c1]
    unfold lb_X9_findFloat_231
    rw [e10, q_one _ (by omega), q_ifge _ _ hk (by omega), if_neg (by decide), y_total h.1, q_b1, y_set h (by omega), q_b3, hn0, hU0, nI_add]
    have fin : ∀ fr : Nat, fr = s_fr m o U k → lj_X9_findFloat_396 (if s_ok2 m k = true then 1 else 0) ru td (s_total m ru + s_ws m k) (nI k) (if (s_best m ru td o U k).1 = 96 then -4 else nI (s_best m ru td o U k).1) (if (s_best m ru td o U k).1 = 96 then ls0 else nI (s_best m ru td o U k).2) (nI fr) = some (.inl (nI (k + 1), (if (s_up (s_best m ru td o U k) k (s_res m ru td o U k)).1 = 96 then -4 else nI (s_up (s_best m ru td o U k) k (s_res m ru td o U k)).1), (if (s_up (s_best m ru td o U k) k (s_res m ru td o U k)).1 = 96 then ls0 else nI (s_up (s_best m ru td o U k) k (s_res m ru td o U k)).2))) := by
      intro fr hfr
      have hfr2 : fr ≤ 200 := by rw [hfr]; unfold s_fr; omega
      rw [lj _ fr hfr2]
      unfold s_res
      cases hok : s_ok2 m k with
      | true => rw [if_neg (show ¬ (if true = true then (1 : Int32) else 0) = 0 by decide), if_pos (show (if true = true then (1 : Int32) else 0) = 1 by decide), if_pos rfl, hfr]
      | false => rw [if_pos (show (if false = true then (1 : Int32) else 0) = 0 by decide), if_neg (show ¬ false = true by decide)]; rfl
    by_cases c : o + s_cn m k ≤ U
    · rw [if_pos (nI_le c (by omega))]
      exact fin U (by unfold s_fr; omega)
    · rw [if_neg (nI_ge (by omega) (by omega))]
      exact fin (o + s_cn m k) (by unfold s_fr; omega)
  · show lb_X9_findFloat_231 m 1 ru fnow c67 t74 td (nI (2 ^ s_nt m)) _ _ = _
    unfold lb_X9_findFloat_231
    rw [e10, q_one _ (by omega), q_ifle _ _ (Nat.le_refl _) (by omega)]
/-! ===== the class walks the subsets of those that are OUT ===== -/
def s_po (m : Nat → Int32) (i : Nat) : Bool := decide (m (37 + i) = 0)
theorem k_out_all {m : Nat → Int32} (h : k_Rng m) : nI (k_out m) = nI (d_all (s_nt m) (s_po m)) := by
  have hn := (s_nt_e h).2.1
  refine (k_out_of h fun i hi => ?_).symm
  rw [bt_nI _ hi, d_all_tb]; rfl
theorem s_ok2_sub {m : Nat → Int32} {t : Nat} (h : s_ok2 m t = true) (ht : t < 2 ^ s_nt m) : ∀ j, t.testBit j = true → s_po m j = true := by
  intro j hj
  have hjn : j < s_nt m := Classical.byContradiction fun hh => by
    have : t < 2 ^ j := Nat.lt_of_lt_of_le ht (Nat.pow_le_pow_right (by omega) (by omega))
    rw [Nat.testBit_lt_two_pow this] at hj; cases hj
  have := q_all_iff.mp h j hjn
  unfold s_okt at this
  rw [hj] at this
  unfold s_po
  cases hd : decide (m (37 + j) = 0) with
  | true => rfl
  | false => rw [hd] at this; cases this
theorem d_dep_lt {n i : Nat} {p : Nat → Bool} : d_dep n p i < 2 ^ n := Nat.lt_of_le_of_lt (d_dep_le n p i) (d_all_lt n p)
theorem x_mayIn2 {m un : Nat → Int32} (h : k_Inv m) (hu : ∀ i, i < 12 → un i = m (25 + i)) {k : Nat} (hk : k < 2 ^ s_nt m) (hs : ∀ j, k.testBit j = true → s_po m j = true) : p_X7_mayComeIn (nI (k_out m)) (nI (s_nt m)) un (nI k) = some (if s_ok2 m k = true then 1 else 0) := by
  obtain ⟨e10, hn, -⟩ := s_nt_e h.1
  rw [x_mayIn hn _ _ (fun i hi => by rw [hu i (by omega)]; exact q_und2 h hi)]
  have iff : (∀ i, i < s_nt m → bt (nI k) i = true → ∀ j, j < s_nt m → un i = nI j → ¬ (bt (nI (k_out m)) j = true ∧ bt (nI k) j = false)) ↔ s_ok2 m k = true := by
    unfold s_ok2
    rw [q_all_iff]
    constructor
    · intro hA i hi
      unfold s_okt
      cases hb : k.testBit i with
      | false => rfl
      | true =>
        have h0 : m (37 + i) = 0 := of_decide_eq_true (hs i hb)
        rcases q_und2 h hi with e | ⟨u, hu2, e⟩
        · rw [e, h0]; rfl
        · have := hA i hi (by rw [bt_nI _ (by omega)]; exact hb) u hu2 (by rw [hu i (by omega), e])
          rw [k_out_bt h.1 (by omega), bt_nI _ (by omega), decide_eq_true hu2, Bool.true_and] at this
          rw [e, h0, q_cl (by omega)]
          have hneg : ¬ nI u < 0 := nI_pos (by omega)
          by_cases c : m (37 + u) = 0
          · cases hku : k.testBit u with
            | true => simp
            | false => exact absurd ⟨decide_eq_true c, hku⟩ this
          · have c1 : m (37 + u) = 1 := by
              rcases q_01 (rg_in h.1 (i := u) (by omega)) with z | z
              · exact absurd z c
              · exact z
            simp [c1]
    · intro hA i hi hb j hj e
      rw [bt_nI _ (by omega)] at hb
      rw [hu i (by omega)] at e
      rintro ⟨g1, g2⟩
      rw [k_out_bt h.1 (by omega), decide_eq_true hj, Bool.true_and] at g1
      rw [bt_nI _ (by omega)] at g2
      have := hA i hi
      unfold s_okt at this
      have g1' : m (37 + j) = 0 := of_decide_eq_true g1
      rw [hb, e, q_cl (by omega), g2, g1'] at this
      have hneg : ¬ nI j < 0 := nI_pos (by omega)
      simp [hneg] at this
  by_cases c : s_ok2 m k = true
  · rw [if_pos (iff.mpr c), if_pos c]
  · rw [if_neg (fun hh => c (iff.mp hh)), if_neg c]
theorem x_best {m ru ru' td wt un : Nat → Int32} {ot ts th0 : Int32} (h : k_Inv m) (hrl : R_rl ru' ru) (h0 : ru' 0 = ru 0) (h2 : ru' 2 = ru 2) (hot : ot = nI (k_out m)) (hts : ts = m 10) (hth : ∀ i, i < 12 → wt i = m (13 + i) ∧ un i = m (25 + i)) (h8 : fb_ct (s_po m) (s_nt m) ≤ 8) {o U : Nat} (ho : o ≤ 96) (hU : U ≤ 110) : p_X0_findLeast th0 (nI o) ru' ot ts wt un td (nI U) = some (nI (s_best m ru td o U (2 ^ s_nt m)).1, (if (s_best m ru td o U (2 ^ s_nt m)).1 = 96 then th0 else nI (s_best m ru td o U (2 ^ s_nt m)).2)) := by
  obtain ⟨e10, hn, -⟩ := s_nt_e h.1
  have hp : 2 ^ s_nt m ≤ 2 ^ 12 := Nat.pow_le_pow_right (by omega) hn
  have h12 : (2 : Nat) ^ 12 = 4096 := by decide
  have hc : d_cnt (s_nt m) (s_po m) = fb_ct (s_po m) (s_nt m) := d_cnt_ct _ _
  have hbc : p_J6_bitCount_0f7a4 (nI (k_out m)) = some (nI (d_cnt (s_nt m) (s_po m))) := by rw [hc]; exact x_outs h.1
  have h28 : 2 ^ d_cnt (s_nt m) (s_po m) ≤ 2 ^ 8 := Nat.pow_le_pow_right (by omega) (by omega)
  have h256 : (2 : Nat) ^ 8 = 256 := by decide
  have hpos := Nat.two_pow_pos (d_cnt (s_nt m) (s_po m))
  have hsets : (1 : Int32) <<< ((if (8 : Int32) < nI (d_cnt (s_nt m) (s_po m)) then 8 else nI (d_cnt (s_nt m) (s_po m))) &&& 31) = nI (2 ^ d_cnt (s_nt m) (s_po m)) := by
    rw [if_neg (show ¬ (8 : Int32) < nI (d_cnt (s_nt m) (s_po m)) from nI_nlt (a := 8) (by omega) (by omega)), q_one _ (by omega)]
  -- B i : how many sets are behind
  have key : ∃ e, k_lp (fun s : Int32 × Int32 × Int32 × Int32 => lb_X0_findLeast_40 (nI (d_cnt (s_nt m) (s_po m))) ot ts un wt ru' td (s_total m ru) (nI U) (nI o) s.1 s.2.1 s.2.2.1 s.2.2.2) k_fuel (0, 0, 96, th0) = some e ∧ e = (nI (s_best m ru td o U (2 ^ s_nt m)).1, (if (s_best m ru td o U (2 ^ s_nt m)).1 = 96 then th0 else nI (s_best m ru td o U (2 ^ s_nt m)).2)) := by
    refine q_lpI (body := fun s : Int32 × Int32 × Int32 × Int32 => lb_X0_findLeast_40 (nI (d_cnt (s_nt m) (s_po m))) ot ts un wt ru' td (s_total m ru) (nI U) (nI o) s.1 s.2.1 s.2.2.1 s.2.2.2) (fun i s => s.2.1 = nI i ∧ (i < 2 ^ d_cnt (s_nt m) (s_po m) → s.1 = nI (d_dep (s_nt m) (s_po m) i)) ∧ s.2.2 = (nI (s_best m ru td o U (if i < 2 ^ d_cnt (s_nt m) (s_po m) then d_dep (s_nt m) (s_po m) i else 2 ^ s_nt m)).1, (if (s_best m ru td o U (if i < 2 ^ d_cnt (s_nt m) (s_po m) then d_dep (s_nt m) (s_po m) i else 2 ^ s_nt m)).1 = 96 then th0 else nI (s_best m ru td o U (if i < 2 ^ d_cnt (s_nt m) (s_po m) then d_dep (s_nt m) (s_po m) i else 2 ^ s_nt m)).2))) (fun e => e = (nI (s_best m ru td o U (2 ^ s_nt m)).1, (if (s_best m ru td o U (2 ^ s_nt m)).1 = 96 then th0 else nI (s_best m ru td o U (2 ^ s_nt m)).2))) (2 ^ d_cnt (s_nt m) (s_po m)) (fun i s hi hs => ?_) (fun s hs => ?_) (0, 0, 96, th0) ⟨rfl, fun _ => by rw [d_dep_0]; rfl, by rw [if_pos hpos, d_dep_0]; rfl⟩ (by omega)
    · obtain ⟨s1, s2, s34⟩ := s
      obtain ⟨q1, q2, q3⟩ := hs
      have q1' : s2 = nI i := q1
      have q2' : s1 = nI (d_dep (s_nt m) (s_po m) i) := q2 hi
      have q3' : s34 = (nI (s_best m ru td o U (d_dep (s_nt m) (s_po m) i)).1, (if (s_best m ru td o U (d_dep (s_nt m) (s_po m) i)).1 = 96 then th0 else nI (s_best m ru td o U (d_dep (s_nt m) (s_po m) i)).2)) := by
        have := q3
        rw [if_pos hi] at this
        exact this
      clear q1 q2 q3
      subst q1'; subst q2'; subst q3'
      generalize hk : d_dep (s_nt m) (s_po m) i = k
      have hk2 : k < 2 ^ s_nt m := by rw [← hk]; exact d_dep_lt
      have hsub : ∀ j, k.testBit j = true → s_po m j = true := fun j hj => by rw [← hk] at hj; exact (d_dep_sub _ _ _ _ hj).2
      have hb := (s_best_le m ru td o U k).1
      have hcn := s_cn_le h.1 k
      -- all sets between k and the next are none
      have gap : ∀ b, k < b → (∀ t, k < t → t < b → ¬ ∃ j, j < 2 ^ d_cnt (s_nt m) (s_po m) ∧ d_dep (s_nt m) (s_po m) j = t) → b ≤ 2 ^ s_nt m → s_best m ru td o U b = s_up (s_best m ru td o U k) k (s_res m ru td o U k) := by
        intro b hb1 hb2 hb3
        have := s_best_skip (m := m) (ru := ru) (td := td) (o := o) (U := U) (a := k + 1) (b - (k + 1)) (fun t t1 t2 => by
          cases hok : s_ok2 m t with
          | false => rfl
          | true =>
            exfalso
            exact hb2 t (by omega) (by omega) (d_surj _ _ _ (by omega) (s_ok2_sub hok (by omega))))
        rw [show k + 1 + (b - (k + 1)) = b from by omega] at this
        rw [this]; rfl
      have nextB : s_best m ru td o U (if i + 1 < 2 ^ d_cnt (s_nt m) (s_po m) then d_dep (s_nt m) (s_po m) (i + 1) else 2 ^ s_nt m) = s_up (s_best m ru td o U k) k (s_res m ru td o U k) := by
        by_cases c : i + 1 < 2 ^ d_cnt (s_nt m) (s_po m)
        · rw [if_pos c]
          refine gap _ (by rw [← hk]; exact d_mono _ _ _ _ (by omega) c) (fun t t1 t2 => ?_) (Nat.le_of_lt d_dep_lt)
          rintro ⟨j, j1, j2⟩
          rw [← hk, ← j2] at t1
          rw [← j2] at t2
          rcases Nat.lt_trichotomy j i with hh | hh | hh
          · have := d_mono _ _ _ _ hh hi; omega
          · rw [hh] at t1; omega
          · rcases Nat.lt_trichotomy j (i + 1) with h3 | h3 | h3
            · omega
            · rw [h3] at t2; omega
            · have := d_mono _ _ _ _ h3 j1; omega
        · rw [if_neg c]
          refine gap _ hk2 (fun t t1 t2 => ?_) (Nat.le_refl _)
          rintro ⟨j, j1, j2⟩
          rw [← hk, ← j2] at t1
          rcases Nat.lt_trichotomy j i with hh | hh | hh
          · have := d_mono _ _ _ _ hh hi; omega
          · rw [hh] at t1; omega
          · omega
      have nextS : i + 1 < 2 ^ d_cnt (s_nt m) (s_po m) → (nI k - ot) &&& ot = nI (d_dep (s_nt m) (s_po m) (i + 1)) := by
        intro c
        rw [hot, k_out_all h.1, ← hk]
        exact q_nextset hn c
      show ∃ X, lb_X0_findLeast_40 (nI (d_cnt (s_nt m) (s_po m))) ot ts un wt ru' td (s_total m ru) (nI U) (nI o) (nI k) (nI i) (nI (s_best m ru td o U k).1) (if (s_best m ru td o U k).1 = 96 then th0 else nI (s_best m ru td o U k).2) = some X ∧ _
      unfold lb_X0_findLeast_40
      rw [hsets, q_ifge _ _ hi (by omega), hts, e10]
      have may := x_mayIn2 h (fun i hi => (hth i hi).2) hk2 hsub
      rw [← hot] at may
      rw [may, q_b1, q_ifp]
      have cnt : p_J6_bitCount_0f7a4 (nI k) = some (nI (s_cn m k)) := q_bitCount hn (fun j hj => by
        rw [bt_nI _ hj]
        by_cases c : j < s_nt m
        · rw [decide_eq_true c, Bool.true_and]
        · rw [decide_eq_false c, Bool.false_and]
          exact Nat.testBit_lt_two_pow (Nat.lt_of_lt_of_le hk2 (Nat.pow_le_pow_right (by omega) (by omega))))
      have wgt : p_X7_weightOf (nI (s_nt m)) wt (nI k) = some (s_ws m k) := by
        rw [x_weightOf hn]
        unfold s_ws
        rw [q_sum_cong (f := fun i => if bt (nI k) i = true then wt i else 0) (g := fun t => if k.testBit t = true then m (13 + t) else 0) (fun j hj => by
          show (if bt (nI k) j = true then wt j else 0) = if k.testBit j = true then m (13 + j) else 0
          rw [bt_nI _ (by omega), (hth j (by omega)).1])]
      rw [cnt, wgt]
      simp only [q_b1]
      have hfr : (if nI U < nI o + nI (s_cn m k) then nI o + nI (s_cn m k) else nI U) = nI (s_fr m o U k) := by
        unfold s_fr
        rw [nI_add]
        by_cases c : U < o + s_cn m k
        · rw [if_pos (nI_lt c (by omega)), Nat.max_eq_left (by omega)]
        · rw [if_neg (nI_nlt (by omega) (by omega)), Nat.max_eq_right (by omega)]
      rw [hfr]
      have hfr2 : s_fr m o U k ≤ 200 := by unfold s_fr; omega
      cases hok : s_ok2 m k with
      | false =>
        rw [if_neg (show ¬ false = true by decide)]
        refine ⟨_, rfl, Or.inl ⟨_, rfl, nI_1 i, nextS, ?_⟩⟩
        show ((nI (s_best m ru td o U k).1, (if (s_best m ru td o U k).1 = 96 then th0 else nI (s_best m ru td o U k).2)) : Int32 × Int32) = _
        rw [nextB, s_up_res hok]
      | true =>
        rw [if_pos rfl]
        have xf := x_first2 (ru := ru) (ru' := ru') (td := td) (all := s_total m ru + s_ws m k) (th0 := th0) (k := k) hfr2 h0 h2 hb
        have hres : s_res m ru td o U k = s_fh ru td (s_total m ru + s_ws m k) (s_fr m o U k) := by unfold s_res; rw [hok]; rfl
        rw [← hres] at xf
        obtain ⟨r35, r1, r2⟩ := k_b1_some xf
        rw [r1, q_b1, r2, q_b2]
        refine ⟨_, rfl, Or.inl ⟨_, rfl, nI_1 i, nextS, ?_⟩⟩
        show ((nI (s_up (s_best m ru td o U k) k (s_res m ru td o U k)).1, (if (s_up (s_best m ru td o U k) k (s_res m ru td o U k)).1 = 96 then th0 else nI (s_up (s_best m ru td o U k) k (s_res m ru td o U k)).2)) : Int32 × Int32) = _
        rw [nextB]
    · obtain ⟨s1, s2, s34⟩ := s
      obtain ⟨q1, q2, q3⟩ := hs
      have q1' : s2 = nI (2 ^ d_cnt (s_nt m) (s_po m)) := q1
      have q3' := q3
      rw [if_neg (Nat.lt_irrefl _)] at q3'
      subst q1'
      refine ⟨s34, ?_, q3'⟩
      show lb_X0_findLeast_40 _ ot ts un wt ru' td (s_total m ru) (nI U) (nI o) s1 (nI (2 ^ d_cnt (s_nt m) (s_po m))) s34.1 s34.2 = _
      unfold lb_X0_findLeast_40
      rw [hsets, q_ifle _ _ (Nat.le_refl _) (by omega)]
  obtain ⟨e, k1, k2⟩ := key
  unfold p_X0_findLeast
  rw [x_total (ru := ru) h.1 hrl.1 hot hts (fun i hi => (hth i hi).1), q_b1, hot, hbc, q_b1, ← hot, k1, k2, q_b2]
