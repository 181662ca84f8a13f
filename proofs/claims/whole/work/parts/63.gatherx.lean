/-! ===== the class's gathering ===== -/
theorem s_g_full {m : Nat → Int32} {i : Nat} (h : (s_g m i).1 = 5) : ∀ j, s_g m (i + j) = s_g m i
  | 0 => rfl
  | j + 1 => by
    have ih := s_g_full h j
    show (if (s_g m (i + j)).1 < 5 ∧ ¬ m (145 + (i + j)) = 2 then _ else s_g m (i + j)) = _
    rw [ih, if_neg (fun c => by have := c.1; omega)]
def s_hd (m : Nat → Int32) (s : Nat) : Nat := (m (97 + s)).toNatClampNeg
theorem s_hd_e {m : Nat → Int32} (h : k_Rng m) {s : Nat} (hs : s < 12) : m (97 + s) = nI (s_hd m s) ∧ s_hd m s ≤ 6 := by
  obtain ⟨D, eD, -, hD, -⟩ := kr_nI (rg_hd h hs) (by decide) (by decide)
  unfold s_hd
  rw [eD, q_cl (by omega)]
  exact ⟨rfl, by omega⟩
def s_gI (m rn td : Nat → Int32) (o n : Nat) (N : Nat) (c : Nat → Nat) (se hr mb : Nat → Int32) (hn : Nat → Int64) : Prop := ∀ k, k < N → se k = nI (c k) ∧ hr k = nI (s_lk m (c k)) ∧ (∀ b, b < 32 → bt (mb k) b = s_okb m rn td o n (c k) b) ∧ hn k = lN (s_hd m (c k) * s_r (s_lk m (c k)))
theorem x_gather {m rn td sk sd hs lg tr sta dn : Nat → Int32} (h : k_Inv m) (hrn : ∀ h, h < 96 → kr (rn h) 0 1) (hse : ∀ i, i < 12 → sk i = m (73 + i) ∧ sd i = m (85 + i) ∧ hs i = m (97 + i) ∧ lg i = m (109 + i) ∧ sta i = m (145 + i) ∧ dn i = m (157 + i)) {o n : Nat} (ho : o ≤ 96) (hn6 : n ≤ 6) (se0 hr0 mb0 : Nat → Int32) (hn0 : Nat → Int64) : ∃ se hr mb hn, p_X2_gather (nI o) (m 1) (m 12) sta se0 lg dn hr0 rn td sk sd mb0 hn0 hs (nI n) = some (nI (s_N m), se, hr, mb, hn) ∧ s_gI m rn td o n (s_N m) (s_c m) se hr mb hn := by
  obtain ⟨e12, hn12, -⟩ := s_ns_e h.1
  obtain ⟨E, hE, E1, E2⟩ := q_lpI (body := fun s : Int32 × (Nat → Int64) × (Nat → Int32) × (Nat → Int32) × (Nat → Int32) × Int32 => lb_X2_gather_7 (m 12) sta lg dn (nI o) (m 1) rn td sk sd (nI n) hs s.1 s.2.1 s.2.2.1 s.2.2.2.1 s.2.2.2.2.1 s.2.2.2.2.2) (fun i s => s.1 = nI i ∧ s.2.2.2.2.2 = nI (s_g m i).1 ∧ s_gI m rn td o n (s_g m i).1 (s_g m i).2 s.2.2.2.2.1 s.2.2.1 s.2.2.2.1 s.2.1) (fun E => E.2.2.2.2 = nI (s_N m) ∧ s_gI m rn td o n (s_N m) (s_c m) E.2.2.2.1 E.2.1 E.2.2.1 E.1) (s_ns m) (fun i s hi hs' => by
    obtain ⟨s1, hn, hr, mb, se, sz⟩ := s
    obtain ⟨q1, q2, q3⟩ := hs'
    have q1' : s1 = nI i := q1
    have q2' : sz = nI (s_g m i).1 := q2
    have q3' : s_gI m rn td o n (s_g m i).1 (s_g m i).2 se hr mb hn := q3
    clear q1 q2 q3
    subst q1'; subst q2'
    have h5 := (s_g_inv m i).1
    have e : s_g m (i + 1) = if (s_g m i).1 < 5 ∧ ¬ m (145 + i) = 2 then ((s_g m i).1 + 1, fun k => if k = (s_g m i).1 then i else (s_g m i).2 k) else s_g m i := rfl
    show ∃ X, lb_X2_gather_7 (m 12) sta lg dn (nI o) (m 1) rn td sk sd (nI n) hs (nI i) hn hr mb se (nI (s_g m i).1) = some X ∧ _
    unfold lb_X2_gather_7
    rw [e12, q_ifge _ _ hi (by omega)]
    by_cases c5 : 5 ≤ (s_g m i).1
    · rw [if_pos (show (5 : Int32) ≤ nI (s_g m i).1 from nI_le (a := 5) c5 (by omega))]
      have ef := s_g_full (m := m) (i := i) (by omega) (s_ns m - i)
      rw [show i + (s_ns m - i) = s_ns m from by omega] at ef
      refine ⟨_, rfl, Or.inr ⟨_, rfl, ?_, ?_⟩⟩
      · show nI (s_g m i).1 = nI (s_g m (s_ns m)).1
        rw [ef]
      · show s_gI m rn td o n (s_g m (s_ns m)).1 (s_g m (s_ns m)).2 se hr mb hn
        rw [ef]; exact q3'
    · obtain ⟨z1, z2, z3, z4, z5, z6⟩ := hse i (by omega)
      rw [if_neg (show ¬ (5 : Int32) ≤ nI (s_g m i).1 from nI_ge (b := 5) (by omega) (by omega)), q_ix _ (by omega) (by omega), q_cl (n := i) (by omega), z5]
      by_cases c2 : m (145 + i) = 2
      · rw [if_pos c2]
        rw [if_neg (fun hh => hh.2 c2)] at e
        exact ⟨_, rfl, Or.inl ⟨_, rfl, nI_1 i, by rw [e], by rw [e]; exact q3'⟩⟩
      · obtain ⟨mb', b1, b2⟩ := x_begins (sta := sta) (lg := lg) (dn := dn) (sk := sk) (sd := sd) h hrn (fun i hi => ⟨(hse i hi).1, (hse i hi).2.1, (hse i hi).2.2.2.2.1, (hse i hi).2.2.2.1, (hse i hi).2.2.2.2.2⟩) (o := o) (n := n) ho hn6 hi c2
        have hlk := s_lk_e h hi c2
        obtain ⟨hd1, hd2⟩ := s_hd_e h.1 (s := i) (by omega)
        obtain ⟨hn', g1, g2, g3⟩ := x_lanes (hrs := hr) (hnd := hs) (sz := (s_g m i).1) (s := i) (lk := s_lk m i) (hd := s_hd m i) (by omega) (by omega) hlk.2.1 (by rw [z3, hd1]) hd2 hn
        rw [if_neg c2, q_ix _ (by omega) (by omega), x_lack (sta := sta) (lg := lg) (dn := dn) h (fun i hi => ⟨(hse i hi).2.2.2.2.1, (hse i hi).2.2.2.1, (hse i hi).2.2.2.2.2⟩) hi c2, q_b1, q_ix _ (by omega) (by omega), b1, q_b1, q_ix _ (by omega) (by omega), q_ix _ (by omega) (by omega), q_cl (by omega), g1, q_b1]
        rw [if_pos ⟨by omega, c2⟩] at e
        refine ⟨_, rfl, Or.inl ⟨_, rfl, nI_1 i, by rw [e]; exact nI_1 _, ?_⟩⟩
        rw [e]
        intro k hk
        have hk' : k < (s_g m i).1 + 1 := hk
        show upd se (s_g m i).1 (nI i) k = nI (if k = (s_g m i).1 then i else (s_g m i).2 k) ∧ upd hr (s_g m i).1 (nI (s_lk m i)) k = nI (s_lk m (if k = (s_g m i).1 then i else (s_g m i).2 k)) ∧ (∀ b, b < 32 → bt (upd mb (s_g m i).1 mb' k) b = s_okb m rn td o n (if k = (s_g m i).1 then i else (s_g m i).2 k) b) ∧ hn' k = lN (s_hd m (if k = (s_g m i).1 then i else (s_g m i).2 k) * s_r (s_lk m (if k = (s_g m i).1 then i else (s_g m i).2 k)))
        by_cases ck : k = (s_g m i).1
        · rw [if_pos ck, ck, upd_s, upd_s, upd_s]
          exact ⟨rfl, rfl, b2, g2⟩
        · rw [if_neg ck, upd_n ck, upd_n ck, upd_n ck, g3 k ck]
          exact q3' k (by omega)) (fun s hs' => by
    obtain ⟨s1, hn, hr, mb, se, sz⟩ := s
    obtain ⟨q1, q2, q3⟩ := hs'
    have q1' : s1 = nI (s_ns m) := q1
    subst q1'
    refine ⟨(hn, hr, mb, se, sz), ?_, q2, q3⟩
    show lb_X2_gather_7 (m 12) sta lg dn (nI o) (m 1) rn td sk sd (nI n) hs (nI (s_ns m)) hn hr mb se sz = _
    unfold lb_X2_gather_7
    rw [e12, q_ifle _ _ (Nat.le_refl _) (by omega)]) (0, hn0, hr0, mb0, se0, 0) ⟨rfl, rfl, fun k hk => absurd hk (by show ¬ k < 0; omega)⟩ (by omega)
  obtain ⟨hn, hr, mb, se, sz⟩ := E
  have E1' : sz = nI (s_N m) := E1
  subst E1'
  refine ⟨se, hr, mb, hn, ?_, E2⟩
  unfold p_X2_gather
  rw [hE, q_b5]
/-! ===== the bits of a set of SEAMS ===== -/
def s_bn (c : Nat → Nat) (j x : Nat) : Nat := fb_sm (fun k => if x.testBit k = true then 2 ^ c k else 0) j
theorem s_bn_s (c : Nat → Nat) (j x : Nat) : s_bn c (j + 1) x = s_bn c j x + (if x.testBit j = true then 2 ^ c j else 0) := fb_sm_succ _ _
theorem s_bn_lt {c : Nat → Nat} (x : Nat) : ∀ j, (∀ a b, a < b → b < j → c a < c b) → ∀ B, (∀ k, k < j → c k < B) → s_bn c j x < 2 ^ B
  | 0, _, B, _ => by show 0 < 2 ^ B; exact Nat.two_pow_pos B
  | j + 1, hc, B, hB => by
    have ih := s_bn_lt (c := c) x j (fun a b h1 h2 => hc a b h1 (by omega)) (c j) (fun k hk => hc k j hk (by omega))
    have h2 : 2 ^ (c j + 1) ≤ 2 ^ B := Nat.pow_le_pow_right (by decide) (hB j (by omega))
    rw [Nat.pow_succ] at h2
    rw [s_bn_s]
    split <;> omega
theorem s_bn_mono {c : Nat → Nat} {x y : Nat} : ∀ j, (∀ a b, a < b → b < j → c a < c b) → x % 2 ^ j ≤ y % 2 ^ j → s_bn c j x ≤ s_bn c j y
  | 0, _, _ => Nat.le_refl _
  | j + 1, hc, h => by
    have hc' : ∀ a b, a < b → b < j → c a < c b := fun a b h1 h2 => hc a b h1 (by omega)
    have ih := s_bn_mono (c := c) (x := x) (y := y) j hc'
    have hl := s_bn_lt (c := c) x j hc' (c j) (fun k hk => hc k j hk (by omega))
    rw [Nat.mod_pow_succ, Nat.mod_pow_succ] at h
    rw [s_bn_s, s_bn_s, Nat.testBit_eq_decide_div_mod_eq, Nat.testBit_eq_decide_div_mod_eq]
    have my := Nat.mod_lt y (Nat.two_pow_pos j)
    rcases Nat.mod_two_eq_zero_or_one (x / 2 ^ j) with a | a <;> rcases Nat.mod_two_eq_zero_or_one (y / 2 ^ j) with b | b <;> rw [a, b] at h
    · have := ih (by omega)
      rw [a, b]; simp; omega
    · rw [a, b]; simp; omega
    · omega
    · have := ih (by omega)
      rw [a, b]; simp; omega
def s_bI (c : Nat → Nat) (x k : Nat) (z : Int32) : Int32 := if x.testBit k = true then z ||| (1 <<< (nI (c k) &&& 31)) else z
theorem s_bI_e {c : Nat → Nat} (x : Nat) : ∀ j, (∀ a b, a < b → b < j → c a < c b) → (∀ k, k < j → c k < 12) → q_fold (s_bI c x) 0 j = nI (s_bn c j x)
  | 0, _, _ => rfl
  | j + 1, hc, h12 => by
    have hc' : ∀ a b, a < b → b < j → c a < c b := fun a b h1 h2 => hc a b h1 (by omega)
    have ih := s_bI_e (c := c) x j hc' (fun k hk => h12 k (by omega))
    have hl := s_bn_lt (c := c) x j hc' (c j) (fun k hk => hc k j hk (by omega))
    show s_bI c x j (q_fold (s_bI c x) 0 j) = _
    rw [ih, s_bn_s]
    unfold s_bI
    by_cases t : x.testBit j = true
    · rw [if_pos t, if_pos t]
      have ho := Nat.two_pow_add_eq_or_of_lt hl 1
      rw [Nat.mul_one] at ho
      refine b_ext fun i hi => ?_
      rw [b_or, bt_one _ (by have := h12 j (by omega); omega) hi, bt_nI _ hi, bt_nI _ hi, Nat.add_comm, ho, Nat.testBit_or, Nat.testBit_two_pow, Bool.or_comm]
      congr 1
      exact decide_eq_decide.mpr ⟨fun h => h.symm, fun h => h.symm⟩
    · rw [if_neg t, if_neg t, Nat.add_zero]
