/-! ===== tides ===== -/
def s_by (n i : Nat) : Nat := n / 2 ^ (8 * i) % 256
theorem b255L : ∀ i, i < 64 → (255 : Int64).toBitVec.getLsbD i = decide (i < 8) := by decide +kernel
theorem w_shr {n k : Nat} (hn : n < 2 ^ 64) (hk : k ≤ 56) : (lN n >>> ((nI k).toInt64 &&& 63)) &&& 255 = lN (n / 2 ^ k % 256) := by
  rw [wb_c k (by omega)]
  apply wb_inj
  rw [Int64.toBitVec_and, Int64.toBitVec_shiftRight]
  show ((lN n).toBitVec.sshiftRight ((lN k).toBitVec.smod 64).toNat) &&& (255 : Int64).toBitVec = (lN (n / 2 ^ k % 256)).toBitVec
  have e1 : ((lN k).toBitVec.smod 64).toNat = k := by
    rw [wb_tb, wb_sm k (by omega), BitVec.toNat_ofNat]
    exact Nat.mod_eq_of_lt (by omega)
  rw [e1, wb_tb, wb_tb]
  apply BitVec.eq_of_getLsbD_eq
  intro i hi
  rw [BitVec.getLsbD_and, b255L i hi, BitVec.getLsbD_sshiftRight, show (256 : Nat) = 2 ^ 8 from rfl]
  by_cases c : i < 8
  · rw [if_pos (show k + i < 64 by omega), BitVec.getLsbD_ofNat, BitVec.getLsbD_ofNat, Nat.testBit_mod_two_pow, Nat.testBit_div_two_pow]
    have h1 : ¬ 64 ≤ i := by omega
    simp [c, hi, h1, Nat.add_comm, show k + i < 64 by omega, show i + k < 64 by omega]
  · have z : (n / 2 ^ k % 2 ^ 8).testBit i = false := by rw [Nat.testBit_mod_two_pow, decide_eq_false c, Bool.false_and]
    rw [decide_eq_false c, Bool.and_false, BitVec.getLsbD_ofNat, z, Bool.and_false]
theorem x_eight {n i : Nat} (hn : n < 2 ^ 64) (hi : i < 8) : p_X8_eightBits (lN n) (nI i) = some (nI (s_by n i)) := by
  unfold p_X8_eightBits s_by
  rw [show (8 : Int32) = nI 8 from rfl, pk_mul, wb_shr hn (by omega), lN_i, pk_and _ (m := 255) 8 (by decide)]
  show some (nI ((BitVec.ofNat 32 (n / 2 ^ (8 * i))).toNat % 2 ^ 8)) = _
  rw [BitVec.toNat_ofNat, Nat.mod_mod_of_dvd _ (show 2 ^ 8 ∣ 2 ^ 32 from ⟨2 ^ 24, by decide⟩)]
theorem y_eight {n i : Nat} (hn : n < 2 ^ 64) (hi : i < 8) : (lN n >>> ((8 * nI i).toInt64 &&& 63)) &&& 255 = lN (s_by n i) := by
  rw [show (8 : Int32) = nI 8 from rfl, pk_mul, w_shr hn (by omega)]; rfl
theorem s_by_lt (n i : Nat) : s_by n i < 256 := Nat.mod_lt _ (by decide)
def s_okT (n c i : Nat) : Bool := decide (s_by n i ≤ if i < c then 60 else 0)
theorem x_areTides {n c : Nat} (hn : n < 2 ^ 64) (hc : c ≤ 8) : p_X8_areTides (nI c) (lN n) = some (if q_all (s_okT n c) 8 = true then 1 else 0) := by
  have key : k_lp (fun s : Int32 => lb_X8_areTides_2 (lN n) (nI c) s) k_fuel 0 = some (q_ans (q_find (fun i => if s_okT n c i = true then none else some (0 : Int32)) 8)) := by
    refine q_findlp _ 8 (fun i hi => ?_) ?_ (by omega)
    · show lb_X8_areTides_2 (lN n) (nI c) (nI i) = _
      have hb := s_by_lt n i
      unfold lb_X8_areTides_2 s_okT
      rw [show (8 : Int32) = nI 8 from rfl, q_ifge _ _ hi (by omega), x_eight hn hi, q_b1]
      by_cases c1 : i < c
      · rw [if_neg (nI_ge c1 (by omega))]
        by_cases c2 : s_by n i ≤ 60
        · rw [if_pos (show nI (s_by n i) ≤ 60 from nI_le (b := 60) c2 (by omega))]; simp [c1, c2]
        · rw [if_neg (show ¬ nI (s_by n i) ≤ 60 from nI_ge (a := 60) (by omega) (by omega))]; simp [c1, c2]
      · rw [if_pos (nI_le (by omega) (by omega))]
        by_cases c2 : s_by n i ≤ 0
        · rw [if_pos (show nI (s_by n i) ≤ 0 from nI_le (b := 0) c2 (by omega))]
          have c3 : s_by n i = 0 := by omega
          simp [c1, c3]
        · rw [if_neg (show ¬ nI (s_by n i) ≤ 0 from nI_ge (a := 0) (by omega) (by omega))]
          have c3 : ¬ s_by n i = 0 := by omega
          simp [c1, c3]
    · show lb_X8_areTides_2 (lN n) (nI c) (nI 8) = _
      unfold lb_X8_areTides_2
      rw [show (8 : Int32) = nI 8 from rfl, q_ifle _ _ (Nat.le_refl _) (by omega)]
  unfold p_X8_areTides
  rw [key]
  by_cases c1 : q_all (s_okT n c) 8 = true
  · rw [if_pos c1]
    rw [q_all_iff] at c1
    have : q_find (fun i => if s_okT n c i = true then none else some (0 : Int32)) 8 = none := by
      rw [q_find_none]; intro i hi; rw [if_pos (c1 i hi)]
    rw [this]; rfl
  · rw [if_neg c1]
    cases hq : q_find (fun i => if s_okT n c i = true then none else some (0 : Int32)) 8 with
    | none =>
      rw [q_find_none] at hq
      refine absurd (q_all_iff.mpr fun i hi => ?_) c1
      have := hq i hi
      cases hb : s_okT n c i with
      | true => rfl
      | false => rw [hb] at this; cases this
    | some v =>
      obtain ⟨i, -, h2, -⟩ := q_find_some.mp hq
      split at h2
      · cases h2
      · cases h2; rfl
theorem s_okT_iff0 {n c : Nat} (hn : n < 2 ^ 64) (hc1 : 1 ≤ c) (hc : c ≤ 8) : (∀ i, i < 8 → s_okT n c i = true) ↔ ((8 ≤ c ∨ n / 2 ^ (8 * c) = 0) ∧ ∀ i, i < c → s_by n i ≤ 60) := by
  have e0 : s_by n 0 = n % 256 := by unfold s_by; rw [show 2 ^ (8 * 0) = 1 from by decide, Nat.div_one]
  have e1 : s_by n 1 = n / 256 % 256 := rfl
  have e2 : s_by n 2 = n / 65536 % 256 := rfl
  have e3 : s_by n 3 = n / 16777216 % 256 := rfl
  have e4 : s_by n 4 = n / 4294967296 % 256 := rfl
  have e5 : s_by n 5 = n / 1099511627776 % 256 := rfl
  have e6 : s_by n 6 = n / 281474976710656 % 256 := rfl
  have e7 : s_by n 7 = n / 72057594037927936 % 256 := rfl
  have hn' : n < 18446744073709551616 := hn
  have all8 : (∀ i, i < 8 → s_okT n c i = true) ↔ (s_by n 0 ≤ (if 0 < c then 60 else 0) ∧ s_by n 1 ≤ (if 1 < c then 60 else 0) ∧ s_by n 2 ≤ (if 2 < c then 60 else 0) ∧ s_by n 3 ≤ (if 3 < c then 60 else 0) ∧ s_by n 4 ≤ (if 4 < c then 60 else 0) ∧ s_by n 5 ≤ (if 5 < c then 60 else 0) ∧ s_by n 6 ≤ (if 6 < c then 60 else 0) ∧ s_by n 7 ≤ (if 7 < c then 60 else 0)) := by
    unfold s_okT
    constructor
    · intro h
      exact ⟨of_decide_eq_true (h 0 (by omega)), of_decide_eq_true (h 1 (by omega)), of_decide_eq_true (h 2 (by omega)), of_decide_eq_true (h 3 (by omega)), of_decide_eq_true (h 4 (by omega)), of_decide_eq_true (h 5 (by omega)), of_decide_eq_true (h 6 (by omega)), of_decide_eq_true (h 7 (by omega))⟩
    · rintro ⟨h0, h1, h2, h3, h4, h5, h6, h7⟩ i hi
      match i, hi with
      | 0, _ => exact decide_eq_true h0
      | 1, _ => exact decide_eq_true h1
      | 2, _ => exact decide_eq_true h2
      | 3, _ => exact decide_eq_true h3
      | 4, _ => exact decide_eq_true h4
      | 5, _ => exact decide_eq_true h5
      | 6, _ => exact decide_eq_true h6
      | 7, _ => exact decide_eq_true h7
  rw [all8, e0, e1, e2, e3, e4, e5, e6, e7]
  have un : ∀ P : Nat → Prop, ∀ k, (∀ i, i < k + 1 → P i) ↔ ((∀ i, i < k → P i) ∧ P k) := by
    intro P k
    constructor
    · intro h; exact ⟨fun i hi => h i (by omega), h k (by omega)⟩
    · rintro ⟨h1, h2⟩ i hi
      by_cases e : i = k
      · subst e; exact h2
      · exact h1 i (by omega)
  have u0 : ∀ P : Nat → Prop, (∀ i, i < 0 → P i) ↔ True := fun P => ⟨fun _ => trivial, fun _ i hi => absurd hi (by omega)⟩
  match c, hc1, hc with
  | 1, _, _ =>
    rw [show 2 ^ (8 * 1) = 256 from by decide, un, u0, e0]; simp; omega
  | 2, _, _ =>
    rw [show 2 ^ (8 * 2) = 65536 from by decide, un, un, u0, e0, e1]; simp; omega
  | 3, _, _ =>
    rw [show 2 ^ (8 * 3) = 16777216 from by decide, un, un, un, u0, e0, e1, e2]; simp; omega
  | 4, _, _ =>
    rw [show 2 ^ (8 * 4) = 4294967296 from by decide, un, un, un, un, u0, e0, e1, e2, e3]; simp; omega
  | 5, _, _ =>
    rw [show 2 ^ (8 * 5) = 1099511627776 from by decide, un, un, un, un, un, u0, e0, e1, e2, e3, e4]; simp; omega
  | 6, _, _ =>
    rw [show 2 ^ (8 * 6) = 281474976710656 from by decide, un, un, un, un, un, un, u0, e0, e1, e2, e3, e4, e5]; simp; omega
  | 7, _, _ =>
    rw [show 2 ^ (8 * 7) = 72057594037927936 from by decide, un, un, un, un, un, un, un, u0, e0, e1, e2, e3, e4, e5, e6]; simp; omega
  | 8, _, _ =>
    rw [un, un, un, un, un, un, un, un, u0, e0, e1, e2, e3, e4, e5, e6, e7]; simp; omega
theorem s_okT_iff {n c : Nat} (hn : n < 2 ^ 64) (hc1 : 1 ≤ c) (hc : c ≤ 8) : (q_all (s_okT n c) 8 = true) ↔ ((8 ≤ c ∨ n / 2 ^ (8 * c) = 0) ∧ q_all (fun i => decide (s_by n i ≤ 60)) c = true) := by
  rw [q_all_iff, q_all_iff, s_okT_iff0 hn hc1 hc]
  simp only [decide_eq_true_eq]
def s_wr (n h : Nat) (td : Nat → Int32) : Nat → Nat → Int32 := q_fold (fun i f => upd f (h + i) (nI (s_by n i))) td
theorem t_tides (td : Nat → Int32) (a1 a2 : Int32) (v : Int64) : ∃ r td', p_X8_tides td a1 a2 v = some (r, td') ∧ p_X9_tides td a1 a2 v = some (r, 0, td') := by
  obtain ⟨n, hn, rfl⟩ := wb_of v
  unfold p_X8_tides p_X9_tides
  rw [q_isHour]
  simp only [q_within, q_in_1_8, q_b1, q_ifp]
  by_cases h1 : 0 ≤ a1 ∧ a1 ≤ 95
  · simp only [if_pos h1]
    obtain ⟨o, -, ho, rfl⟩ := q_rng (a := 0) (b := 95) (by omega) (by omega) h1
    by_cases h2 : 1 ≤ a2 ∧ a2 ≤ 8
    · simp only [if_pos h2]
      obtain ⟨c, hc1, hc, rfl⟩ := q_rng (a := 1) (b := 8) (by omega) (by omega) h2
      rw [nI_add]
      by_cases h3 : 96 < o + c
      · rw [if_pos (show (96 : Int32) < nI (o + c) from nI_lt (a := 96) h3 (by omega)), if_pos (show (96 : Int32) < nI (o + c) from nI_lt (a := 96) h3 (by omega))]
        exact ⟨_, _, rfl, rfl⟩
      · rw [if_neg (show ¬ (96 : Int32) < nI (o + c) from nI_nlt (a := 96) (by omega) (by omega)), if_neg (show ¬ (96 : Int32) < nI (o + c) from nI_nlt (a := 96) (by omega) (by omega))]
        rw [x_areTides hn hc, q_b1, q_ifp]
        have lpx : k_lp (fun s : Int32 × (Nat → Int32) => lb_X8_tides_41 (nI c) (lN n) (nI o) s.1 s.2) k_fuel (0, td) = some (s_wr n o td c) := by
          refine q_run (body := fun s : Int32 × (Nat → Int32) => lb_X8_tides_41 (nI c) (lN n) (nI o) s.1 s.2) (fun i => (nI i, s_wr n o td i)) _ c (fun i hi => ?_) ?_ (by omega)
          · show lb_X8_tides_41 (nI c) (lN n) (nI o) (nI i) (s_wr n o td i) = some (.inl (nI (i + 1), upd (s_wr n o td i) (o + i) (nI (s_by n i))))
            unfold lb_X8_tides_41
            rw [q_ifge _ _ hi (by omega), x_eight hn (by omega), q_b1, nI_add, q_ix _ (by omega) (by omega), q_cl (by omega), nI_1]
          · show lb_X8_tides_41 (nI c) (lN n) (nI o) (nI c) _ = _
            unfold lb_X8_tides_41
            rw [q_ifle _ _ (Nat.le_refl _) (by omega)]
        have lpy : k_lp (fun s : Int32 × (Nat → Int32) => lb_X9_tides_89 (nI c) (nI o) (lN n) s.1 s.2) k_fuel (0, td) = some (s_wr n o td c) := by
          refine q_run (body := fun s : Int32 × (Nat → Int32) => lb_X9_tides_89 (nI c) (nI o) (lN n) s.1 s.2) (fun i => (nI i, s_wr n o td i)) _ c (fun i hi => ?_) ?_ (by omega)
          · show lb_X9_tides_89 (nI c) (nI o) (lN n) (nI i) (s_wr n o td i) = some (.inl (nI (i + 1), upd (s_wr n o td i) (o + i) (nI (s_by n i))))
            unfold lb_X9_tides_89
            rw [q_ifge _ _ hi (by omega), y_eight hn (by omega), lN_i, nI_add, q_ix _ (by omega) (by omega), q_cl (by omega), nI_1]
          · show lb_X9_tides_89 (nI c) (nI o) (lN n) (nI c) _ = _
            unfold lb_X9_tides_89
            rw [q_ifle _ _ (Nat.le_refl _) (by omega)]
        have lpf : k_lp (fun s : Int32 => lb_X9_tides_54 (nI c) (lN n) td s) k_fuel 0 = some (q_ans (q_find (fun i => if s_by n i ≤ 60 then none else some ((-1 : Int32), (0 : Int32), td)) c)) := by
          refine q_findlp _ c (fun i hi => ?_) ?_ (by omega)
          · show lb_X9_tides_54 (nI c) (lN n) td (nI i) = _
            have hb := s_by_lt n i
            unfold lb_X9_tides_54
            rw [q_ifge _ _ hi (by omega), y_eight hn (by omega)]
            have e : (lg_cmp (lN (s_by n i)) 60 ≤ 0) = (s_by n i ≤ 60) := propext ((lg_cmp_le _ _).trans (lN_le (b := 60) (by omega) (by omega)))
            by_cases c2 : s_by n i ≤ 60
            · rw [if_pos (by rw [e]; exact c2)]; simp [c2]
            · rw [if_neg (by rw [e]; exact c2)]; simp [c2]
          · show lb_X9_tides_54 (nI c) (lN n) td (nI c) = _
            unfold lb_X9_tides_54
            rw [q_ifle _ _ (Nat.le_refl _) (by omega)]
        have hlj : lj_X9_tides_51 (nI c) (lN n) td (nI o) = if q_all (fun i => decide (s_by n i ≤ 60)) c = true then some (nI c, 0, s_wr n o td c) else some (-1, 0, td) := by
          unfold lj_X9_tides_51
          rw [lpf]
          by_cases c1 : q_all (fun i => decide (s_by n i ≤ 60)) c = true
          · rw [if_pos c1]
            have : q_find (fun i => if s_by n i ≤ 60 then none else some ((-1 : Int32), (0 : Int32), td)) c = none := by
              rw [q_find_none]; intro i hi; rw [if_pos (of_decide_eq_true (q_all_iff.mp c1 i hi))]
            rw [this]
            show k_b1 (k_lp (fun s : Int32 × (Nat → Int32) => lb_X9_tides_89 (nI c) (nI o) (lN n) s.1 s.2) k_fuel (0, td)) _ = _
            rw [lpy, q_b1]
          · rw [if_neg c1]
            cases hq : q_find (fun i => if s_by n i ≤ 60 then none else some ((-1 : Int32), (0 : Int32), td)) c with
            | none =>
              rw [q_find_none] at hq
              refine absurd (q_all_iff.mpr fun i hi => ?_) c1
              have := hq i hi
              by_cases c2 : s_by n i ≤ 60
              · exact decide_eq_true c2
              · rw [if_neg c2] at this; cases this
            | some w =>
              obtain ⟨i, -, h2, -⟩ := q_find_some.mp hq
              split at h2
              · cases h2
              · cases h2; rfl
        have hd : n / 2 ^ (8 * c) < 18446744073709551616 := Nat.lt_of_le_of_lt (Nat.div_le_self _ _) hn
        have hz : c < 8 → (lg_cmp (((lN n).toUInt64 >>> ((8 * nI c).toInt64.toUInt64 &&& Int64.toUInt64 63)).toInt64) 0 = 0) = (n / 2 ^ (8 * c) = 0) := by
          intro hc8
          rw [show (8 : Int32) = nI 8 from rfl, pk_mul, wb_shr hn (by omega)]
          refine propext ((lg_cmp_eq _ _).trans ⟨fun e => ?_, fun e => by rw [e]; rfl⟩)
          have := congrArg (fun z : Int64 => z.toBitVec.toNat) e
          have h9 : (lN (n / 2 ^ (8 * c))).toBitVec.toNat = (0 : Int64).toBitVec.toNat := this
          rw [wb_tn hd] at h9
          exact h9
        rw [hlj, lpx]
        have iff := s_okT_iff hn hc1 hc
        by_cases c8 : 8 ≤ c
        · rw [if_pos (show (8 : Int32) ≤ nI c from nI_le (a := 8) c8 (by omega))]
          by_cases c1 : q_all (fun i => decide (s_by n i ≤ 60)) c = true
          · rw [if_pos (iff.mpr ⟨Or.inl c8, c1⟩), if_pos c1, q_b1]
            exact ⟨_, _, rfl, rfl⟩
          · rw [if_neg (fun hh => c1 (iff.mp hh).2), if_neg c1]
            exact ⟨_, _, rfl, rfl⟩
        · rw [if_neg (show ¬ (8 : Int32) ≤ nI c from nI_ge (b := 8) (by omega) (by omega))]
          by_cases cz : n / 2 ^ (8 * c) = 0
          · have cz2 : lg_cmp (((lN n).toUInt64 >>> ((8 * nI c).toInt64.toUInt64 &&& Int64.toUInt64 63)).toInt64) 0 = 0 := by rw [hz (by omega)]; exact cz
            simp only [if_pos cz2]
            by_cases c1 : q_all (fun i => decide (s_by n i ≤ 60)) c = true
            · rw [if_pos (iff.mpr ⟨Or.inr cz, c1⟩), if_pos c1, q_b1]
              exact ⟨_, _, rfl, rfl⟩
            · rw [if_neg (fun hh => c1 (iff.mp hh).2), if_neg c1]
              exact ⟨_, _, rfl, rfl⟩
          · have cz2 : ¬ lg_cmp (((lN n).toUInt64 >>> ((8 * nI c).toInt64.toUInt64 &&& Int64.toUInt64 63)).toInt64) 0 = 0 := by rw [hz (by omega)]; exact cz
            simp only [if_neg cz2]
            rw [if_neg (fun hh => (iff.mp hh).1.elim c8 cz)]
            exact ⟨_, _, rfl, rfl⟩
    · simp only [if_neg h2]; exact ⟨_, _, rfl, rfl⟩
  · simp only [if_neg h1]; exact ⟨_, _, rfl, rfl⟩
theorem sim_tides : k_Sim_tides R_all := by
  intro S L M a1 a2 a3 hR
  obtain ⟨hc, ht, hrn, hru, hs, hk0, hk1, hk2, hp⟩ := hR
  obtain ⟨r, t', g1, g2⟩ := t_tides (M 12) a1 a2 a3
  refine ⟨r, k_su S 1 t', L, k_su (k_su M 0 (fun _ => 0)) 12 t', ?_, ?_, hc, rfl, hrn, hru, hs, hk0, hk1, hk2, hp⟩
  · unfold pX_tides; rw [show S 1 = M 12 from ht, g1]; rfl
  · unfold pM_tides; rw [g2]; rfl
