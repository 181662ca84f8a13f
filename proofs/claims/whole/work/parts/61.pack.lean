/-! ===== eight numbers in one LONG ===== -/
def s_pk (f : Nat → Nat) : Nat := f 0 + 256 * f 1 + 65536 * f 2 + 16777216 * f 3 + 4294967296 * f 4 + 1099511627776 * f 5 + 281474976710656 * f 6 + 72057594037927936 * f 7
def s_r : Nat → Nat
  | 0 => 0
  | k + 1 => s_r k + 2 ^ (8 * k)
theorem s_r_lt {k hd : Nat} (hk : k ≤ 8) (hd6 : hd ≤ 6) : hd * s_r k < 2 ^ (8 * k) := by
  have h := (by decide +kernel : ∀ k, k < 9 → 6 * s_r k < 2 ^ (8 * k)) k (by omega)
  exact Nat.lt_of_le_of_lt (Nat.mul_le_mul_right _ hd6) h
theorem s_pk_in (hd b lk : Nat) (h : b + lk ≤ 8) : s_pk (fun h => if b ≤ h ∧ h < b + lk then hd else 0) = hd * s_r lk * 2 ^ (8 * b) := by
  have h1 := (by decide +kernel : ∀ b, b < 9 → ∀ lk, lk < 9 → b + lk ≤ 8 → s_pk (fun h => if b ≤ h ∧ h < b + lk then 1 else 0) = s_r lk * 2 ^ (8 * b)) b (by omega) lk (by omega) h
  rw [Nat.mul_assoc, ← h1]
  have e : ∀ h, (if b ≤ h ∧ h < b + lk then hd else 0) = hd * (if b ≤ h ∧ h < b + lk then 1 else 0) := fun h => by split <;> simp
  unfold s_pk
  simp only [e]
  generalize (if b ≤ 0 ∧ 0 < b + lk then 1 else 0) = a0
  generalize (if b ≤ 1 ∧ 1 < b + lk then 1 else 0) = a1
  generalize (if b ≤ 2 ∧ 2 < b + lk then 1 else 0) = a2
  generalize (if b ≤ 3 ∧ 3 < b + lk then 1 else 0) = a3
  generalize (if b ≤ 4 ∧ 4 < b + lk then 1 else 0) = a4
  generalize (if b ≤ 5 ∧ 5 < b + lk then 1 else 0) = a5
  generalize (if b ≤ 6 ∧ 6 < b + lk then 1 else 0) = a6
  generalize (if b ≤ 7 ∧ 7 < b + lk then 1 else 0) = a7
  simp only [Nat.mul_add, Nat.mul_left_comm hd]
theorem s_pk_add (f g : Nat → Nat) : s_pk (fun h => f h + g h) = s_pk f + s_pk g := by
  simp only [s_pk]
  omega
theorem s_pk_c (c : Nat) : s_pk (fun _ => c) = c * 72340172838076673 := by
  simp only [s_pk]
  omega
theorem s_pk_mask {f : Nat → Nat} (hf : ∀ h, h < 8 → f h < 256) : s_pk f &&& 9259542123273814144 = 0 ↔ ∀ h, h < 8 → f h < 128 := by
  have f0 := hf 0 (by omega)
  have f1 := hf 1 (by omega)
  have f2 := hf 2 (by omega)
  have f3 := hf 3 (by omega)
  have f4 := hf 4 (by omega)
  have f5 := hf 5 (by omega)
  have f6 := hf 6 (by omega)
  have f7 := hf 7 (by omega)
  have b0 : (s_pk f).testBit 7 = decide (128 ≤ f 0) := by rw [Nat.testBit_eq_decide_div_mod_eq]; exact decide_eq_decide.mpr (by unfold s_pk; omega)
  have b1 : (s_pk f).testBit 15 = decide (128 ≤ f 1) := by rw [Nat.testBit_eq_decide_div_mod_eq]; exact decide_eq_decide.mpr (by unfold s_pk; omega)
  have b2 : (s_pk f).testBit 23 = decide (128 ≤ f 2) := by rw [Nat.testBit_eq_decide_div_mod_eq]; exact decide_eq_decide.mpr (by unfold s_pk; omega)
  have b3 : (s_pk f).testBit 31 = decide (128 ≤ f 3) := by rw [Nat.testBit_eq_decide_div_mod_eq]; exact decide_eq_decide.mpr (by unfold s_pk; omega)
  have b4 : (s_pk f).testBit 39 = decide (128 ≤ f 4) := by rw [Nat.testBit_eq_decide_div_mod_eq]; exact decide_eq_decide.mpr (by unfold s_pk; omega)
  have b5 : (s_pk f).testBit 47 = decide (128 ≤ f 5) := by rw [Nat.testBit_eq_decide_div_mod_eq]; exact decide_eq_decide.mpr (by unfold s_pk; omega)
  have b6 : (s_pk f).testBit 55 = decide (128 ≤ f 6) := by rw [Nat.testBit_eq_decide_div_mod_eq]; exact decide_eq_decide.mpr (by unfold s_pk; omega)
  have b7 : (s_pk f).testBit 63 = decide (128 ≤ f 7) := by rw [Nat.testBit_eq_decide_div_mod_eq]; exact decide_eq_decide.mpr (by unfold s_pk; omega)
  constructor
  · intro h k hk
    have t : ∀ i, ((s_pk f).testBit i && (9259542123273814144 : Nat).testBit i) = false := fun i => by rw [← Nat.testBit_and, h, Nat.zero_testBit]
    have t0 := t 7
    have t1 := t 15
    have t2 := t 23
    have t3 := t 31
    have t4 := t 39
    have t5 := t 47
    have t6 := t 55
    have t7 := t 63
    rw [b0, (by decide +kernel : (9259542123273814144 : Nat).testBit 7 = true), Bool.and_true] at t0
    rw [b1, (by decide +kernel : (9259542123273814144 : Nat).testBit 15 = true), Bool.and_true] at t1
    rw [b2, (by decide +kernel : (9259542123273814144 : Nat).testBit 23 = true), Bool.and_true] at t2
    rw [b3, (by decide +kernel : (9259542123273814144 : Nat).testBit 31 = true), Bool.and_true] at t3
    rw [b4, (by decide +kernel : (9259542123273814144 : Nat).testBit 39 = true), Bool.and_true] at t4
    rw [b5, (by decide +kernel : (9259542123273814144 : Nat).testBit 47 = true), Bool.and_true] at t5
    rw [b6, (by decide +kernel : (9259542123273814144 : Nat).testBit 55 = true), Bool.and_true] at t6
    rw [b7, (by decide +kernel : (9259542123273814144 : Nat).testBit 63 = true), Bool.and_true] at t7
    have t0 := of_decide_eq_false t0
    have t1 := of_decide_eq_false t1
    have t2 := of_decide_eq_false t2
    have t3 := of_decide_eq_false t3
    have t4 := of_decide_eq_false t4
    have t5 := of_decide_eq_false t5
    have t6 := of_decide_eq_false t6
    have t7 := of_decide_eq_false t7
    rcases (by omega : k = 0 ∨ k = 1 ∨ k = 2 ∨ k = 3 ∨ k = 4 ∨ k = 5 ∨ k = 6 ∨ k = 7) with e | e | e | e | e | e | e | e <;> subst e <;> omega
  · intro h
    apply Nat.eq_of_testBit_eq
    intro i
    rw [Nat.testBit_and, Nat.zero_testBit]
    rcases Nat.lt_or_ge i 64 with hi | hi
    · rw [(by decide +kernel : ∀ i, i < 64 → (9259542123273814144 : Nat).testBit i = decide (i % 8 = 7)) i hi]
      by_cases c : i % 8 = 7
      · rw [decide_eq_true c, Bool.and_true]
        have h0 := h 0 (by omega)
        have h1 := h 1 (by omega)
        have h2 := h 2 (by omega)
        have h3 := h 3 (by omega)
        have h4 := h 4 (by omega)
        have h5 := h 5 (by omega)
        have h6 := h 6 (by omega)
        have h7 := h 7 (by omega)
        rcases (by omega : i = 7 ∨ i = 15 ∨ i = 23 ∨ i = 31 ∨ i = 39 ∨ i = 47 ∨ i = 55 ∨ i = 63) with e | e | e | e | e | e | e | e <;> subst e
        · rw [b0]; exact decide_eq_false (by omega)
        · rw [b1]; exact decide_eq_false (by omega)
        · rw [b2]; exact decide_eq_false (by omega)
        · rw [b3]; exact decide_eq_false (by omega)
        · rw [b4]; exact decide_eq_false (by omega)
        · rw [b5]; exact decide_eq_false (by omega)
        · rw [b6]; exact decide_eq_false (by omega)
        · rw [b7]; exact decide_eq_false (by omega)
      · rw [decide_eq_false c, Bool.and_false]
    · rw [Nat.testBit_lt_two_pow (x := 9259542123273814144) (Nat.lt_of_lt_of_le (by decide : (9259542123273814144 : Nat) < 2 ^ 64) (Nat.pow_le_pow_right (by decide) hi)), Bool.and_false]
def s_mo (men : Nat) (f : Nat → Nat) : Bool := q_all (fun h => decide (f h ≤ men)) 8
theorem x_men {f : Nat → Nat} {men : Nat} (hf : ∀ h, h < 8 → f h ≤ 100) (hm : men ≤ 100) : p_X2_areMenEnough (lN ((127 - men) * 72340172838076673)) (lN (s_pk f)) = some (if s_mo men f = true then 1 else 0) := by
  have hg : ∀ h, h < 8 → f h + (127 - men) < 256 := fun h hh => by have := hf h hh; omega
  have e := s_pk_mask (f := fun h => f h + (127 - men)) hg
  have key : (lg_cmp ((lN (s_pk f) + lN ((127 - men) * 72340172838076673)) &&& (-9187201950435737472)) 0 = 0) ↔ s_mo men f = true := by
    rw [lg_cmp_eq, lN_add, ← s_pk_c, ← s_pk_add, (by decide +kernel : (-9187201950435737472 : Int64) = lN 9259542123273814144), fb_andL]
    have hb : (s_pk (fun h => f h + (127 - men)) &&& 9259542123273814144) < 2 ^ 64 := Nat.and_lt_two_pow _ (by decide)
    have e2 : lN (s_pk (fun h => f h + (127 - men)) &&& 9259542123273814144) = 0 ↔ (s_pk (fun h => f h + (127 - men)) &&& 9259542123273814144) = 0 := by
      constructor
      · intro h
        have := congrArg (fun x : Int64 => x.toBitVec.toNat) h
        have h2 : (lN (s_pk (fun h => f h + (127 - men)) &&& 9259542123273814144)).toBitVec.toNat = (0 : Int64).toBitVec.toNat := this
        rw [wb_tn hb] at h2
        exact h2
      · intro h; rw [h]; rfl
    rw [e2, e]
    unfold s_mo
    rw [q_all_iff]
    constructor
    · intro h k hk
      have := h k hk
      exact decide_eq_true (by omega)
    · intro h k hk
      have := of_decide_eq_true (h k hk)
      show f k + (127 - men) < 128
      omega
  unfold p_X2_areMenEnough
  by_cases c : s_mo men f = true
  · rw [if_pos (key.mpr c), if_pos c]
  · rw [if_neg (fun h => c (key.mp h)), if_neg c]
theorem x_lanes {hrs hnd : Nat → Int32} {sz s lk hd : Nat} (hsz : sz < 5) (hs : s < 12) (hlk : lk ≤ 5) (hh : hnd s = nI hd) (hd6 : hd ≤ 6) (f0 : Nat → Int64) : ∃ f, k_lp (fun t : Int32 × (Nat → Int64) => lb_X2_gather_94 (nI sz) hrs (nI lk) (nI s) hnd t.1 t.2) k_fuel (0, vp_updL f0 sz 0) = some f ∧ f sz = lN (hd * s_r lk) ∧ ∀ k, ¬ k = sz → f k = f0 k := by
  obtain ⟨f, h1, h2⟩ := q_lpI (body := fun t : Int32 × (Nat → Int64) => lb_X2_gather_94 (nI sz) hrs (nI lk) (nI s) hnd t.1 t.2) (fun i t => t.1 = nI i ∧ t.2 sz = lN (hd * s_r i) ∧ ∀ k, ¬ k = sz → t.2 k = f0 k) (fun f => f sz = lN (hd * s_r lk) ∧ ∀ k, ¬ k = sz → f k = f0 k) lk (fun i t hi ht => by
    obtain ⟨t1, t2⟩ := t
    obtain ⟨h1, h2, h3⟩ := ht
    have h1' : t1 = nI i := h1
    have h2' : t2 sz = lN (hd * s_r i) := h2
    subst h1'
    show ∃ X, lb_X2_gather_94 (nI sz) hrs (nI lk) (nI s) hnd (nI i) t2 = some X ∧ _
    unfold lb_X2_gather_94
    rw [q_ix _ hsz (by omega), q_cl (by omega), upd_s, q_ifge _ _ hi (by omega), q_ix _ hsz (by omega), q_ix _ hs (by omega), q_ix _ hsz (by omega), q_cl (by omega), hh, h2', nI_l (by omega), show (8 : Int32) * nI i = nI (8 * i) from (Int32.ofNat_mul 8 i).symm, wb_shl _ (by omega), fb_orL]
    refine ⟨_, rfl, Or.inl ⟨_, rfl, nI_1 i, ?_, fun k hk => ?_⟩⟩
    · show (if sz = sz then _ else _) = _
      rw [if_pos rfl]
      have hb := s_r_lt (k := i) (by omega) hd6
      have ho := Nat.two_pow_add_eq_or_of_lt hb hd
      rw [Nat.or_comm, Nat.mul_comm hd (2 ^ (8 * i)), ← ho]
      congr 1
      show _ = hd * (s_r i + 2 ^ (8 * i))
      rw [Nat.mul_add, Nat.mul_comm hd (2 ^ (8 * i)), Nat.add_comm]
    · show (if k = sz then _ else t2 k) = _
      rw [if_neg hk]; exact h3 k hk) (fun t ht => by
    obtain ⟨t1, t2⟩ := t
    obtain ⟨h1, h2, h3⟩ := ht
    have h1' : t1 = nI lk := h1
    subst h1'
    refine ⟨t2, ?_, h2, h3⟩
    show lb_X2_gather_94 (nI sz) hrs (nI lk) (nI s) hnd (nI lk) t2 = _
    unfold lb_X2_gather_94
    rw [q_ix _ hsz (by omega), q_cl (by omega), upd_s, q_ifle _ _ (Nat.le_refl _) (by omega)]) (0, vp_updL f0 sz 0) ⟨rfl, by show (if sz = sz then (0 : Int64) else _) = lN (hd * 0); rw [if_pos rfl, Nat.mul_zero]; rfl, fun k hk => if_neg hk⟩ (by omega)
  exact ⟨f, h1, h2.1, h2.2⟩
