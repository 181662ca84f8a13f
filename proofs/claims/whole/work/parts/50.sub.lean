/-! ===== the subsets of a set of bits, upwards ===== -/
def d_all : Nat → (Nat → Bool) → Nat
  | 0, _ => 0
  | n + 1, p => (if p 0 = true then 1 else 0) + 2 * d_all n (fun i => p (i + 1))
def d_cnt : Nat → (Nat → Bool) → Nat
  | 0, _ => 0
  | n + 1, p => (if p 0 = true then 1 else 0) + d_cnt n (fun i => p (i + 1))
def d_dep : Nat → (Nat → Bool) → Nat → Nat
  | 0, _, _ => 0
  | n + 1, p, i => if p 0 = true then i % 2 + 2 * d_dep n (fun i => p (i + 1)) (i / 2) else 2 * d_dep n (fun i => p (i + 1)) i
theorem d_all_t (n : Nat) {p : Nat → Bool} (h : p 0 = true) : d_all (n + 1) p = 1 + 2 * d_all n (fun i => p (i + 1)) := by rw [d_all, if_pos h]
theorem d_all_f (n : Nat) {p : Nat → Bool} (h : ¬ p 0 = true) : d_all (n + 1) p = 2 * d_all n (fun i => p (i + 1)) := by rw [d_all, if_neg h, Nat.zero_add]
theorem d_dep_t (n i : Nat) {p : Nat → Bool} (h : p 0 = true) : d_dep (n + 1) p i = i % 2 + 2 * d_dep n (fun i => p (i + 1)) (i / 2) := by rw [d_dep, if_pos h]
theorem d_dep_f (n i : Nat) {p : Nat → Bool} (h : ¬ p 0 = true) : d_dep (n + 1) p i = 2 * d_dep n (fun i => p (i + 1)) i := by rw [d_dep, if_neg h]
theorem d_cnt_t (n : Nat) {p : Nat → Bool} (h : p 0 = true) : d_cnt (n + 1) p = 1 + d_cnt n (fun i => p (i + 1)) := by rw [d_cnt, if_pos h]
theorem d_cnt_f (n : Nat) {p : Nat → Bool} (h : ¬ p 0 = true) : d_cnt (n + 1) p = d_cnt n (fun i => p (i + 1)) := by rw [d_cnt, if_neg h, Nat.zero_add]
theorem tb_0 (b x : Nat) (hb : b ≤ 1) : (b + 2 * x).testBit 0 = decide (b = 1) := by
  rw [Nat.testBit_zero]
  congr 1
  exact propext ⟨fun h => by omega, fun h => by omega⟩
theorem tb_s (b x j : Nat) (hb : b ≤ 1) : (b + 2 * x).testBit (j + 1) = x.testBit j := by
  rw [Nat.testBit_succ, show (b + 2 * x) / 2 = x from by omega]
theorem tb_0' (x : Nat) : (2 * x).testBit 0 = false := by
  have := tb_0 0 x (by omega); rw [Nat.zero_add] at this; rw [this]; rfl
theorem tb_s' (x j : Nat) : (2 * x).testBit (j + 1) = x.testBit j := by
  have := tb_s 0 x j (by omega); rw [Nat.zero_add] at this; exact this
theorem d_all_tb : ∀ (n : Nat) (p : Nat → Bool) (j : Nat), (d_all n p).testBit j = (decide (j < n) && p j)
  | 0, p, j => by simp [d_all]
  | n + 1, p, j => by
    have ih := d_all_tb n (fun i => p (i + 1))
    by_cases h : p 0 = true
    · rw [d_all_t n h]
      cases j with
      | zero => rw [tb_0 _ _ (by omega)]; simp [h]
      | succ j => rw [tb_s _ _ _ (by omega), ih j]; simp
    · rw [d_all_f n h]
      cases j with
      | zero => rw [tb_0']; simp [h]
      | succ j => rw [tb_s', ih j]; simp
theorem d_dep_sub : ∀ (n : Nat) (p : Nat → Bool) (i j : Nat), (d_dep n p i).testBit j = true → j < n ∧ p j = true
  | 0, p, i, j => fun h => by simp [d_dep] at h
  | n + 1, p, i, j => fun h => by
    have ih := d_dep_sub n (fun i => p (i + 1))
    by_cases hp : p 0 = true
    · rw [d_dep_t n i hp] at h
      cases j with
      | zero => exact ⟨by omega, hp⟩
      | succ j =>
        rw [tb_s _ _ _ (by omega)] at h
        obtain ⟨h1, h2⟩ := ih _ j h
        exact ⟨by omega, h2⟩
    · rw [d_dep_f n i hp] at h
      cases j with
      | zero => rw [tb_0'] at h; cases h
      | succ j =>
        rw [tb_s'] at h
        obtain ⟨h1, h2⟩ := ih _ j h
        exact ⟨by omega, h2⟩
theorem d_dep_le : ∀ (n : Nat) (p : Nat → Bool) (i : Nat), d_dep n p i ≤ d_all n p
  | 0, p, i => Nat.le_refl 0
  | n + 1, p, i => by
    have ih := d_dep_le n (fun i => p (i + 1))
    by_cases hp : p 0 = true
    · rw [d_dep_t n i hp, d_all_t n hp]
      have := ih (i / 2)
      omega
    · rw [d_dep_f n i hp, d_all_f n hp]
      have := ih i
      omega
theorem d_all_lt : ∀ (n : Nat) (p : Nat → Bool), d_all n p < 2 ^ n
  | 0, p => by simp [d_all]
  | n + 1, p => by
    have ih := d_all_lt n (fun i => p (i + 1))
    have e : 2 ^ (n + 1) = 2 * 2 ^ n := by rw [Nat.pow_succ]; omega
    by_cases hp : p 0 = true
    · rw [d_all_t n hp]; omega
    · rw [d_all_f n hp]; omega
theorem d_diff : ∀ (n : Nat) (p : Nat → Bool) (i j : Nat), (d_all n p - d_dep n p i).testBit j = ((d_all n p).testBit j && !(d_dep n p i).testBit j)
  | 0, p, i, j => by simp [d_all, d_dep]
  | n + 1, p, i, j => by
    have ih := d_diff n (fun i => p (i + 1))
    by_cases hp : p 0 = true
    · rw [d_dep_t n i hp, d_all_t n hp]
      have hle := d_dep_le n (fun i => p (i + 1)) (i / 2)
      rcases Nat.mod_two_eq_zero_or_one i with h | h
      · rw [h, show 1 + 2 * d_all n (fun i => p (i + 1)) - (0 + 2 * d_dep n (fun i => p (i + 1)) (i / 2)) = 1 + 2 * (d_all n (fun i => p (i + 1)) - d_dep n (fun i => p (i + 1)) (i / 2)) from by omega]
        cases j with
        | zero => rw [tb_0 _ _ (by omega), tb_0 _ _ (by omega), tb_0 _ _ (by omega)]; rfl
        | succ j => rw [tb_s _ _ _ (by omega), tb_s _ _ _ (by omega), tb_s _ _ _ (by omega)]; exact ih _ j
      · rw [h, show 1 + 2 * d_all n (fun i => p (i + 1)) - (1 + 2 * d_dep n (fun i => p (i + 1)) (i / 2)) = 2 * (d_all n (fun i => p (i + 1)) - d_dep n (fun i => p (i + 1)) (i / 2)) from by omega]
        cases j with
        | zero => rw [tb_0', tb_0 _ _ (by omega), tb_0 _ _ (by omega)]; rfl
        | succ j => rw [tb_s', tb_s _ _ _ (by omega), tb_s _ _ _ (by omega)]; exact ih _ j
    · rw [d_dep_f n i hp, d_all_f n hp, ← Nat.mul_sub]
      cases j with
      | zero => rw [tb_0', tb_0', tb_0']; rfl
      | succ j => rw [tb_s', tb_s', tb_s']; exact ih _ j
theorem d_next : ∀ (n : Nat) (p : Nat → Bool) (i : Nat), i + 1 < 2 ^ d_cnt n p → d_dep n p i < d_all n p ∧ ∀ j, (d_dep n p (i + 1)).testBit j = ((d_all n p).testBit j && !(d_all n p - d_dep n p i - 1).testBit j)
  | 0, p, i, h => by rw [d_cnt] at h; omega
  | n + 1, p, i, h => by
    have ih := d_next n (fun i => p (i + 1))
    by_cases hp : p 0 = true
    · rw [d_cnt_t n hp, Nat.pow_add] at h
      rw [d_dep_t n i hp, d_all_t n hp, d_dep_t n (i + 1) hp]
      have hle := d_dep_le n (fun i => p (i + 1)) (i / 2)
      rcases Nat.mod_two_eq_zero_or_one i with hi | hi
      · rw [hi, show (i + 1) % 2 = 1 from by omega, show (i + 1) / 2 = i / 2 from by omega]
        refine ⟨by omega, fun j => ?_⟩
        rw [show 1 + 2 * d_all n (fun i => p (i + 1)) - (0 + 2 * d_dep n (fun i => p (i + 1)) (i / 2)) - 1 = 2 * (d_all n (fun i => p (i + 1)) - d_dep n (fun i => p (i + 1)) (i / 2)) from by omega]
        cases j with
        | zero => rw [tb_0 _ _ (by omega), tb_0 _ _ (by omega), tb_0']; rfl
        | succ j =>
          rw [tb_s _ _ _ (by omega), tb_s _ _ _ (by omega), tb_s', d_diff]
          cases hd : (d_dep n (fun i => p (i + 1)) (i / 2)).testBit j with
          | true =>
            obtain ⟨h1, h2⟩ := d_dep_sub _ _ _ _ hd
            rw [d_all_tb, decide_eq_true h1]
            have h2' : p (j + 1) = true := h2
            rw [h2']; rfl
          | false => cases (d_all n (fun i => p (i + 1))).testBit j <;> rfl
      · obtain ⟨i1, i2⟩ := ih (i / 2) (by omega)
        rw [hi, show (i + 1) % 2 = 0 from by omega, show (i + 1) / 2 = i / 2 + 1 from by omega]
        refine ⟨by omega, fun j => ?_⟩
        rw [show 1 + 2 * d_all n (fun i => p (i + 1)) - (1 + 2 * d_dep n (fun i => p (i + 1)) (i / 2)) - 1 = 1 + 2 * (d_all n (fun i => p (i + 1)) - d_dep n (fun i => p (i + 1)) (i / 2) - 1) from by omega]
        cases j with
        | zero => rw [tb_0 _ _ (by omega), tb_0 _ _ (by omega), tb_0 _ _ (by omega)]; rfl
        | succ j => rw [tb_s _ _ _ (by omega), tb_s _ _ _ (by omega), tb_s _ _ _ (by omega)]; exact i2 j
    · rw [d_cnt_f n hp] at h
      obtain ⟨i1, i2⟩ := ih i h
      rw [d_dep_f n i hp, d_all_f n hp, d_dep_f n (i + 1) hp]
      refine ⟨by omega, fun j => ?_⟩
      rw [show 2 * d_all n (fun i => p (i + 1)) - 2 * d_dep n (fun i => p (i + 1)) i - 1 = 1 + 2 * (d_all n (fun i => p (i + 1)) - d_dep n (fun i => p (i + 1)) i - 1) from by omega]
      cases j with
      | zero => rw [tb_0', tb_0']; rfl
      | succ j => rw [tb_s', tb_s', tb_s _ _ _ (by omega)]; exact i2 j
theorem d_mono : ∀ (n : Nat) (p : Nat → Bool) (i j : Nat), i < j → j < 2 ^ d_cnt n p → d_dep n p i < d_dep n p j
  | 0, p, i, j, h1, h2 => by rw [d_cnt] at h2; omega
  | n + 1, p, i, j, h1, h2 => by
    have ih := d_mono n (fun i => p (i + 1))
    by_cases hp : p 0 = true
    · rw [d_cnt_t n hp, Nat.pow_add] at h2
      rw [d_dep_t n i hp, d_dep_t n j hp]
      rcases Nat.lt_or_ge (i / 2) (j / 2) with h | h
      · have := ih _ _ h (by omega)
        omega
      · have e : i / 2 = j / 2 := by omega
        rw [e]; omega
    · rw [d_cnt_f n hp] at h2
      rw [d_dep_f n i hp, d_dep_f n j hp]
      have := ih i j h1 h2
      omega
theorem d_surj : ∀ (n : Nat) (p : Nat → Bool) (t : Nat), t < 2 ^ n → (∀ j, t.testBit j = true → p j = true) → ∃ i, i < 2 ^ d_cnt n p ∧ d_dep n p i = t
  | 0, p, t, h1, h2 => ⟨0, by rw [d_cnt]; decide, by rw [d_dep]; omega⟩
  | n + 1, p, t, h1, h2 => by
    have e : 2 ^ (n + 1) = 2 * 2 ^ n := by rw [Nat.pow_succ]; omega
    obtain ⟨i, i1, i2⟩ := d_surj n (fun i => p (i + 1)) (t / 2) (by omega) (fun j hj => h2 (j + 1) (by rw [Nat.testBit_succ]; exact hj))
    by_cases hp : p 0 = true
    · refine ⟨t % 2 + 2 * i, ?_, ?_⟩
      · rw [d_cnt_t n hp, Nat.pow_add]; omega
      · rw [d_dep_t n _ hp, show (t % 2 + 2 * i) / 2 = i from by omega, show (t % 2 + 2 * i) % 2 = t % 2 from by omega, i2]; omega
    · have h0 : t % 2 = 0 := by
        rcases Nat.mod_two_eq_zero_or_one t with h | h
        · exact h
        · exact absurd (h2 0 (by rw [Nat.testBit_zero, h]; rfl)) hp
      exact ⟨i, by rw [d_cnt_f n hp]; exact i1, by rw [d_dep_f n _ hp, i2]; omega⟩
theorem d_dep_0 : ∀ (n : Nat) (p : Nat → Bool), d_dep n p 0 = 0
  | 0, p => rfl
  | n + 1, p => by
    have ih := d_dep_0 n (fun i => p (i + 1))
    by_cases hp : p 0 = true
    · rw [d_dep_t n _ hp, Nat.zero_div, ih]
    · rw [d_dep_f n _ hp, ih]
theorem d_cnt_ct : ∀ (n : Nat) (p : Nat → Bool), d_cnt n p = fb_ct p n
  | 0, p => rfl
  | n + 1, p => by
    have ih := d_cnt_ct n (fun i => p (i + 1))
    rw [Nat.add_comm n 1, fb_ct_split p 1 n, Nat.add_comm 1 n]
    rw [d_cnt, ih]
    have e : fb_ct p 1 = if p 0 = true then 1 else 0 := by
      show 0 + (if p 0 = true then 1 else 0) = _
      rw [Nat.zero_add]
    rw [e]
    congr 1
    exact fb_ct_cong fun k hk => by rw [Nat.add_comm]
theorem q_subnot {D O : Nat} (h : D < O) (hO : O < 4096) : nI D - nI O = nI (O - D - 1) ^^^ (-1) := by
  apply Int32.toBitVec_inj.mp
  show BitVec.ofNat 32 D - BitVec.ofNat 32 O = BitVec.ofNat 32 (O - D - 1) ^^^ BitVec.allOnes 32
  rw [BitVec.xor_allOnes]
  apply BitVec.eq_of_toNat_eq
  rw [BitVec.toNat_sub, BitVec.toNat_not, BitVec.toNat_ofNat, BitVec.toNat_ofNat, BitVec.toNat_ofNat]
  omega
theorem q_nextset {n i : Nat} {p : Nat → Bool} (hn : n ≤ 12) (h : i + 1 < 2 ^ d_cnt n p) : (nI (d_dep n p i) - nI (d_all n p)) &&& nI (d_all n p) = nI (d_dep n p (i + 1)) := by
  obtain ⟨h1, h2⟩ := d_next n p i h
  have h3 : d_all n p < 4096 := by
    have a := d_all_lt n p
    have b : 2 ^ n ≤ 2 ^ 12 := Nat.pow_le_pow_right (by omega) hn
    omega
  refine b_ext fun j hj => ?_
  rw [b_and, q_subnot h1 h3, bt_not _ hj, bt_nI _ hj, bt_nI _ hj, bt_nI _ hj, h2 j, Bool.and_comm]
