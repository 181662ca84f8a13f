def kr (x : Int32) (a b : Int) : Prop := a ≤ x.toInt ∧ x.toInt ≤ b
def k_bits (p : Nat → Bool) : Nat → Nat
  | 0 => 0
  | n + 1 => k_bits p n + (if p n then 2 ^ n else 0)
def k_out (m : Nat → Int32) : Nat := k_bits (fun i => decide ((i : Int) < (m 10).toInt) && decide (m (37 + i) = 0)) 12
def k_wh (m : Nat → Int32) : Nat := k_bits (fun i => decide ((i : Int) < (m 11).toInt) && decide (m (67 + i) = 1)) 6
def k_lo (k : Nat) : Int := if k < 6 then (if k = 1 then -9 else 0) else if k < 10 then -2147483648 else if 25 ≤ k ∧ k < 37 then -1 else 0
def k_hi (k : Nat) : Int := if k < 6 then (if k = 0 then 96 else if k = 1 then 9 else if k = 2 then 220 else if k = 5 then 1000 else 1) else if k < 10 then 2147483647 else if k < 13 then (if k = 11 then 6 else 12) else if k < 25 then 100 else if k < 37 then 11 else if k < 49 then 1 else if k < 55 then 2 else if k < 61 then 6 else if k < 67 then 400 else if k < 73 then 1 else if k < 85 then 10 else if k < 97 then 1 else if k < 109 then 6 else if k < 121 then 4 else if k < 133 then 50 else if k < 145 then 100 else if k < 157 then 2 else 4
/-- what holds of the reference's row of numbers -/
def k_Rng (m : Nat → Int32) : Prop := ∀ k, k < 169 → kr (m k) (k_lo k) (k_hi k)
def k_Und (m : Nat → Int32) : Prop := ∀ i : Nat, (i : Int) < (m 10).toInt → (m (25 + i)).toInt < (i : Int)
def k_Par (m : Nat → Int32) : Prop := ∀ i : Nat, (i : Int) < (m 11).toInt → 1 ≤ (m (55 + i)).toInt
def k_Sea (m : Nat → Int32) : Prop := ∀ i : Nat, (i : Int) < (m 12).toInt → ((m (145 + i)).toInt = 0 → (m (157 + i)).toInt = 0) ∧ ((m (145 + i)).toInt = 1 → (m (157 + i)).toInt < (m (109 + i)).toInt) ∧ 1 ≤ (m (109 + i)).toInt
def k_Inv (m : Nat → Int32) : Prop := k_Rng m ∧ k_Und m ∧ k_Par m ∧ k_Sea m
/-- the class's ship is the reference's row of numbers -/
def R_ship (ho : Int32) (he : Int32) (wa : Int32) (pi : Int32) (bo : Int32) (we : Int32) (tk : Int32) (mn : Int32) (pa : Int32) (mv : Int32) (ot : Int32) (ts : Int32) (wt : Nat → Int32) (un : Nat → Int32) (wh : Int32) (tas : Int32) (ma : Nat → Int32) (pr : Nat → Int32) (sg : Nat → Int32) (ss : Int32) (sk : Nat → Int32) (sd : Nat → Int32) (hd : Nat → Int32) (lg : Nat → Int32) (tr : Nat → Int32) (wo : Nat → Int32) (sta : Nat → Int32) (dn : Nat → Int32) (m : Nat → Int32) : Prop := (ho = m 0 ∧ he = m 1 ∧ wa = m 2 ∧ pi = m 5 ∧ bo = m 3 ∧ we = m 4 ∧ tk = m 6 ∧ mn = m 7 ∧ pa = m 8 ∧ mv = m 9 ∧ ot = nI (k_out m) ∧ ts = m 10 ∧ wh = nI (k_wh m) ∧ tas = m 11 ∧ ss = m 12) ∧ (∀ i, i < 12 → wt i = m (13 + i) ∧ un i = m (25 + i)) ∧ (∀ i, i < 6 → ma i = m (49 + i) ∧ pr i = m (55 + i) ∧ sg i = m (61 + i)) ∧ (∀ i, i < 12 → sk i = m (73 + i) ∧ sd i = m (85 + i) ∧ hd i = m (97 + i) ∧ lg i = m (109 + i) ∧ tr i = m (121 + i) ∧ wo i = m (133 + i) ∧ sta i = m (145 + i) ∧ dn i = m (157 + i)) ∧ k_Inv m
def R_cnt (a b : Int32) : Prop := a = b ∧ kr b 0 3
def R_tide (f g : Nat → Int32) : Prop := f = g
def R_rain (f g : Nat → Int32) : Prop := f = g ∧ ∀ h, h < 96 → kr (g h) 0 1
def R_rule (f g : Nat → Int32) : Prop := (f 0 = g 0 ∧ f 1 = g 1 ∧ f 2 = g 2 ∧ f 3 = g 3 ∧ f 5 = g 5 ∧ f 6 = g 6 ∧ f 7 = g 7) ∧ kr (g 0) 0 40 ∧ kr (g 1) 100 1000 ∧ kr (g 2) 0 2000 ∧ kr (g 3) 1 20 ∧ kr (g 5) 0 1000 ∧ kr (g 6) 0 1000 ∧ kr (g 7) 0 1000
def R_planks (f g : Nat → Int32) : Prop := f = g ∧ ∀ p, p < 30 → kr (g p) (-1) 1
def R_all (S : Nat → Nat → Int32) (_ : Nat → Nat → Int64) (M : Nat → Nat → Int32) : Prop := R_cnt (S 0 0) (M 1 0) ∧ R_tide (S 1) (M 12) ∧ R_rain (S 2) (M 13) ∧ R_rule (S 3) (M 14) ∧ R_ship (S 4 0) (S 5 0) (S 6 0) (S 7 0) (S 8 0) (S 9 0) (S 10 0) (S 11 0) (S 12 0) (S 13 0) (S 14 0) (S 15 0) (S 16) (S 17) (S 18 0) (S 19 0) (S 20) (S 21) (S 22) (S 23 0) (S 24) (S 25) (S 26) (S 27) (S 28) (S 29) (S 30) (S 31) (M 9) ∧ (0 < (M 1 0).toInt → R_ship (S 32 0) (S 33 0) (S 34 0) (S 35 0) (S 36 0) (S 37 0) (S 38 0) (S 39 0) (S 40 0) (S 41 0) (S 42 0) (S 43 0) (S 44) (S 45) (S 46 0) (S 47 0) (S 48) (S 49) (S 50) (S 51 0) (S 52) (S 53) (S 54) (S 55) (S 56) (S 57) (S 58) (S 59) (fun i => M 11 i)) ∧ (1 < (M 1 0).toInt → R_ship (S 60 0) (S 61 0) (S 62 0) (S 63 0) (S 64 0) (S 65 0) (S 66 0) (S 67 0) (S 68 0) (S 69 0) (S 70 0) (S 71 0) (S 72) (S 73) (S 74 0) (S 75 0) (S 76) (S 77) (S 78) (S 79 0) (S 80) (S 81) (S 82) (S 83) (S 84) (S 85) (S 86) (S 87) (fun i => M 11 (169 + i))) ∧ (2 < (M 1 0).toInt → R_ship (S 88 0) (S 89 0) (S 90 0) (S 91 0) (S 92 0) (S 93 0) (S 94 0) (S 95 0) (S 96 0) (S 97 0) (S 98 0) (S 99 0) (S 100) (S 101) (S 102 0) (S 103 0) (S 104) (S 105) (S 106) (S 107 0) (S 108) (S 109) (S 110) (S 111) (S 112) (S 113) (S 114) (S 115) (fun i => M 11 (338 + i))) ∧ R_planks (S 156) (M 18)
/-! ===== small facts ===== -/
theorem kr_nI {x : Int32} {a b : Int} (h : kr x a b) (ha : 0 ≤ a) (hb : b < 2147483648) : ∃ n : Nat, x = nI n ∧ (n : Int) = x.toInt ∧ (n : Int) ≤ b ∧ a ≤ n := by
  obtain ⟨h1, h2⟩ := h
  refine ⟨x.toInt.toNat, Int32.toInt_inj.mp ?_, ?_, ?_, ?_⟩
  · rw [nI_toInt (by omega)]; omega
  · omega
  · omega
  · omega
theorem q_addc (k n : Nat) : nI k + nI n = nI (k + n) := nI_add k n
theorem upd_s {f : Nat → Int32} {k : Nat} {x : Int32} : upd f k x k = x := if_pos rfl
theorem upd_n {f : Nat → Int32} {k j : Nat} {x : Int32} (h : j ≠ k) : upd f k x j = f j := if_neg h
theorem k_Rng_upd {m : Nat → Int32} (h : k_Rng m) {k : Nat} {x : Int32} (hx : kr x (k_lo k) (k_hi k)) : k_Rng (upd m k x) := by
  intro j hj
  by_cases e : j = k
  · subst e; rw [upd_s]; exact hx
  · rw [upd_n e]; exact h j hj
theorem k_bits_lt (p : Nat → Bool) : ∀ n, k_bits p n < 2 ^ n
  | 0 => by simp [k_bits]
  | n + 1 => by
    have ih := k_bits_lt p n
    have : 2 ^ (n + 1) = 2 ^ n + 2 ^ n := by rw [Nat.pow_succ]; omega
    unfold k_bits
    split <;> omega
theorem k_bits_cong {p q : Nat → Bool} : ∀ {n : Nat}, (∀ i, i < n → p i = q i) → k_bits p n = k_bits q n
  | 0, _ => rfl
  | n + 1, h => by
    unfold k_bits
    rw [k_bits_cong (fun i hi => h i (by omega)), h n (by omega)]
theorem k_bits_tb (p : Nat → Bool) : ∀ (n i : Nat), (k_bits p n).testBit i = (decide (i < n) && p i)
  | 0, i => by simp [k_bits]
  | n + 1, i => by
    have ih := k_bits_tb p n
    have hlt := k_bits_lt p n
    unfold k_bits
    by_cases hp : p n = true
    · rw [if_pos hp]
      have e : k_bits p n + 2 ^ n = 2 ^ n + k_bits p n := Nat.add_comm _ _
      rw [e]
      rcases Nat.lt_trichotomy i n with h | h | h
      · rw [Nat.testBit_two_pow_add_gt h, ih i]
        simp [h, show i < n + 1 from by omega]
      · subst h
        rw [Nat.testBit_two_pow_add_eq, ih i]
        simp [hp]
      · have : 2 ^ n + k_bits p n < 2 ^ i := by
          have : 2 ^ (n + 1) ≤ 2 ^ i := Nat.pow_le_pow_right (by omega) (by omega)
          have : 2 ^ (n + 1) = 2 ^ n + 2 ^ n := by rw [Nat.pow_succ]; omega
          omega
        rw [Nat.testBit_lt_two_pow this]
        simp [show ¬ i < n + 1 from by omega]
    · rw [if_neg hp, Nat.add_zero, ih i]
      by_cases h : i < n
      · simp [h, show i < n + 1 from by omega]
      · by_cases h2 : i = n
        · subst h2; simp [hp]
        · simp [h, show ¬ i < n + 1 from by omega]
/-! ===== ranges, block by block ===== -/
theorem rg_wt {m : Nat → Int32} (h : k_Rng m) {i : Nat} (hi : i < 12) : kr (m (13 + i)) 0 100 := by
  have e : ∀ i, i < 12 → k_lo (13 + i) = 0 ∧ k_hi (13 + i) = 100 := by decide
  have g := h (13 + i) (by omega)
  rw [(e i hi).1, (e i hi).2] at g
  exact g
theorem rg_un {m : Nat → Int32} (h : k_Rng m) {i : Nat} (hi : i < 12) : kr (m (25 + i)) (-1) 11 := by
  have e : ∀ i, i < 12 → k_lo (25 + i) = -1 ∧ k_hi (25 + i) = 11 := by decide
  have g := h (25 + i) (by omega)
  rw [(e i hi).1, (e i hi).2] at g
  exact g
theorem rg_in {m : Nat → Int32} (h : k_Rng m) {i : Nat} (hi : i < 12) : kr (m (37 + i)) 0 1 := by
  have e : ∀ i, i < 12 → k_lo (37 + i) = 0 ∧ k_hi (37 + i) = 1 := by decide
  have g := h (37 + i) (by omega)
  rw [(e i hi).1, (e i hi).2] at g
  exact g
theorem rg_ma {m : Nat → Int32} (h : k_Rng m) {i : Nat} (hi : i < 6) : kr (m (49 + i)) 0 2 := by
  have e : ∀ i, i < 6 → k_lo (49 + i) = 0 ∧ k_hi (49 + i) = 2 := by decide
  have g := h (49 + i) (by omega)
  rw [(e i hi).1, (e i hi).2] at g
  exact g
theorem rg_pr {m : Nat → Int32} (h : k_Rng m) {i : Nat} (hi : i < 6) : kr (m (55 + i)) 0 6 := by
  have e : ∀ i, i < 6 → k_lo (55 + i) = 0 ∧ k_hi (55 + i) = 6 := by decide
  have g := h (55 + i) (by omega)
  rw [(e i hi).1, (e i hi).2] at g
  exact g
theorem rg_sg {m : Nat → Int32} (h : k_Rng m) {i : Nat} (hi : i < 6) : kr (m (61 + i)) 0 400 := by
  have e : ∀ i, i < 6 → k_lo (61 + i) = 0 ∧ k_hi (61 + i) = 400 := by decide
  have g := h (61 + i) (by omega)
  rw [(e i hi).1, (e i hi).2] at g
  exact g
theorem rg_wh {m : Nat → Int32} (h : k_Rng m) {i : Nat} (hi : i < 6) : kr (m (67 + i)) 0 1 := by
  have e : ∀ i, i < 6 → k_lo (67 + i) = 0 ∧ k_hi (67 + i) = 1 := by decide
  have g := h (67 + i) (by omega)
  rw [(e i hi).1, (e i hi).2] at g
  exact g
theorem rg_sk {m : Nat → Int32} (h : k_Rng m) {i : Nat} (hi : i < 12) : kr (m (73 + i)) 0 10 := by
  have e : ∀ i, i < 12 → k_lo (73 + i) = 0 ∧ k_hi (73 + i) = 10 := by decide
  have g := h (73 + i) (by omega)
  rw [(e i hi).1, (e i hi).2] at g
  exact g
theorem rg_sd {m : Nat → Int32} (h : k_Rng m) {i : Nat} (hi : i < 12) : kr (m (85 + i)) 0 1 := by
  have e : ∀ i, i < 12 → k_lo (85 + i) = 0 ∧ k_hi (85 + i) = 1 := by decide
  have g := h (85 + i) (by omega)
  rw [(e i hi).1, (e i hi).2] at g
  exact g
theorem rg_hd {m : Nat → Int32} (h : k_Rng m) {i : Nat} (hi : i < 12) : kr (m (97 + i)) 0 6 := by
  have e : ∀ i, i < 12 → k_lo (97 + i) = 0 ∧ k_hi (97 + i) = 6 := by decide
  have g := h (97 + i) (by omega)
  rw [(e i hi).1, (e i hi).2] at g
  exact g
theorem rg_lg {m : Nat → Int32} (h : k_Rng m) {i : Nat} (hi : i < 12) : kr (m (109 + i)) 0 4 := by
  have e : ∀ i, i < 12 → k_lo (109 + i) = 0 ∧ k_hi (109 + i) = 4 := by decide
  have g := h (109 + i) (by omega)
  rw [(e i hi).1, (e i hi).2] at g
  exact g
theorem rg_tr {m : Nat → Int32} (h : k_Rng m) {i : Nat} (hi : i < 12) : kr (m (121 + i)) 0 50 := by
  have e : ∀ i, i < 12 → k_lo (121 + i) = 0 ∧ k_hi (121 + i) = 50 := by decide
  have g := h (121 + i) (by omega)
  rw [(e i hi).1, (e i hi).2] at g
  exact g
theorem rg_wo {m : Nat → Int32} (h : k_Rng m) {i : Nat} (hi : i < 12) : kr (m (133 + i)) 0 100 := by
  have e : ∀ i, i < 12 → k_lo (133 + i) = 0 ∧ k_hi (133 + i) = 100 := by decide
  have g := h (133 + i) (by omega)
  rw [(e i hi).1, (e i hi).2] at g
  exact g
theorem rg_st {m : Nat → Int32} (h : k_Rng m) {i : Nat} (hi : i < 12) : kr (m (145 + i)) 0 2 := by
  have e : ∀ i, i < 12 → k_lo (145 + i) = 0 ∧ k_hi (145 + i) = 2 := by decide
  have g := h (145 + i) (by omega)
  rw [(e i hi).1, (e i hi).2] at g
  exact g
theorem rg_dn {m : Nat → Int32} (h : k_Rng m) {i : Nat} (hi : i < 12) : kr (m (157 + i)) 0 4 := by
  have e : ∀ i, i < 12 → k_lo (157 + i) = 0 ∧ k_hi (157 + i) = 4 := by decide
  have g := h (157 + i) (by omega)
  rw [(e i hi).1, (e i hi).2] at g
  exact g
theorem rg_ho {m : Nat → Int32} (h : k_Rng m) : kr (m 0) 0 96 := by
  have g := h 0 (by omega)
  rw [show k_lo 0 = 0 from by decide, show k_hi 0 = 96 from by decide] at g
  exact g
theorem rg_he {m : Nat → Int32} (h : k_Rng m) : kr (m 1) (-9) 9 := by
  have g := h 1 (by omega)
  rw [show k_lo 1 = -9 from by decide, show k_hi 1 = 9 from by decide] at g
  exact g
theorem rg_wa {m : Nat → Int32} (h : k_Rng m) : kr (m 2) 0 220 := by
  have g := h 2 (by omega)
  rw [show k_lo 2 = 0 from by decide, show k_hi 2 = 220 from by decide] at g
  exact g
theorem rg_bo {m : Nat → Int32} (h : k_Rng m) : kr (m 3) 0 1 := by
  have g := h 3 (by omega)
  rw [show k_lo 3 = 0 from by decide, show k_hi 3 = 1 from by decide] at g
  exact g
theorem rg_we {m : Nat → Int32} (h : k_Rng m) : kr (m 4) 0 1 := by
  have g := h 4 (by omega)
  rw [show k_lo 4 = 0 from by decide, show k_hi 4 = 1 from by decide] at g
  exact g
theorem rg_pi {m : Nat → Int32} (h : k_Rng m) : kr (m 5) 0 1000 := by
  have g := h 5 (by omega)
  rw [show k_lo 5 = 0 from by decide, show k_hi 5 = 1000 from by decide] at g
  exact g
theorem rg_nt {m : Nat → Int32} (h : k_Rng m) : kr (m 10) 0 12 := by
  have g := h 10 (by omega)
  rw [show k_lo 10 = 0 from by decide, show k_hi 10 = 12 from by decide] at g
  exact g
theorem rg_nk {m : Nat → Int32} (h : k_Rng m) : kr (m 11) 0 6 := by
  have g := h 11 (by omega)
  rw [show k_lo 11 = 0 from by decide, show k_hi 11 = 6 from by decide] at g
  exact g
theorem rg_ns {m : Nat → Int32} (h : k_Rng m) : kr (m 12) 0 12 := by
  have g := h 12 (by omega)
  rw [show k_lo 12 = 0 from by decide, show k_hi 12 = 12 from by decide] at g
  exact g
theorem q_01 {x : Int32} (h : kr x 0 1) : x = 0 ∨ x = 1 := by
  obtain ⟨h1, h2⟩ := h
  have : x.toInt = 0 ∨ x.toInt = 1 := by omega
  rcases this with e | e
  · exact Or.inl (Int32.toInt_inj.mp e)
  · exact Or.inr (Int32.toInt_inj.mp e)
theorem q_cnt {x : Int32} {N : Nat} (h : kr x 0 N) (hN : N < 2147483648) : ∃ n : Nat, n ≤ N ∧ x = nI n ∧ x.toInt = (n : Int) := by
  obtain ⟨n, e, h1, h2, -⟩ := kr_nI h (Int.le_refl 0) (by omega)
  exact ⟨n, by omega, e, h1.symm⟩
