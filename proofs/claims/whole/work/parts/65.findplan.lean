/-! ===== the reference's search over sets ===== -/
def s_e (x : Nat) : Nat → Bool := fun k => x.testBit k
theorem s_q_le (e : Nat → Bool) (N : Nat) {n : Nat} (hn : n ≤ 6) : ∀ r, s_q e N n r ≤ 6 ^ r
  | 0 => Nat.le_refl _
  | r + 1 => by
    have ih := s_q_le e N hn r
    rw [s_q, Nat.pow_succ]
    split
    · rw [Nat.mul_comm]; exact Nat.mul_le_mul ih hn
    · omega
theorem s_q_le5 (e : Nat → Bool) {N : Nat} {n : Nat} (hn : n ≤ 6) (hN : N ≤ 5) : s_q e N n N ≤ 7776 := Nat.le_trans (s_q_le e N hn N) (Nat.le_trans (Nat.pow_le_pow_right (by decide) hN) (by decide))
theorem q_bitIf {α : Type} {x k : Nat} (hk : k < 32) (A B : α) : (if ((nI x >>> (nI k &&& 31)) &&& 1) = 1 then A else B) = if s_e x k = true then A else B := by
  have e : (((nI x >>> (nI k &&& 31)) &&& 1) = 1) ↔ s_e x k = true := by
    rw [q_and1', q_shr0 _ hk, bt_nI _ hk]; exact Iff.rfl
  by_cases c : s_e x k = true
  · rw [if_pos (e.mpr c), if_pos c]
  · rw [if_neg (fun h => c (e.mp h)), if_neg c]
theorem y_digits {N n x w : Nat} (hN : N ≤ 5) (hn0 : 0 < n) (hn : n ≤ 6) (hw : w < 10000) (bg0 : Nat → Int32) : ∃ bg, k_lp (fun s : Int32 × Int32 × (Nat → Int32) => lb_X9_findPlan_278 (nI x) (nI n) s.1 s.2.1 s.2.2) k_fuel (nI w, nI N - 1, bg0) = some bg ∧ ∀ k, k < N → bg k = if s_e x k = true then nI (s_dg (s_e x) N n (N - (k + 1)) w) else -1 := by
  obtain ⟨bg, h1, h2⟩ := q_lpI (body := fun s : Int32 × Int32 × (Nat → Int32) => lb_X9_findPlan_278 (nI x) (nI n) s.1 s.2.1 s.2.2) (fun t s => s.1 = nI (w / s_q (s_e x) N n t) ∧ s.2.1 = nI (N - t) - 1 ∧ ∀ j, j < t → s.2.2 (N - (j + 1)) = if s_e x (N - (j + 1)) = true then nI (s_dg (s_e x) N n j w) else -1) (fun bg => ∀ k, k < N → bg k = if s_e x k = true then nI (s_dg (s_e x) N n (N - (k + 1)) w) else -1) N (fun t s ht hs => by
    obtain ⟨s1, s2, s3⟩ := s
    obtain ⟨q1, q2, q3⟩ := hs
    have q1' : s1 = nI (w / s_q (s_e x) N n t) := q1
    have q2' : s2 = nI (N - t) - 1 := q2
    have q3' : ∀ j, j < t → s3 (N - (j + 1)) = if s_e x (N - (j + 1)) = true then nI (s_dg (s_e x) N n j w) else -1 := q3
    rw [show N - t = N - (t + 1) + 1 from by omega, nI_pred] at q2'
    clear q1 q2 q3
    subst q1'; subst q2'
    have hwt : w / s_q (s_e x) N n t < 10000 := Nat.lt_of_le_of_lt (Nat.div_le_self _ _) hw
    show ∃ X, lb_X9_findPlan_278 (nI x) (nI n) (nI (w / s_q (s_e x) N n t)) (nI (N - (t + 1))) s3 = some X ∧ _
    unfold lb_X9_findPlan_278
    have hnx : ∀ z : Int32, z = (if s_e x (N - (t + 1)) = true then nI (s_dg (s_e x) N n t w) else -1) → ∀ s3' : Nat → Int32, s3' (N - (t + 1)) = z → (∀ k, ¬ k = N - (t + 1) → s3' k = s3 k) → ∀ j, j < t + 1 → s3' (N - (j + 1)) = if s_e x (N - (j + 1)) = true then nI (s_dg (s_e x) N n j w) else -1 := by
      intro z hz s3' h1 h2 j hj
      by_cases cj : j = t
      · subst cj; rw [h1, hz]
      · rw [h2 _ (by omega)]; exact q3' j (by omega)
    rw [if_neg (show ¬ nI (N - (t + 1)) < 0 from nI_pos (by omega)), q_ix _ (by omega) (by omega), q_bitIf (by omega), q_cl (n := N - (t + 1)) (by omega)]
    by_cases ce : s_e x (N - (t + 1)) = true
    · rw [if_pos ce, q_ck _ (nI_ne0 hn0 (by omega)), q_ix _ (by omega) (by omega), q_ck _ (nI_ne0 hn0 (by omega)), pk_rem (by omega) hn0 (by omega), pk_div (by omega) hn0 (by omega)]
      refine ⟨_, rfl, Or.inl ⟨_, rfl, ?_, by show _ + (-1) = _ - 1; rw [Int32.sub_eq_add_neg], hnx _ (by rw [if_pos ce]; rfl) (upd (upd s3 (N - (t + 1)) (-1)) (N - (t + 1)) (nI (w / s_q (s_e x) N n t % n))) upd_s (fun k hk => by rw [upd_n hk, upd_n hk])⟩⟩
      show nI (w / s_q (s_e x) N n t / n) = _
      rw [s_q, if_pos ce, Nat.div_div_eq_div_mul, Nat.mul_comm]
    · rw [if_neg ce]
      refine ⟨_, rfl, Or.inl ⟨_, rfl, ?_, by show _ + (-1) = _ - 1; rw [Int32.sub_eq_add_neg], hnx _ (by rw [if_neg ce]) (upd s3 (N - (t + 1)) (-1)) upd_s (fun k hk => upd_n hk)⟩⟩
      show nI (w / s_q (s_e x) N n t) = _
      rw [s_q, if_neg ce]) (fun s hs => by
    obtain ⟨s1, s2, s3⟩ := s
    obtain ⟨q1, q2, q3⟩ := hs
    have q2' : s2 = nI (N - N) - 1 := q2
    rw [Nat.sub_self] at q2'
    subst q2'
    refine ⟨s3, ?_, fun k hk => ?_⟩
    · show lb_X9_findPlan_278 (nI x) (nI n) s1 (nI 0 - 1) s3 = _
      unfold lb_X9_findPlan_278
      rw [if_pos (by decide)]
    · have := q3 (N - (k + 1)) (by omega)
      rw [show N - (N - (k + 1) + 1) = k from by omega] at this
      exact this) (nI w, nI N - 1, bg0) ⟨by show nI w = nI (w / 1); rw [Nat.div_one], rfl, fun j hj => absurd hj (by omega)⟩ (by omega)
  exact ⟨bg, h1, h2⟩
def s_Pt (m : Nat → Int32) (x : Nat) : Int32 := q_sum (s_pf m (s_e x)) (s_N m)
def s_wf (m : Nat → Int32) (e : Nat → Bool) (k : Nat) : Int32 := if e k = true then m (133 + s_c m k) else 0
def s_Wt (m : Nat → Int32) (x : Nat) : Int32 := q_sum (s_wf m (s_e x)) (s_N m)
def s_Q (m : Nat → Int32) (n x : Nat) : Nat := s_q (s_e x) (s_N m) n (s_N m)
def s_fd (m rn td : Nat → Int32) (o n men x : Nat) : Option Nat := if m 5 < s_Pt m x then none else q_find (s_F (s_VV m rn td o n men (s_e x))) (s_Q m n x)
def s_is (m : Nat → Int32) (n x w : Nat) (bg : Nat → Int32) : Prop := ∀ k, k < s_N m → bg k = if s_e x k = true then nI (s_dg (s_e x) (s_N m) n (s_N m - (k + 1)) w) else -1
theorem y_find0 {m rn td ru ct : Nat → Int32} {n x : Nat} (hn0 : 0 < n) (hn : n ≤ 6) (bg0 : Nat → Int32) : k_lp (fun s : Int32 × Int32 × (Nat → Int32) => lb_X9_findPlan_249 (nI (s_Q m n x)) 0 (nI x) (nI n) (nI (s_N m)) ct m rn td ru s.1 s.2.1 s.2.2) k_fuel (0, 0, bg0) = some (0, bg0) := by
  have hq := s_q_pos (s_e x) (s_N m) hn0 (s_N m)
  have hq5 := s_q_le5 (s_e x) hn (s_N_le m)
  refine q_run (body := fun s : Int32 × Int32 × (Nat → Int32) => lb_X9_findPlan_249 (nI (s_Q m n x)) 0 (nI x) (nI n) (nI (s_N m)) ct m rn td ru s.1 s.2.1 s.2.2) (fun _ => (0, 0, bg0)) _ 0 (fun i hi => absurd hi (by omega)) ?_ (by omega)
  show lb_X9_findPlan_249 (nI (s_Q m n x)) 0 (nI x) (nI n) (nI (s_N m)) ct m rn td ru 0 (nI 0) bg0 = _
  unfold lb_X9_findPlan_249 s_Q
  rw [q_ifge _ _ hq (by omega), if_pos rfl]
theorem y_find {m rn td ru ct : Nat → Int32} (h : k_Inv m) (hrn : ∀ h, h < 96 → kr (rn h) 0 1) (hct : ∀ k, k < s_N m → ct k = nI (s_c m k)) {o men : Nat} (h0 : m 0 = nI o) (ho : o ≤ 96) (hru : ru 3 = nI men) (hmen : men ≤ 100) {n : Nat} (hn0 : 0 < n) (hn : n ≤ 6) (x : Nat) (bg0 : Nat → Int32) : ∃ x8 bg, k_lp (fun s : Int32 × Int32 × (Nat → Int32) => lb_X9_findPlan_249 (nI (s_Q m n x)) 1 (nI x) (nI n) (nI (s_N m)) ct m rn td ru s.1 s.2.1 s.2.2) k_fuel (0, 0, bg0) = some (x8, bg) ∧ ((s_fd m rn td o n men x = none ∧ x8 = 0) ∨ ∃ w, s_fd m rn td o n men x = some w ∧ x8 = 1 ∧ s_is m n x w bg) := by
  have hN := s_N_le m
  have hq := s_q_pos (s_e x) (s_N m) hn0 (s_N m)
  have hq5 := s_q_le5 (s_e x) hn hN
  have efd : s_fd m rn td o n men x = q_find (s_F fun w => s_VV m rn td o n men (s_e x) w && !decide (m 5 < q_sum (s_pf m (s_e x)) (s_N m))) (s_Q m n x) := by
    unfold s_fd s_Pt
    by_cases c : m 5 < q_sum (s_pf m (s_e x)) (s_N m)
    · rw [if_pos c]
      symm
      refine q_find_none.mpr fun w hw => s_F_none.mpr ?_
      rw [decide_eq_true c]; exact Bool.and_false _
    · rw [if_neg c]
      refine q_find_cong fun w hw => ?_
      show (if s_VV m rn td o n men (s_e x) w = true then some w else none) = (if (s_VV m rn td o n men (s_e x) w && !decide (m 5 < q_sum (s_pf m (s_e x)) (s_N m))) = true then some w else none)
      rw [decide_eq_false c, Bool.not_false, Bool.and_true]
  obtain ⟨E, hE, hE2⟩ := q_lpI (body := fun s : Int32 × Int32 × (Nat → Int32) => lb_X9_findPlan_249 (nI (s_Q m n x)) 1 (nI x) (nI n) (nI (s_N m)) ct m rn td ru s.1 s.2.1 s.2.2) (fun i s => s.2.1 = nI i ∧ ((s.1 = 0 ∧ ∀ j, j < i → s_F (fun w => s_VV m rn td o n men (s_e x) w && !decide (m 5 < q_sum (s_pf m (s_e x)) (s_N m))) j = none) ∨ (s.1 = 1 ∧ ∃ w, s_fd m rn td o n men x = some w ∧ s_is m n x w s.2.2))) (fun E => (s_fd m rn td o n men x = none ∧ E.1 = 0) ∨ ∃ w, s_fd m rn td o n men x = some w ∧ E.1 = 1 ∧ s_is m n x w E.2) (s_Q m n x) (fun i s hi hs => by
    obtain ⟨s1, s2, s3⟩ := s
    obtain ⟨q1, q2⟩ := hs
    have q1' : s2 = nI i := q1
    clear q1
    subst q1'
    have hi' : i < s_q (s_e x) (s_N m) n (s_N m) := hi
    show ∃ X, lb_X9_findPlan_249 (nI (s_Q m n x)) 1 (nI x) (nI n) (nI (s_N m)) ct m rn td ru s1 (nI i) s3 = some X ∧ _
    unfold lb_X9_findPlan_249
    rw [q_ifge _ _ hi (by unfold s_Q; omega), if_neg (show ¬ (1 : Int32) = 0 from by decide)]
    rcases q2 with ⟨z, hz⟩ | ⟨z, w, hz1, hz2⟩
    · have z' : s1 = 0 := z
      clear z
      subst z'
      obtain ⟨bg, g1, g2⟩ := y_digits (N := s_N m) (n := n) (x := x) (w := i) hN hn0 hn (by omega) s3
      rw [if_pos rfl, g1, q_b1, y_isPlan (bg := bg) (e := s_e x) (d := fun k => s_dg (s_e x) (s_N m) n (s_N m - (k + 1)) i) h hrn hct h0 ho hru hmen hn (fun k hk => Nat.lt_of_lt_of_le (s_dg_lt _ _ hn0 _ _) hn) g2, q_b1, s_VV_pl m rn td o n men (by omega)]
      by_cases c : (s_VV m rn td o n men (s_e x) i && !decide (m 5 < q_sum (s_pf m (s_e x)) (s_N m))) = true
      · rw [if_pos c]
        refine ⟨_, rfl, Or.inl ⟨_, rfl, nI_1 i, Or.inr ⟨rfl, i, ?_, g2⟩⟩⟩
        rw [efd]
        exact q_find_some.mpr ⟨i, hi, if_pos c, hz⟩
      · rw [if_neg c]
        refine ⟨_, rfl, Or.inl ⟨_, rfl, nI_1 i, Or.inl ⟨rfl, fun j hj => ?_⟩⟩⟩
        by_cases cj : j = i
        · subst cj; exact if_neg c
        · exact hz j (by omega)
    · have z' : s1 = 1 := z
      clear z
      subst z'
      rw [if_neg (show ¬ (1 : Int32) = 0 from by decide)]
      exact ⟨_, rfl, Or.inr ⟨_, rfl, Or.inr ⟨w, hz1, rfl, hz2⟩⟩⟩) (fun s hs => by
    obtain ⟨s1, s2, s3⟩ := s
    obtain ⟨q1, q2⟩ := hs
    have q1' : s2 = nI (s_Q m n x) := q1
    subst q1'
    refine ⟨(s1, s3), ?_, ?_⟩
    · show lb_X9_findPlan_249 (nI (s_Q m n x)) 1 (nI x) (nI n) (nI (s_N m)) ct m rn td ru s1 (nI (s_Q m n x)) s3 = _
      unfold lb_X9_findPlan_249
      rw [q_ifle _ _ (Nat.le_refl _) (by unfold s_Q; omega)]
    · rcases q2 with ⟨z, hz⟩ | ⟨z, w, hz1, hz2⟩
      · exact Or.inl ⟨by rw [efd]; exact q_find_none.mpr hz, z⟩
      · exact Or.inr ⟨w, hz1, z, hz2⟩) (0, 0, bg0) ⟨rfl, Or.inl ⟨rfl, fun j hj => absurd hj (by omega)⟩⟩ (by unfold s_Q; omega)
  exact ⟨E.1, E.2, hE, hE2⟩
def s_pr (e : Nat → Bool) (n : Nat) : Nat → Nat
  | 0 => 1
  | i + 1 => if e i = true then s_pr e n i * n else s_pr e n i
theorem s_pr_q (e : Nat → Bool) (N n : Nat) : ∀ i, i ≤ N → s_pr e n i * s_q e N n (N - i) = s_q e N n N
  | 0, _ => by rw [s_pr, Nat.one_mul, Nat.sub_zero]
  | i + 1, h => by
    have ih := s_pr_q e N n i (by omega)
    rw [show N - i = N - (i + 1) + 1 from by omega, s_q, show N - (N - (i + 1) + 1) = i from by omega] at ih
    rw [s_pr]
    by_cases c : e i = true
    · rw [if_pos c] at ih
      rw [if_pos c, Nat.mul_assoc]; exact ih
    · rw [if_neg c] at ih
      rw [if_neg c]; exact ih
theorem y_sums {m ct : Nat → Int32} (h : k_Inv m) (hct : ∀ k, k < s_N m → ct k = nI (s_c m k)) (n x : Nat) : k_lp (fun s : Int32 × Int32 × Int32 × Int32 × Int32 => lb_X9_findPlan_97 (nI (s_N m)) (nI x) ct m (nI n) s.1 s.2.1 s.2.2.1 s.2.2.2.1 s.2.2.2.2) k_fuel (0, 0, 0, 1, 0) = some (s_Wt m x, s_Pt m x, nI (s_bn (s_c m) (s_N m) x), nI (s_Q m n x)) := by
  have hN := s_N_le m
  have key := q_run (body := fun s : Int32 × Int32 × Int32 × Int32 × Int32 => lb_X9_findPlan_97 (nI (s_N m)) (nI x) ct m (nI n) s.1 s.2.1 s.2.2.1 s.2.2.2.1 s.2.2.2.2) (fun i => (q_sum (s_wf m (s_e x)) i, q_sum (s_pf m (s_e x)) i, q_fold (s_bI (s_c m) x) 0 i, nI (s_pr (s_e x) n i), nI i)) (q_sum (s_wf m (s_e x)) (s_N m), q_sum (s_pf m (s_e x)) (s_N m), q_fold (s_bI (s_c m) x) 0 (s_N m), nI (s_pr (s_e x) n (s_N m))) (s_N m) (fun k hk => by
    obtain ⟨c12, -, -, -, -, -⟩ := s_lkN h hk
    show lb_X9_findPlan_97 (nI (s_N m)) (nI x) ct m (nI n) (q_sum (s_wf m (s_e x)) k) (q_sum (s_pf m (s_e x)) k) (q_fold (s_bI (s_c m) x) 0 k) (nI (s_pr (s_e x) n k)) (nI k) = some (.inl (q_sum (s_wf m (s_e x)) k + s_wf m (s_e x) k, q_sum (s_pf m (s_e x)) k + s_pf m (s_e x) k, s_bI (s_c m) x k (q_fold (s_bI (s_c m) x) 0 k), nI (if s_e x k = true then s_pr (s_e x) n k * n else s_pr (s_e x) n k), nI (k + 1)))
    generalize q_sum (s_wf m (s_e x)) k = z1
    generalize q_sum (s_pf m (s_e x)) k = z2
    generalize q_fold (s_bI (s_c m) x) 0 k = z3
    unfold lb_X9_findPlan_97
    rw [q_ifge _ _ hk (by omega), q_bitIf (by omega)]
    unfold s_wf s_pf s_bI
    by_cases ce : s_e x k = true
    · have ce' : x.testBit k = true := ce
      rw [if_pos ce, if_pos ce, if_pos ce, if_pos ce', if_pos ce, q_ix _ (by omega) (by omega), q_cl (n := k) (by omega), hct k hk, q_o133, q_ix _ (by omega) (by omega), q_cl (by omega), q_lt1, q_o157, q_ix _ (by omega) (by omega), q_cl (by omega), pk_mul, nI_1]
      by_cases c0 : m (157 + s_c m k) = 0
      · rw [if_pos c0, if_pos c0, q_o121, q_ix _ (by omega) (by omega), q_cl (by omega), q_lt1]
      · rw [if_neg c0, if_neg c0]
    · have ce' : ¬ x.testBit k = true := ce
      rw [if_neg ce, if_neg ce, if_neg ce, if_neg ce', if_neg ce, Int32.add_zero, Int32.add_zero, nI_1]) (by
    show lb_X9_findPlan_97 (nI (s_N m)) (nI x) ct m (nI n) _ _ _ _ (nI (s_N m)) = _
    unfold lb_X9_findPlan_97
    rw [q_ifle _ _ (Nat.le_refl _) (by omega)]) (by omega)
  have e2 := s_pr_q (s_e x) (s_N m) n (s_N m) (Nat.le_refl _)
  rw [Nat.sub_self, s_q, Nat.mul_one] at e2
  rw [e2, s_bI_e x (s_N m) (fun a b h1 h2 => s_c_mono h1 h2) (fun k hk => (s_lkN h hk).1)] at key
  exact key
def s_B (m rn td : Nat → Int32) (o n men : Nat) : Nat → Nat × Int32 × Int32 × Nat
  | 0 => (0, 0, 0, 0)
  | j + 1 => if (s_B m rn td o n men j).2.1 < s_Wt m (j + 1) ∨ (s_Wt m (j + 1) = (s_B m rn td o n men j).2.1 ∧ s_Pt m (j + 1) < (s_B m rn td o n men j).2.2.1) then (match s_fd m rn td o n men (j + 1) with
    | none => s_B m rn td o n men j
    | some w => (j + 1, s_Wt m (j + 1), s_Pt m (j + 1), w)) else s_B m rn td o n men j
theorem q_i3 (a b : Int32) : a < b ∨ a = b ∨ b < a := by
  rw [Int32.lt_iff_toInt_lt, Int32.lt_iff_toInt_lt, ← Int32.toInt_inj]; omega
