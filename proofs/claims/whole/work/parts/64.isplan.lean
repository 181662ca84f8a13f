/-! ===== whether a choice is a plan ===== -/
def s_T (m : Nat → Int32) (e : Nat → Bool) (d : Nat → Nat) (N h : Nat) : Nat := fb_sm (fun k => if e k = true ∧ d k ≤ h ∧ h < d k + s_lk m (s_c m k) then s_hd m (s_c m k) else 0) N
def s_pf (m : Nat → Int32) (e : Nat → Bool) (k : Nat) : Int32 := if e k = true then (if m (157 + s_c m k) = 0 then m (121 + s_c m k) else 0) else 0
def s_pl (m rn td : Nat → Int32) (o n men : Nat) (e : Nat → Bool) (d : Nat → Nat) (N : Nat) : Bool := (q_all (fun k => !e k || s_okb m rn td o n (s_c m k) (d k)) N && q_all (fun h => decide (s_T m e d N h ≤ men)) n) && !decide (m 5 < q_sum (s_pf m e) N)
theorem s_lkN {m : Nat → Int32} (h : k_Inv m) {k : Nat} (hk : k < s_N m) : s_c m k < 12 ∧ s_lk m (s_c m k) ≤ 5 ∧ 1 ≤ s_lk m (s_c m k) ∧ s_hd m (s_c m k) ≤ 6 ∧ m (97 + s_c m k) = nI (s_hd m (s_c m k)) ∧ p_X9_hoursFor m (nI (s_c m k)) = some (nI (s_lk m (s_c m k))) := by
  obtain ⟨c1, c2⟩ := s_c_lt hk
  have hn := (s_ns_e h.1).2.1
  obtain ⟨l1, l2, -⟩ := s_lk_e h c1 c2
  obtain ⟨d1, d2⟩ := s_hd_e h.1 (s := s_c m k) (by omega)
  exact ⟨by omega, l2, l1, d2, d1, y_hoursFor h c1 c2⟩
theorem y_dryrun {m rn td ct bg : Nat → Int32} (h : k_Inv m) (hrn : ∀ h, h < 96 → kr (rn h) 0 1) (hct : ∀ k, k < s_N m → ct k = nI (s_c m k)) {o k b : Nat} (h0 : m 0 = nI o) (ho : o ≤ 96) (hk : k < s_N m) (hb : b < 6) (hbg : bg k = nI b) : k_lp (fun s => lb_X9_isPlan_82 m ct (nI k) rn bg td s) k_fuel 0 = some (if q_all (fun j => s_dry m rn td o (s_c m k) (b + j)) (s_lk m (s_c m k)) = true then .inr () else .inl 0) := by
  have hN := s_N_le m
  obtain ⟨c12, l5, l1, -, -, yh⟩ := s_lkN h hk
  have key := q_findlp (body := fun s => lb_X9_isPlan_82 m ct (nI k) rn bg td s) (fun j => if s_dry m rn td o (s_c m k) (b + j) = true then none else some (0 : Int32)) (s_lk m (s_c m k)) (fun j hj => by
    show lb_X9_isPlan_82 m ct (nI k) rn bg td (nI j) = _
    unfold lb_X9_isPlan_82
    rw [q_cl (by omega), hct k hk, yh, q_b1, q_ifge _ _ hj (by omega), q_ix _ (by omega) (by omega), h0, hbg, nI_add, nI_add, y_rains hrn (by omega), q_b1, y_isBare m td c12 (by omega), q_b1, q_ifp]
    unfold s_dry
    rw [Nat.add_assoc]
    by_cases cr : rn (min (o + (b + j)) 95) = 0
    · rw [if_pos cr, decide_eq_true cr, Bool.true_and]
      by_cases cb : s_bare m td (s_c m k) (o + (b + j)) = true
      · rw [if_pos cb, if_pos cb]
      · rw [if_neg cb, if_neg cb]
    · rw [if_neg cr, decide_eq_false cr, Bool.false_and, if_neg (by decide)]) (by
    show lb_X9_isPlan_82 m ct (nI k) rn bg td (nI (s_lk m (s_c m k))) = _
    unfold lb_X9_isPlan_82
    rw [q_cl (by omega), hct k hk, yh, q_b1, q_ifle _ _ (Nat.le_refl _) (by omega)]) (by omega)
  rw [key]
  by_cases c : q_all (fun j => s_dry m rn td o (s_c m k) (b + j)) (s_lk m (s_c m k)) = true
  · rw [if_pos c, q_find_none.mpr fun i hi => if_pos (q_all_iff.mp c i hi)]; rfl
  · rw [if_neg c]
    cases hf : q_find (fun j => if s_dry m rn td o (s_c m k) (b + j) = true then none else some (0 : Int32)) (s_lk m (s_c m k)) with
    | none =>
      refine absurd (q_all_iff.mpr fun i hi => ?_) c
      have := q_find_none.mp hf i hi
      by_cases cc : s_dry m rn td o (s_c m k) (b + i) = true
      · exact cc
      · rw [if_neg cc] at this; cases this
    | some v =>
      obtain ⟨i, hi, hv, -⟩ := q_find_some.mp hf
      by_cases cc : s_dry m rn td o (s_c m k) (b + i) = true
      · rw [if_pos cc] at hv; cases hv
      · rw [if_neg cc] at hv; cases hv; rfl
theorem y_82 : lb_X9_isPlan_82_1 = lb_X9_isPlan_82 := rfl
theorem y_hands {m rn td ct bg : Nat → Int32} (h : k_Inv m) (hct : ∀ k, k < s_N m → ct k = nI (s_c m k)) {e : Nat → Bool} {d : Nat → Nat} {n x : Nat} (hx : x < 6) (hd : ∀ k, k < s_N m → d k < 6) (hbg : ∀ k, k < s_N m → bg k = if e k = true then nI (d k) else -1) : k_lp (fun s : Int32 × Int32 => lb_X9_isPlan_158 (nI (s_N m)) bg (nI x) m ct s.1 s.2) k_fuel (0, 0) = some (nI (s_T m e d (s_N m) x)) := by
  have hN := s_N_le m
  have key := q_sumlp (body := fun s : Int32 × Int32 => lb_X9_isPlan_158 (nI (s_N m)) bg (nI x) m ct s.1 s.2) (fun k => nI (if e k = true ∧ d k ≤ x ∧ x < d k + s_lk m (s_c m k) then s_hd m (s_c m k) else 0)) (s_N m) 0 (fun k z hk => by
    obtain ⟨c12, l5, l1, h6, eh, yh⟩ := s_lkN h hk
    have hdk := hd k hk
    show lb_X9_isPlan_158 (nI (s_N m)) bg (nI x) m ct z (nI k) = _
    unfold lb_X9_isPlan_158
    rw [q_ifge _ _ hk (by omega), q_ix _ (by omega) (by omega), q_cl (n := k) (by omega), hbg k hk]
    by_cases ce : e k = true
    · rw [if_pos ce, if_neg (show ¬ nI (d k) < 0 from nI_pos (by omega)), q_ix _ (by omega) (by omega)]
      by_cases c1 : x < d k
      · rw [if_pos (nI_lt c1 (by omega)), if_neg (fun hh => by have := hh.2.1; omega)]; rfl
      · rw [if_neg (nI_nlt (by omega) (by omega)), q_ix _ (by omega) (by omega), q_ix _ (by omega) (by omega), hct k hk, yh, q_b1, nI_add]
        by_cases c2 : d k + s_lk m (s_c m k) ≤ x
        · rw [if_pos (nI_le c2 (by omega)), if_neg (fun hh => by have := hh.2.2; omega)]; rfl
        · rw [if_neg (nI_ge (by omega) (by omega)), q_ix _ (by omega) (by omega), q_o97, q_ix _ (by omega) (by omega), q_cl (by omega), eh, if_pos ⟨ce, by omega, by omega⟩, q_lt1]
    · rw [if_neg ce, if_pos (show (-1 : Int32) < 0 from by decide), if_neg (fun hh => ce hh.1)]; rfl) (fun z => by
    show lb_X9_isPlan_158 (nI (s_N m)) bg (nI x) m ct z (nI (s_N m)) = _
    unfold lb_X9_isPlan_158
    rw [q_ifle _ _ (Nat.le_refl _) (by omega)]) (by omega)
  rw [key, q_sum_nat (g := fun k => if e k = true ∧ d k ≤ x ∧ x < d k + s_lk m (s_c m k) then s_hd m (s_c m k) else 0) (fun k hk => rfl), Int32.zero_add]
  rfl
theorem s_T_le {m : Nat → Int32} (h : k_Inv m) (e : Nat → Bool) (d : Nat → Nat) (x : Nat) : s_T m e d (s_N m) x ≤ 30 := by
  have hN := s_N_le m
  have := fb_sm_bound (f := fun k => if e k = true ∧ d k ≤ x ∧ x < d k + s_lk m (s_c m k) then s_hd m (s_c m k) else 0) (c := 6) (n := s_N m) (fun k hk => by
    obtain ⟨-, -, -, h6, -, -⟩ := s_lkN h hk
    show (if _ then _ else _) ≤ 6
    split <;> omega)
  unfold s_T
  omega
theorem y_isPlan {m rn td ru ct bg : Nat → Int32} (h : k_Inv m) (hrn : ∀ h, h < 96 → kr (rn h) 0 1) (hct : ∀ k, k < s_N m → ct k = nI (s_c m k)) {o men : Nat} (h0 : m 0 = nI o) (ho : o ≤ 96) (hru : ru 3 = nI men) (hmen : men ≤ 100) {e : Nat → Bool} {d : Nat → Nat} {n : Nat} (hn : n ≤ 6) (hd : ∀ k, k < s_N m → d k < 6) (hbg : ∀ k, k < s_N m → bg k = if e k = true then nI (d k) else -1) : p_X9_isPlan (nI (s_N m)) ct bg m rn td ru (nI n) = some (if s_pl m rn td o n men e d (s_N m) = true then 1 else 0) := by
  have hN := s_N_le m
  obtain ⟨X, hX, hX2⟩ := q_lpI (body := fun s : Int32 × Int32 => lb_X9_isPlan_4 (nI (s_N m)) bg ct m (nI n) rn td s.1 s.2) (fun i s => s.1 = q_sum (s_pf m e) i ∧ s.2 = nI i ∧ ∀ k, k < i → e k = true → s_okb m rn td o n (s_c m k) (d k) = true) (fun X => (X = .inr (q_sum (s_pf m e) (s_N m)) ∧ ∀ k, k < s_N m → e k = true → s_okb m rn td o n (s_c m k) (d k) = true) ∨ (X = .inl 0 ∧ ∃ k, k < s_N m ∧ e k = true ∧ s_okb m rn td o n (s_c m k) (d k) = false)) (s_N m) (fun k s hk hs => by
    obtain ⟨s1, s2⟩ := s
    obtain ⟨h1, h2, h3⟩ := hs
    have h1' : s1 = q_sum (s_pf m e) k := h1
    have h2' : s2 = nI k := h2
    clear h1 h2
    subst h1'; subst h2'
    obtain ⟨c12, l5, l1, h6, eh, yh⟩ := s_lkN h hk
    have hdk := hd k hk
    have es : q_sum (s_pf m e) (k + 1) = q_sum (s_pf m e) k + s_pf m e k := rfl
    show ∃ X, lb_X9_isPlan_4 (nI (s_N m)) bg ct m (nI n) rn td (q_sum (s_pf m e) k) (nI k) = some X ∧ _
    rw [es]
    unfold lb_X9_isPlan_4 s_pf
    rw [y_82]
    generalize q_sum (fun k => if e k = true then (if m (157 + s_c m k) = 0 then m (121 + s_c m k) else 0) else 0) k = z
    rw [q_ifge _ _ hk (by omega), q_ix _ (by omega) (by omega), q_ix _ (by omega) (by omega), q_cl (n := k) (by omega), hbg k hk, hct k hk]
    by_cases ce : e k = true
    · have dr := y_dryrun (td := td) (bg := bg) h hrn hct h0 ho hk hdk (by rw [hbg k hk, if_pos ce])
      have okb : s_okb m rn td o n (s_c m k) (d k) = (decide (d k + s_lk m (s_c m k) ≤ n) && q_all (fun j => s_dry m rn td o (s_c m k) (d k + j)) (s_lk m (s_c m k))) := rfl
      have tail : ∀ y : Int32, ∃ X : (Int32 × Int32) ⊕ (Int32 ⊕ Int32), (if nI (d k + s_lk m (s_c m k)) ≤ nI n then k_bx0 (some (if q_all (fun j => s_dry m rn td o (s_c m k) (d k + j)) (s_lk m (s_c m k)) = true then Sum.inr () else Sum.inl (0 : Int32))) (fun q => some (Sum.inr (Sum.inl q))) (some (Sum.inl (z + y, nI k + 1))) else some (Sum.inr (Sum.inl 0))) = some X ∧ ((∃ s', X = .inl s' ∧ s'.1 = z + y ∧ s'.2 = nI (k + 1) ∧ ∀ j, j < k + 1 → e j = true → s_okb m rn td o n (s_c m j) (d j) = true) ∨ ∃ E, X = .inr E ∧ ((E = .inr (q_sum (fun k => if e k = true then (if m (157 + s_c m k) = 0 then m (121 + s_c m k) else 0) else 0) (s_N m)) ∧ ∀ k, k < s_N m → e k = true → s_okb m rn td o n (s_c m k) (d k) = true) ∨ (E = .inl 0 ∧ ∃ k, k < s_N m ∧ e k = true ∧ s_okb m rn td o n (s_c m k) (d k) = false))) := by
        intro y
        by_cases c1 : d k + s_lk m (s_c m k) ≤ n
        · rw [if_pos (nI_le c1 (by omega))]
          rw [decide_eq_true c1, Bool.true_and] at okb
          by_cases c2 : q_all (fun j => s_dry m rn td o (s_c m k) (d k + j)) (s_lk m (s_c m k)) = true
          · rw [if_pos c2, q_bx0r]
            rw [c2] at okb
            refine ⟨_, rfl, Or.inl ⟨_, rfl, rfl, nI_1 k, fun j hj hej => ?_⟩⟩
            by_cases cj : j = k
            · subst cj; exact okb
            · exact h3 j (by omega) hej
          · rw [if_neg c2, q_bx0l]
            rw [Bool.eq_false_iff.mpr c2] at okb
            exact ⟨_, rfl, Or.inr ⟨_, rfl, Or.inr ⟨rfl, k, hk, ce, okb⟩⟩⟩
        · rw [if_neg (nI_ge (by omega) (by omega))]
          rw [decide_eq_false c1, Bool.false_and] at okb
          exact ⟨_, rfl, Or.inr ⟨_, rfl, Or.inr ⟨rfl, k, hk, ce, okb⟩⟩⟩
      rw [if_pos ce, if_pos ce, if_neg (show ¬ nI (d k) < 0 from nI_pos (by omega)), q_o157, q_ix _ (by omega) (by omega), q_cl (by omega)]
      by_cases c0 : m (157 + s_c m k) = 0
      · rw [if_pos c0, if_pos c0, q_o121, q_ix _ (by omega) (by omega), q_cl (by omega), q_lt1, q_ix _ (by omega) (by omega), yh, q_b1, nI_add, dr]
        exact tail _
      · rw [if_neg c0, if_neg c0, q_ix _ (by omega) (by omega), yh, q_b1, nI_add, dr]
        exact tail _
    · rw [if_neg ce, if_neg ce, if_pos (show (-1 : Int32) < 0 from by decide)]
      refine ⟨_, rfl, Or.inl ⟨_, rfl, by show z = z + 0; rw [Int32.add_zero], nI_1 k, fun j hj hej => ?_⟩⟩
      by_cases cj : j = k
      · subst cj; exact absurd hej ce
      · exact h3 j (by omega) hej) (fun s hs => by
    obtain ⟨s1, s2⟩ := s
    obtain ⟨h1, h2, h3⟩ := hs
    have h1' : s1 = q_sum (s_pf m e) (s_N m) := h1
    have h2' : s2 = nI (s_N m) := h2
    subst h1'; subst h2'
    refine ⟨_, ?_, Or.inl ⟨rfl, h3⟩⟩
    show lb_X9_isPlan_4 (nI (s_N m)) bg ct m (nI n) rn td _ (nI (s_N m)) = _
    unfold lb_X9_isPlan_4
    rw [q_ifle _ _ (Nat.le_refl _) (by omega)]) (0, 0) ⟨rfl, rfl, fun k hk => absurd hk (by omega)⟩ (by omega)
  unfold p_X9_isPlan s_pl
  rw [hX]
  rcases hX2 with ⟨rfl, hall⟩ | ⟨rfl, k, hk, hek, hbad⟩
  · rw [q_bx1r]
    have hq : q_all (fun k => !e k || s_okb m rn td o n (s_c m k) (d k)) (s_N m) = true := q_all_iff.mpr fun k hk => by
      cases ce : e k with
      | false => rfl
      | true => rw [hall k hk ce]; rfl
    rw [hq, Bool.true_and]
    have key := q_findlp (body := fun s => lb_X9_isPlan_147 (nI n) (nI (s_N m)) bg m ct ru s) (fun x => if s_T m e d (s_N m) x ≤ men then none else some (0 : Int32)) n (fun x hx => by
      have hT := s_T_le h e d x
      show lb_X9_isPlan_147 (nI n) (nI (s_N m)) bg m ct ru (nI x) = _
      unfold lb_X9_isPlan_147
      rw [q_ifge _ _ hx (by omega), y_hands (rn := rn) (td := td) (n := n) h hct (x := x) (by omega) hd hbg, q_b1, hru]
      by_cases c : s_T m e d (s_N m) x ≤ men
      · rw [if_pos c, if_pos (nI_le c (by omega))]
      · rw [if_neg c, if_neg (nI_ge (by omega) (by omega))]) (by
      show lb_X9_isPlan_147 (nI n) (nI (s_N m)) bg m ct ru (nI n) = _
      unfold lb_X9_isPlan_147
      rw [q_ifle _ _ (Nat.le_refl _) (by omega)]) (by omega)
    rw [key]
    by_cases c : q_all (fun h => decide (s_T m e d (s_N m) h ≤ men)) n = true
    · rw [q_find_none.mpr fun i hi => if_pos (of_decide_eq_true (q_all_iff.mp c i hi)), c, Bool.true_and]
      show (if m 5 < _ then _ else _) = _
      by_cases c5 : m 5 < q_sum (s_pf m e) (s_N m)
      · rw [if_pos c5, decide_eq_true c5, if_neg (by decide)]
      · rw [if_neg c5, decide_eq_false c5, if_pos (by decide)]
    · rw [Bool.eq_false_iff.mpr c, Bool.false_and, if_neg (show ¬ (false = true) from by decide)]
      cases hf : q_find (fun x => if s_T m e d (s_N m) x ≤ men then none else some (0 : Int32)) n with
      | none =>
        refine absurd (q_all_iff.mpr fun i hi => ?_) c
        have := q_find_none.mp hf i hi
        by_cases cc : s_T m e d (s_N m) i ≤ men
        · exact decide_eq_true cc
        · rw [if_neg cc] at this; cases this
      | some v =>
        obtain ⟨i, hi, hv, -⟩ := q_find_some.mp hf
        by_cases cc : s_T m e d (s_N m) i ≤ men
        · rw [if_pos cc] at hv; cases hv
        · rw [if_neg cc] at hv; cases hv; rfl
  · rw [q_bx1l]
    have hq : q_all (fun k => !e k || s_okb m rn td o n (s_c m k) (d k)) (s_N m) = false := by
      cases hqq : q_all (fun k => !e k || s_okb m rn td o n (s_c m k) (d k)) (s_N m) with
      | false => rfl
      | true =>
        have h5 : (!e k || s_okb m rn td o n (s_c m k) (d k)) = true := q_all_iff.mp hqq k hk
        rw [hek, hbad] at h5; cases h5
    rw [hq, Bool.false_and, Bool.false_and, if_neg (by decide)]
/-! ===== the search's test is the plan's ===== -/
def s_S (e : Nat → Bool) (N n : Nat) (lk hd : Nat → Nat) (w r h : Nat) : Nat := fb_sm (fun t => if e (N - (t + 1)) = true ∧ s_dg e N n t w ≤ h ∧ h < s_dg e N n t w + lk (N - (t + 1)) then hd (N - (t + 1)) else 0) r
theorem s_V_iff (e : Nat → Bool) (N n : Nat) (ok : Nat → Nat → Bool) (lk hd : Nat → Nat) (men w : Nat) : ∀ r f, (∀ h, h < 8 → f h ≤ men) → (s_V e N n ok lk hd men r f w = true ↔ (∀ t, t < r → e (N - (t + 1)) = true → ok (N - (t + 1)) (s_dg e N n t w) = true) ∧ ∀ h, h < 8 → f h + s_S e N n lk hd w r h ≤ men)
  | 0, f, hf => ⟨fun _ => ⟨fun t ht => absurd ht (by omega), fun h hh => hf h hh⟩, fun _ => rfl⟩
  | r + 1, f, hf => by
    have es : ∀ h, s_S e N n lk hd w (r + 1) h = s_S e N n lk hd w r h + (if e (N - (r + 1)) = true ∧ s_dg e N n r w ≤ h ∧ h < s_dg e N n r w + lk (N - (r + 1)) then hd (N - (r + 1)) else 0) := fun h => fb_sm_succ _ _
    rw [s_V]
    by_cases ce : e (N - (r + 1)) = true
    · rw [if_pos ce, Bool.and_eq_true, Bool.and_eq_true]
      have ead : ∀ h, s_ad lk hd f (N - (r + 1)) (s_dg e N n r w) h + s_S e N n lk hd w r h = f h + s_S e N n lk hd w (r + 1) h := fun h => by
        rw [es h]
        unfold s_ad
        by_cases c : s_dg e N n r w ≤ h ∧ h < s_dg e N n r w + lk (N - (r + 1))
        · rw [if_pos c, if_pos ⟨ce, c⟩]; omega
        · rw [if_neg c, if_neg (fun hh => c hh.2)]; omega
      constructor
      · rintro ⟨h1, h2, h3⟩
        have hf' : ∀ h, h < 8 → s_ad lk hd f (N - (r + 1)) (s_dg e N n r w) h ≤ men := fun h hh => of_decide_eq_true (q_all_iff.mp h2 h hh)
        obtain ⟨g1, g2⟩ := (s_V_iff e N n ok lk hd men w r _ hf').mp h3
        refine ⟨fun t ht hte => ?_, fun h hh => by rw [← ead h]; exact g2 h hh⟩
        by_cases ct : t = r
        · subst ct; exact h1
        · exact g1 t (by omega) hte
      · rintro ⟨h1, h2⟩
        have hf' : ∀ h, h < 8 → s_ad lk hd f (N - (r + 1)) (s_dg e N n r w) h ≤ men := fun h hh => by
          have := h2 h hh
          rw [← ead h] at this
          omega
        refine ⟨h1 r (by omega) ce, q_all_iff.mpr fun h hh => decide_eq_true (hf' h hh), ?_⟩
        exact (s_V_iff e N n ok lk hd men w r _ hf').mpr ⟨fun t ht => h1 t (by omega), fun h hh => by rw [ead h]; exact h2 h hh⟩
    · rw [if_neg ce, s_V_iff e N n ok lk hd men w r f hf]
      have es2 : ∀ h, s_S e N n lk hd w (r + 1) h = s_S e N n lk hd w r h := fun h => by rw [es h, if_neg (fun hh => ce hh.1), Nat.add_zero]
      constructor
      · rintro ⟨h1, h2⟩
        refine ⟨fun t ht hte => ?_, fun h hh => by rw [es2 h]; exact h2 h hh⟩
        by_cases ct : t = r
        · subst ct; exact absurd hte ce
        · exact h1 t (by omega) hte
      · rintro ⟨h1, h2⟩
        exact ⟨fun t ht => h1 t (by omega), fun h hh => by rw [← es2 h]; exact h2 h hh⟩
theorem fb_sm_rev (g : Nat → Nat) (N : Nat) : ∀ r, r ≤ N → fb_sm g (N - r) + fb_sm (fun t => g (N - (t + 1))) r = fb_sm g N
  | 0, _ => rfl
  | r + 1, h => by
    have ih := fb_sm_rev g N r (by omega)
    rw [fb_sm_succ]
    rw [show N - r = N - (r + 1) + 1 from by omega, fb_sm_succ] at ih
    omega
def s_VV (m rn td : Nat → Int32) (o n men : Nat) (e : Nat → Bool) (w : Nat) : Bool := s_V e (s_N m) n (fun k b => s_okb m rn td o n (s_c m k) b) (fun k => s_lk m (s_c m k)) (fun k => s_hd m (s_c m k)) men (s_N m) (fun _ => 0) w
theorem s_VV_pl (m rn td : Nat → Int32) (o n men : Nat) (hn : n ≤ 8) (e : Nat → Bool) (w : Nat) : s_pl m rn td o n men e (fun k => s_dg e (s_N m) n (s_N m - (k + 1)) w) (s_N m) = (s_VV m rn td o n men e w && !decide (m 5 < q_sum (s_pf m e) (s_N m))) := by
  unfold s_pl s_VV
  congr 1
  have hV := s_V_iff e (s_N m) n (fun k b => s_okb m rn td o n (s_c m k) b) (fun k => s_lk m (s_c m k)) (fun k => s_hd m (s_c m k)) men w (s_N m) (fun _ => 0) (fun h hh => Nat.zero_le _)
  have hS : ∀ h, s_S e (s_N m) n (fun k => s_lk m (s_c m k)) (fun k => s_hd m (s_c m k)) w (s_N m) h = s_T m e (fun k => s_dg e (s_N m) n (s_N m - (k + 1)) w) (s_N m) h := fun h => by
    have := fb_sm_rev (fun k => if e k = true ∧ s_dg e (s_N m) n (s_N m - (k + 1)) w ≤ h ∧ h < s_dg e (s_N m) n (s_N m - (k + 1)) w + s_lk m (s_c m k) then s_hd m (s_c m k) else 0) (s_N m) (s_N m) (Nat.le_refl _)
    rw [Nat.sub_self] at this
    unfold s_S s_T
    rw [← this]
    have z : fb_sm (fun k => if e k = true ∧ s_dg e (s_N m) n (s_N m - (k + 1)) w ≤ h ∧ h < s_dg e (s_N m) n (s_N m - (k + 1)) w + s_lk m (s_c m k) then s_hd m (s_c m k) else 0) 0 = 0 := rfl
    rw [z, Nat.zero_add]
    refine fb_sm_cong fun t ht => ?_
    show _ = (if e (s_N m - (t + 1)) = true ∧ s_dg e (s_N m) n (s_N m - (s_N m - (t + 1) + 1)) w ≤ h ∧ h < s_dg e (s_N m) n (s_N m - (s_N m - (t + 1) + 1)) w + s_lk m (s_c m (s_N m - (t + 1))) then _ else _)
    rw [show s_N m - (s_N m - (t + 1) + 1) = t from by omega]
  apply Bool.eq_iff_iff.mpr
  rw [hV, Bool.and_eq_true, q_all_iff, q_all_iff]
  constructor
  · rintro ⟨h1, h2⟩
    have hall : ∀ k, k < s_N m → e k = true → s_okb m rn td o n (s_c m k) (s_dg e (s_N m) n (s_N m - (k + 1)) w) = true := fun k hk ce => by
      have h5 : (!e k || s_okb m rn td o n (s_c m k) (s_dg e (s_N m) n (s_N m - (k + 1)) w)) = true := h1 k hk
      rw [ce] at h5; exact h5
    refine ⟨fun t ht hte => ?_, fun h hh => ?_⟩
    · have := hall (s_N m - (t + 1)) (by omega) hte
      rw [show s_N m - (s_N m - (t + 1) + 1) = t from by omega] at this
      exact this
    · show 0 + _ ≤ men
      rw [Nat.zero_add, hS h]
      by_cases ch : h < n
      · exact of_decide_eq_true (h2 h ch)
      · have z : s_T m e (fun k => s_dg e (s_N m) n (s_N m - (k + 1)) w) (s_N m) h = 0 := by
          unfold s_T
          rw [fb_sm_cong (g := fun _ => 0) (fun k hk => ?_), fb_sm_const, Nat.mul_zero]
          refine if_neg fun hh => ?_
          have := hall k hk hh.1
          unfold s_okb at this
          rw [Bool.and_eq_true] at this
          have h6 := of_decide_eq_true this.1
          have h7 : h < s_dg e (s_N m) n (s_N m - (k + 1)) w + s_lk m (s_c m k) := hh.2.2
          omega
        rw [z]; exact Nat.zero_le _
  · rintro ⟨h1, h2⟩
    refine ⟨fun k hk => ?_, fun h hh => ?_⟩
    · show (!e k || s_okb m rn td o n (s_c m k) (s_dg e (s_N m) n (s_N m - (k + 1)) w)) = true
      cases ce : e k with
      | false => rfl
      | true =>
        have := h1 (s_N m - (k + 1)) (by omega) (by rw [show s_N m - (s_N m - (k + 1) + 1) = k from by omega]; exact ce)
        rw [show s_N m - (s_N m - (k + 1) + 1) = k from by omega] at this
        exact this
    · refine decide_eq_true ?_
      have := h2 h (by omega)
      rw [hS h, Nat.zero_add] at this
      exact this
