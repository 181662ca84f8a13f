/-! ===== the SEARCH for beginnings ===== -/
def s_F (p : Nat → Bool) (w : Nat) : Option Nat := if p w = true then some w else none
theorem s_F_none {p : Nat → Bool} {w : Nat} : s_F p w = none ↔ p w = false := by
  unfold s_F
  cases h : p w <;> simp
theorem s_F_some {p : Nat → Bool} {w v : Nat} : s_F p w = some v ↔ p w = true ∧ w = v := by
  unfold s_F
  cases h : p w <;> simp
theorem q_nest (F : Nat → Bool) (n q : Nat) (hq : 0 < q) : q_find (s_F F) (n * q) = q_find (fun b => (q_find (s_F fun r => F (b * q + r)) q).map (fun r => b * q + r)) n := by
  cases h : q_find (s_F F) (n * q) with
  | none =>
    symm
    refine q_find_none.mpr fun b hb => ?_
    have : q_find (s_F fun r => F (b * q + r)) q = none := by
      refine q_find_none.mpr fun r hr => ?_
      have hlt : b * q + r < n * q := by
        have : (b + 1) * q ≤ n * q := Nat.mul_le_mul_right q hb
        rw [Nat.add_mul, Nat.one_mul] at this
        omega
      exact s_F_none.mpr (s_F_none.mp (q_find_none.mp h _ hlt))
    rw [this]; rfl
  | some v =>
    symm
    obtain ⟨w, hw, hv, hf⟩ := q_find_some.mp h
    obtain ⟨hF, e⟩ := s_F_some.mp hv
    subst e
    have hdm : w / q * q + w % q = w := by rw [Nat.mul_comm]; exact Nat.div_add_mod w q
    have hmod := Nat.mod_lt w hq
    refine q_find_some.mpr ⟨w / q, (Nat.div_lt_iff_lt_mul hq).mpr hw, ?_, fun b hb => ?_⟩
    · have : q_find (s_F fun r => F (w / q * q + r)) q = some (w % q) := by
        refine q_find_some.mpr ⟨w % q, hmod, s_F_some.mpr ⟨?_, rfl⟩, fun j hj => s_F_none.mpr ?_⟩
        · show F (w / q * q + w % q) = true
          rw [hdm]; exact hF
        · exact s_F_none.mp (hf (w / q * q + j) (by omega))
      show Option.map _ (q_find (s_F fun r => F (w / q * q + r)) q) = _
      rw [this]
      show some (w / q * q + w % q) = some w
      rw [hdm]
    · have : q_find (s_F fun r => F (b * q + r)) q = none := by
        refine q_find_none.mpr fun r hr => s_F_none.mpr ?_
        have h2 : (b + 1) * q ≤ w / q * q := Nat.mul_le_mul_right q hb
        rw [Nat.add_mul, Nat.one_mul] at h2
        exact s_F_none.mp (hf (b * q + r) (by omega))
      show Option.map _ (q_find (s_F fun r => F (b * q + r)) q) = none
      rw [this]; rfl
def s_q (e : Nat → Bool) (N n : Nat) : Nat → Nat
  | 0 => 1
  | r + 1 => if e (N - (r + 1)) = true then n * s_q e N n r else s_q e N n r
theorem s_q_pos (e : Nat → Bool) (N : Nat) {n : Nat} (hn : 0 < n) : ∀ r, 0 < s_q e N n r
  | 0 => by show 0 < 1; omega
  | r + 1 => by
    have ih := s_q_pos e N hn r
    unfold s_q
    split
    · exact Nat.mul_pos hn ih
    · exact ih
theorem s_q_dvd (e : Nat → Bool) (N n : Nat) {t : Nat} (he : e (N - (t + 1)) = true) : ∀ r, t < r → ∃ m, s_q e N n r = s_q e N n t * (n * m)
  | 0, h => absurd h (by omega)
  | r + 1, h => by
    by_cases c : t = r
    · subst c
      refine ⟨1, ?_⟩
      rw [s_q, if_pos he, Nat.mul_one, Nat.mul_comm]
    · obtain ⟨m, hm⟩ := s_q_dvd e N n he r (by omega)
      rw [s_q]
      split
      · refine ⟨n * m, ?_⟩
        rw [hm, Nat.mul_left_comm]
      · exact ⟨m, hm⟩
def s_dg (e : Nat → Bool) (N n t w : Nat) : Nat := w / s_q e N n t % n
theorem s_dg_lt (e : Nat → Bool) (N : Nat) {n : Nat} (hn : 0 < n) (t w : Nat) : s_dg e N n t w < n := Nat.mod_lt _ hn
theorem s_dg_sh (e : Nat → Bool) (N : Nat) {n : Nat} (hn : 0 < n) {t r : Nat} (he : e (N - (t + 1)) = true) (h : t < r) (b x : Nat) : s_dg e N n t (b * s_q e N n r + x) = s_dg e N n t x := by
  obtain ⟨m, hm⟩ := s_q_dvd e N n he r h
  have hp := s_q_pos e N hn t
  unfold s_dg
  rw [hm, show b * (s_q e N n t * (n * m)) + x = s_q e N n t * (n * (b * m)) + x from by rw [Nat.mul_left_comm b, Nat.mul_left_comm b], Nat.mul_add_div hp, Nat.mul_add_mod]
theorem s_dg_top (e : Nat → Bool) (N : Nat) {n : Nat} (hn : 0 < n) (r : Nat) {b x : Nat} (hb : b < n) (hx : x < s_q e N n r) : s_dg e N n r (b * s_q e N n r + x) = b := by
  have hp := s_q_pos e N hn r
  unfold s_dg
  rw [Nat.mul_comm b, Nat.mul_add_div hp, Nat.div_eq_of_lt hx, Nat.add_zero, Nat.mod_eq_of_lt hb]
def s_ad (lk hd : Nat → Nat) (f : Nat → Nat) (i b : Nat) : Nat → Nat := fun h => f h + if b ≤ h ∧ h < b + lk i then hd i else 0
def s_V (e : Nat → Bool) (N n : Nat) (ok : Nat → Nat → Bool) (lk hd : Nat → Nat) (men : Nat) : Nat → (Nat → Nat) → Nat → Bool
  | 0, _, _ => true
  | r + 1, f, w => if e (N - (r + 1)) = true then (ok (N - (r + 1)) (s_dg e N n r w) && (s_mo men (s_ad lk hd f (N - (r + 1)) (s_dg e N n r w)) && s_V e N n ok lk hd men r (s_ad lk hd f (N - (r + 1)) (s_dg e N n r w)) w)) else s_V e N n ok lk hd men r f w
theorem s_V_sh (e : Nat → Bool) (N : Nat) {n : Nat} (hn : 0 < n) (ok : Nat → Nat → Bool) (lk hd : Nat → Nat) (men r b x : Nat) : ∀ t, t ≤ r → ∀ f, s_V e N n ok lk hd men t f (b * s_q e N n r + x) = s_V e N n ok lk hd men t f x
  | 0, _, _ => rfl
  | t + 1, h, f => by
    have ih := s_V_sh e N hn ok lk hd men r b x t (by omega)
    unfold s_V
    by_cases he : e (N - (t + 1)) = true
    · rw [if_pos he, if_pos he, s_dg_sh e N hn he (by omega), ih]
    · rw [if_neg he, if_neg he, ih]
theorem x_placed {e : Nat → Bool} {N n : Nat} {ok : Nat → Nat → Bool} {lk hd : Nat → Nat} {men : Nat} {c pl wo pi : Int32} {mb : Nat → Int32} {hn : Nat → Int64} (hN : N ≤ 5) (hn0 : 0 < n) (hn6 : n ≤ 6) (he : ∀ k, k < N → bt c k = e k) (hok : ∀ k, k < N → ∀ b, b < 6 → bt (mb k) b = ok k b) (hok2 : ∀ k, k < N → ∀ b, ok k b = true → b < n ∧ b + lk k ≤ 8) (hhn : ∀ k, k < N → hn k = lN (hd k * s_r (lk k))) (hd6 : ∀ k, k < N → hd k ≤ 6) (hm : men ≤ 100) : ∀ r, r ≤ N → ∀ d, r < d → ∀ f tr, (∀ h, h < 8 → f h ≤ 6 * (N - r)) → ∃ R tr', p_X2_isPlaced d (lN ((127 - men) * 72340172838076673)) (nI N) pl wo pi tr mb hn c (nI (N - r)) (lN (s_pk f)) = some (R, tr') ∧ (∀ k, k < N - r → tr' k = tr k) ∧ ((q_find (s_F (s_V e N n ok lk hd men r f)) (s_q e N n r) = none ∧ R = 0) ∨ ∃ w, q_find (s_F (s_V e N n ok lk hd men r f)) (s_q e N n r) = some w ∧ R = 1 ∧ ∀ t, t < r → e (N - (t + 1)) = true → tr' (N - (t + 1)) = nI (s_dg e N n t w)) := by
  intro r
  induction r with
  | zero =>
    intro _ d hd f tr _
    obtain ⟨d, rfl⟩ : ∃ d', d = d' + 1 := ⟨d - 1, by omega⟩
    refine ⟨1, tr, ?_, fun _ _ => rfl, Or.inr ⟨0, rfl, rfl, fun t ht => absurd ht (by omega)⟩⟩
    show pb_X2_isPlaced (p_X2_isPlaced d) _ _ _ _ _ _ _ _ _ _ _ = _
    unfold pb_X2_isPlaced
    rw [q_ifle _ _ (show N ≤ N - 0 by omega) (by omega)]
  | succ r ih =>
    intro hr d hdd f tr hf
    obtain ⟨d, rfl⟩ : ∃ d', d = d' + 1 := ⟨d - 1, by omega⟩
    have ih := ih (by omega) d (by omega)
    have ei : N - r = N - (r + 1) + 1 := by omega
    have hi : N - (r + 1) < N := by omega
    rw [ei] at ih
    generalize hii : N - (r + 1) = i at *
    have hi5 : i < 5 := by omega
    show ∃ R tr', pb_X2_isPlaced (p_X2_isPlaced d) _ _ _ _ _ _ _ _ _ _ _ = some (R, tr') ∧ _
    unfold pb_X2_isPlaced
    rw [q_ifge _ _ hi (by omega), if_pos (show nI i < (5 : Int32) from nI_lt (b := 5) hi5 (by omega)), q_hasBit _ (by omega), q_b1, q_ifp, he i hi, nI_1]
    by_cases ce : e i = true
    · rw [if_pos ce]
      have hq : s_q e N n (r + 1) = n * s_q e N n r := by rw [s_q, hii, if_pos ce]
      have hqp := s_q_pos e N hn0 r
      obtain ⟨C, hC⟩ : ∃ C : Nat → Option Nat, C = fun b => if (ok i b && s_mo men (s_ad lk hd f i b)) = true then (q_find (s_F (s_V e N n ok lk hd men r (s_ad lk hd f i b))) (s_q e N n r)).map (fun x => b * s_q e N n r + x) else none := ⟨_, rfl⟩
      have hCn : q_find (s_F (s_V e N n ok lk hd men (r + 1) f)) (s_q e N n (r + 1)) = q_find C n := by
        rw [hq, q_nest _ _ _ hqp]
        refine q_find_cong fun b hb => ?_
        rw [hC]
        have hin : q_find (s_F fun x => s_V e N n ok lk hd men (r + 1) f (b * s_q e N n r + x)) (s_q e N n r) = q_find (s_F fun x => ok i b && (s_mo men (s_ad lk hd f i b) && s_V e N n ok lk hd men r (s_ad lk hd f i b) x)) (s_q e N n r) := by
          refine q_find_cong fun x hx => ?_
          have : s_V e N n ok lk hd men (r + 1) f (b * s_q e N n r + x) = (ok i b && (s_mo men (s_ad lk hd f i b) && s_V e N n ok lk hd men r (s_ad lk hd f i b) x)) := by
            rw [s_V, hii, if_pos ce, s_dg_top e N hn0 r hb hx, s_V_sh e N hn0 ok lk hd men r b x r (Nat.le_refl _)]
          show (if s_V e N n ok lk hd men (r + 1) f (b * s_q e N n r + x) = true then some x else none) = (if (ok i b && (s_mo men (s_ad lk hd f i b) && s_V e N n ok lk hd men r (s_ad lk hd f i b) x)) = true then some x else none)
          rw [this]
        show Option.map _ (q_find (s_F fun x => s_V e N n ok lk hd men (r + 1) f (b * s_q e N n r + x)) (s_q e N n r)) = _
        rw [hin]
        by_cases c1 : (ok i b && s_mo men (s_ad lk hd f i b)) = true
        · have c1' := c1
          rw [Bool.and_eq_true] at c1'
          simp only [c1, c1'.1, c1'.2, Bool.true_and, if_true]
        · have : q_find (s_F fun x => ok i b && (s_mo men (s_ad lk hd f i b) && s_V e N n ok lk hd men r (s_ad lk hd f i b) x)) (s_q e N n r) = none := by
            refine q_find_none.mpr fun x hx => s_F_none.mpr ?_
            rw [← Bool.and_assoc, Bool.eq_false_iff.mpr c1, Bool.false_and]
          rw [this]
          exact (if_neg c1).symm
      rw [hCn]
      have loop := q_lpI (body := fun s : Int32 × (Nat → Int32) => lb_X2_isPlaced_36 (nI i) mb (lN ((127 - men) * 72340172838076673)) (lN (s_pk f)) hn (p_X2_isPlaced d) (nI N) pl wo pi c s.1 s.2) (fun b s => s.1 = nI b ∧ (∀ k, k < i → s.2 k = tr k) ∧ ∀ j, j < b → C j = none) (fun E => (∃ tr', E = .inr tr' ∧ (∀ k, k < i → tr' k = tr k) ∧ ∀ j, j < 6 → C j = none) ∨ ∃ tr', E = .inl (1, tr') ∧ (∀ k, k < i → tr' k = tr k) ∧ ∃ b w, b < n ∧ C b = some w ∧ (∀ j, j < b → C j = none) ∧ ∀ t, t < r + 1 → e (N - (t + 1)) = true → tr' (N - (t + 1)) = nI (s_dg e N n t w)) 6 (fun b s hb hs => by
        obtain ⟨s1, s2⟩ := s
        obtain ⟨h1, h2, h3⟩ := hs
        have h1' : s1 = nI b := h1
        have h2' : ∀ k, k < i → s2 k = tr k := h2
        subst h1'
        show ∃ X, lb_X2_isPlaced_36 (nI i) mb (lN ((127 - men) * 72340172838076673)) (lN (s_pk f)) hn (p_X2_isPlaced d) (nI N) pl wo pi c (nI b) s2 = some X ∧ _
        unfold lb_X2_isPlaced_36
        rw [if_neg (show ¬ (6 : Int32) ≤ nI b from nI_ge (b := 6) hb (by omega)), q_ix _ hi5 (by omega), q_ix _ hi5 (by omega), q_cl (by omega), q_hasBit _ (by omega), q_b1, q_ifp, hok i hi b hb]
        have next : C b = none → ∀ s2' : Nat → Int32, (∀ k, k < i → s2' k = tr k) → ∃ X : (Int32 × (Nat → Int32)) ⊕ ((Int32 × (Nat → Int32)) ⊕ (Nat → Int32)), some (Sum.inl (nI b + 1, s2')) = some X ∧ ((∃ s', X = .inl s' ∧ s'.1 = nI (b + 1) ∧ (∀ k, k < i → s'.2 k = tr k) ∧ ∀ j, j < b + 1 → C j = none) ∨ ∃ E, X = .inr E ∧ ((∃ tr', E = .inr tr' ∧ (∀ k, k < i → tr' k = tr k) ∧ ∀ j, j < 6 → C j = none) ∨ ∃ tr', E = .inl (1, tr') ∧ (∀ k, k < i → tr' k = tr k) ∧ ∃ b w, b < n ∧ C b = some w ∧ (∀ j, j < b → C j = none) ∧ ∀ t, t < r + 1 → e (N - (t + 1)) = true → tr' (N - (t + 1)) = nI (s_dg e N n t w))) := by
          intro hc s2' hs2
          refine ⟨_, rfl, Or.inl ⟨_, rfl, nI_1 b, hs2, fun j hj => ?_⟩⟩
          by_cases cj : j = b
          · subst cj; exact hc
          · exact h3 j (by omega)
        by_cases c1 : ok i b = true
        · rw [if_pos c1]
          obtain ⟨hbn, hbl⟩ := hok2 i hi b c1
          have ez : lN (s_pk f) + (hn i <<< ((8 * nI b).toInt64 &&& 63)) = lN (s_pk (s_ad lk hd f i b)) := by
            rw [hhn i hi, show (8 : Int32) * nI b = nI (8 * b) from (Int32.ofNat_mul 8 b).symm, wb_shl _ (by omega), lN_add, ← s_pk_in _ _ _ hbl, ← s_pk_add]; rfl
          have hf2 : ∀ h, h < 8 → s_ad lk hd f i b h ≤ 6 * (N - r) := fun h hh => by
            have h1 := hf h hh
            have h2 := hd6 i hi
            unfold s_ad
            split <;> omega
          rw [ez, x_men (fun h hh => by have := hf2 h hh; omega) hm, q_b1, q_ifp]
          by_cases c2 : s_mo men (s_ad lk hd f i b) = true
          · rw [if_pos c2, q_ix _ hi5 (by omega)]
            obtain ⟨R, tr', g1, g2, g3⟩ := ih (s_ad lk hd f i b) (upd s2 i (nI b)) (by rw [← ei]; exact hf2)
            rw [nI_1, g1, q_b2]
            have g2' : ∀ k, k < i → tr' k = tr k := fun k hk => by rw [g2 k (by omega), upd_n (by omega)]; exact h2' k hk
            have eC : C b = (q_find (s_F (s_V e N n ok lk hd men r (s_ad lk hd f i b))) (s_q e N n r)).map (fun x => b * s_q e N n r + x) := by
              rw [hC]
              show (if _ then _ else _) = _
              rw [if_pos (by rw [c1, c2]; rfl)]
            rcases g3 with ⟨g3, rfl⟩ | ⟨w, g3, rfl, g4⟩
            · rw [if_pos rfl]
              exact next (by rw [eC, g3]; rfl) tr' g2'
            · rw [if_neg (by decide)]
              obtain ⟨w', hw', hw2, -⟩ := q_find_some.mp g3
              obtain ⟨-, rfl⟩ := s_F_some.mp hw2
              refine ⟨_, rfl, Or.inr ⟨_, rfl, Or.inr ⟨tr', rfl, g2', b, b * s_q e N n r + w', hbn, by rw [eC, g3]; rfl, h3, fun t ht hte => ?_⟩⟩⟩
              by_cases ct : t = r
              · subst ct
                rw [hii, g2 i (by omega), upd_s, s_dg_top e N hn0 t hbn hw']
              · rw [s_dg_sh e N hn0 hte (by omega)]
                exact g4 t (by omega) hte
          · rw [if_neg c2]
            exact next (by rw [hC]; exact if_neg (by rw [c1, Bool.true_and]; exact c2)) s2 h2'
        · rw [if_neg c1]
          exact next (by rw [hC]; exact if_neg (by rw [Bool.eq_false_iff.mpr c1, Bool.false_and]; decide)) s2 h2') (fun s hs => by
        obtain ⟨s1, s2⟩ := s
        obtain ⟨h1, h2, h3⟩ := hs
        have h1' : s1 = nI 6 := h1
        subst h1'
        refine ⟨.inr s2, ?_, Or.inl ⟨s2, rfl, h2, h3⟩⟩
        show lb_X2_isPlaced_36 (nI i) mb (lN ((127 - men) * 72340172838076673)) (lN (s_pk f)) hn (p_X2_isPlaced d) (nI N) pl wo pi c (nI 6) s2 = _
        unfold lb_X2_isPlaced_36
        rw [if_pos (show (6 : Int32) ≤ nI 6 from Int32.le_refl _)]) (0, tr) ⟨rfl, fun _ _ => rfl, fun j hj => absurd hj (by omega)⟩ (by omega)
      obtain ⟨E, hE, hE2⟩ := loop
      rw [hE]
      rcases hE2 with ⟨tr', rfl, h1, h2⟩ | ⟨tr', rfl, h1, b, w, hb, hw, hj, ht⟩
      · exact ⟨0, tr', rfl, h1, Or.inl ⟨q_find_none.mpr fun j hj => h2 j (by omega), rfl⟩⟩
      · exact ⟨1, tr', rfl, h1, Or.inr ⟨w, q_find_some.mpr ⟨b, hb, hw, hj⟩, rfl, ht⟩⟩
    · rw [if_neg ce]
      obtain ⟨R, tr', g1, g2, g3⟩ := ih f tr (fun h hh => by have := hf h hh; omega)
      rw [g1, q_b2]
      have hR : R = 0 ∨ R = 1 := by
        rcases g3 with ⟨-, h⟩ | ⟨w, -, h, -⟩
        · exact Or.inl h
        · exact Or.inr h
      rw [q_ck _ hR]
      have hq : s_q e N n (r + 1) = s_q e N n r := by rw [s_q, hii, if_neg ce]
      have hV : s_F (s_V e N n ok lk hd men (r + 1) f) = s_F (s_V e N n ok lk hd men r f) := by
        funext w
        unfold s_F
        rw [s_V, hii, if_neg ce]
      rw [hq, hV]
      refine ⟨R, tr', rfl, fun k hk => g2 k (by omega), ?_⟩
      rcases g3 with g | ⟨w, h1, h2, h3⟩
      · exact Or.inl g
      · refine Or.inr ⟨w, h1, h2, fun t ht hte => h3 t ?_ hte⟩
        rcases Nat.lt_or_ge t r with c | c
        · exact c
        · exact absurd hte (by rw [show t = r from by omega, hii]; exact ce)
