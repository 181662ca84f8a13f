/-! ===== two loops side by side ===== -/
theorem q_lp2 {σ τ ε φ : Type} {b1 : σ → Option (σ ⊕ ε)} {b2 : τ → Option (τ ⊕ φ)} (I : Nat → σ → τ → Prop) (E : ε → φ → Prop) (n : Nat) (hs : ∀ i s t, i < n → I i s t → ∃ s' t', b1 s = some (.inl s') ∧ b2 t = some (.inl t') ∧ I (i + 1) s' t') (he : ∀ s t, I n s t → ∃ e f, b1 s = some (.inr e) ∧ b2 t = some (.inr f) ∧ E e f) (s : σ) (t : τ) (h0 : I 0 s t) (hn : n < 100000) : ∃ e f, k_lp b1 k_fuel s = some e ∧ k_lp b2 k_fuel t = some f ∧ E e f := by
  have key : ∀ m i F s t, i + m = n → m < F → I i s t → ∃ e f, k_lp b1 F s = some e ∧ k_lp b2 F t = some f ∧ E e f := by
    intro m
    induction m with
    | zero =>
      intro i F s t h1 h2 h3
      obtain ⟨F, rfl⟩ : ∃ f, F = f + 1 := ⟨F - 1, by omega⟩
      have : i = n := by omega
      subst this
      obtain ⟨e, f, g1, g2, g3⟩ := he s t h3
      exact ⟨e, f, by unfold k_lp; rw [g1], by unfold k_lp; rw [g2], g3⟩
    | succ m ih =>
      intro i F s t h1 h2 h3
      obtain ⟨F, rfl⟩ : ∃ f, F = f + 1 := ⟨F - 1, by omega⟩
      obtain ⟨s', t', g1, g2, g3⟩ := hs i s t (by omega) h3
      obtain ⟨e, f, k1, k2, k3⟩ := ih (i + 1) F s' t' (by omega) (by omega) g3
      exact ⟨e, f, by unfold k_lp; rw [g1]; exact k1, by unfold k_lp; rw [g2]; exact k2, k3⟩
  exact key n 0 k_fuel s t (by omega) hn h0
/-! ===== work on a seam ===== -/
def m_wk (m : Nat → Int32) (i : Nat) (p tk d s : Int32) : Nat → Int32 := upd (upd (upd (upd m 5 p) 6 tk) (157 + i) d) (145 + i) s
theorem m_wk_at {m : Nat → Int32} {i : Nat} {p tk d s : Int32} {k : Nat} (h : k ≠ 5 ∧ k ≠ 6 ∧ k ≠ 157 + i ∧ k ≠ 145 + i) : m_wk m i p tk d s k = m k := by
  obtain ⟨h1, h2, h3, h4⟩ := h
  unfold m_wk; rw [upd_n h4, upd_n h3, upd_n h2, upd_n h1]
theorem m_wk_5 {m : Nat → Int32} {i : Nat} {p tk d s : Int32} (hi : i < 12) : m_wk m i p tk d s 5 = p ∧ m_wk m i p tk d s 6 = tk ∧ m_wk m i p tk d s (157 + i) = d ∧ m_wk m i p tk d s (145 + i) = s := by
  unfold m_wk
  simp (disch := omega) only [upd_n, upd_s, and_self]
theorem m_wk_inv {m : Nat → Int32} (h : k_Inv m) {i : Nat} (hi : i < 12) {p tk d s : Int32} (hp : kr p 0 1000) (hd : kr d 0 4) (hs : kr s 0 2) (h0 : s.toInt = 0 → d.toInt = 0) (h1 : s.toInt = 1 → d.toInt < (m (109 + i)).toInt) : k_Inv (m_wk m i p tk d s) := by
  have er : k_Rng (m_wk m i p tk d s) := by
    have l157 : ∀ i, i < 12 → k_lo (157 + i) = 0 ∧ k_hi (157 + i) = 4 := by decide
    have l145 : ∀ i, i < 12 → k_lo (145 + i) = 0 ∧ k_hi (145 + i) = 2 := by decide
    unfold m_wk
    refine k_Rng_upd (k_Rng_upd (k_Rng_upd (k_Rng_upd h.1 hp) ?_) ?_) ?_
    · have := fb_rng tk
      exact ⟨by show -2147483648 ≤ _; omega, by show _ ≤ 2147483647; omega⟩
    · rw [(l157 i hi).1, (l157 i hi).2]; exact hd
    · rw [(l145 i hi).1, (l145 i hi).2]; exact hs
  obtain ⟨g1, g2, g3, g4⟩ := h
  obtain ⟨n5, n6, n157, n145⟩ := m_wk_5 (m := m) (p := p) (tk := tk) (d := d) (s := s) hi
  have e10 := s_nt_e g1
  have e11 := s_na_e g1
  have e12 := s_ns_e g1
  refine ⟨er, fun j hj => ?_, fun j hj => ?_, fun j hj => ?_⟩
  · rw [m_wk_at (by omega)] at hj
    rw [m_wk_at (by omega)]; exact g2 j hj
  · rw [m_wk_at (by omega)] at hj
    rw [m_wk_at (by omega)]; exact g3 j hj
  · rw [m_wk_at (by omega)] at hj
    by_cases c : j = i
    · subst c
      rw [n157, n145, m_wk_at (by omega)]
      exact ⟨h0, h1, (g4 j hj).2.2⟩
    · rw [m_wk_at (by omega), m_wk_at (by omega), m_wk_at (by omega)]; exact g4 j hj
/-- what the two sides hold between two seams -/
def W_rel (m ru : Nat → Int32) (i : Nat) (s : Int32 × Int32 × (Nat → Int32) × (Nat → Int32) × Int32 × Int32 × Int32) (t : Int32 × Int32 × (Nat → Int32)) : Prop :=
  s.1 = t.1 ∧ s.2.1 = nI i ∧ t.2.1 = nI i ∧ s.2.2.2.2.1 = m 7 + (ru 3 - t.1) ∧ s.2.2.2.2.2.1 = t.2.2 5 ∧ s.2.2.2.2.2.2 = t.2.2 6 ∧ (∀ j, j < 12 → s.2.2.1 j = t.2.2 (157 + j) ∧ s.2.2.2.1 j = t.2.2 (145 + j)) ∧ k_Inv t.2.2 ∧ ∀ k, (k ≠ 5 ∧ k ≠ 6 ∧ k < 145) → t.2.2 k = m k
theorem s_bare_cong {m m' td : Nat → Int32} {s o : Nat} (h1 : m' 1 = m 1) (h2 : m' (73 + s) = m (73 + s)) (h3 : m' (85 + s) = m (85 + s)) : s_bare m' td s o = s_bare m td s o := by
  unfold s_bare; rw [h1, h2, h3]
theorem q_hm (a r x h : Int32) : a + (r - x) + h = a + (r - (x - h)) := by
  have e : -(x + -h) = -x + h := by rw [Int32.neg_add, Int32.sub_eq_add_neg, Int32.neg_neg]
  rw [Int32.sub_eq_add_neg r x, Int32.sub_eq_add_neg x h, Int32.sub_eq_add_neg r, e, Int32.add_assoc a, Int32.add_assoc r]
theorem y_fin {c : Nat → Int32} {i : Nat} (hi : i < 12) (x : Int32) : lj_X9_pass_236 (nI i) x c = some (.inl (x - c (97 + i), nI i + 1, upd (upd c (157 + i) (c (157 + i) + 1)) (145 + i) (if c (157 + i) + 1 = c (109 + i) then 2 else 1))) := by
  unfold lj_X9_pass_236 lj_X9_pass_290
  simp (disch := omega) only [q_o97, q_o109, q_o145, q_o157, q_ix, q_cl, q_lt1, upd_s, upd_n]
  by_cases e : c (157 + i) + 1 = c (109 + i)
  · simp only [if_pos e]
  · simp only [if_neg e]
theorem y_fin1 {c : Nat → Int32} {i : Nat} (hi : i < 12) (x : Int32) : lj_X9_pass_236_1 (nI i) x c = some (.inl (x - c (97 + i), nI i + 1, upd (upd c (157 + i) (c (157 + i) + 1)) (145 + i) (if c (157 + i) + 1 = c (109 + i) then 2 else 1))) := by
  unfold lj_X9_pass_236_1 lj_X9_pass_290_1
  simp (disch := omega) only [q_o97, q_o109, q_o145, q_o157, q_ix, q_cl, q_lt1, upd_s, upd_n]
  by_cases e : c (157 + i) + 1 = c (109 + i)
  · simp only [if_pos e]
  · simp only [if_neg e]
theorem xy_work {m ru ru' td sk sd hd tr lg sta dn : Nat → Int32} {ss : Int32} {o : Nat} (h : k_Inv m) (hss : ss = m 12) (ho : m 0 = nI o) (ho2 : o < 1000) (hr3 : ru' 3 = ru 3) (hse : ∀ i, i < 12 → sk i = m (73 + i) ∧ sd i = m (85 + i) ∧ hd i = m (97 + i) ∧ lg i = m (109 + i) ∧ tr i = m (121 + i) ∧ sta i = m (145 + i) ∧ dn i = m (157 + i)) (a1 : Int32) : ∃ dn' sta' hm men c, k_lp (fun s => lb_X4_work_12 ss a1 (m 1) td sk sd (m 0) hd tr lg s.1 s.2.1 s.2.2.1 s.2.2.2.1 s.2.2.2.2.1 s.2.2.2.2.2.1 s.2.2.2.2.2.2) k_fuel (ru' 3, 0, dn, sta, m 7, m 5, m 6) = some (dn', sta', hm, c 5, c 6) ∧ k_lp (fun s => lb_X9_pass_21 a1 0 td s.1 s.2.1 s.2.2) k_fuel (ru 3, 0, m) = some (men, c) ∧ hm = m 7 + (ru 3 - men) ∧ (∀ j, j < 12 → dn' j = c (157 + j) ∧ sta' j = c (145 + j)) ∧ k_Inv c ∧ ∀ k, (k ≠ 5 ∧ k ≠ 6 ∧ k < 145) → c k = m k := by
  obtain ⟨e12, hn, -⟩ := s_ns_e h.1
  have hstep : ∀ (i : Nat) (s : Int32 × Int32 × (Nat → Int32) × (Nat → Int32) × Int32 × Int32 × Int32) (t : Int32 × Int32 × (Nat → Int32)), i < s_ns m → W_rel m ru i s t → ∃ s' t', lb_X4_work_12 ss a1 (m 1) td sk sd (m 0) hd tr lg s.1 s.2.1 s.2.2.1 s.2.2.2.1 s.2.2.2.2.1 s.2.2.2.2.2.1 s.2.2.2.2.2.2 = some (.inl s') ∧ lb_X9_pass_21 a1 0 td t.1 t.2.1 t.2.2 = some (.inl t') ∧ W_rel m ru (i + 1) s' t' := by
    intro i s t hi hW
    obtain ⟨x2, x3, dn1, sta1, hm, pi, tk⟩ := s
    obtain ⟨men, y3, c⟩ := t
    obtain ⟨w1, w2, w3, w4, w5, w6, w7, w8, w9⟩ := hW
    have w1' : x2 = men := w1
    have w2' : x3 = nI i := w2
    have w3' : y3 = nI i := w3
    have w5' : pi = c 5 := w5
    have w6' : tk = c 6 := w6
    have w4' : hm = m 7 + (ru 3 - men) := w4
    have w7' : ∀ j, j < 12 → dn1 j = c (157 + j) ∧ sta1 j = c (145 + j) := w7
    have w8' : k_Inv c := w8
    have w9' : ∀ k, (k ≠ 5 ∧ k ≠ 6 ∧ k < 145) → c k = m k := w9
    clear w1 w2 w3 w4 w5 w6 w7 w8 w9
    subst w1'; subst w2'; subst w3'; subst w5'; subst w6'
    have hi12 : i < 12 := by omega
    obtain ⟨z1, z2, z3, z4, z5, -, -⟩ := hse i hi12
    have c12 : c 12 = nI (s_ns m) := by rw [w9' 12 (by omega), e12]
    have c0 : c 0 = nI o := by rw [w9' 0 (by omega), ho]
    have hix12 : ∀ {α : Type} (k : Option α), k_ix (nI i) 12 k = k := fun k => q_ix k (by omega) (by omega)
    have skip : ∀ (Y : Option ((Int32 × Int32 × (Nat → Int32) × (Nat → Int32) × Int32 × Int32 × Int32) ⊕ ((Nat → Int32) × (Nat → Int32) × Int32 × Int32 × Int32))) (Z : Option ((Int32 × Int32 × (Nat → Int32)) ⊕ (Int32 × (Nat → Int32)))), Y = some (.inl (x2, nI i + 1, dn1, sta1, hm, c 5, c 6)) → Z = some (.inl (x2, nI i + 1, c)) → ∃ s' t', Y = some (.inl s') ∧ Z = some (.inl t') ∧ W_rel m ru (i + 1) s' t' :=
      fun Y Z hY hZ => ⟨_, _, hY, hZ, rfl, nI_1 i, nI_1 i, w4', rfl, rfl, w7', w8', w9'⟩
    have c97 : c (97 + i) = m (97 + i) := w9' _ (by omega)
    have go : ∀ (p tk d st : Int32) (dn' sta' : Nat → Int32) (Y : Option ((Int32 × Int32 × (Nat → Int32) × (Nat → Int32) × Int32 × Int32 × Int32) ⊕ ((Nat → Int32) × (Nat → Int32) × Int32 × Int32 × Int32))) (Z : Option ((Int32 × Int32 × (Nat → Int32)) ⊕ (Int32 × (Nat → Int32)))), k_Inv (m_wk c i p tk d st) → Y = some (.inl (x2 - m (97 + i), nI i + 1, dn', sta', hm + m (97 + i), p, tk)) → Z = some (.inl (x2 - m (97 + i), nI i + 1, m_wk c i p tk d st)) → (dn' i = d ∧ sta' i = st ∧ ∀ j, j ≠ i → dn' j = dn1 j ∧ sta' j = sta1 j) → ∃ s' t', Y = some (.inl s') ∧ Z = some (.inl t') ∧ W_rel m ru (i + 1) s' t' := by
      intro p tk d st dn' sta' Y Z hI hY hZ hds
      obtain ⟨n5, n6, n157, n145⟩ := m_wk_5 (m := c) (p := p) (tk := tk) (d := d) (s := st) hi12
      refine ⟨_, _, hY, hZ, rfl, nI_1 i, nI_1 i, ?_, n5.symm, n6.symm, fun j hj => ?_, hI, fun k hk => ?_⟩
      · show hm + m (97 + i) = m 7 + (ru 3 - (x2 - m (97 + i)))
        rw [w4', q_hm]
      · show dn' j = m_wk c i p tk d st (157 + j) ∧ sta' j = m_wk c i p tk d st (145 + j)
        by_cases e : j = i
        · subst e; rw [n157, n145]; exact ⟨hds.1, hds.2.1⟩
        · rw [m_wk_at (by omega), m_wk_at (by omega), (hds.2.2 j e).1, (hds.2.2 j e).2]; exact w7' j hj
      · show m_wk c i p tk d st k = m k
        rw [m_wk_at (by omega)]; exact w9' k hk
    have sea := w8'.2.2.2 i (by rw [c12, q_ti (by omega)]; omega)
    obtain ⟨D, eD, eD2, hD, -⟩ := kr_nI (rg_dn w8'.1 hi12) (by decide) (by decide)
    obtain ⟨LL, eL, eL2, hL, -⟩ := kr_nI (rg_lg w8'.1 hi12) (by decide) (by decide)
    obtain ⟨P, eP, eP2, hP, -⟩ := kr_nI (rg_pi w8'.1) (by decide) (by decide)
    obtain ⟨TT, eT, eT2, hT, -⟩ := kr_nI (rg_tr w8'.1 hi12) (by decide) (by decide)
    show ∃ s' t', lb_X4_work_12 ss a1 (m 1) td sk sd (m 0) hd tr lg x2 (nI i) dn1 sta1 hm (c 5) (c 6) = some (.inl s') ∧ lb_X9_pass_21 a1 0 td x2 (nI i) c = some (.inl t') ∧ W_rel m ru (i + 1) s' t'
    unfold lb_X4_work_12 lb_X9_pass_21
    rw [hss, e12, c12, q_ifge _ _ hi (by omega), q_ifge _ _ hi (by omega), hix12, q_hasBit _ (by omega), q_b1, q_ifp, ho, c0, x_isBare hi12 ho2 z1 z2, y_isBare c td hi12 ho2, q_b1, q_b1, q_ifp, q_ifp, s_bare_cong (m := m) (m' := c) (w9' 1 (by omega)) (w9' _ (by omega)) (w9' _ (by omega))]
    simp only [q_bit1 a1 (show i < 32 by omega), if_true]
    by_cases cb : bt a1 i = true
    · simp only [if_pos cb]
      by_cases cv : s_bare m td i o = true
      · simp only [if_pos cv]
        simp (disch := omega) only [q_o97, q_o145, q_o157, q_o121, q_ix, q_cl]
        rw [z3, w9' (97 + i) (by omega)]
        by_cases cm : x2 < m (97 + i)
        · simp only [if_pos cm]; exact skip _ _ rfl rfl
        · simp only [if_neg cm]
          unfold p_X4_isWorkDone p_X3_pitchLacking p_X3_hoursLacking
          simp (disch := omega) only [q_ix, q_cl]
          rw [(w7' i hi12).2]
          have hand : (upd c (145 + i) 1) (97 + i) = m (97 + i) := by rw [upd_n (by omega), w9' _ (by omega)]
          by_cases c2 : c (145 + i) = 2
          · have n0 : ¬ c (145 + i) = 0 := by rw [c2]; decide
            have n1 : ¬ c (145 + i) = 1 := by rw [c2]; decide
            simp only [if_pos c2, if_neg n0, if_neg n1]
            refine skip _ _ ?_ rfl
            by_cases cd : dn1 i ≤ 0
            · simp only [if_pos cd, q_b1, q_b5, if_true]
            · simp only [if_neg cd, q_b1, q_b5, if_true]
          · simp only [if_neg c2]
            by_cases c0' : c (145 + i) = 0
            · have hd0 := sea.1 (by rw [c0']; decide)
              refine go (c 5) (c 6) (c (157 + i)) 1 dn1 (upd sta1 i 1) _ _ (m_wk_inv w8' hi12 (rg_pi w8'.1) (rg_dn w8'.1 hi12) ⟨by decide, by decide⟩ (fun e => absurd e (by decide)) (fun _ => by have := sea.2.2; omega)) ?_ ?_ ⟨(w7' i hi12).1, upd_s, fun j hj => ⟨rfl, upd_n hj⟩⟩
              · simp only [if_pos c0', q_b5, if_neg (show ¬ (1 : Int32) = 0 by decide)]
              · simp only [if_pos c0', q_lt1]
                rw [upd_n (show 97 + i ≠ 145 + i by omega), c97]
                unfold m_wk
                rw [fa_upd_same (f := c) (i := 5) rfl, fa_upd_same (f := c) (i := 6) rfl, fa_upd_same (f := c) (i := 157 + i) rfl]
            · have c1 : c (145 + i) = 1 := by
                obtain ⟨r1, r2⟩ := rg_st w8'.1 hi12
                have t0 : (c (145 + i)).toInt ≠ 0 := fun e => c0' (Int32.toInt_inj.mp (by rw [e]; decide))
                have t2 : (c (145 + i)).toInt ≠ 2 := fun e => c2 (Int32.toInt_inj.mp (by rw [e]; decide))
                exact Int32.toInt_inj.mp (by rw [show (1 : Int32).toInt = 1 from by decide]; omega)
              have hlt := sea.2.1 (by rw [c1]; decide)
              have hDL : D < LL := by omega
              simp only [if_neg c0', c1, if_true, upd_s, (w7' i hi12).1, z4, z5]
              have ct : m (121 + i) = c (121 + i) := (w9' _ (by omega)).symm
              have cl : m (109 + i) = c (109 + i) := (w9' _ (by omega)).symm
              rw [ct, cl, eD, eL, eT, eP]
              have lack : (0 + nI LL - (nI D + 1) = 0) = (D + 1 = LL) := by
                rw [Int32.zero_add, nI_1, pk_sub (by omega), show (0 : Int32) = nI 0 from rfl, q_eqI (by omega) (by omega)]
                exact propext ⟨fun e => by omega, fun e => by omega⟩
              have same : (nI D + 1 = nI LL) = (D + 1 = LL) := by rw [nI_1, q_eqI (by omega) (by omega)]
              have kd : kr (nI (D + 1)) 0 4 := ⟨by rw [q_ti (by omega)]; omega, by rw [q_ti (by omega)]; omega⟩
              have kst : ∀ st : Int32, (st = 2 ∨ (st = 1 ∧ D + 1 < LL)) → ∀ p tk : Int32, kr p 0 1000 → k_Inv (m_wk c i p tk (nI (D + 1)) st) := by
                intro st hst p tk hp
                refine m_wk_inv w8' hi12 hp kd ?_ ?_ ?_
                · rcases hst with e | ⟨e, -⟩ <;> rw [e] <;> exact ⟨by decide, by decide⟩
                · intro e0
                  rcases hst with e | ⟨e, -⟩ <;> rw [e] at e0 <;> exact absurd e0 (by decide)
                · intro e0
                  rcases hst with e | ⟨e, hh⟩
                  · rw [e] at e0; exact absurd e0 (by decide)
                  · rw [eL, q_ti (by omega), q_ti (by omega)]; omega
              rcases Nat.eq_zero_or_pos D with hz | hz
              · -- the first HOUR of work takes its PITCH
                subst hz
                simp only [show (nI 0 ≤ (0 : Int32)) = True from by decide, show ((0 : Int32) < nI 0) = False from by decide, show (nI 0 = (0 : Int32)) = True from by decide, if_true, if_false, q_b1]
                by_cases cp : TT ≤ P
                · simp only [if_pos (show nI TT ≤ nI P from nI_le cp (by omega)), if_neg (show ¬ nI P < nI TT from nI_nlt cp (by omega)), q_b1]
                  have kp : kr (nI P - nI TT) 0 1000 := by rw [pk_sub cp]; exact ⟨by rw [q_ti (by omega)]; omega, by rw [q_ti (by omega)]; omega⟩
                  have hc' : (upd (upd c 5 (nI P - nI TT)) 6 ((upd c 5 (nI P - nI TT)) 6 + (upd c 5 (nI P - nI TT)) (121 + i))) = upd (upd c 5 (nI P - nI TT)) 6 (c 6 + nI TT) := by
                    rw [upd_n (show 6 ≠ 5 by omega), upd_n (show 121 + i ≠ 5 by omega), eT]
                  rw [hc', y_fin1 hi12]
                  have f1 : (upd (upd c 5 (nI P - nI TT)) 6 (c 6 + nI TT)) (97 + i) = m (97 + i) := by rw [upd_n (by omega), upd_n (by omega), c97]
                  have f2 : (upd (upd c 5 (nI P - nI TT)) 6 (c 6 + nI TT)) (157 + i) = nI 0 := by rw [upd_n (by omega), upd_n (by omega), eD]
                  have f3 : (upd (upd c 5 (nI P - nI TT)) 6 (c 6 + nI TT)) (109 + i) = nI LL := by rw [upd_n (by omega), upd_n (by omega), eL]
                  rw [f1, f2, f3]
                  by_cases cc : 0 + 1 = LL
                  · have l1 : (0 + nI LL - (nI 0 + 1) = 0) := by rw [lack]; exact cc
                    have l2 : nI 0 + 1 = nI LL := by rw [same]; exact cc
                    refine go (nI P - nI TT) (c 6 + nI TT) (nI (0 + 1)) 2 (upd dn1 i (nI 0 + 1)) (upd sta1 i 2) _ _ (kst 2 (Or.inl rfl) _ _ kp) ?_ ?_ ⟨by rw [upd_s, nI_1], upd_s, fun j hj => ⟨upd_n hj, upd_n hj⟩⟩
                    · simp only [q_b1, if_pos l1, q_b5, if_neg (show ¬ (1 : Int32) = 0 by decide)]
                    · rw [if_pos l2, nI_1 0]; rfl
                  · have l1 : ¬ (0 + nI LL - (nI 0 + 1) = 0) := by rw [lack]; exact cc
                    have l2 : ¬ nI 0 + 1 = nI LL := by rw [same]; exact cc
                    refine go (nI P - nI TT) (c 6 + nI TT) (nI (0 + 1)) 1 (upd dn1 i (nI 0 + 1)) sta1 _ _ (kst 1 (Or.inr ⟨rfl, by omega⟩) _ _ kp) ?_ ?_ ⟨by rw [upd_s, nI_1], by rw [(w7' i hi12).2, c1], fun j hj => ⟨upd_n hj, rfl⟩⟩
                    · simp only [q_b1, if_neg l1, q_b5, if_neg (show ¬ (1 : Int32) = 0 by decide)]
                    · rw [if_neg l2, nI_1 0]; rfl
                · simp only [if_neg (show ¬ nI TT ≤ nI P from nI_ge (by omega) (by omega)), if_pos (show nI P < nI TT from nI_lt (by omega) (by omega)), q_b5, if_true]
                  exact skip _ _ (by simp only [eP, if_neg (show ¬ (1 : Int32) = 0 by decide), q_b5, if_true]) rfl
              · simp only [if_neg (show ¬ nI D ≤ 0 from nI_nle hz (by omega)), if_pos (show (0 : Int32) < nI D from nI_lt (a := 0) hz (by omega)), if_neg (nI_ne0 hz (show D < 2 ^ 31 by omega)), if_pos (show (0 : Int32) ≤ nI P from nI_pos' (by omega)), q_b1]
                rw [y_fin hi12, c97, eD, eL]
                have kp : kr (c 5) 0 1000 := rg_pi w8'.1
                by_cases cc : D + 1 = LL
                · have l1 : (0 + nI LL - (nI D + 1) = 0) := by rw [lack]; exact cc
                  have l2 : nI D + 1 = nI LL := by rw [same]; exact cc
                  refine go (c 5) (c 6) (nI (D + 1)) 2 (upd dn1 i (nI D + 1)) (upd sta1 i 2) _ _ (kst 2 (Or.inl rfl) _ _ kp) ?_ ?_ ⟨by rw [upd_s, nI_1], upd_s, fun j hj => ⟨upd_n hj, upd_n hj⟩⟩
                  · simp only [q_b1, if_pos l1, q_b5, if_neg (show ¬ (1 : Int32) = 0 by decide), Int32.sub_zero, Int32.add_zero, eP]
                  · rw [if_neg (show ¬ (1 : Int32) = 0 by decide), if_pos l2, nI_1 D]
                    unfold m_wk
                    rw [fa_upd_same (f := c) (i := 5) rfl, fa_upd_same (f := c) (i := 6) rfl]
                · have l1 : ¬ (0 + nI LL - (nI D + 1) = 0) := by rw [lack]; exact cc
                  have l2 : ¬ nI D + 1 = nI LL := by rw [same]; exact cc
                  refine go (c 5) (c 6) (nI (D + 1)) 1 (upd dn1 i (nI D + 1)) sta1 _ _ (kst 1 (Or.inr ⟨rfl, by omega⟩) _ _ kp) ?_ ?_ ⟨by rw [upd_s, nI_1], by rw [(w7' i hi12).2, c1], fun j hj => ⟨upd_n hj, rfl⟩⟩
                  · simp only [q_b1, if_neg l1, q_b5, if_neg (show ¬ (1 : Int32) = 0 by decide), Int32.sub_zero, Int32.add_zero, eP]
                  · rw [if_neg (show ¬ (1 : Int32) = 0 by decide), if_neg l2, nI_1 D]
                    unfold m_wk
                    rw [fa_upd_same (f := c) (i := 5) rfl, fa_upd_same (f := c) (i := 6) rfl]
      · simp only [if_neg cv]; exact skip _ _ rfl rfl
    · simp only [if_neg cb]; exact skip _ _ rfl rfl
  have hend : ∀ (s : Int32 × Int32 × (Nat → Int32) × (Nat → Int32) × Int32 × Int32 × Int32) (t : Int32 × Int32 × (Nat → Int32)), W_rel m ru (s_ns m) s t → ∃ (e : (Nat → Int32) × (Nat → Int32) × Int32 × Int32 × Int32) (f : Int32 × (Nat → Int32)), lb_X4_work_12 ss a1 (m 1) td sk sd (m 0) hd tr lg s.1 s.2.1 s.2.2.1 s.2.2.2.1 s.2.2.2.2.1 s.2.2.2.2.2.1 s.2.2.2.2.2.2 = some (.inr e) ∧ lb_X9_pass_21 a1 0 td t.1 t.2.1 t.2.2 = some (.inr f) ∧ (e.2.2.1 = m 7 + (ru 3 - f.1) ∧ e.2.2.2.1 = f.2 5 ∧ e.2.2.2.2 = f.2 6 ∧ (∀ j, j < 12 → e.1 j = f.2 (157 + j) ∧ e.2.1 j = f.2 (145 + j)) ∧ k_Inv f.2 ∧ ∀ k, (k ≠ 5 ∧ k ≠ 6 ∧ k < 145) → f.2 k = m k) := by
    intro s t hW
    obtain ⟨x2, x3, dn1, sta1, hm, pi, tk⟩ := s
    obtain ⟨men, y3, c⟩ := t
    obtain ⟨w1, w2, w3, w4, w5, w6, w7, w8, w9⟩ := hW
    have w2' : x3 = nI (s_ns m) := w2
    have w3' : y3 = nI (s_ns m) := w3
    subst w2'; subst w3'
    have c12 : c 12 = nI (s_ns m) := (w9 12 (by omega)).trans e12
    refine ⟨(dn1, sta1, hm, pi, tk), (men, c), ?_, ?_, w4, w5, w6, w7, w8, w9⟩
    · show lb_X4_work_12 ss a1 (m 1) td sk sd (m 0) hd tr lg x2 (nI (s_ns m)) dn1 sta1 hm pi tk = _
      unfold lb_X4_work_12
      rw [hss, e12, q_ifle _ _ (Nat.le_refl _) (by omega)]
    · show lb_X9_pass_21 a1 0 td men (nI (s_ns m)) c = _
      unfold lb_X9_pass_21
      rw [c12, q_ifle _ _ (Nat.le_refl _) (by omega)]
  obtain ⟨e, f, g1, g2, g3⟩ := q_lp2 (b1 := fun s : Int32 × Int32 × (Nat → Int32) × (Nat → Int32) × Int32 × Int32 × Int32 => lb_X4_work_12 ss a1 (m 1) td sk sd (m 0) hd tr lg s.1 s.2.1 s.2.2.1 s.2.2.2.1 s.2.2.2.2.1 s.2.2.2.2.2.1 s.2.2.2.2.2.2) (b2 := fun s : Int32 × Int32 × (Nat → Int32) => lb_X9_pass_21 a1 0 td s.1 s.2.1 s.2.2) (W_rel m ru) (fun e f => e.2.2.1 = m 7 + (ru 3 - f.1) ∧ e.2.2.2.1 = f.2 5 ∧ e.2.2.2.2 = f.2 6 ∧ (∀ j, j < 12 → e.1 j = f.2 (157 + j) ∧ e.2.1 j = f.2 (145 + j)) ∧ k_Inv f.2 ∧ ∀ k, (k ≠ 5 ∧ k ≠ 6 ∧ k < 145) → f.2 k = m k) (s_ns m) hstep hend (ru' 3, 0, dn, sta, m 7, m 5, m 6) (ru 3, 0, m) ⟨hr3, rfl, rfl, by show m 7 = m 7 + (ru 3 - ru 3); rw [Int32.sub_self, Int32.add_zero], rfl, rfl, fun j hj => ⟨(hse j hj).2.2.2.2.2.2, (hse j hj).2.2.2.2.2.1⟩, h, fun _ _ => rfl⟩ (by omega)
  obtain ⟨d1, d2, d3, d4, d5⟩ := e
  obtain ⟨men, c⟩ := f
  obtain ⟨k1, k2, k3, k4, k5, k6⟩ := g3
  have k2' : d4 = c 5 := k2
  have k3' : d5 = c 6 := k3
  subst k2'; subst k3'
  exact ⟨d1, d2, d3, men, c, g1, g2, k1, k4, k5, k6⟩
