/-! ===== a ship copied ===== -/
theorem R_ship_copy {ho : Int32} {he : Int32} {wa : Int32} {pi : Int32} {bo : Int32} {we : Int32} {tk : Int32} {mn : Int32} {pa : Int32} {mv : Int32} {ot : Int32} {ts : Int32} {wt : Nat → Int32} {un : Nat → Int32} {wh : Int32} {tas : Int32} {ma : Nat → Int32} {pr : Nat → Int32} {sg : Nat → Int32} {ss : Int32} {sk : Nat → Int32} {sd : Nat → Int32} {hd : Nat → Int32} {lg : Nat → Int32} {tr : Nat → Int32} {wo : Nat → Int32} {sta : Nat → Int32} {dn : Nat → Int32} {wt' : Nat → Int32} {un' : Nat → Int32} {ma' : Nat → Int32} {pr' : Nat → Int32} {sg' : Nat → Int32} {sk' : Nat → Int32} {sd' : Nat → Int32} {hd' : Nat → Int32} {lg' : Nat → Int32} {tr' : Nat → Int32} {wo' : Nat → Int32} {sta' : Nat → Int32} {dn' : Nat → Int32} {m m' : Nat → Int32} (h : R_ship ho he wa pi bo we tk mn pa mv ot ts wt un wh tas ma pr sg ss sk sd hd lg tr wo sta dn m) (hm : ∀ k, k < 169 → m' k = m k) (h_wt : ∀ i, i < 12 → wt' i = wt i) (h_un : ∀ i, i < 12 → un' i = un i) (h_ma : ∀ i, i < 6 → ma' i = ma i) (h_pr : ∀ i, i < 6 → pr' i = pr i) (h_sg : ∀ i, i < 6 → sg' i = sg i) (h_sk : ∀ i, i < 12 → sk' i = sk i) (h_sd : ∀ i, i < 12 → sd' i = sd i) (h_hd : ∀ i, i < 12 → hd' i = hd i) (h_lg : ∀ i, i < 12 → lg' i = lg i) (h_tr : ∀ i, i < 12 → tr' i = tr i) (h_wo : ∀ i, i < 12 → wo' i = wo i) (h_sta : ∀ i, i < 12 → sta' i = sta i) (h_dn : ∀ i, i < 12 → dn' i = dn i) : R_ship ho he wa pi bo we tk mn pa mv ot ts wt' un' wh tas ma' pr' sg' ss sk' sd' hd' lg' tr' wo' sta' dn' m' := by
  obtain ⟨⟨e0, e1, e2, e5, e3, e4, e6, e7, e8, e9, eo, ets, ew, eta, ess⟩, hth, hta, hse, hI⟩ := h
  have hI' : k_Inv m' := by
    refine k_Inv_frame hI (fun k hk => by rw [hm k hk]; exact hI.1 k hk) (hm _ (by omega)) (hm _ (by omega)) (hm _ (by omega)) (fun j hj => hm _ (by omega)) (fun j hj => hm _ (by omega)) (fun j hj => ⟨hm _ (by omega), hm _ (by omega), hm _ (by omega)⟩)
  exact ⟨⟨e0.trans (hm 0 (by omega)).symm, e1.trans (hm 1 (by omega)).symm, e2.trans (hm 2 (by omega)).symm, e5.trans (hm 5 (by omega)).symm, e3.trans (hm 3 (by omega)).symm, e4.trans (hm 4 (by omega)).symm, e6.trans (hm 6 (by omega)).symm, e7.trans (hm 7 (by omega)).symm, e8.trans (hm 8 (by omega)).symm, e9.trans (hm 9 (by omega)).symm, eo.trans (congrArg nI (k_out_cong (m := m) (hm 10 (by omega)) (fun i hi => hm _ (by omega)))).symm, ets.trans (hm 10 (by omega)).symm, ew.trans (congrArg nI (k_wh_cong (m := m) (hm 11 (by omega)) (fun i hi => hm _ (by omega)))).symm, eta.trans (hm 11 (by omega)).symm, ess.trans (hm 12 (by omega)).symm⟩, fun i hi => ⟨(h_wt i hi).trans ((hth i hi).1.trans (hm _ (by omega)).symm), (h_un i hi).trans ((hth i hi).2.trans (hm _ (by omega)).symm)⟩, fun i hi => ⟨(h_ma i hi).trans ((hta i hi).1.trans (hm _ (by omega)).symm), (h_pr i hi).trans ((hta i hi).2.1.trans (hm _ (by omega)).symm), (h_sg i hi).trans ((hta i hi).2.2.trans (hm _ (by omega)).symm)⟩, fun i hi => ⟨(h_sk i hi).trans ((hse i hi).1.trans (hm _ (by omega)).symm), (h_sd i hi).trans ((hse i hi).2.1.trans (hm _ (by omega)).symm), (h_hd i hi).trans ((hse i hi).2.2.1.trans (hm _ (by omega)).symm), (h_lg i hi).trans ((hse i hi).2.2.2.1.trans (hm _ (by omega)).symm), (h_tr i hi).trans ((hse i hi).2.2.2.2.1.trans (hm _ (by omega)).symm), (h_wo i hi).trans ((hse i hi).2.2.2.2.2.1.trans (hm _ (by omega)).symm), (h_sta i hi).trans ((hse i hi).2.2.2.2.2.2.1.trans (hm _ (by omega)).symm), (h_dn i hi).trans ((hse i hi).2.2.2.2.2.2.2.trans (hm _ (by omega)).symm)⟩, hI'⟩
theorem q_cpy {f g : Nat → Int32} {n : Nat} : ∀ i, i < n → k_cpy n f g i = f i := fun i hi => if_pos hi
theorem x_copy {ho : Int32} {he : Int32} {wa : Int32} {pi : Int32} {bo : Int32} {we : Int32} {tk : Int32} {mn : Int32} {pa : Int32} {mv : Int32} {ot : Int32} {ts : Int32} {wt : Nat → Int32} {un : Nat → Int32} {wh : Int32} {tas : Int32} {ma : Nat → Int32} {pr : Nat → Int32} {sg : Nat → Int32} {ss : Int32} {sk : Nat → Int32} {sd : Nat → Int32} {hd : Nat → Int32} {lg : Nat → Int32} {tr : Nat → Int32} {wo : Nat → Int32} {sta : Nat → Int32} {dn : Nat → Int32} {g_wt : Nat → Int32} {g_un : Nat → Int32} {g_ma : Nat → Int32} {g_pr : Nat → Int32} {g_sg : Nat → Int32} {g_sk : Nat → Int32} {g_sd : Nat → Int32} {g_hd : Nat → Int32} {g_lg : Nat → Int32} {g_tr : Nat → Int32} {g_wo : Nat → Int32} {g_sta : Nat → Int32} {g_dn : Nat → Int32} (hb : bo = 0 ∨ bo = 1) (hw : we = 0 ∨ we = 1) : p_X4_copyFrom ho he wa pi bo we tk mn pa mv ot ts wt g_wt un g_un wh tas ma g_ma pr g_pr sg g_sg ss sk g_sk sd g_sd hd g_hd lg g_lg tr g_tr wo g_wo sta g_sta dn g_dn = some (ho, he, wa, pi, bo, we, tk, mn, pa, mv, ot, ts, k_cpy 12 wt g_wt, k_cpy 12 un g_un, wh, tas, k_cpy 6 ma g_ma, k_cpy 6 pr g_pr, k_cpy 6 sg g_sg, ss, k_cpy 12 sk g_sk, k_cpy 12 sd g_sd, k_cpy 12 hd g_hd, k_cpy 12 lg g_lg, k_cpy 12 tr g_tr, k_cpy 12 wo g_wo, k_cpy 12 sta g_sta, k_cpy 12 dn g_dn) := by
  unfold p_X4_copyFrom p_X7_copyFrom p_X6_copyFrom p_X3_copyFrom
  rw [q_b4, q_b5]
  show k_ck (bo = 0 ∨ bo = 1) (k_ck (we = 0 ∨ we = 1) _) = _
  rw [q_ck _ hb, q_ck _ hw]
theorem y_keep (now books : Nat → Int32) {j : Nat} (hj : j < 3) : k_lp (fun s : Int32 × (Nat → Int32) => lb_X9_keep_18 (nI j) now s.1 s.2) k_fuel (0, books) = some (fb_put books now (169 * j) 169) := by
  have := q_run (body := fun s : Int32 × (Nat → Int32) => lb_X9_keep_18 (nI j) now s.1 s.2) (fun i => (nI i, fb_put books now (169 * j) i)) (fb_put books now (169 * j) 169) 169 (fun i hi => by
    show lb_X9_keep_18 (nI j) now (nI i) (fb_put books now (169 * j) i) = some (.inl (nI (i + 1), fb_put books now (169 * j) (i + 1)))
    unfold lb_X9_keep_18
    rw [show (169 : Int32) = nI 169 from rfl, q_ifge _ _ hi (by omega), pk_mul, nI_add, q_ix _ (by omega) (by omega), q_ix _ (by omega) (by omega), q_cl (by omega), q_cl (by omega), nI_1, fb_put_succ]) (by
    show lb_X9_keep_18 (nI j) now (nI 169) _ = _
    unfold lb_X9_keep_18
    rw [show (169 : Int32) = nI 169 from rfl, q_ifle _ _ (Nat.le_refl _) (by omega)]) (by omega)
  rw [fb_put_0] at this
  exact this
theorem y_back (now books : Nat → Int32) {j : Nat} (hj : j < 3) : k_lp (fun s : Int32 × (Nat → Int32) => lb_X9_back_27 (nI (j + 1)) books s.1 s.2) k_fuel (0, now) = some (fb_put now (fun i => books (169 * j + i)) 0 169) := by
  have := q_run (body := fun s : Int32 × (Nat → Int32) => lb_X9_back_27 (nI (j + 1)) books s.1 s.2) (fun i => (nI i, fb_put now (fun i => books (169 * j + i)) 0 i)) (fb_put now (fun i => books (169 * j + i)) 0 169) 169 (fun i hi => by
    show lb_X9_back_27 (nI (j + 1)) books (nI i) (fb_put now (fun i => books (169 * j + i)) 0 i) = some (.inl (nI (i + 1), fb_put now (fun i => books (169 * j + i)) 0 (i + 1)))
    unfold lb_X9_back_27
    have e : upd (fb_put now (fun i => books (169 * j + i)) 0 i) i (books (169 * j + i)) = fb_put now (fun i => books (169 * j + i)) 0 (i + 1) := by
      have := fb_put_succ now (fun i => books (169 * j + i)) 0 i
      rw [Nat.zero_add] at this
      exact this
    rw [show (169 : Int32) = nI 169 from rfl, q_ifge _ _ hi (by omega), nI_pred, pk_mul, nI_add, q_ix _ (by omega) (by omega), q_ix _ (by omega) (by omega), q_cl (by omega), q_cl (by omega), nI_1, e]) (by
    show lb_X9_back_27 (nI (j + 1)) books (nI 169) _ = _
    unfold lb_X9_back_27
    rw [show (169 : Int32) = nI 169 from rfl, q_ifle _ _ (Nat.le_refl _) (by omega)]) (by omega)
  rw [fb_put_0] at this
  exact this
theorem q_k3 {x : Int32} (h : kr x 0 3) : x = 0 ∨ x = 1 ∨ x = 2 ∨ x = 3 := by
  obtain ⟨h1, h2⟩ := h
  have : x.toInt = 0 ∨ x.toInt = 1 ∨ x.toInt = 2 ∨ x.toInt = 3 := by omega
  rcases this with e | e | e | e
  · exact Or.inl (Int32.toInt_inj.mp (by rw [e]; decide))
  · exact Or.inr (Or.inl (Int32.toInt_inj.mp (by rw [e]; decide)))
  · exact Or.inr (Or.inr (Or.inl (Int32.toInt_inj.mp (by rw [e]; decide))))
  · exact Or.inr (Or.inr (Or.inr (Int32.toInt_inj.mp (by rw [e]; decide))))
theorem sim_keep : k_Sim_keep R_all := by
  intro S L M hR
  obtain ⟨⟨hc, hc2⟩, ht, hrn, hru, hs, hk0, hk1, hk2, hp⟩ := hR
  have hbo := q_01 (rg_bo hs.2.2.2.2.1)
  have hwe := q_01 (rg_we hs.2.2.2.2.1)
  have hbo2 : S 8 0 = 0 ∨ S 8 0 = 1 := by rw [show S 8 0 = M 9 3 from hs.1.2.2.2.2.1]; exact hbo
  have hwe2 : S 9 0 = 0 ∨ S 9 0 = 1 := by rw [show S 9 0 = M 9 4 from hs.1.2.2.2.2.2.1]; exact hwe
  rcases q_k3 hc2 with e | e | e | e
  · have eM : pM_keep M = some (1, k_su (k_su (k_su M 0 (fun _ => 0)) 1 (fun _ => 1)) 11 (fb_put (M 11) (M 9) (169 * 0) 169)) := by
      unfold pM_keep p_X9_keep
      have hl : k_lp (fun s : Int32 × (Nat → Int32) => lb_X9_keep_18 0 (M 9) s.1 s.2) k_fuel (0, M 11) = some (fb_put (M 11) (M 9) (169 * 0) 169) := y_keep (M 9) (M 11) (j := 0) (by omega)
      rw [e, if_neg (by decide), hl, q_b1]; rfl
    have eX : pX_keep S L = some (1, (k_su (k_su (k_su (k_su (k_su (k_su (k_su (k_su (k_su (k_su (k_su (k_su (k_su (k_su (k_su (k_su (k_su (k_su (k_su (k_su (k_su (k_su (k_su (k_su (k_su (k_su (k_su (k_su (k_su S 0 (fun _ => 1)) 32 (fun _ => S 4 0)) 33 (fun _ => S 5 0)) 34 (fun _ => S 6 0)) 35 (fun _ => S 7 0)) 36 (fun _ => S 8 0)) 37 (fun _ => S 9 0)) 38 (fun _ => S 10 0)) 39 (fun _ => S 11 0)) 40 (fun _ => S 12 0)) 41 (fun _ => S 13 0)) 42 (fun _ => S 14 0)) 43 (fun _ => S 15 0)) 44 (k_cpy 12 (S 16) (S 44))) 45 (k_cpy 12 (S 17) (S 45))) 46 (fun _ => S 18 0)) 47 (fun _ => S 19 0)) 48 (k_cpy 6 (S 20) (S 48))) 49 (k_cpy 6 (S 21) (S 49))) 50 (k_cpy 6 (S 22) (S 50))) 51 (fun _ => S 23 0)) 52 (k_cpy 12 (S 24) (S 52))) 53 (k_cpy 12 (S 25) (S 53))) 54 (k_cpy 12 (S 26) (S 54))) 55 (k_cpy 12 (S 27) (S 55))) 56 (k_cpy 12 (S 28) (S 56))) 57 (k_cpy 12 (S 29) (S 57))) 58 (k_cpy 12 (S 30) (S 58))) 59 (k_cpy 12 (S 31) (S 59))), L) := by
      unfold pX_keep
      rw [if_pos (by rw [hc, e])]
      unfold p_X8_keep_0
      rw [x_copy hbo2 hwe2]; rfl
    exact ⟨_, _, _, _, eX, eM, ⟨rfl, ⟨by show (0 : Int) ≤ (1 : Int32).toInt; decide, by show (1 : Int32).toInt ≤ 3; decide⟩⟩, ht, hrn, hru, hs, fun _ => R_ship_copy hs (fun k hk => (fb_put_in (f := M 11) (g := M 9) (a := 0) (n := 169) (k := k) (by omega) (by omega)).trans (congrArg (M 9) (by omega))) q_cpy q_cpy q_cpy q_cpy q_cpy q_cpy q_cpy q_cpy q_cpy q_cpy q_cpy q_cpy q_cpy, fun hh => absurd hh (by show ¬ ((1 : Int) < (1 : Int32).toInt); decide), fun hh => absurd hh (by show ¬ ((2 : Int) < (1 : Int32).toInt); decide), hp⟩
  · have eM : pM_keep M = some (2, k_su (k_su (k_su M 0 (fun _ => 0)) 1 (fun _ => 2)) 11 (fb_put (M 11) (M 9) (169 * 1) 169)) := by
      unfold pM_keep p_X9_keep
      have hl : k_lp (fun s : Int32 × (Nat → Int32) => lb_X9_keep_18 1 (M 9) s.1 s.2) k_fuel (0, M 11) = some (fb_put (M 11) (M 9) (169 * 1) 169) := y_keep (M 9) (M 11) (j := 1) (by omega)
      rw [e, if_neg (by decide), hl, q_b1]; rfl
    have eX : pX_keep S L = some (2, (k_su (k_su (k_su (k_su (k_su (k_su (k_su (k_su (k_su (k_su (k_su (k_su (k_su (k_su (k_su (k_su (k_su (k_su (k_su (k_su (k_su (k_su (k_su (k_su (k_su (k_su (k_su (k_su (k_su S 0 (fun _ => 2)) 60 (fun _ => S 4 0)) 61 (fun _ => S 5 0)) 62 (fun _ => S 6 0)) 63 (fun _ => S 7 0)) 64 (fun _ => S 8 0)) 65 (fun _ => S 9 0)) 66 (fun _ => S 10 0)) 67 (fun _ => S 11 0)) 68 (fun _ => S 12 0)) 69 (fun _ => S 13 0)) 70 (fun _ => S 14 0)) 71 (fun _ => S 15 0)) 72 (k_cpy 12 (S 16) (S 72))) 73 (k_cpy 12 (S 17) (S 73))) 74 (fun _ => S 18 0)) 75 (fun _ => S 19 0)) 76 (k_cpy 6 (S 20) (S 76))) 77 (k_cpy 6 (S 21) (S 77))) 78 (k_cpy 6 (S 22) (S 78))) 79 (fun _ => S 23 0)) 80 (k_cpy 12 (S 24) (S 80))) 81 (k_cpy 12 (S 25) (S 81))) 82 (k_cpy 12 (S 26) (S 82))) 83 (k_cpy 12 (S 27) (S 83))) 84 (k_cpy 12 (S 28) (S 84))) 85 (k_cpy 12 (S 29) (S 85))) 86 (k_cpy 12 (S 30) (S 86))) 87 (k_cpy 12 (S 31) (S 87))), L) := by
      unfold pX_keep
      rw [if_neg (by rw [hc, e]; decide)]
      rw [if_pos (by rw [hc, e])]
      unfold p_X8_keep_1
      rw [x_copy hbo2 hwe2]; rfl
    exact ⟨_, _, _, _, eX, eM, ⟨rfl, ⟨by show (0 : Int) ≤ (2 : Int32).toInt; decide, by show (2 : Int32).toInt ≤ 3; decide⟩⟩, ht, hrn, hru, hs, fun _ => R_ship_copy (hk0 (by rw [e]; decide)) (fun k hk => fb_put_out (f := M 11) (by omega)) (fun _ _ => rfl) (fun _ _ => rfl) (fun _ _ => rfl) (fun _ _ => rfl) (fun _ _ => rfl) (fun _ _ => rfl) (fun _ _ => rfl) (fun _ _ => rfl) (fun _ _ => rfl) (fun _ _ => rfl) (fun _ _ => rfl) (fun _ _ => rfl) (fun _ _ => rfl), fun _ => R_ship_copy hs (fun k hk => (fb_put_in (f := M 11) (g := M 9) (a := 169) (n := 169) (k := 169 + k) (by omega) (by omega)).trans (congrArg (M 9) (by omega))) q_cpy q_cpy q_cpy q_cpy q_cpy q_cpy q_cpy q_cpy q_cpy q_cpy q_cpy q_cpy q_cpy, fun hh => absurd hh (by show ¬ ((2 : Int) < (2 : Int32).toInt); decide), hp⟩
  · have eM : pM_keep M = some (3, k_su (k_su (k_su M 0 (fun _ => 0)) 1 (fun _ => 3)) 11 (fb_put (M 11) (M 9) (169 * 2) 169)) := by
      unfold pM_keep p_X9_keep
      have hl : k_lp (fun s : Int32 × (Nat → Int32) => lb_X9_keep_18 2 (M 9) s.1 s.2) k_fuel (0, M 11) = some (fb_put (M 11) (M 9) (169 * 2) 169) := y_keep (M 9) (M 11) (j := 2) (by omega)
      rw [e, if_neg (by decide), hl, q_b1]; rfl
    have eX : pX_keep S L = some (3, (k_su (k_su (k_su (k_su (k_su (k_su (k_su (k_su (k_su (k_su (k_su (k_su (k_su (k_su (k_su (k_su (k_su (k_su (k_su (k_su (k_su (k_su (k_su (k_su (k_su (k_su (k_su (k_su (k_su S 0 (fun _ => 3)) 88 (fun _ => S 4 0)) 89 (fun _ => S 5 0)) 90 (fun _ => S 6 0)) 91 (fun _ => S 7 0)) 92 (fun _ => S 8 0)) 93 (fun _ => S 9 0)) 94 (fun _ => S 10 0)) 95 (fun _ => S 11 0)) 96 (fun _ => S 12 0)) 97 (fun _ => S 13 0)) 98 (fun _ => S 14 0)) 99 (fun _ => S 15 0)) 100 (k_cpy 12 (S 16) (S 100))) 101 (k_cpy 12 (S 17) (S 101))) 102 (fun _ => S 18 0)) 103 (fun _ => S 19 0)) 104 (k_cpy 6 (S 20) (S 104))) 105 (k_cpy 6 (S 21) (S 105))) 106 (k_cpy 6 (S 22) (S 106))) 107 (fun _ => S 23 0)) 108 (k_cpy 12 (S 24) (S 108))) 109 (k_cpy 12 (S 25) (S 109))) 110 (k_cpy 12 (S 26) (S 110))) 111 (k_cpy 12 (S 27) (S 111))) 112 (k_cpy 12 (S 28) (S 112))) 113 (k_cpy 12 (S 29) (S 113))) 114 (k_cpy 12 (S 30) (S 114))) 115 (k_cpy 12 (S 31) (S 115))), L) := by
      unfold pX_keep
      rw [if_neg (by rw [hc, e]; decide)]
      rw [if_neg (by rw [hc, e]; decide)]
      rw [if_pos (by rw [hc, e])]
      unfold p_X8_keep_2
      rw [x_copy hbo2 hwe2]; rfl
    exact ⟨_, _, _, _, eX, eM, ⟨rfl, ⟨by show (0 : Int) ≤ (3 : Int32).toInt; decide, by show (3 : Int32).toInt ≤ 3; decide⟩⟩, ht, hrn, hru, hs, fun _ => R_ship_copy (hk0 (by rw [e]; decide)) (fun k hk => fb_put_out (f := M 11) (by omega)) (fun _ _ => rfl) (fun _ _ => rfl) (fun _ _ => rfl) (fun _ _ => rfl) (fun _ _ => rfl) (fun _ _ => rfl) (fun _ _ => rfl) (fun _ _ => rfl) (fun _ _ => rfl) (fun _ _ => rfl) (fun _ _ => rfl) (fun _ _ => rfl) (fun _ _ => rfl), fun _ => R_ship_copy (hk1 (by rw [e]; decide)) (fun k hk => fb_put_out (f := M 11) (by omega)) (fun _ _ => rfl) (fun _ _ => rfl) (fun _ _ => rfl) (fun _ _ => rfl) (fun _ _ => rfl) (fun _ _ => rfl) (fun _ _ => rfl) (fun _ _ => rfl) (fun _ _ => rfl) (fun _ _ => rfl) (fun _ _ => rfl) (fun _ _ => rfl) (fun _ _ => rfl), fun _ => R_ship_copy hs (fun k hk => (fb_put_in (f := M 11) (g := M 9) (a := 338) (n := 169) (k := 338 + k) (by omega) (by omega)).trans (congrArg (M 9) (by omega))) q_cpy q_cpy q_cpy q_cpy q_cpy q_cpy q_cpy q_cpy q_cpy q_cpy q_cpy q_cpy q_cpy, hp⟩
  · have eM : pM_keep M = some (-3, k_su (k_su (k_su M 0 (fun _ => 0)) 1 (fun _ => M 1 0)) 11 (M 11)) := by
      unfold pM_keep p_X9_keep
      rw [if_pos e]; rfl
    have eX : pX_keep S L = some (-3, k_su S 0 (fun _ => 3), L) := by
      unfold pX_keep
      rw [if_neg (by rw [hc, e]; decide), if_neg (by rw [hc, e]; decide), if_neg (by rw [hc, e]; decide), if_pos (by rw [hc, e])]; rfl
    exact ⟨_, _, _, _, eX, eM, ⟨e.symm, hc2⟩, ht, hrn, hru, hs, hk0, hk1, hk2, hp⟩
theorem sim_back : k_Sim_back R_all := by
  intro S L M hR
  obtain ⟨⟨hc, hc2⟩, ht, hrn, hru, hs, hk0, hk1, hk2, hp⟩ := hR
  rcases q_k3 hc2 with e | e | e | e
  · have eM : pM_back M = some (-2, k_su (k_su (k_su M 0 (fun _ => 0)) 1 (fun _ => M 1 0)) 9 (M 9)) := by
      unfold pM_back p_X9_back
      rw [if_pos e]; rfl
    have eX : pX_back S L = some (-2, k_su S 0 (fun _ => 0), L) := by
      unfold pX_back
      rw [if_pos (by rw [hc, e])]; rfl
    exact ⟨_, _, _, _, eX, eM, ⟨e.symm, hc2⟩, ht, hrn, hru, hs, hk0, hk1, hk2, hp⟩
  · have hk := hk0 (by rw [e]; decide)
    have hbo : S 36 0 = 0 ∨ S 36 0 = 1 := by rw [show S 36 0 = M 11 (3) from hk.1.2.2.2.2.1]; exact q_01 (rg_bo hk.2.2.2.2.1)
    have hwe : S 37 0 = 0 ∨ S 37 0 = 1 := by rw [show S 37 0 = M 11 (4) from hk.1.2.2.2.2.2.1]; exact q_01 (rg_we hk.2.2.2.2.1)
    have eM : pM_back M = some (0, k_su (k_su (k_su M 0 (fun _ => 0)) 1 (fun _ => 0)) 9 (fb_put (M 9) (fun i => M 11 (169 * 0 + i)) 0 169)) := by
      unfold pM_back p_X9_back
      have hl : k_lp (fun s : Int32 × (Nat → Int32) => lb_X9_back_27 1 (M 11) s.1 s.2) k_fuel (0, M 9) = some (fb_put (M 9) (fun i => M 11 (169 * 0 + i)) 0 169) := y_back (M 9) (M 11) (j := 0) (by omega)
      rw [e, if_neg (by decide), hl, q_b1]; rfl
    have eX : pX_back S L = some (0, (k_su (k_su (k_su (k_su (k_su (k_su (k_su (k_su (k_su (k_su (k_su (k_su (k_su (k_su (k_su (k_su (k_su (k_su (k_su (k_su (k_su (k_su (k_su (k_su (k_su (k_su (k_su (k_su (k_su S 0 (fun _ => 0)) 4 (fun _ => S 32 0)) 5 (fun _ => S 33 0)) 6 (fun _ => S 34 0)) 7 (fun _ => S 35 0)) 8 (fun _ => S 36 0)) 9 (fun _ => S 37 0)) 10 (fun _ => S 38 0)) 11 (fun _ => S 39 0)) 12 (fun _ => S 40 0)) 13 (fun _ => S 41 0)) 14 (fun _ => S 42 0)) 15 (fun _ => S 43 0)) 16 (k_cpy 12 (S 44) (S 16))) 17 (k_cpy 12 (S 45) (S 17))) 18 (fun _ => S 46 0)) 19 (fun _ => S 47 0)) 20 (k_cpy 6 (S 48) (S 20))) 21 (k_cpy 6 (S 49) (S 21))) 22 (k_cpy 6 (S 50) (S 22))) 23 (fun _ => S 51 0)) 24 (k_cpy 12 (S 52) (S 24))) 25 (k_cpy 12 (S 53) (S 25))) 26 (k_cpy 12 (S 54) (S 26))) 27 (k_cpy 12 (S 55) (S 27))) 28 (k_cpy 12 (S 56) (S 28))) 29 (k_cpy 12 (S 57) (S 29))) 30 (k_cpy 12 (S 58) (S 30))) 31 (k_cpy 12 (S 59) (S 31))), L) := by
      unfold pX_back
      rw [if_neg (by rw [hc, e]; decide)]
      rw [if_pos (by rw [hc, e])]
      unfold p_X8_back_1
      rw [x_copy hbo hwe]; rfl
    exact ⟨_, _, _, _, eX, eM, ⟨rfl, ⟨by show (0 : Int) ≤ (0 : Int32).toInt; decide, by show (0 : Int32).toInt ≤ 3; decide⟩⟩, ht, hrn, hru, R_ship_copy hk (fun k hk => (fb_put_in (f := M 9) (g := fun i => M 11 (169 * 0 + i)) (a := 0) (n := 169) (k := k) (by omega) (by omega)).trans (congrArg (M 11) (by omega))) q_cpy q_cpy q_cpy q_cpy q_cpy q_cpy q_cpy q_cpy q_cpy q_cpy q_cpy q_cpy q_cpy, fun hh => absurd hh (by show ¬ ((0 : Int) < (0 : Int32).toInt); decide), fun hh => absurd hh (by show ¬ ((1 : Int) < (0 : Int32).toInt); decide), fun hh => absurd hh (by show ¬ ((2 : Int) < (0 : Int32).toInt); decide), hp⟩
  · have hk := hk1 (by rw [e]; decide)
    have hbo : S 64 0 = 0 ∨ S 64 0 = 1 := by rw [show S 64 0 = M 11 (169 + 3) from hk.1.2.2.2.2.1]; exact q_01 (rg_bo hk.2.2.2.2.1)
    have hwe : S 65 0 = 0 ∨ S 65 0 = 1 := by rw [show S 65 0 = M 11 (169 + 4) from hk.1.2.2.2.2.2.1]; exact q_01 (rg_we hk.2.2.2.2.1)
    have eM : pM_back M = some (1, k_su (k_su (k_su M 0 (fun _ => 0)) 1 (fun _ => 1)) 9 (fb_put (M 9) (fun i => M 11 (169 * 1 + i)) 0 169)) := by
      unfold pM_back p_X9_back
      have hl : k_lp (fun s : Int32 × (Nat → Int32) => lb_X9_back_27 2 (M 11) s.1 s.2) k_fuel (0, M 9) = some (fb_put (M 9) (fun i => M 11 (169 * 1 + i)) 0 169) := y_back (M 9) (M 11) (j := 1) (by omega)
      rw [e, if_neg (by decide), hl, q_b1]; rfl
    have eX : pX_back S L = some (1, (k_su (k_su (k_su (k_su (k_su (k_su (k_su (k_su (k_su (k_su (k_su (k_su (k_su (k_su (k_su (k_su (k_su (k_su (k_su (k_su (k_su (k_su (k_su (k_su (k_su (k_su (k_su (k_su (k_su S 0 (fun _ => 1)) 4 (fun _ => S 60 0)) 5 (fun _ => S 61 0)) 6 (fun _ => S 62 0)) 7 (fun _ => S 63 0)) 8 (fun _ => S 64 0)) 9 (fun _ => S 65 0)) 10 (fun _ => S 66 0)) 11 (fun _ => S 67 0)) 12 (fun _ => S 68 0)) 13 (fun _ => S 69 0)) 14 (fun _ => S 70 0)) 15 (fun _ => S 71 0)) 16 (k_cpy 12 (S 72) (S 16))) 17 (k_cpy 12 (S 73) (S 17))) 18 (fun _ => S 74 0)) 19 (fun _ => S 75 0)) 20 (k_cpy 6 (S 76) (S 20))) 21 (k_cpy 6 (S 77) (S 21))) 22 (k_cpy 6 (S 78) (S 22))) 23 (fun _ => S 79 0)) 24 (k_cpy 12 (S 80) (S 24))) 25 (k_cpy 12 (S 81) (S 25))) 26 (k_cpy 12 (S 82) (S 26))) 27 (k_cpy 12 (S 83) (S 27))) 28 (k_cpy 12 (S 84) (S 28))) 29 (k_cpy 12 (S 85) (S 29))) 30 (k_cpy 12 (S 86) (S 30))) 31 (k_cpy 12 (S 87) (S 31))), L) := by
      unfold pX_back
      rw [if_neg (by rw [hc, e]; decide)]
      rw [if_neg (by rw [hc, e]; decide)]
      rw [if_pos (by rw [hc, e])]
      unfold p_X8_back_2
      rw [x_copy hbo hwe]; rfl
    exact ⟨_, _, _, _, eX, eM, ⟨rfl, ⟨by show (0 : Int) ≤ (1 : Int32).toInt; decide, by show (1 : Int32).toInt ≤ 3; decide⟩⟩, ht, hrn, hru, R_ship_copy hk (fun k hk => (fb_put_in (f := M 9) (g := fun i => M 11 (169 * 1 + i)) (a := 0) (n := 169) (k := k) (by omega) (by omega)).trans (congrArg (M 11) (by omega))) q_cpy q_cpy q_cpy q_cpy q_cpy q_cpy q_cpy q_cpy q_cpy q_cpy q_cpy q_cpy q_cpy, fun _ => hk0 (by rw [e]; decide), fun hh => absurd hh (by show ¬ ((1 : Int) < (1 : Int32).toInt); decide), fun hh => absurd hh (by show ¬ ((2 : Int) < (1 : Int32).toInt); decide), hp⟩
  · have hk := hk2 (by rw [e]; decide)
    have hbo : S 92 0 = 0 ∨ S 92 0 = 1 := by rw [show S 92 0 = M 11 (338 + 3) from hk.1.2.2.2.2.1]; exact q_01 (rg_bo hk.2.2.2.2.1)
    have hwe : S 93 0 = 0 ∨ S 93 0 = 1 := by rw [show S 93 0 = M 11 (338 + 4) from hk.1.2.2.2.2.2.1]; exact q_01 (rg_we hk.2.2.2.2.1)
    have eM : pM_back M = some (2, k_su (k_su (k_su M 0 (fun _ => 0)) 1 (fun _ => 2)) 9 (fb_put (M 9) (fun i => M 11 (169 * 2 + i)) 0 169)) := by
      unfold pM_back p_X9_back
      have hl : k_lp (fun s : Int32 × (Nat → Int32) => lb_X9_back_27 3 (M 11) s.1 s.2) k_fuel (0, M 9) = some (fb_put (M 9) (fun i => M 11 (169 * 2 + i)) 0 169) := y_back (M 9) (M 11) (j := 2) (by omega)
      rw [e, if_neg (by decide), hl, q_b1]; rfl
    have eX : pX_back S L = some (2, (k_su (k_su (k_su (k_su (k_su (k_su (k_su (k_su (k_su (k_su (k_su (k_su (k_su (k_su (k_su (k_su (k_su (k_su (k_su (k_su (k_su (k_su (k_su (k_su (k_su (k_su (k_su (k_su (k_su S 0 (fun _ => 2)) 4 (fun _ => S 88 0)) 5 (fun _ => S 89 0)) 6 (fun _ => S 90 0)) 7 (fun _ => S 91 0)) 8 (fun _ => S 92 0)) 9 (fun _ => S 93 0)) 10 (fun _ => S 94 0)) 11 (fun _ => S 95 0)) 12 (fun _ => S 96 0)) 13 (fun _ => S 97 0)) 14 (fun _ => S 98 0)) 15 (fun _ => S 99 0)) 16 (k_cpy 12 (S 100) (S 16))) 17 (k_cpy 12 (S 101) (S 17))) 18 (fun _ => S 102 0)) 19 (fun _ => S 103 0)) 20 (k_cpy 6 (S 104) (S 20))) 21 (k_cpy 6 (S 105) (S 21))) 22 (k_cpy 6 (S 106) (S 22))) 23 (fun _ => S 107 0)) 24 (k_cpy 12 (S 108) (S 24))) 25 (k_cpy 12 (S 109) (S 25))) 26 (k_cpy 12 (S 110) (S 26))) 27 (k_cpy 12 (S 111) (S 27))) 28 (k_cpy 12 (S 112) (S 28))) 29 (k_cpy 12 (S 113) (S 29))) 30 (k_cpy 12 (S 114) (S 30))) 31 (k_cpy 12 (S 115) (S 31))), L) := by
      unfold pX_back
      rw [if_neg (by rw [hc, e]; decide)]
      rw [if_neg (by rw [hc, e]; decide)]
      rw [if_neg (by rw [hc, e]; decide)]
      rw [if_pos (by rw [hc, e])]
      unfold p_X8_back_3
      rw [x_copy hbo hwe]; rfl
    exact ⟨_, _, _, _, eX, eM, ⟨rfl, ⟨by show (0 : Int) ≤ (2 : Int32).toInt; decide, by show (2 : Int32).toInt ≤ 3; decide⟩⟩, ht, hrn, hru, R_ship_copy hk (fun k hk => (fb_put_in (f := M 9) (g := fun i => M 11 (169 * 2 + i)) (a := 0) (n := 169) (k := k) (by omega) (by omega)).trans (congrArg (M 11) (by omega))) q_cpy q_cpy q_cpy q_cpy q_cpy q_cpy q_cpy q_cpy q_cpy q_cpy q_cpy q_cpy q_cpy, fun _ => hk0 (by rw [e]; decide), fun _ => hk1 (by rw [e]; decide), fun hh => absurd hh (by show ¬ ((2 : Int) < (2 : Int32).toInt); decide), hp⟩
