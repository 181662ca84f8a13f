def k_S0 (w0 : Nat → Int32) (w1 : Nat → Int32) (w2 : Nat → Int32) : Nat → Nat → Int32 := fun k => bif Nat.beq k 1 then w0 else bif Nat.beq k 3 then w1 else bif Nat.beq k 7 then (fun _ => k_r0 4) else bif Nat.beq k 35 then (fun _ => k_r0 4) else bif Nat.beq k 63 then (fun _ => k_r0 4) else bif Nat.beq k 91 then (fun _ => k_r0 4) else bif Nat.beq k 131 then (fun _ => k_r0 4) else bif Nat.beq k 156 then w2 else fun _ => 0
def k_M0 (w0 : Nat → Int32) : Nat → Nat → Int32 := fun k => bif Nat.beq k 9 then (upd (fun _ => 0) 5 100) else bif Nat.beq k 12 then w0 else bif Nat.beq k 14 then (upd (upd (upd (upd (upd (upd (upd (upd (fun _ => 0) 0 10) 1 400) 2 0) 3 10) 4 100) 5 200) 6 200) 7 200) else bif Nat.beq k 18 then (upd (upd (upd (upd (upd (upd (upd (upd (upd (upd (upd (upd (upd (upd (upd (upd (upd (upd (upd (upd (upd (upd (upd (upd (upd (upd (upd (upd (upd (upd (fun _ => 0) 0 (-1)) 1 (-1)) 2 (-1)) 3 (-1)) 4 (-1)) 5 (-1)) 6 (-1)) 7 (-1)) 8 (-1)) 9 (-1)) 10 (-1)) 11 (-1)) 12 (-1)) 13 (-1)) 14 (-1)) 15 (-1)) 16 (-1)) 17 (-1)) 18 (-1)) 19 (-1)) 20 (-1)) 21 (-1)) 22 (-1)) 23 (-1)) 24 (-1)) 25 (-1)) 26 (-1)) 27 (-1)) 28 (-1)) 29 (-1)) else fun _ => 0
def k_L0 : Nat → Nat → Int64 := fun _ _ => 0
set_option maxRecDepth 20000 in
theorem ln_X0 : ∀ w ∈ u_ws RX0 TX0 4, w ∈ lw_tbl := fun w h => (goodIn_r (u_ws RX0 TX0 4) [301, 303, 305, 307] (by decide +kernel) (by decide +kernel) w h).1
set_option maxRecDepth 20000 in
theorem ln_X1 : ∀ w ∈ u_ws RX1 TX1 1, w ∈ lw_tbl := fun w h => (goodIn_r (u_ws RX1 TX1 1) [318] (by decide +kernel) (by decide +kernel) w h).1
set_option maxRecDepth 20000 in
theorem ln_X2 : ∀ w ∈ u_ws RX2 TX2 11, w ∈ lw_tbl := fun w h => (goodIn_r (u_ws RX2 TX2 11) [264, 266, 268, 270, 272, 274, 276, 278, 280, 282, 284] (by decide +kernel) (by decide +kernel) w h).1
set_option maxRecDepth 20000 in
theorem ln_X3 : ∀ w ∈ u_ws RX3 TX3 9, w ∈ lw_tbl := fun w h => (goodIn_r (u_ws RX3 TX3 9) [159, 161, 163, 165, 167, 169, 171, 173, 175] (by decide +kernel) (by decide +kernel) w h).1
set_option maxRecDepth 20000 in
theorem ln_X4 : ∀ w ∈ u_ws RX4 TX4 14, w ∈ lw_tbl := fun w h => (goodIn_r (u_ws RX4 TX4 14) [215, 217, 219, 221, 223, 225, 227, 229, 231, 233, 235, 237, 239, 241] (by decide +kernel) (by decide +kernel) w h).1
set_option maxRecDepth 20000 in
theorem ln_X5 : ∀ w ∈ u_ws RX5 TX5 3, w ∈ lw_tbl := fun w h => (goodIn_r (u_ws RX5 TX5 3) [70, 72, 74] (by decide +kernel) (by decide +kernel) w h).1
set_option maxRecDepth 20000 in
theorem ln_X6 : ∀ w ∈ u_ws RX6 TX6 5, w ∈ lw_tbl := fun w h => (goodIn_r (u_ws RX6 TX6 5) [122, 124, 126, 128, 130] (by decide +kernel) (by decide +kernel) w h).1
set_option maxRecDepth 20000 in
theorem ln_X7 : ∀ w ∈ u_ws RX7 TX7 4, w ∈ lw_tbl := fun w h => (goodIn_r (u_ws RX7 TX7 4) [99, 101, 103, 105] (by decide +kernel) (by decide +kernel) w h).1
set_option maxRecDepth 20000 in
theorem ln_X8 : ∀ w ∈ u_ws RX8 TX8 7, w ∈ lw_tbl := fun w h => (goodIn_r (u_ws RX8 TX8 7) [328, 330, 332, 334, 336, 338, 340] (by decide +kernel) (by decide +kernel) w h).1
set_option maxRecDepth 20000 in
theorem ln_X9 : ∀ w ∈ u_ws RX9 TX9 19, w ∈ lw_tbl := fun w h => (goodIn_r (u_ws RX9 TX9 19) [771, 773, 775, 777, 779, 781, 783, 785, 787, 789, 791, 793, 795, 797, 799, 801, 803, 805, 807] (by decide +kernel) (by decide +kernel) w h).1
set_option maxHeartbeats 8000000 in
set_option maxRecDepth 100000 in
/-- THE LAW, from its entry, open in the relation -/
theorem whole_open {p : Program} {e : Env} {s : State} {m : MethodId} {below : List Frame} {meth : Method} {c : Code} (l : Launch) {b L0 : Nat} {xs : Nat → Int32} (hL0 : L0 ≤ 3584) (C0 : lw_At p s m meth c b L0 xs) {Rel : (Nat → Nat → Int32) → (Nat → Nat → Int64) → (Nat → Nat → Int32) → Prop} (hs_tide : k_Sim_tide Rel) (hs_tides : k_Sim_tides Rel) (hs_rain : k_Sim_rain Rel) (hs_rule : k_Sim_rule Rel) (hs_thing : k_Sim_thing Rel) (hs_tackle : k_Sim_tackle Rel) (hs_seam : k_Sim_seam Rel) (hs_ship : k_Sim_ship Rel) (hs_tackleTold : k_Sim_tackleTold Rel) (hs_greatest : k_Sim_greatest Rel) (hs_seamTold : k_Sim_seamTold Rel) (hs_move : k_Sim_move Rel) (hs_heel : k_Sim_heel Rel) (hs_hour : k_Sim_hour Rel) (hs_rig : k_Sim_rig Rel) (hs_plan : k_Sim_plan Rel) (hs_orders : k_Sim_orders Rel) (hs_toFloat : k_Sim_toFloat Rel) (hs_tap : k_Sim_tap Rel) (hs_worm : k_Sim_worm Rel) (hs_book : k_Sim_book Rel) (hs_keep : k_Sim_keep Rel) (hs_back : k_Sim_back Rel) (hs_count : k_Sim_count Rel) (w0 : Nat → Int32) (w1 : Nat → Int32) (w2 : Nat → Int32) (m0 : Nat → Int32) (hX8 : p_X8_init = some (w0, w1, w2)) (hX9 : p_X9_init = some m0) (h0 : Rel (k_S0 w0 w1 w2) k_L0 (k_M0 m0)) : W p l e room_1 s m #[Value.ref b] below meth c s.heap [] 0 0 (lw_Z below #[Value.ref b] s) (entryFrame m ([Value.ref b] : List Value).toArray 4) := by
  obtain ⟨hx, hb, hr, hml, hown, hts, hX, hbl, hlocks, hgv⟩ := id C0
  replace hown : s.vm.findClass RL = some m.cls := hown
  have hA : ∀ q : Nat, s.heap.size ≤ q → (fun q : Nat => s.heap.size ≤ q) q := fun _ h => h
  have hbA : ¬ s.heap.size ≤ b := Nat.not_le.mpr hbl
  have hA' : ∀ a : Nat, a < s.heap.size → ¬ (fun q : Nat => s.heap.size ≤ q) a := fun a h1 h2 => Nat.not_le.mpr h1 h2
  obtain ⟨d0, i0, hKn0⟩ := u_known (C := RX0) (T := TX0) (N := 4) (n := 4) hts ln_X0 (hts (.instantiable RX0 4) (List.mem_of_getElem? (i := 289) (by decide +kernel)))
  obtain ⟨d1, i1, hKn1⟩ := u_known (C := RX1) (T := TX1) (N := 1) (n := 1) hts ln_X1 (hts (.instantiable RX1 1) (List.mem_of_getElem? (i := 311) (by decide +kernel)))
  obtain ⟨d2, i2, hKn2⟩ := u_known (C := RX2) (T := TX2) (N := 11) (n := 11) hts ln_X2 (hts (.instantiable RX2 11) (List.mem_of_getElem? (i := 246) (by decide +kernel)))
  obtain ⟨d3, i3, hKn3⟩ := u_known (C := RX3) (T := TX3) (N := 9) (n := 9) hts ln_X3 (hts (.instantiable RX3 9) (List.mem_of_getElem? (i := 134) (by decide +kernel)))
  obtain ⟨d4, i4, hKn4⟩ := u_known (C := RX4) (T := TX4) (N := 14) (n := 14) hts ln_X4 (hts (.instantiable RX4 14) (List.mem_of_getElem? (i := 80) (by decide +kernel)))
  obtain ⟨d5, i5, hKn5⟩ := u_known (C := RX5) (T := TX5) (N := 3) (n := 3) hts ln_X5 (hts (.instantiable RX5 3) (List.mem_of_getElem? (i := 54) (by decide +kernel)))
  obtain ⟨d6, i6, hKn6⟩ := u_known (C := RX6) (T := TX6) (N := 5) (n := 5) hts ln_X6 (hts (.instantiable RX6 5) (List.mem_of_getElem? (i := 109) (by decide +kernel)))
  obtain ⟨d7, i7, hKn7⟩ := u_known (C := RX7) (T := TX7) (N := 4) (n := 4) hts ln_X7 (hts (.instantiable RX7 4) (List.mem_of_getElem? (i := 86) (by decide +kernel)))
  obtain ⟨d8, i8, hKn8⟩ := u_known (C := RX8) (T := TX8) (N := 7) (n := 7) hts ln_X8 (hts (.instantiable RX8 7) (List.mem_of_getElem? (i := 46) (by decide +kernel)))
  obtain ⟨d9, i9, hKn9⟩ := u_known (C := RX9) (T := TX9) (N := 19) (n := 19) hts ln_X9 (hts (.instantiable RX9 19) (List.mem_of_getElem? (i := 747) (by decide +kernel)))
  obtain ⟨dC, dI, hKc⟩ : ∃ (dC : Nat → ClassId) (dI : Nat → Nat → Nat), ∀ (k : Nat) (q : vw_C), vwCl[k]? = some q → u_Kn s q.1 q.2.1 q.2.2 (dC k) (dI k) := by
    refine ⟨fun k => match k with | 0 => d0 | 1 => d1 | 2 => d2 | 3 => d3 | 4 => d4 | 5 => d5 | 6 => d6 | 7 => d7 | 8 => d8 | _ => d9, fun k => match k with | 0 => i0 | 1 => i1 | 2 => i2 | 3 => i3 | 4 => i4 | 5 => i5 | 6 => i6 | 7 => i7 | 8 => i8 | _ => i9, ?_⟩
    intro k q hq
    match k, hq with
    | 0, hq => cases hq; exact hKn0
    | 1, hq => cases hq; exact hKn1
    | 2, hq => cases hq; exact hKn2
    | 3, hq => cases hq; exact hKn3
    | 4, hq => cases hq; exact hKn4
    | 5, hq => cases hq; exact hKn5
    | 6, hq => cases hq; exact hKn6
    | 7, hq => cases hq; exact hKn7
    | 8, hq => cases hq; exact hKn8
    | 9, hq => cases hq; exact hKn9
    | k + 10, hq => simp [vwCl] at hq
  obtain ⟨cI, hcI⟩ := k_cls (ty := .int) (by intro C h; cases h) (hts (.arrayClass .int) (List.mem_of_getElem? (i := 77) (by decide +kernel)))
  obtain ⟨cZ, hcZ⟩ := k_cls (ty := .boolean) (by intro C h; cases h) (hts (.arrayClass .boolean) (List.mem_of_getElem? (i := 78) (by decide +kernel)))
  obtain ⟨cJ, hcJ⟩ := k_cls (ty := .long) (by intro C h; cases h) (hts (.arrayClass .long) (List.mem_of_getElem? (i := 287) (by decide +kernel)))
  obtain ⟨cS, hcS⟩ := k_clsO (C := RX4) (hts (.arrayOver (.object RX4)) (List.mem_of_getElem? (i := 244) (by decide +kernel)))
  have hK : va_K (dC, dI) vwCl (k_tys cI cZ cJ cS) s := by
    refine ⟨hKc, fun k q hq => ?_⟩
    match k, hq with
    | 0, hq => cases hq; exact hcI
    | 1, hq => cases hq; exact hcZ
    | 2, hq => cases hq; exact hcJ
    | 3, hq => cases hq; exact hcS
    | k + 4, hq => simp [k_tys] at hq
  have hN : k_Nest s := by
    intro q hq
    simp only [k_nl, List.mem_cons, List.not_mem_nil, or_false] at hq
    rcases hq with rfl | rfl | rfl | rfl | rfl | rfl | rfl | rfl | rfl | rfl
    · exact va_Nw.of rfl (hts (.methodLinkNest RX4 11 yX7_init RX8) (List.mem_of_getElem? (i := 87) (by decide +kernel)))
    · exact va_Nw.of rfl (hts (.methodLinkNest RX4 20 yX6_init RX8) (List.mem_of_getElem? (i := 110) (by decide +kernel)))
    · exact va_Nw.of rfl (hts (.methodLinkNest RX4 27 yX3_init RX8) (List.mem_of_getElem? (i := 135) (by decide +kernel)))
    · exact va_Nw.of rfl (hts (.methodLinkNest RX8 31 yX2_init RX8) (List.mem_of_getElem? (i := 247) (by decide +kernel)))
    · exact va_Nw.of rfl (hts (.methodLinkNest RX7 22 yX8_hasBit RX8) (List.mem_of_getElem? (i := 414) (by decide +kernel)))
    · exact va_Nw.of rfl (hts (.methodLinkNest RX5 34 yX8_draught RX8) (List.mem_of_getElem? (i := 444) (by decide +kernel)))
    · exact va_Nw.of rfl (hts (.methodLinkNest RX6 34 yX8_roundedUp RX8) (List.mem_of_getElem? (i := 472) (by decide +kernel)))
    · exact va_Nw.of rfl (hts (.methodLinkNest RX6 57 yX8_hasBit RX8) (List.mem_of_getElem? (i := 487) (by decide +kernel)))
    · exact va_Nw.of rfl (hts (.methodLinkNest RX4 130 yX8_hasBit RX8) (List.mem_of_getElem? (i := 565) (by decide +kernel)))
    · exact va_Nw.of rfl (hts (.methodLinkNest RX2 100 yX8_hasBit RX8) (List.mem_of_getElem? (i := 618) (by decide +kernel)))
  have hsf := flat_of_before _ hgv
  have st0 : k_St "RULE_AT_FIRST" k_r0 (fun q : Nat => s.heap.size ≤ q) s s.heap := by
    obtain ⟨t, e1, e2⟩ := va_Tof (tm := (.static "BeachedShip" "RULE_AT_FIRST" "[I")) (ty := .int) (N := 8) (f := fun j => .int (k_r0 j)) (by decide) (hsf (.arrayOf (.static "BeachedShip" "RULE_AT_FIRST" "[I") .int) (by decide +kernel)) (va_eqt (hsf (.eq (.length (.static "BeachedShip" "RULE_AT_FIRST" "[I")) (.int 8)) (by decide +kernel))) (fun j hj => by
      match j, hj with
      | 0, _ => exact va_eqt (hsf (.eq (.elem (.static "BeachedShip" "RULE_AT_FIRST" "[I") (.int 0)) (.int 10)) (by decide +kernel))
      | 1, _ => exact va_eqt (hsf (.eq (.elem (.static "BeachedShip" "RULE_AT_FIRST" "[I") (.int 1)) (.int 400)) (by decide +kernel))
      | 2, _ => exact va_eqt (hsf (.eq (.elem (.static "BeachedShip" "RULE_AT_FIRST" "[I") (.int 2)) (.int 0)) (by decide +kernel))
      | 3, _ => exact va_eqt (hsf (.eq (.elem (.static "BeachedShip" "RULE_AT_FIRST" "[I") (.int 3)) (.int 10)) (by decide +kernel))
      | 4, _ => exact va_eqt (hsf (.eq (.elem (.static "BeachedShip" "RULE_AT_FIRST" "[I") (.int 4)) (.int 100)) (by decide +kernel))
      | 5, _ => exact va_eqt (hsf (.eq (.elem (.static "BeachedShip" "RULE_AT_FIRST" "[I") (.int 5)) (.int 200)) (by decide +kernel))
      | 6, _ => exact va_eqt (hsf (.eq (.elem (.static "BeachedShip" "RULE_AT_FIRST" "[I") (.int 6)) (.int 200)) (by decide +kernel))
      | 7, _ => exact va_eqt (hsf (.eq (.elem (.static "BeachedShip" "RULE_AT_FIRST" "[I") (.int 7)) (.int 200)) (by decide +kernel))
      | j + 8, hj => exact absurd hj (by omega)) hA'
    exact ⟨t, va_Zref (hts (.laysStatic RX8 "RULE_AT_FIRST" "[I") (List.mem_of_getElem? (i := 60) (by decide +kernel))) (hts (.initialized RX8) (List.mem_of_getElem? (i := 32) (by decide +kernel))) e1 hA', e2⟩
  have st1 : k_St "RULE_LEAST" k_r1 (fun q : Nat => s.heap.size ≤ q) s s.heap := by
    obtain ⟨t, e1, e2⟩ := va_Tof (tm := (.static "BeachedShip" "RULE_LEAST" "[I")) (ty := .int) (N := 8) (f := fun j => .int (k_r1 j)) (by decide) (hsf (.arrayOf (.static "BeachedShip" "RULE_LEAST" "[I") .int) (by decide +kernel)) (va_eqt (hsf (.eq (.length (.static "BeachedShip" "RULE_LEAST" "[I")) (.int 8)) (by decide +kernel))) (fun j hj => by
      match j, hj with
      | 0, _ => exact va_eqt (hsf (.eq (.elem (.static "BeachedShip" "RULE_LEAST" "[I") (.int 0)) (.int 0)) (by decide +kernel))
      | 1, _ => exact va_eqt (hsf (.eq (.elem (.static "BeachedShip" "RULE_LEAST" "[I") (.int 1)) (.int 100)) (by decide +kernel))
      | 2, _ => exact va_eqt (hsf (.eq (.elem (.static "BeachedShip" "RULE_LEAST" "[I") (.int 2)) (.int 0)) (by decide +kernel))
      | 3, _ => exact va_eqt (hsf (.eq (.elem (.static "BeachedShip" "RULE_LEAST" "[I") (.int 3)) (.int 1)) (by decide +kernel))
      | 4, _ => exact va_eqt (hsf (.eq (.elem (.static "BeachedShip" "RULE_LEAST" "[I") (.int 4)) (.int 0)) (by decide +kernel))
      | 5, _ => exact va_eqt (hsf (.eq (.elem (.static "BeachedShip" "RULE_LEAST" "[I") (.int 5)) (.int 0)) (by decide +kernel))
      | 6, _ => exact va_eqt (hsf (.eq (.elem (.static "BeachedShip" "RULE_LEAST" "[I") (.int 6)) (.int 0)) (by decide +kernel))
      | 7, _ => exact va_eqt (hsf (.eq (.elem (.static "BeachedShip" "RULE_LEAST" "[I") (.int 7)) (.int 0)) (by decide +kernel))
      | j + 8, hj => exact absurd hj (by omega)) hA'
    exact ⟨t, va_Zref (hts (.laysStatic RX8 "RULE_LEAST" "[I") (List.mem_of_getElem? (i := 372) (by decide +kernel))) (hts (.initialized RX8) (List.mem_of_getElem? (i := 32) (by decide +kernel))) e1 hA', e2⟩
  have st2 : k_St "RULE_MOST" k_r2 (fun q : Nat => s.heap.size ≤ q) s s.heap := by
    obtain ⟨t, e1, e2⟩ := va_Tof (tm := (.static "BeachedShip" "RULE_MOST" "[I")) (ty := .int) (N := 8) (f := fun j => .int (k_r2 j)) (by decide) (hsf (.arrayOf (.static "BeachedShip" "RULE_MOST" "[I") .int) (by decide +kernel)) (va_eqt (hsf (.eq (.length (.static "BeachedShip" "RULE_MOST" "[I")) (.int 8)) (by decide +kernel))) (fun j hj => by
      match j, hj with
      | 0, _ => exact va_eqt (hsf (.eq (.elem (.static "BeachedShip" "RULE_MOST" "[I") (.int 0)) (.int 40)) (by decide +kernel))
      | 1, _ => exact va_eqt (hsf (.eq (.elem (.static "BeachedShip" "RULE_MOST" "[I") (.int 1)) (.int 1000)) (by decide +kernel))
      | 2, _ => exact va_eqt (hsf (.eq (.elem (.static "BeachedShip" "RULE_MOST" "[I") (.int 2)) (.int 2000)) (by decide +kernel))
      | 3, _ => exact va_eqt (hsf (.eq (.elem (.static "BeachedShip" "RULE_MOST" "[I") (.int 3)) (.int 20)) (by decide +kernel))
      | 4, _ => exact va_eqt (hsf (.eq (.elem (.static "BeachedShip" "RULE_MOST" "[I") (.int 4)) (.int 1000)) (by decide +kernel))
      | 5, _ => exact va_eqt (hsf (.eq (.elem (.static "BeachedShip" "RULE_MOST" "[I") (.int 5)) (.int 1000)) (by decide +kernel))
      | 6, _ => exact va_eqt (hsf (.eq (.elem (.static "BeachedShip" "RULE_MOST" "[I") (.int 6)) (.int 1000)) (by decide +kernel))
      | 7, _ => exact va_eqt (hsf (.eq (.elem (.static "BeachedShip" "RULE_MOST" "[I") (.int 7)) (.int 1000)) (by decide +kernel))
      | j + 8, hj => exact absurd hj (by omega)) hA'
    exact ⟨t, va_Zref (hts (.laysStatic RX8 "RULE_MOST" "[I") (List.mem_of_getElem? (i := 374) (by decide +kernel))) (hts (.initialized RX8) (List.mem_of_getElem? (i := 32) (by decide +kernel))) e1 hA', e2⟩
  have hZ : k_Z (fun q : Nat => s.heap.size ≤ q) s s.heap := ⟨st0, st1, st2, va_AO.of (hts (.arrayOver (.object RX4)) (List.mem_of_getElem? (i := 244) (by decide +kernel))), va_Nw.of rfl (hts (.fieldLinkNest RX5 19 RX8 "RULE_AT_FIRST" "[I" RX8) (List.mem_of_getElem? (i := 59) (by decide +kernel))), va_Nw.of rfl (hts (.fieldLinkNest RX4 36 RX8 "RULE_AT_FIRST" "[I" RX8) (List.mem_of_getElem? (i := 178) (by decide +kernel)))⟩
  have hS : va_S (fun q : Nat => s.heap.size ≤ q) s.heap s.heap [] := va_S.rf
  have hP : va_P (dC, dI) vwCl [] s.heap := fun k q h => by simp at h
  have hD : va_D (fun q : Nat => s.heap.size ≤ q) [] := ⟨fun i j p q h => by simp at h, fun k q h => by simp at h⟩
  have S0 : CallFix p m c code 4 s #[Value.ref b] lw_tbl RL := ⟨hx, hb, hml, hown, hts⟩
  have hl := lv_entry ([.ref b]) (n := 4) (Nat.le_of_ble_eq_true rfl)
  rw [lg_entry_eq]
  generalize (lg_sl ([.ref b]) ++ List.replicate (4 - (lg_sl ([.ref b])).length) Slot.unset).toArray = ls at hl ⊢
  replace hl : lv_has ls 4 [(0, .ref b)] := hl
  refine k_newG (ci := 8) (fs := [.null, .null, .null, .null, .null, .null, .int 0]) (C := RX8) (T := TX8) (N := 7) hx hb hts ln_X8 tyX8 tyX8_ok hown (hts (.classLink RL 7 RX8) (List.mem_of_getElem? (i := 45) (by decide +kernel))) (hts (.instantiable RX8 7) (List.mem_of_getElem? (i := 46) (by decide +kernel))) (hts (.initialized RX8) (List.mem_of_getElem? (i := 32) (by decide +kernel))) hK hP hD hS hA rfl (fun j hj => by rcases (show j = 0 ∨ j = 1 ∨ j = 2 ∨ j = 3 ∨ j = 4 ∨ j = 5 ∨ j = 6 by omega) with rfl | rfl | rfl | rfl | rfl | rfl | rfl <;> rfl) (Nat.le_of_ble_eq_true rfl) (Nat.le_of_ble_eq_true rfl) rfl rfl dL_law_0 (fun x H hP hD hS => ?_)
  replace hP : va_P (dC, dI) vwCl [(x, .inr (8, [.null, .null, .null, .null, .null, .null, .int 0]))] H := hP
  replace hD : va_D (fun q : Nat => s.heap.size ≤ q) [(x, .inr (8, [.null, .null, .null, .null, .null, .null, .int 0]))] := hD
  refine lv_dup hx hb dL_law_3 rfl ?_
  refine k_CI (As := []) (rest := [.ref x]) S0 (c_X8_init l (dC, dI) cI cZ cJ cS x w0 w1 w2 hX8) (cwI 0 hts lg0_X8_init rfl rfl rfl (hts (.initialized RX8) (List.mem_of_getElem? (i := 32) (by decide +kernel))) (hts (.methodLink RL 9 yX8_init) (List.mem_of_getElem? (i := 47) (by decide +kernel))) (hts (.instanceMethod yX8_init) (List.mem_of_getElem? (i := 48) (by decide +kernel))) rfl hdS_X8_init ⟨(Nat.le_of_ble_eq_true rfl), (Nat.le_of_ble_eq_true rfl)⟩) hK hP hD hS hA hN hZ [0] [] (wr := []) rfl (by decide) rfl (by decide) (by decide) rfl hl.1 rfl (Nat.le_of_ble_eq_true rfl) ⟨(Nat.le_of_ble_eq_true rfl), (Nat.le_of_ble_eq_true rfl)⟩ rfl rfl dL_law_4 (fun u H locs hP hD hS => ?_)
  replace hP : va_P (dC, dI) vwCl (k_wX x u cI cZ cJ cS (k_S0 w0 w1 w2) k_L0) H := hP
  replace hD : va_D (fun q : Nat => s.heap.size ≤ q) (k_wX x u cI cZ cJ cS (k_S0 w0 w1 w2) k_L0) := hD
  refine lv_astore_n (lv' := [(1, .ref x), (0, .ref b)]) hx hb dL_law_7 rfl hl (by decide) rfl (fun ls hl => ?_)
  refine k_newG (ci := 9) (fs := [.int 0, .null, .null, .int 0, .null, .null, .null, .null, .int 0, .null, .null, .null, .int 0, .int 0, .int 0, .int 0, .int 0, .int 0, .null]) (C := RX9) (T := TX9) (N := 19) hx hb hts ln_X9 tyX9 tyX9_ok hown (hts (.classLink RL 10 RX9) (List.mem_of_getElem? (i := 746) (by decide +kernel))) (hts (.instantiable RX9 19) (List.mem_of_getElem? (i := 747) (by decide +kernel))) (hts (.initialized RX9) (List.mem_of_getElem? (i := 41) (by decide +kernel))) hK hP hD hS hA rfl (fun j hj => by rcases (show j = 0 ∨ j = 1 ∨ j = 2 ∨ j = 3 ∨ j = 4 ∨ j = 5 ∨ j = 6 ∨ j = 7 ∨ j = 8 ∨ j = 9 ∨ j = 10 ∨ j = 11 ∨ j = 12 ∨ j = 13 ∨ j = 14 ∨ j = 15 ∨ j = 16 ∨ j = 17 ∨ j = 18 by omega) with rfl | rfl | rfl | rfl | rfl | rfl | rfl | rfl | rfl | rfl | rfl | rfl | rfl | rfl | rfl | rfl | rfl | rfl | rfl <;> rfl) (Nat.le_of_ble_eq_true rfl) (Nat.le_of_ble_eq_true rfl) rfl rfl dL_law_8 (fun y H hP hD hS => ?_)
  refine lv_dup hx hb dL_law_11 rfl ?_
  refine k_CI (wr := k_wX x u cI cZ cJ cS (k_S0 w0 w1 w2) k_L0) (wc := [(y, .inr (9, [.int 0, .null, .null, .int 0, .null, .null, .null, .null, .int 0, .null, .null, .null, .int 0, .int 0, .int 0, .int 0, .int 0, .int 0, .null]))]) (As := []) (rest := [.ref y]) S0 (c_X9_init l (dC, dI) cI cZ cJ cS y m0 hX9) (cwI 0 hts lg0_X9_init rfl rfl rfl (hts (.initialized RX9) (List.mem_of_getElem? (i := 41) (by decide +kernel))) (hts (.methodLink RL 12 yX9_init) (List.mem_of_getElem? (i := 748) (by decide +kernel))) (hts (.instanceMethod yX9_init) (List.mem_of_getElem? (i := 749) (by decide +kernel))) rfl hdS_X9_init ⟨(Nat.le_of_ble_eq_true rfl), (Nat.le_of_ble_eq_true rfl)⟩) hK hP hD hS hA hN hZ [101] [0, 1, 2, 3, 4, 5, 6, 7, 8, 9, 10, 11, 12, 13, 14, 15, 16, 17, 18, 19, 20, 21, 22, 23, 24, 25, 26, 27, 28, 29, 30, 31, 32, 33, 34, 35, 36, 37, 38, 39, 40, 41, 42, 43, 44, 45, 46, 47, 48, 49, 50, 51, 52, 53, 54, 55, 56, 57, 58, 59, 60, 61, 62, 63, 64, 65, 66, 67, 68, 69, 70, 71, 72, 73, 74, 75, 76, 77, 78, 79, 80, 81, 82, 83, 84, 85, 86, 87, 88, 89, 90, 91, 92, 93, 94, 95, 96, 97, 98, 99, 100] rfl (by decide) rfl (by decide) (by decide) rfl hl.1 rfl (Nat.le_of_ble_eq_true rfl) ⟨(Nat.le_of_ble_eq_true rfl), (Nat.le_of_ble_eq_true rfl)⟩ rfl rfl dL_law_12 (fun v H locs hP hD hS => ?_)
  replace hP : va_P (dC, dI) vwCl (k_wX x u cI cZ cJ cS (k_S0 w0 w1 w2) k_L0 ++ k_wM y v cI cZ cJ cS (k_M0 m0)) H := hP
  replace hD : va_D (fun q : Nat => s.heap.size ≤ q) (k_wX x u cI cZ cJ cS (k_S0 w0 w1 w2) k_L0 ++ k_wM y v cI cZ cJ cS (k_M0 m0)) := hD
  refine lv_astore_n (lv' := [(2, .ref y), (1, .ref x), (0, .ref b)]) hx hb dL_law_15 rfl hl (by decide) rfl (fun ls hl => ?_)
  refine lv_iconst (v := 0) hx hb dL_law_16 (by decide) ?_
  refine lv_istore_n (lv' := [(3, .int 0), (2, .ref y), (1, .ref x), (0, .ref b)]) hx hb dL_law_17 rfl hl (by decide) rfl (fun ls hl => ?_)
  exact law_loop hx hb hml hown hts hX hbl hbA hK hN hZ hr hlocks hL0 hs_tide hs_tides hs_rain hs_rule hs_thing hs_tackle hs_seam hs_ship hs_tackleTold hs_greatest hs_seamTold hs_move hs_heel hs_hour hs_rig hs_plan hs_orders hs_toFloat hs_tap hs_worm hs_book hs_keep hs_back hs_count (L0 + 1) 0 (by omega) (by omega) _ _ _ _ _ _ h0 hP hD hS (lv_sub hl [3, 2, 1, 0] rfl)
