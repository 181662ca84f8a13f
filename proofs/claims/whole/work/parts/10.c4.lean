def p_X8_tide (f_sr_tide : Nat → Int32) (a1 : Int32) (a2 : Int32) : Option (Int32 × (Nat → Int32)) :=
  k_b1 (p_X8_within a1 0 95) fun r1 =>
  if r1 = 0 then
    some ((-1), f_sr_tide)
  else
    k_b1 (p_X8_within a2 0 60) fun r3 =>
    if r3 = 0 then
      some ((-1), f_sr_tide)
    else
      k_ix a1 96 (
        k_ix a1 96 (
          some (f_sr_tide a1.toNatClampNeg, upd f_sr_tide a1.toNatClampNeg a2)))
abbrev rm_X8_tide : Room := { frames := 1, cells := 0, slots := 0, locals := 22 }
theorem hdS_X8_tide : yX8_tide.cls ≠ "java/lang/invoke/MethodHandle" ∧ yX8_tide.cls ≠ "java/lang/invoke/VarHandle" ∧ (parseMethodDescriptor yX8_tide.desc).map (fun d => d.parameters.length) = some 2 := by decide +kernel
theorem hdV_X8_tide : yX8_tide.cls = RX8 ∧ yX8_tide.cls ≠ "java/lang/invoke/MethodHandle" ∧ yX8_tide.cls ≠ "java/lang/invoke/VarHandle" ∧ (parseMethodDescriptor yX8_tide.desc).map (fun d => d.parameters.length) = some 2 := by decide +kernel
set_option maxHeartbeats 4000000 in
set_option maxRecDepth 100000 in
theorem c_X8_tide (l : Launch) (D : va_G) (cI cZ cJ cS : ClassId) (h sr h_now h_kept h_planner h_floating h_planks sr_tide sr_rain sr_rules : Nat) (v_h_keptSize : Int32) (f_sr_tide : Nat → Int32) (a1 : Int32) (a2 : Int32) (r : Int32) (f_sr_tide' : Nat → Int32) (hf : p_X8_tide f_sr_tide a1 a2 = some (r, f_sr_tide')) : k_MI l yX8_tide wsX8_tide rm_X8_tide D (k_tys cI cZ cJ cS) [.ref h, .int a1, .int a2] [(h, .inr (8, [.ref sr, .ref h_now, .ref h_kept, .ref h_planner, .ref h_floating, .ref h_planks, .int v_h_keptSize])), (sr, .inr (5, [.ref sr_tide, .ref sr_rain, .ref sr_rules])), (sr_tide, .inl (cI, 96, .inl f_sr_tide))] [(h, .inr (8, [.ref sr, .ref h_now, .ref h_kept, .ref h_planner, .ref h_floating, .ref h_planks, .int v_h_keptSize])), (sr, .inr (5, [.ref sr_tide, .ref sr_rain, .ref sr_rules])), (sr_tide, .inl (cI, 96, .inl f_sr_tide'))] r := by
  refine k_enter (y := yX8_tide) (wl := wsX8_tide) (rm := rm_X8_tide) (av := [.ref h, .int a1, .int a2]) (D := D) (tys := k_tys cI cZ cJ cS) (ws := [(h, .inr (8, [.ref sr, .ref h_now, .ref h_kept, .ref h_planner, .ref h_floating, .ref h_planks, .int v_h_keptSize])), (sr, .inr (5, [.ref sr_tide, .ref sr_rain, .ref sr_rules])), (sr_tide, .inl (cI, 96, .inl f_sr_tide))]) (cc := cX8_tide) (maxL := 4) (ret := (some .int)) (Qc := fun A => k_Qi D (k_tys cI cZ cJ cS) [(h, .inr (8, [.ref sr, .ref h_now, .ref h_kept, .ref h_planner, .ref h_floating, .ref h_planks, .int v_h_keptSize])), (sr, .inr (5, [.ref sr_tide, .ref sr_rain, .ref sr_rules])), (sr_tide, .inl (cI, 96, .inl f_sr_tide'))] A r) (by decide) rfl (Nat.le_of_ble_eq_true rfl) [(0, .ref h), (1, .int a1), (2, .int a2)] rfl ?_
  intro p e s m below meth c A hx hb hml hr hlocks hnm hown hK hP hD hA hS hN ls args Q hts hl hQ
  replace hown : s.vm.findClass RX8 = some m.cls := hown
  have S0 : CallFix p m c cX8_tide 4 s args wsX8_tide RX8 := ⟨hx, hb, hml, hown, hts⟩
  have inX8 : ∀ w ∈ u_ws RX8 TX8 7, w ∈ wsX8_tide := fun w h => List.mem_cons_of_mem _ (List.mem_append_left _ (List.mem_append_right _ h))
  have inX5 : ∀ w ∈ u_ws RX5 TX5 3, w ∈ wsX8_tide := fun w h => List.mem_cons_of_mem _ (List.mem_append_right _ h)
  have wl1 : (Cond.fieldLink RX8 10 "BeachedShip" "shore" "LBeachedShip$Shore;").before args s = true := hts _ (List.mem_of_getElem? (i := 1) rfl)
  have wl2 : (Cond.fieldLink RX8 60 "BeachedShip$Shore" "tide" "[I").before args s = true := hts _ (List.mem_of_getElem? (i := 2) rfl)
  have hRet : ∀ (r_z : Int32) (f_sr_tide_z : Nat → Int32), some (r_z, f_sr_tide_z) = some (r, f_sr_tide') → ∀ (H : Heap) (locs : List Loc) (ls : Array Slot) (pc : Nat), va_P D vwCl [(h, .inr (8, [.ref sr, .ref h_now, .ref h_kept, .ref h_planner, .ref h_floating, .ref h_planks, .int v_h_keptSize])), (sr, .inr (5, [.ref sr_tide, .ref sr_rain, .ref sr_rules])), (sr_tide, .inl (cI, 96, .inl f_sr_tide_z))] H → va_D A [(h, .inr (8, [.ref sr, .ref h_now, .ref h_kept, .ref h_planner, .ref h_floating, .ref h_planks, .int v_h_keptSize])), (sr, .inr (5, [.ref sr_tide, .ref sr_rain, .ref sr_rules])), (sr_tide, .inl (cI, 96, .inl f_sr_tide_z))] → va_S A s.heap H locs → narrow .int (.int r_z) = .int r_z → decode cX8_tide pc = .ok (.ireturn, 1) → W p l e rm_X8_tide s m args below meth c H locs 0 0 Q (F0 m pc ls [.int r_z]) := by
    intro r_z f_sr_tide_z hz H locs ls pc hP hD hS hn hd
    cases hz
    exact k_iret hx hb hr hlocks hn hK hP hD hS hQ rfl hd
  unfold p_X8_tide at hf
  refine lv_iload_n hx hb dX8_tide_0 rfl (lv_at hl 1 rfl) ?_
  refine lv_iconst (v := 0) hx hb dX8_tide_1 (by decide) ?_
  refine lv_bipush (v := 95) hx hb dX8_tide_2 (by decide) ?_
  obtain ⟨r1, hc1, hf⟩ := k_b1_some hf
  refine k_SiR (As := [.int a1, .int 0, .int 95]) (rest := []) S0 (c_X8_within l D cI cZ cJ cS a1 0 95 r1 hc1) (va_cwS 3 hts gX8_tide_X8_within rfl rfl rfl hdS_X8_within ⟨Nat.le_of_ble_eq_true rfl, Nat.le_of_ble_eq_true rfl⟩) hK hP hD hS hA hN [] rfl (by decide) rfl hl.1 rfl (Nat.le_of_ble_eq_true rfl) dX8_tide_4 (fun H locs hP hS => ?_)
  refine lv_if_eq (tgt := 20) hx hb dX8_tide_7 (by decide) (fun c2 => ?_) (fun c2 => ?_)
  · replace hf := k_pos hf c2
    refine lv_iconst (v := (-1)) hx hb dX8_tide_20 (by decide) ?_
    exact hRet _ _ hf _ _ _ _ hP hD hS rfl dX8_tide_21
  · replace hf := k_neg hf c2
    refine lv_iload_n hx hb dX8_tide_10 rfl (lv_at hl 2 rfl) ?_
    refine lv_iconst (v := 0) hx hb dX8_tide_11 (by decide) ?_
    refine lv_bipush (v := 60) hx hb dX8_tide_12 (by decide) ?_
    obtain ⟨r3, hc3, hf⟩ := k_b1_some hf
    refine k_SiR (As := [.int a2, .int 0, .int 60]) (rest := []) S0 (c_X8_within l D cI cZ cJ cS a2 0 60 r3 hc3) (va_cwS 3 hts gX8_tide_X8_within rfl rfl rfl hdS_X8_within ⟨Nat.le_of_ble_eq_true rfl, Nat.le_of_ble_eq_true rfl⟩) hK hP hD hS hA hN [] rfl (by decide) rfl hl.1 rfl (Nat.le_of_ble_eq_true rfl) dX8_tide_14 (fun H locs hP hS => ?_)
    refine lv_if_ne (tgt := 22) hx hb dX8_tide_17 (by decide) (fun c4 => ?_) (fun c4 => ?_)
    · replace hf := k_neg hf c4
      refine lv_aload_n hx hb dX8_tide_22 rfl (lv_at hl 0 rfl) ?_
      refine k_get (C := RX8) (T := TX8) (N := 7) hx hb hts inX8 hown hK hP 0 rfl rfl 0 (by decide) rfl wl1 rfl dX8_tide_23 ?_
      refine k_get (C := RX5) (T := TX5) (N := 3) hx hb hts inX5 hown hK hP 1 rfl rfl 0 (by decide) rfl wl2 rfl dX8_tide_26 ?_
      refine lv_iload_n hx hb dX8_tide_29 rfl (lv_at hl 1 rfl) ?_
      obtain ⟨hi5, hf⟩ := k_ix_some hf
      refine k_iald (k := a1.toNatClampNeg) hx hb hK hP 2 0 rfl rfl hi5 rfl dX8_tide_30 ?_
      refine lv_istore_n (lv' := [(3, .int (f_sr_tide a1.toNatClampNeg)), (0, .ref h), (1, .int a1), (2, .int a2)]) hx hb dX8_tide_31 rfl hl (by decide) rfl (fun ls hl => ?_)
      refine lv_aload_n hx hb dX8_tide_32 rfl (lv_at hl 1 rfl) ?_
      refine k_get (C := RX8) (T := TX8) (N := 7) hx hb hts inX8 hown hK hP 0 rfl rfl 0 (by decide) rfl wl1 rfl dX8_tide_33 ?_
      refine k_get (C := RX5) (T := TX5) (N := 3) hx hb hts inX5 hown hK hP 1 rfl rfl 0 (by decide) rfl wl2 rfl dX8_tide_36 ?_
      refine lv_iload_n hx hb dX8_tide_39 rfl (lv_at hl 2 rfl) ?_
      refine lv_iload_n hx hb dX8_tide_40 rfl (lv_at hl 3 rfl) ?_
      obtain ⟨hi6, hf⟩ := k_ix_some hf
      refine k_iast (ws2 := [(h, .inr (8, [.ref sr, .ref h_now, .ref h_kept, .ref h_planner, .ref h_floating, .ref h_planks, .int v_h_keptSize])), (sr, .inr (5, [.ref sr_tide, .ref sr_rain, .ref sr_rules])), (sr_tide, .inl (cI, 96, .inl (upd f_sr_tide a1.toNatClampNeg a2)))]) (k := a1.toNatClampNeg) hx hb hK hP hD hS 2 0 rfl rfl hi6 rfl rfl dX8_tide_41 (fun H locs hP hD hS => ?_)
      refine lv_iload_n hx hb dX8_tide_42 rfl (lv_at hl 0 rfl) ?_
      exact hRet _ _ hf _ _ _ _ hP hD hS rfl dX8_tide_43
    · replace hf := k_pos hf c4
      refine lv_iconst (v := (-1)) hx hb dX8_tide_20 (by decide) ?_
      exact hRet _ _ hf _ _ _ _ hP hD hS rfl dX8_tide_21

def lb_X8_tides_41 (a2 : Int32) (a3 : Int64) (a1 : Int32) (x5_18 : Int32) (c_sr_tide_19 : Nat → Int32) : Option ((Int32 × (Nat → Int32)) ⊕ ((Nat → Int32))) :=
  if a2 ≤ x5_18 then
    some (.inr c_sr_tide_19)
  else
    k_b1 (p_X8_eightBits a3 x5_18) fun r21 =>
    k_ix (a1 + x5_18) 96 (
      some (.inl (x5_18 + 1, upd c_sr_tide_19 (a1 + x5_18).toNatClampNeg r21)))
def p_X8_tides (f_sr_tide : Nat → Int32) (a1 : Int32) (a2 : Int32) (a3 : Int64) : Option (Int32 × (Nat → Int32)) :=
  k_b1 (p_X8_within a1 0 95) fun r1 =>
  if r1 = 0 then
    some ((-1), f_sr_tide)
  else
    k_b1 (p_X8_within a2 1 8) fun r3 =>
    if r3 = 0 then
      some ((-1), f_sr_tide)
    else
      if 96 < (a1 + a2) then
        some ((-1), f_sr_tide)
      else
        k_b1 (p_X8_areTides a2 a3) fun r6 =>
        if r6 = 0 then
          some ((-1), f_sr_tide)
        else
          k_b1 (k_lp (fun s => lb_X8_tides_41 a2 a3 a1 s.1 s.2) k_fuel (0, f_sr_tide)) fun c_sr_tide_17 =>
          some (a2, c_sr_tide_17)
abbrev rm_X8_tides : Room := { frames := 2, cells := 0, slots := 0, locals := 45 }
theorem hdS_X8_tides : yX8_tides.cls ≠ "java/lang/invoke/MethodHandle" ∧ yX8_tides.cls ≠ "java/lang/invoke/VarHandle" ∧ (parseMethodDescriptor yX8_tides.desc).map (fun d => d.parameters.length) = some 3 := by decide +kernel
theorem hdV_X8_tides : yX8_tides.cls = RX8 ∧ yX8_tides.cls ≠ "java/lang/invoke/MethodHandle" ∧ yX8_tides.cls ≠ "java/lang/invoke/VarHandle" ∧ (parseMethodDescriptor yX8_tides.desc).map (fun d => d.parameters.length) = some 3 := by decide +kernel
set_option maxHeartbeats 4000000 in
set_option maxRecDepth 100000 in
theorem c_X8_tides (l : Launch) (D : va_G) (cI cZ cJ cS : ClassId) (h sr h_now h_kept h_planner h_floating h_planks sr_tide sr_rain sr_rules : Nat) (v_h_keptSize : Int32) (f_sr_tide : Nat → Int32) (a1 : Int32) (a2 : Int32) (a3 : Int64) (r : Int32) (f_sr_tide' : Nat → Int32) (hf : p_X8_tides f_sr_tide a1 a2 a3 = some (r, f_sr_tide')) : k_MI l yX8_tides wsX8_tides rm_X8_tides D (k_tys cI cZ cJ cS) [.ref h, .int a1, .int a2, .long a3] [(h, .inr (8, [.ref sr, .ref h_now, .ref h_kept, .ref h_planner, .ref h_floating, .ref h_planks, .int v_h_keptSize])), (sr, .inr (5, [.ref sr_tide, .ref sr_rain, .ref sr_rules])), (sr_tide, .inl (cI, 96, .inl f_sr_tide))] [(h, .inr (8, [.ref sr, .ref h_now, .ref h_kept, .ref h_planner, .ref h_floating, .ref h_planks, .int v_h_keptSize])), (sr, .inr (5, [.ref sr_tide, .ref sr_rain, .ref sr_rules])), (sr_tide, .inl (cI, 96, .inl f_sr_tide'))] r := by
  refine k_enter (y := yX8_tides) (wl := wsX8_tides) (rm := rm_X8_tides) (av := [.ref h, .int a1, .int a2, .long a3]) (D := D) (tys := k_tys cI cZ cJ cS) (ws := [(h, .inr (8, [.ref sr, .ref h_now, .ref h_kept, .ref h_planner, .ref h_floating, .ref h_planks, .int v_h_keptSize])), (sr, .inr (5, [.ref sr_tide, .ref sr_rain, .ref sr_rules])), (sr_tide, .inl (cI, 96, .inl f_sr_tide))]) (cc := cX8_tides) (maxL := 6) (ret := (some .int)) (Qc := fun A => k_Qi D (k_tys cI cZ cJ cS) [(h, .inr (8, [.ref sr, .ref h_now, .ref h_kept, .ref h_planner, .ref h_floating, .ref h_planks, .int v_h_keptSize])), (sr, .inr (5, [.ref sr_tide, .ref sr_rain, .ref sr_rules])), (sr_tide, .inl (cI, 96, .inl f_sr_tide'))] A r) (by decide) rfl (Nat.le_of_ble_eq_true rfl) [(0, .ref h), (1, .int a1), (2, .int a2), (3, .long a3)] rfl ?_
  intro p e s m below meth c A hx hb hml hr hlocks hnm hown hK hP hD hA hS hN ls args Q hts hl hQ
  replace hown : s.vm.findClass RX8 = some m.cls := hown
  have S0 : CallFix p m c cX8_tides 6 s args wsX8_tides RX8 := ⟨hx, hb, hml, hown, hts⟩
  have inX8 : ∀ w ∈ u_ws RX8 TX8 7, w ∈ wsX8_tides := fun w h => List.mem_cons_of_mem _ (List.mem_append_left _ (List.mem_append_right _ h))
  have inX5 : ∀ w ∈ u_ws RX5 TX5 3, w ∈ wsX8_tides := fun w h => List.mem_cons_of_mem _ (List.mem_append_right _ h)
  have wl1 : (Cond.fieldLink RX8 10 "BeachedShip" "shore" "LBeachedShip$Shore;").before args s = true := hts _ (List.mem_of_getElem? (i := 1) rfl)
  have wl2 : (Cond.fieldLink RX8 60 "BeachedShip$Shore" "tide" "[I").before args s = true := hts _ (List.mem_of_getElem? (i := 2) rfl)
  have hRet : ∀ (r_z : Int32) (f_sr_tide_z : Nat → Int32), some (r_z, f_sr_tide_z) = some (r, f_sr_tide') → ∀ (H : Heap) (locs : List Loc) (ls : Array Slot) (pc : Nat), va_P D vwCl [(h, .inr (8, [.ref sr, .ref h_now, .ref h_kept, .ref h_planner, .ref h_floating, .ref h_planks, .int v_h_keptSize])), (sr, .inr (5, [.ref sr_tide, .ref sr_rain, .ref sr_rules])), (sr_tide, .inl (cI, 96, .inl f_sr_tide_z))] H → va_D A [(h, .inr (8, [.ref sr, .ref h_now, .ref h_kept, .ref h_planner, .ref h_floating, .ref h_planks, .int v_h_keptSize])), (sr, .inr (5, [.ref sr_tide, .ref sr_rain, .ref sr_rules])), (sr_tide, .inl (cI, 96, .inl f_sr_tide_z))] → va_S A s.heap H locs → narrow .int (.int r_z) = .int r_z → decode cX8_tides pc = .ok (.ireturn, 1) → W p l e rm_X8_tides s m args below meth c H locs 0 0 Q (F0 m pc ls [.int r_z]) := by
    intro r_z f_sr_tide_z hz H locs ls pc hP hD hS hn hd
    cases hz
    exact k_iret hx hb hr hlocks hn hK hP hD hS hQ rfl hd
  unfold p_X8_tides at hf
  refine lv_iload_n hx hb dX8_tides_0 rfl (lv_at hl 1 rfl) ?_
  refine lv_iconst (v := 0) hx hb dX8_tides_1 (by decide) ?_
  refine lv_bipush (v := 95) hx hb dX8_tides_2 (by decide) ?_
  obtain ⟨r1, hc1, hf⟩ := k_b1_some hf
  refine k_SiR (As := [.int a1, .int 0, .int 95]) (rest := []) S0 (c_X8_within l D cI cZ cJ cS a1 0 95 r1 hc1) (va_cwS 3 hts gX8_tides_X8_within rfl rfl rfl hdS_X8_within ⟨Nat.le_of_ble_eq_true rfl, Nat.le_of_ble_eq_true rfl⟩) hK hP hD hS hA hN [] rfl (by decide) rfl hl.1 rfl (Nat.le_of_ble_eq_true rfl) dX8_tides_4 (fun H locs hP hS => ?_)
  refine lv_if_eq (tgt := 36) hx hb dX8_tides_7 (by decide) (fun c2 => ?_) (fun c2 => ?_)
  · replace hf := k_pos hf c2
    refine lv_iconst (v := (-1)) hx hb dX8_tides_36 (by decide) ?_
    exact hRet _ _ hf _ _ _ _ hP hD hS rfl dX8_tides_37
  · replace hf := k_neg hf c2
    refine lv_iload_n hx hb dX8_tides_10 rfl (lv_at hl 2 rfl) ?_
    refine lv_iconst (v := 1) hx hb dX8_tides_11 (by decide) ?_
    refine lv_bipush (v := 8) hx hb dX8_tides_12 (by decide) ?_
    obtain ⟨r3, hc3, hf⟩ := k_b1_some hf
    refine k_SiR (As := [.int a2, .int 1, .int 8]) (rest := []) S0 (c_X8_within l D cI cZ cJ cS a2 1 8 r3 hc3) (va_cwS 3 hts gX8_tides_X8_within rfl rfl rfl hdS_X8_within ⟨Nat.le_of_ble_eq_true rfl, Nat.le_of_ble_eq_true rfl⟩) hK hP hD hS hA hN [] rfl (by decide) rfl hl.1 rfl (Nat.le_of_ble_eq_true rfl) dX8_tides_14 (fun H locs hP hS => ?_)
    refine lv_if_eq (tgt := 36) hx hb dX8_tides_17 (by decide) (fun c4 => ?_) (fun c4 => ?_)
    · replace hf := k_pos hf c4
      refine lv_iconst (v := (-1)) hx hb dX8_tides_36 (by decide) ?_
      exact hRet _ _ hf _ _ _ _ hP hD hS rfl dX8_tides_37
    · replace hf := k_neg hf c4
      refine lv_iload_n hx hb dX8_tides_20 rfl (lv_at hl 1 rfl) ?_
      refine lv_iload_n hx hb dX8_tides_21 rfl (lv_at hl 2 rfl) ?_
      refine lv_iadd hx hb dX8_tides_22 ?_
      refine lv_bipush (v := 96) hx hb dX8_tides_23 (by decide) ?_
      refine lv_icmp_gt (tgt := 36) hx hb dX8_tides_25 (by decide) (fun c5 => ?_) (fun c5 => ?_)
      · replace hf := k_pos hf c5
        refine lv_iconst (v := (-1)) hx hb dX8_tides_36 (by decide) ?_
        exact hRet _ _ hf _ _ _ _ hP hD hS rfl dX8_tides_37
      · replace hf := k_neg hf c5
        refine lv_iload_n hx hb dX8_tides_28 rfl (lv_at hl 2 rfl) ?_
        refine lv_lload_n hx hb dX8_tides_29 rfl (lv_at hl 3 rfl) ?_
        obtain ⟨r6, hc6, hf⟩ := k_b1_some hf
        refine k_SiR (As := [.int a2, .long a3]) (rest := []) S0 (c_X8_areTides l D cI cZ cJ cS a2 a3 r6 hc6) (va_cwS 2 hts gX8_tides_X8_areTides rfl rfl rfl hdS_X8_areTides ⟨Nat.le_of_ble_eq_true rfl, Nat.le_of_ble_eq_true rfl⟩) hK hP hD hS hA hN [] rfl (by decide) rfl hl.1 rfl (Nat.le_of_ble_eq_true rfl) dX8_tides_30 (fun H locs hP hS => ?_)
        refine lv_if_ne (tgt := 38) hx hb dX8_tides_33 (by decide) (fun c7 => ?_) (fun c7 => ?_)
        · replace hf := k_neg hf c7
          refine lv_iconst (v := 0) hx hb dX8_tides_38 (by decide) ?_
          refine lv_istore (lv' := [(5, .int 0), (0, .ref h), (1, .int a1), (2, .int a2), (3, .long a3)]) hx hb dX8_tides_39 hl (by decide) rfl (fun ls hl => ?_)
          obtain ⟨ee16, hlp16, hfr16⟩ := k_b1_ee hf
          have hE16 : ∀ (c_sr_tide_17 : Nat → Int32), ee16 = c_sr_tide_17 → ∀ (H : Heap) (locs : List Loc) (ls : Array Slot), va_P D vwCl [(h, .inr (8, [.ref sr, .ref h_now, .ref h_kept, .ref h_planner, .ref h_floating, .ref h_planks, .int v_h_keptSize])), (sr, .inr (5, [.ref sr_tide, .ref sr_rain, .ref sr_rules])), (sr_tide, .inl (cI, 96, .inl c_sr_tide_17))] H → va_D A [(h, .inr (8, [.ref sr, .ref h_now, .ref h_kept, .ref h_planner, .ref h_floating, .ref h_planks, .int v_h_keptSize])), (sr, .inr (5, [.ref sr_tide, .ref sr_rain, .ref sr_rules])), (sr_tide, .inl (cI, 96, .inl c_sr_tide_17))] → va_S A s.heap H locs → lv_has ls 6 [(2, .int a2)] → W p l e rm_X8_tides s m args below meth c H locs 0 0 Q (F0 m 71 ls []) := by
            intro c_sr_tide_17 he H locs ls hP hD hS hl
            replace hf := hfr16 c_sr_tide_17 he
            refine lv_iload_n hx hb dX8_tides_71 rfl (lv_at hl 0 rfl) ?_
            exact hRet _ _ hf _ _ _ _ hP hD hS rfl dX8_tides_72
          refine (k_lp_ind (fun sx16 => ∀ (H : Heap) (locs : List Loc) (ls : Array Slot), va_P D vwCl [(h, .inr (8, [.ref sr, .ref h_now, .ref h_kept, .ref h_planner, .ref h_floating, .ref h_planks, .int v_h_keptSize])), (sr, .inr (5, [.ref sr_tide, .ref sr_rain, .ref sr_rules])), (sr_tide, .inl (cI, 96, .inl sx16.2))] H → va_D A [(h, .inr (8, [.ref sr, .ref h_now, .ref h_kept, .ref h_planner, .ref h_floating, .ref h_planks, .int v_h_keptSize])), (sr, .inr (5, [.ref sr_tide, .ref sr_rain, .ref sr_rules])), (sr_tide, .inl (cI, 96, .inl sx16.2))] → va_S A s.heap H locs → lv_has ls 6 [(5, .int sx16.1), (0, .ref h), (1, .int a1), (2, .int a2), (3, .long a3)] → W p l e rm_X8_tides s m args below meth c H locs 0 0 Q (F0 m 41 ls [])) (fun sx16 X16 hX16 hin16 hout16 => ?_) _ _ hlp16) _ _ _ hP hD hS (lv_sub hl [0, 1, 2, 3, 4] rfl)
          obtain ⟨x5_18, c_sr_tide_19⟩ := sx16
          intro H locs ls hP hD hS hl
          replace hP : va_P D vwCl [(h, .inr (8, [.ref sr, .ref h_now, .ref h_kept, .ref h_planner, .ref h_floating, .ref h_planks, .int v_h_keptSize])), (sr, .inr (5, [.ref sr_tide, .ref sr_rain, .ref sr_rules])), (sr_tide, .inl (cI, 96, .inl c_sr_tide_19))] H := hP
          replace hD : va_D A [(h, .inr (8, [.ref sr, .ref h_now, .ref h_kept, .ref h_planner, .ref h_floating, .ref h_planks, .int v_h_keptSize])), (sr, .inr (5, [.ref sr_tide, .ref sr_rain, .ref sr_rules])), (sr_tide, .inl (cI, 96, .inl c_sr_tide_19))] := hD
          replace hl : lv_has ls 6 [(5, .int x5_18), (0, .ref h), (1, .int a1), (2, .int a2), (3, .long a3)] := hl
          replace hX16 : lb_X8_tides_41 a2 a3 a1 x5_18 c_sr_tide_19 = some X16 := hX16
          unfold lb_X8_tides_41 at hX16
          refine lv_iload hx hb dX8_tides_41 (lv_at hl 0 rfl) ?_
          refine lv_iload_n hx hb dX8_tides_43 rfl (lv_at hl 3 rfl) ?_
          refine lv_icmp_ge (tgt := 71) hx hb dX8_tides_44 (by decide) (fun c20 => ?_) (fun c20 => ?_)
          · replace hX16 := k_pos hX16 c20
            exact hE16 _ (hout16 _ (Option.some.inj hX16).symm).symm _ _ _ hP hD hS (lv_sub hl [3] rfl)
          · replace hX16 := k_neg hX16 c20
            refine lv_aload_n hx hb dX8_tides_47 rfl (lv_at hl 1 rfl) ?_
            refine k_get (C := RX8) (T := TX8) (N := 7) hx hb hts inX8 hown hK hP 0 rfl rfl 0 (by decide) rfl wl1 rfl dX8_tides_48 ?_
            refine k_get (C := RX5) (T := TX5) (N := 3) hx hb hts inX5 hown hK hP 1 rfl rfl 0 (by decide) rfl wl2 rfl dX8_tides_51 ?_
            refine lv_iload_n hx hb dX8_tides_54 rfl (lv_at hl 2 rfl) ?_
            refine lv_iload hx hb dX8_tides_55 (lv_at hl 0 rfl) ?_
            refine lv_iadd hx hb dX8_tides_57 ?_
            refine lv_lload_n hx hb dX8_tides_58 rfl (lv_at hl 4 rfl) ?_
            refine lv_iload hx hb dX8_tides_59 (lv_at hl 0 rfl) ?_
            obtain ⟨r21, hc21, hX16⟩ := k_b1_some hX16
            refine k_SiR (As := [.long a3, .int x5_18]) (rest := [.int (a1 + x5_18), .ref sr_tide]) S0 (c_X8_eightBits l D cI cZ cJ cS a3 x5_18 r21 hc21) (va_cwS 2 hts gX8_tides_X8_eightBits rfl rfl rfl hdS_X8_eightBits ⟨Nat.le_of_ble_eq_true rfl, Nat.le_of_ble_eq_true rfl⟩) hK hP hD hS hA hN [] rfl (by decide) rfl hl.1 rfl (Nat.le_of_ble_eq_true rfl) dX8_tides_61 (fun H locs hP hS => ?_)
            obtain ⟨hi22, hX16⟩ := k_ix_some hX16
            refine k_iast (ws2 := [(h, .inr (8, [.ref sr, .ref h_now, .ref h_kept, .ref h_planner, .ref h_floating, .ref h_planks, .int v_h_keptSize])), (sr, .inr (5, [.ref sr_tide, .ref sr_rain, .ref sr_rules])), (sr_tide, .inl (cI, 96, .inl (upd c_sr_tide_19 (a1 + x5_18).toNatClampNeg r21)))]) (k := (a1 + x5_18).toNatClampNeg) hx hb hK hP hD hS 2 0 rfl rfl hi22 rfl rfl dX8_tides_64 (fun H locs hP hD hS => ?_)
            refine lv_iinc (v := x5_18 + 1) (lv' := [(5, .int (x5_18 + 1)), (0, .ref h), (1, .int a1), (2, .int a2), (3, .long a3)]) hx hb dX8_tides_65 hl (k := 0) rfl rfl (by decide) rfl (fun ls hl => ?_)
            refine lv_goto (tgt := 41) hx hb dX8_tides_68 (by decide) ?_
            exact hin16 (x5_18 + 1, upd c_sr_tide_19 (a1 + x5_18).toNatClampNeg r21) (Option.some.inj hX16).symm _ _ _ hP hD hS (lv_sub hl [0, 1, 2, 3, 4] rfl)
        · replace hf := k_pos hf c7
          refine lv_iconst (v := (-1)) hx hb dX8_tides_36 (by decide) ?_
          exact hRet _ _ hf _ _ _ _ hP hD hS rfl dX8_tides_37

def p_X8_rain (f_sr_rain : Nat → Int32) (a1 : Int32) (a2 : Int32) : Option (Int32 × (Nat → Int32)) :=
  k_b1 (p_X8_within a1 0 95) fun r1 =>
  if r1 = 0 then
    some ((-1), f_sr_rain)
  else
    k_ix a1 96 (
      k_ix a1 96 (
        k_b1 (p_X8_asNumber (f_sr_rain a1.toNatClampNeg)) fun r5 =>
        some (r5, upd f_sr_rain a1.toNatClampNeg (vp_nar .boolean a2))))
abbrev rm_X8_rain : Room := { frames := 1, cells := 0, slots := 0, locals := 22 }
theorem hdS_X8_rain : yX8_rain.cls ≠ "java/lang/invoke/MethodHandle" ∧ yX8_rain.cls ≠ "java/lang/invoke/VarHandle" ∧ (parseMethodDescriptor yX8_rain.desc).map (fun d => d.parameters.length) = some 2 := by decide +kernel
theorem hdV_X8_rain : yX8_rain.cls = RX8 ∧ yX8_rain.cls ≠ "java/lang/invoke/MethodHandle" ∧ yX8_rain.cls ≠ "java/lang/invoke/VarHandle" ∧ (parseMethodDescriptor yX8_rain.desc).map (fun d => d.parameters.length) = some 2 := by decide +kernel
set_option maxHeartbeats 4000000 in
set_option maxRecDepth 100000 in
theorem c_X8_rain (l : Launch) (D : va_G) (cI cZ cJ cS : ClassId) (h sr h_now h_kept h_planner h_floating h_planks sr_tide sr_rain sr_rules : Nat) (v_h_keptSize : Int32) (f_sr_rain : Nat → Int32) (a1 : Int32) (a2 : Int32) (r : Int32) (f_sr_rain' : Nat → Int32) (hf : p_X8_rain f_sr_rain a1 a2 = some (r, f_sr_rain')) : k_MI l yX8_rain wsX8_rain rm_X8_rain D (k_tys cI cZ cJ cS) [.ref h, .int a1, .int a2] [(h, .inr (8, [.ref sr, .ref h_now, .ref h_kept, .ref h_planner, .ref h_floating, .ref h_planks, .int v_h_keptSize])), (sr, .inr (5, [.ref sr_tide, .ref sr_rain, .ref sr_rules])), (sr_rain, .inl (cZ, 96, .inl f_sr_rain))] [(h, .inr (8, [.ref sr, .ref h_now, .ref h_kept, .ref h_planner, .ref h_floating, .ref h_planks, .int v_h_keptSize])), (sr, .inr (5, [.ref sr_tide, .ref sr_rain, .ref sr_rules])), (sr_rain, .inl (cZ, 96, .inl f_sr_rain'))] r := by
  refine k_enter (y := yX8_rain) (wl := wsX8_rain) (rm := rm_X8_rain) (av := [.ref h, .int a1, .int a2]) (D := D) (tys := k_tys cI cZ cJ cS) (ws := [(h, .inr (8, [.ref sr, .ref h_now, .ref h_kept, .ref h_planner, .ref h_floating, .ref h_planks, .int v_h_keptSize])), (sr, .inr (5, [.ref sr_tide, .ref sr_rain, .ref sr_rules])), (sr_rain, .inl (cZ, 96, .inl f_sr_rain))]) (cc := cX8_rain) (maxL := 4) (ret := (some .int)) (Qc := fun A => k_Qi D (k_tys cI cZ cJ cS) [(h, .inr (8, [.ref sr, .ref h_now, .ref h_kept, .ref h_planner, .ref h_floating, .ref h_planks, .int v_h_keptSize])), (sr, .inr (5, [.ref sr_tide, .ref sr_rain, .ref sr_rules])), (sr_rain, .inl (cZ, 96, .inl f_sr_rain'))] A r) (by decide) rfl (Nat.le_of_ble_eq_true rfl) [(0, .ref h), (1, .int a1), (2, .int a2)] rfl ?_
  intro p e s m below meth c A hx hb hml hr hlocks hnm hown hK hP hD hA hS hN ls args Q hts hl hQ
  replace hown : s.vm.findClass RX8 = some m.cls := hown
  have S0 : CallFix p m c cX8_rain 4 s args wsX8_rain RX8 := ⟨hx, hb, hml, hown, hts⟩
  have inX8 : ∀ w ∈ u_ws RX8 TX8 7, w ∈ wsX8_rain := fun w h => List.mem_cons_of_mem _ (List.mem_append_left _ (List.mem_append_right _ h))
  have inX5 : ∀ w ∈ u_ws RX5 TX5 3, w ∈ wsX8_rain := fun w h => List.mem_cons_of_mem _ (List.mem_append_right _ h)
  have wl1 : (Cond.fieldLink RX8 10 "BeachedShip" "shore" "LBeachedShip$Shore;").before args s = true := hts _ (List.mem_of_getElem? (i := 1) rfl)
  have wl2 : (Cond.fieldLink RX8 72 "BeachedShip$Shore" "rain" "[Z").before args s = true := hts _ (List.mem_of_getElem? (i := 2) rfl)
  have hRet : ∀ (r_z : Int32) (f_sr_rain_z : Nat → Int32), some (r_z, f_sr_rain_z) = some (r, f_sr_rain') → ∀ (H : Heap) (locs : List Loc) (ls : Array Slot) (pc : Nat), va_P D vwCl [(h, .inr (8, [.ref sr, .ref h_now, .ref h_kept, .ref h_planner, .ref h_floating, .ref h_planks, .int v_h_keptSize])), (sr, .inr (5, [.ref sr_tide, .ref sr_rain, .ref sr_rules])), (sr_rain, .inl (cZ, 96, .inl f_sr_rain_z))] H → va_D A [(h, .inr (8, [.ref sr, .ref h_now, .ref h_kept, .ref h_planner, .ref h_floating, .ref h_planks, .int v_h_keptSize])), (sr, .inr (5, [.ref sr_tide, .ref sr_rain, .ref sr_rules])), (sr_rain, .inl (cZ, 96, .inl f_sr_rain_z))] → va_S A s.heap H locs → narrow .int (.int r_z) = .int r_z → decode cX8_rain pc = .ok (.ireturn, 1) → W p l e rm_X8_rain s m args below meth c H locs 0 0 Q (F0 m pc ls [.int r_z]) := by
    intro r_z f_sr_rain_z hz H locs ls pc hP hD hS hn hd
    cases hz
    exact k_iret hx hb hr hlocks hn hK hP hD hS hQ rfl hd
  unfold p_X8_rain at hf
  refine lv_iload_n hx hb dX8_rain_0 rfl (lv_at hl 1 rfl) ?_
  refine lv_iconst (v := 0) hx hb dX8_rain_1 (by decide) ?_
  refine lv_bipush (v := 95) hx hb dX8_rain_2 (by decide) ?_
  obtain ⟨r1, hc1, hf⟩ := k_b1_some hf
  refine k_SiR (As := [.int a1, .int 0, .int 95]) (rest := []) S0 (c_X8_within l D cI cZ cJ cS a1 0 95 r1 hc1) (va_cwS 3 hts gX8_rain_X8_within rfl rfl rfl hdS_X8_within ⟨Nat.le_of_ble_eq_true rfl, Nat.le_of_ble_eq_true rfl⟩) hK hP hD hS hA hN [] rfl (by decide) rfl hl.1 rfl (Nat.le_of_ble_eq_true rfl) dX8_rain_4 (fun H locs hP hS => ?_)
  refine lv_if_ne (tgt := 12) hx hb dX8_rain_7 (by decide) (fun c2 => ?_) (fun c2 => ?_)
  · replace hf := k_neg hf c2
    refine lv_aload_n hx hb dX8_rain_12 rfl (lv_at hl 0 rfl) ?_
    refine k_get (C := RX8) (T := TX8) (N := 7) hx hb hts inX8 hown hK hP 0 rfl rfl 0 (by decide) rfl wl1 rfl dX8_rain_13 ?_
    refine k_get (C := RX5) (T := TX5) (N := 3) hx hb hts inX5 hown hK hP 1 rfl rfl 1 (by decide) rfl wl2 rfl dX8_rain_16 ?_
    refine lv_iload_n hx hb dX8_rain_19 rfl (lv_at hl 1 rfl) ?_
    obtain ⟨hi3, hf⟩ := k_ix_some hf
    refine k_zald (k := a1.toNatClampNeg) hx hb hK hP 2 1 rfl rfl hi3 rfl dX8_rain_20 ?_
    refine lv_istore_n (lv' := [(3, .int (f_sr_rain a1.toNatClampNeg)), (0, .ref h), (1, .int a1), (2, .int a2)]) hx hb dX8_rain_21 rfl hl (by decide) rfl (fun ls hl => ?_)
    refine lv_aload_n hx hb dX8_rain_22 rfl (lv_at hl 1 rfl) ?_
    refine k_get (C := RX8) (T := TX8) (N := 7) hx hb hts inX8 hown hK hP 0 rfl rfl 0 (by decide) rfl wl1 rfl dX8_rain_23 ?_
    refine k_get (C := RX5) (T := TX5) (N := 3) hx hb hts inX5 hown hK hP 1 rfl rfl 1 (by decide) rfl wl2 rfl dX8_rain_26 ?_
    refine lv_iload_n hx hb dX8_rain_29 rfl (lv_at hl 2 rfl) ?_
    refine lv_iload_n hx hb dX8_rain_30 rfl (lv_at hl 3 rfl) ?_
    obtain ⟨hi4, hf⟩ := k_ix_some hf
    refine k_zast (ws2 := [(h, .inr (8, [.ref sr, .ref h_now, .ref h_kept, .ref h_planner, .ref h_floating, .ref h_planks, .int v_h_keptSize])), (sr, .inr (5, [.ref sr_tide, .ref sr_rain, .ref sr_rules])), (sr_rain, .inl (cZ, 96, .inl (upd f_sr_rain a1.toNatClampNeg (vp_nar .boolean a2))))]) (k := a1.toNatClampNeg) hx hb hK hP hD hS 2 1 rfl rfl hi4 rfl rfl dX8_rain_31 (fun H locs hP hD hS => ?_)
    refine lv_iload_n hx hb dX8_rain_32 rfl (lv_at hl 0 rfl) ?_
    obtain ⟨r5, hc5, hf⟩ := k_b1_some hf
    refine k_SiR (As := [.int (f_sr_rain a1.toNatClampNeg)]) (rest := []) S0 (c_X8_asNumber l D cI cZ cJ cS (f_sr_rain a1.toNatClampNeg) r5 hc5) (va_cwS 1 hts gX8_rain_X8_asNumber rfl rfl rfl hdS_X8_asNumber ⟨Nat.le_of_ble_eq_true rfl, Nat.le_of_ble_eq_true rfl⟩) hK hP hD hS hA hN [] rfl (by decide) rfl hl.1 rfl (Nat.le_of_ble_eq_true rfl) dX8_rain_33 (fun H locs hP hS => ?_)
    exact hRet _ _ hf _ _ _ _ hP hD hS rfl dX8_rain_36
  · replace hf := k_pos hf c2
    refine lv_iconst (v := (-1)) hx hb dX8_rain_10 (by decide) ?_
    exact hRet _ _ hf _ _ _ _ hP hD hS rfl dX8_rain_11

def p_X8_thing (v_h_now_th_out : Int32) (v_h_now_th_size : Int32) (f_h_now_th_weight : Nat → Int32) (f_h_now_th_under : Nat → Int32) (a1 : Int32) (a2 : Int32) : Option (Int32 × Int32 × (Nat → Int32) × (Nat → Int32)) :=
  k_b1 (p_X8_within a1 1 100) fun r1 =>
  if r1 = 0 then
    some ((-1), v_h_now_th_size, f_h_now_th_weight, f_h_now_th_under)
  else
    k_b1 (p_X8_within a2 (-1) (v_h_now_th_size - 1)) fun r3 =>
    if r3 = 0 then
      some ((-1), v_h_now_th_size, f_h_now_th_weight, f_h_now_th_under)
    else
      if a2 < 0 then
        if v_h_now_th_size < 12 then
          k_b4 (p_X7_add v_h_now_th_size f_h_now_th_weight f_h_now_th_under a1 a2) fun r7 w_h_now_th_size_8 w_h_now_th_weight_9 w_h_now_th_under_10 =>
          some (r7, w_h_now_th_size_8, w_h_now_th_weight_9, w_h_now_th_under_10)
        else
          some ((-3), v_h_now_th_size, f_h_now_th_weight, f_h_now_th_under)
      else
        k_b1 (p_X8_hasBit v_h_now_th_out a2) fun r11 =>
        if r11 = 0 then
          if v_h_now_th_size < 12 then
            k_b4 (p_X7_add v_h_now_th_size f_h_now_th_weight f_h_now_th_under a1 a2) fun r14 w_h_now_th_size_15 w_h_now_th_weight_16 w_h_now_th_under_17 =>
            some (r14, w_h_now_th_size_15, w_h_now_th_weight_16, w_h_now_th_under_17)
          else
            some ((-3), v_h_now_th_size, f_h_now_th_weight, f_h_now_th_under)
        else
          some ((-2), v_h_now_th_size, f_h_now_th_weight, f_h_now_th_under)
abbrev rm_X8_thing : Room := { frames := 1, cells := 0, slots := 0, locals := 22 }
theorem hdS_X8_thing : yX8_thing.cls ≠ "java/lang/invoke/MethodHandle" ∧ yX8_thing.cls ≠ "java/lang/invoke/VarHandle" ∧ (parseMethodDescriptor yX8_thing.desc).map (fun d => d.parameters.length) = some 2 := by decide +kernel
theorem hdV_X8_thing : yX8_thing.cls = RX8 ∧ yX8_thing.cls ≠ "java/lang/invoke/MethodHandle" ∧ yX8_thing.cls ≠ "java/lang/invoke/VarHandle" ∧ (parseMethodDescriptor yX8_thing.desc).map (fun d => d.parameters.length) = some 2 := by decide +kernel
set_option maxHeartbeats 4000000 in
set_option maxRecDepth 100000 in
theorem c_X8_thing (l : Launch) (D : va_G) (cI cZ cJ cS : ClassId) (h sr h_now h_kept h_planner h_floating h_planks h_now_th h_now_ta h_now_se h_now_th_weight h_now_th_under : Nat) (v_h_keptSize : Int32) (v_h_now_hour : Int32) (v_h_now_heel : Int32) (v_h_now_water : Int32) (v_h_now_pitch : Int32) (v_h_now_boatUsed : Int32) (v_h_now_heelWent : Int32) (v_h_now_pitchTaken : Int32) (v_h_now_hoursOfMen : Int32) (v_h_now_parted : Int32) (v_h_now_moved : Int32) (v_h_now_th_out : Int32) (v_h_now_th_size : Int32) (f_h_now_th_weight : Nat → Int32) (f_h_now_th_under : Nat → Int32) (a1 : Int32) (a2 : Int32) (r : Int32) (v_h_now_th_size' : Int32) (f_h_now_th_weight' : Nat → Int32) (f_h_now_th_under' : Nat → Int32) (hf : p_X8_thing v_h_now_th_out v_h_now_th_size f_h_now_th_weight f_h_now_th_under a1 a2 = some (r, v_h_now_th_size', f_h_now_th_weight', f_h_now_th_under')) : k_MI l yX8_thing wsX8_thing rm_X8_thing D (k_tys cI cZ cJ cS) [.ref h, .int a1, .int a2] [(h, .inr (8, [.ref sr, .ref h_now, .ref h_kept, .ref h_planner, .ref h_floating, .ref h_planks, .int v_h_keptSize])), (h_now, .inr (4, [.ref sr, .ref h_now_th, .ref h_now_ta, .ref h_now_se, .int v_h_now_hour, .int v_h_now_heel, .int v_h_now_water, .int v_h_now_pitch, .int v_h_now_boatUsed, .int v_h_now_heelWent, .int v_h_now_pitchTaken, .int v_h_now_hoursOfMen, .int v_h_now_parted, .int v_h_now_moved])), (h_now_th, .inr (7, [.ref h_now_th_weight, .ref h_now_th_under, .int v_h_now_th_out, .int v_h_now_th_size])), (h_now_th_weight, .inl (cI, 12, .inl f_h_now_th_weight)), (h_now_th_under, .inl (cI, 12, .inl f_h_now_th_under))] [(h, .inr (8, [.ref sr, .ref h_now, .ref h_kept, .ref h_planner, .ref h_floating, .ref h_planks, .int v_h_keptSize])), (h_now, .inr (4, [.ref sr, .ref h_now_th, .ref h_now_ta, .ref h_now_se, .int v_h_now_hour, .int v_h_now_heel, .int v_h_now_water, .int v_h_now_pitch, .int v_h_now_boatUsed, .int v_h_now_heelWent, .int v_h_now_pitchTaken, .int v_h_now_hoursOfMen, .int v_h_now_parted, .int v_h_now_moved])), (h_now_th, .inr (7, [.ref h_now_th_weight, .ref h_now_th_under, .int v_h_now_th_out, .int v_h_now_th_size'])), (h_now_th_weight, .inl (cI, 12, .inl f_h_now_th_weight')), (h_now_th_under, .inl (cI, 12, .inl f_h_now_th_under'))] r := by
  refine k_enter (y := yX8_thing) (wl := wsX8_thing) (rm := rm_X8_thing) (av := [.ref h, .int a1, .int a2]) (D := D) (tys := k_tys cI cZ cJ cS) (ws := [(h, .inr (8, [.ref sr, .ref h_now, .ref h_kept, .ref h_planner, .ref h_floating, .ref h_planks, .int v_h_keptSize])), (h_now, .inr (4, [.ref sr, .ref h_now_th, .ref h_now_ta, .ref h_now_se, .int v_h_now_hour, .int v_h_now_heel, .int v_h_now_water, .int v_h_now_pitch, .int v_h_now_boatUsed, .int v_h_now_heelWent, .int v_h_now_pitchTaken, .int v_h_now_hoursOfMen, .int v_h_now_parted, .int v_h_now_moved])), (h_now_th, .inr (7, [.ref h_now_th_weight, .ref h_now_th_under, .int v_h_now_th_out, .int v_h_now_th_size])), (h_now_th_weight, .inl (cI, 12, .inl f_h_now_th_weight)), (h_now_th_under, .inl (cI, 12, .inl f_h_now_th_under))]) (cc := cX8_thing) (maxL := 4) (ret := (some .int)) (Qc := fun A => k_Qi D (k_tys cI cZ cJ cS) [(h, .inr (8, [.ref sr, .ref h_now, .ref h_kept, .ref h_planner, .ref h_floating, .ref h_planks, .int v_h_keptSize])), (h_now, .inr (4, [.ref sr, .ref h_now_th, .ref h_now_ta, .ref h_now_se, .int v_h_now_hour, .int v_h_now_heel, .int v_h_now_water, .int v_h_now_pitch, .int v_h_now_boatUsed, .int v_h_now_heelWent, .int v_h_now_pitchTaken, .int v_h_now_hoursOfMen, .int v_h_now_parted, .int v_h_now_moved])), (h_now_th, .inr (7, [.ref h_now_th_weight, .ref h_now_th_under, .int v_h_now_th_out, .int v_h_now_th_size'])), (h_now_th_weight, .inl (cI, 12, .inl f_h_now_th_weight')), (h_now_th_under, .inl (cI, 12, .inl f_h_now_th_under'))] A r) (by decide) rfl (Nat.le_of_ble_eq_true rfl) [(0, .ref h), (1, .int a1), (2, .int a2)] rfl ?_
  intro p e s m below meth c A hx hb hml hr hlocks hnm hown hK hP hD hA hS hN ls args Q hts hl hQ
  replace hown : s.vm.findClass RX8 = some m.cls := hown
  have S0 : CallFix p m c cX8_thing 4 s args wsX8_thing RX8 := ⟨hx, hb, hml, hown, hts⟩
  have inX8 : ∀ w ∈ u_ws RX8 TX8 7, w ∈ wsX8_thing := fun w h => List.mem_cons_of_mem _ (List.mem_append_left _ (List.mem_append_left _ (List.mem_append_right _ h)))
  have inX4 : ∀ w ∈ u_ws RX4 TX4 14, w ∈ wsX8_thing := fun w h => List.mem_cons_of_mem _ (List.mem_append_left _ (List.mem_append_right _ h))
  have inX7 : ∀ w ∈ u_ws RX7 TX7 4, w ∈ wsX8_thing := fun w h => List.mem_cons_of_mem _ (List.mem_append_right _ h)
  have wl1 : (Cond.fieldLink RX8 21 "BeachedShip" "now" "LBeachedShip$Ship;").before args s = true := hts _ (List.mem_of_getElem? (i := 1) rfl)
  have wl2 : (Cond.fieldLink RX8 92 "BeachedShip$Ship" "things" "LBeachedShip$Things;").before args s = true := hts _ (List.mem_of_getElem? (i := 2) rfl)
  have wl3 : (Cond.fieldLink RX8 96 "BeachedShip$Things" "size" "I").before args s = true := hts _ (List.mem_of_getElem? (i := 3) rfl)
  have wl4 : (Cond.fieldLink RX8 101 "BeachedShip$Things" "out" "I").before args s = true := hts _ (List.mem_of_getElem? (i := 4) rfl)
  have hRet : ∀ (r_z : Int32) (v_h_now_th_size_z : Int32) (f_h_now_th_weight_z : Nat → Int32) (f_h_now_th_under_z : Nat → Int32), some (r_z, v_h_now_th_size_z, f_h_now_th_weight_z, f_h_now_th_under_z) = some (r, v_h_now_th_size', f_h_now_th_weight', f_h_now_th_under') → ∀ (H : Heap) (locs : List Loc) (ls : Array Slot) (pc : Nat), va_P D vwCl [(h, .inr (8, [.ref sr, .ref h_now, .ref h_kept, .ref h_planner, .ref h_floating, .ref h_planks, .int v_h_keptSize])), (h_now, .inr (4, [.ref sr, .ref h_now_th, .ref h_now_ta, .ref h_now_se, .int v_h_now_hour, .int v_h_now_heel, .int v_h_now_water, .int v_h_now_pitch, .int v_h_now_boatUsed, .int v_h_now_heelWent, .int v_h_now_pitchTaken, .int v_h_now_hoursOfMen, .int v_h_now_parted, .int v_h_now_moved])), (h_now_th, .inr (7, [.ref h_now_th_weight, .ref h_now_th_under, .int v_h_now_th_out, .int v_h_now_th_size_z])), (h_now_th_weight, .inl (cI, 12, .inl f_h_now_th_weight_z)), (h_now_th_under, .inl (cI, 12, .inl f_h_now_th_under_z))] H → va_D A [(h, .inr (8, [.ref sr, .ref h_now, .ref h_kept, .ref h_planner, .ref h_floating, .ref h_planks, .int v_h_keptSize])), (h_now, .inr (4, [.ref sr, .ref h_now_th, .ref h_now_ta, .ref h_now_se, .int v_h_now_hour, .int v_h_now_heel, .int v_h_now_water, .int v_h_now_pitch, .int v_h_now_boatUsed, .int v_h_now_heelWent, .int v_h_now_pitchTaken, .int v_h_now_hoursOfMen, .int v_h_now_parted, .int v_h_now_moved])), (h_now_th, .inr (7, [.ref h_now_th_weight, .ref h_now_th_under, .int v_h_now_th_out, .int v_h_now_th_size_z])), (h_now_th_weight, .inl (cI, 12, .inl f_h_now_th_weight_z)), (h_now_th_under, .inl (cI, 12, .inl f_h_now_th_under_z))] → va_S A s.heap H locs → narrow .int (.int r_z) = .int r_z → decode cX8_thing pc = .ok (.ireturn, 1) → W p l e rm_X8_thing s m args below meth c H locs 0 0 Q (F0 m pc ls [.int r_z]) := by
    intro r_z v_h_now_th_size_z f_h_now_th_weight_z f_h_now_th_under_z hz H locs ls pc hP hD hS hn hd
    cases hz
    exact k_iret hx hb hr hlocks hn hK hP hD hS hQ rfl hd
  unfold p_X8_thing at hf
  refine lv_aload_n hx hb dX8_thing_0 rfl (lv_at hl 0 rfl) ?_
  refine k_get (C := RX8) (T := TX8) (N := 7) hx hb hts inX8 hown hK hP 0 rfl rfl 1 (by decide) rfl wl1 rfl dX8_thing_1 ?_
  refine k_get (C := RX4) (T := TX4) (N := 14) hx hb hts inX4 hown hK hP 1 rfl rfl 1 (by decide) rfl wl2 rfl dX8_thing_4 ?_
  refine lv_astore_n (lv' := [(3, .ref h_now_th), (0, .ref h), (1, .int a1), (2, .int a2)]) hx hb dX8_thing_7 rfl hl (by decide) rfl (fun ls hl => ?_)
  refine lv_iload_n hx hb dX8_thing_8 rfl (lv_at hl 2 rfl) ?_
  refine lv_iconst (v := 1) hx hb dX8_thing_9 (by decide) ?_
  refine lv_bipush (v := 100) hx hb dX8_thing_10 (by decide) ?_
  obtain ⟨r1, hc1, hf⟩ := k_b1_some hf
  refine k_SiR (As := [.int a1, .int 1, .int 100]) (rest := []) S0 (c_X8_within l D cI cZ cJ cS a1 1 100 r1 hc1) (va_cwS 3 hts gX8_thing_X8_within rfl rfl rfl hdS_X8_within ⟨Nat.le_of_ble_eq_true rfl, Nat.le_of_ble_eq_true rfl⟩) hK hP hD hS hA hN [] rfl (by decide) rfl hl.1 rfl (Nat.le_of_ble_eq_true rfl) dX8_thing_12 (fun H locs hP hS => ?_)
  refine lv_if_eq (tgt := 32) hx hb dX8_thing_15 (by decide) (fun c2 => ?_) (fun c2 => ?_)
  · replace hf := k_pos hf c2
    refine lv_iconst (v := (-1)) hx hb dX8_thing_32 (by decide) ?_
    exact hRet _ _ _ _ hf _ _ _ _ hP hD hS rfl dX8_thing_33
  · replace hf := k_neg hf c2
    refine lv_iload_n hx hb dX8_thing_18 rfl (lv_at hl 3 rfl) ?_
    refine lv_iconst (v := (-1)) hx hb dX8_thing_19 (by decide) ?_
    refine lv_aload_n hx hb dX8_thing_20 rfl (lv_at hl 0 rfl) ?_
    refine k_get (C := RX7) (T := TX7) (N := 4) hx hb hts inX7 hown hK hP 2 rfl rfl 3 (by decide) rfl wl3 rfl dX8_thing_21 ?_
    refine lv_iconst (v := 1) hx hb dX8_thing_24 (by decide) ?_
    refine lv_isub hx hb dX8_thing_25 ?_
    obtain ⟨r3, hc3, hf⟩ := k_b1_some hf
    refine k_SiR (As := [.int a2, .int (-1), .int (v_h_now_th_size - 1)]) (rest := []) S0 (c_X8_within l D cI cZ cJ cS a2 (-1) (v_h_now_th_size - 1) r3 hc3) (va_cwS 3 hts gX8_thing_X8_within rfl rfl rfl hdS_X8_within ⟨Nat.le_of_ble_eq_true rfl, Nat.le_of_ble_eq_true rfl⟩) hK hP hD hS hA hN [] rfl (by decide) rfl hl.1 rfl (Nat.le_of_ble_eq_true rfl) dX8_thing_26 (fun H locs hP hS => ?_)
    refine lv_if_ne (tgt := 34) hx hb dX8_thing_29 (by decide) (fun c4 => ?_) (fun c4 => ?_)
    · replace hf := k_neg hf c4
      refine lv_iload_n hx hb dX8_thing_34 rfl (lv_at hl 3 rfl) ?_
      refine lv_if_lt (tgt := 52) hx hb dX8_thing_35 (by decide) (fun c5 => ?_) (fun c5 => ?_)
      · replace hf := k_pos hf c5
        refine lv_aload_n hx hb dX8_thing_52 rfl (lv_at hl 0 rfl) ?_
        refine k_get (C := RX7) (T := TX7) (N := 4) hx hb hts inX7 hown hK hP 2 rfl rfl 3 (by decide) rfl wl3 rfl dX8_thing_53 ?_
        refine lv_bipush (v := 12) hx hb dX8_thing_56 (by decide) ?_
        refine lv_icmp_lt (tgt := 66) hx hb dX8_thing_58 (by decide) (fun c6 => ?_) (fun c6 => ?_)
        · replace hf := k_pos hf c6
          refine lv_aload_n hx hb dX8_thing_66 rfl (lv_at hl 0 rfl) ?_
          refine lv_iload_n hx hb dX8_thing_67 rfl (lv_at hl 2 rfl) ?_
          refine lv_iload_n hx hb dX8_thing_68 rfl (lv_at hl 3 rfl) ?_
          obtain ⟨r7, w_h_now_th_size_8, w_h_now_th_weight_9, w_h_now_th_under_10, hc10, hf⟩ := k_b4_some hf
          refine k_Vi (ws2 := [(h, .inr (8, [.ref sr, .ref h_now, .ref h_kept, .ref h_planner, .ref h_floating, .ref h_planks, .int v_h_keptSize])), (h_now, .inr (4, [.ref sr, .ref h_now_th, .ref h_now_ta, .ref h_now_se, .int v_h_now_hour, .int v_h_now_heel, .int v_h_now_water, .int v_h_now_pitch, .int v_h_now_boatUsed, .int v_h_now_heelWent, .int v_h_now_pitchTaken, .int v_h_now_hoursOfMen, .int v_h_now_parted, .int v_h_now_moved])), (h_now_th, .inr (7, [.ref h_now_th_weight, .ref h_now_th_under, .int v_h_now_th_out, .int w_h_now_th_size_8])), (h_now_th_weight, .inl (cI, 12, .inl w_h_now_th_weight_9)), (h_now_th_under, .inl (cI, 12, .inl w_h_now_th_under_10))]) (q0 := 0) (As := [.int a1, .int a2]) (rest := []) S0 (c_X7_add l D cI cZ cJ cS h_now_th h_now_th_weight h_now_th_under v_h_now_th_out v_h_now_th_size f_h_now_th_weight f_h_now_th_under a1 a2 r7 w_h_now_th_size_8 w_h_now_th_weight_9 w_h_now_th_under_10 hc10) (cwV 2 hts gX8_thing_X7_add rfl rfl rfl hdV_X7_add ⟨Nat.le_of_ble_eq_true rfl, Nat.le_of_ble_eq_true rfl⟩) hK hP hD hS hA hN [2, 3, 4] rfl (by decide) rfl rfl rfl rfl hl.1 rfl (Nat.le_of_ble_eq_true rfl) rfl rfl rfl dX8_thing_69 (fun H locs hP hD hS => ?_)
          exact hRet _ _ _ _ hf _ _ _ _ hP hD hS rfl dX8_thing_72
        · replace hf := k_neg hf c6
          refine lv_bipush (v := (-3)) hx hb dX8_thing_61 (by decide) ?_
          refine lv_goto (tgt := 72) hx hb dX8_thing_63 (by decide) ?_
          exact hRet _ _ _ _ hf _ _ _ _ hP hD hS rfl dX8_thing_72
      · replace hf := k_neg hf c5
        refine lv_aload_n hx hb dX8_thing_38 rfl (lv_at hl 0 rfl) ?_
        refine k_get (C := RX7) (T := TX7) (N := 4) hx hb hts inX7 hown hK hP 2 rfl rfl 2 (by decide) rfl wl4 rfl dX8_thing_39 ?_
        refine lv_iload_n hx hb dX8_thing_42 rfl (lv_at hl 3 rfl) ?_
        obtain ⟨r11, hc11, hf⟩ := k_b1_some hf
        refine k_SiR (As := [.int v_h_now_th_out, .int a2]) (rest := []) S0 (c_X8_hasBit l D cI cZ cJ cS v_h_now_th_out a2 r11 hc11) (va_cwS 2 hts gX8_thing_X8_hasBit rfl rfl rfl hdS_X8_hasBit ⟨Nat.le_of_ble_eq_true rfl, Nat.le_of_ble_eq_true rfl⟩) hK hP hD hS hA hN [] rfl (by decide) rfl hl.1 rfl (Nat.le_of_ble_eq_true rfl) dX8_thing_43 (fun H locs hP hS => ?_)
        refine lv_if_eq (tgt := 52) hx hb dX8_thing_46 (by decide) (fun c12 => ?_) (fun c12 => ?_)
        · replace hf := k_pos hf c12
          refine lv_aload_n hx hb dX8_thing_52 rfl (lv_at hl 0 rfl) ?_
          refine k_get (C := RX7) (T := TX7) (N := 4) hx hb hts inX7 hown hK hP 2 rfl rfl 3 (by decide) rfl wl3 rfl dX8_thing_53 ?_
          refine lv_bipush (v := 12) hx hb dX8_thing_56 (by decide) ?_
          refine lv_icmp_lt (tgt := 66) hx hb dX8_thing_58 (by decide) (fun c13 => ?_) (fun c13 => ?_)
          · replace hf := k_pos hf c13
            refine lv_aload_n hx hb dX8_thing_66 rfl (lv_at hl 0 rfl) ?_
            refine lv_iload_n hx hb dX8_thing_67 rfl (lv_at hl 2 rfl) ?_
            refine lv_iload_n hx hb dX8_thing_68 rfl (lv_at hl 3 rfl) ?_
            obtain ⟨r14, w_h_now_th_size_15, w_h_now_th_weight_16, w_h_now_th_under_17, hc17, hf⟩ := k_b4_some hf
            refine k_Vi (ws2 := [(h, .inr (8, [.ref sr, .ref h_now, .ref h_kept, .ref h_planner, .ref h_floating, .ref h_planks, .int v_h_keptSize])), (h_now, .inr (4, [.ref sr, .ref h_now_th, .ref h_now_ta, .ref h_now_se, .int v_h_now_hour, .int v_h_now_heel, .int v_h_now_water, .int v_h_now_pitch, .int v_h_now_boatUsed, .int v_h_now_heelWent, .int v_h_now_pitchTaken, .int v_h_now_hoursOfMen, .int v_h_now_parted, .int v_h_now_moved])), (h_now_th, .inr (7, [.ref h_now_th_weight, .ref h_now_th_under, .int v_h_now_th_out, .int w_h_now_th_size_15])), (h_now_th_weight, .inl (cI, 12, .inl w_h_now_th_weight_16)), (h_now_th_under, .inl (cI, 12, .inl w_h_now_th_under_17))]) (q0 := 0) (As := [.int a1, .int a2]) (rest := []) S0 (c_X7_add l D cI cZ cJ cS h_now_th h_now_th_weight h_now_th_under v_h_now_th_out v_h_now_th_size f_h_now_th_weight f_h_now_th_under a1 a2 r14 w_h_now_th_size_15 w_h_now_th_weight_16 w_h_now_th_under_17 hc17) (cwV 2 hts gX8_thing_X7_add rfl rfl rfl hdV_X7_add ⟨Nat.le_of_ble_eq_true rfl, Nat.le_of_ble_eq_true rfl⟩) hK hP hD hS hA hN [2, 3, 4] rfl (by decide) rfl rfl rfl rfl hl.1 rfl (Nat.le_of_ble_eq_true rfl) rfl rfl rfl dX8_thing_69 (fun H locs hP hD hS => ?_)
            exact hRet _ _ _ _ hf _ _ _ _ hP hD hS rfl dX8_thing_72
          · replace hf := k_neg hf c13
            refine lv_bipush (v := (-3)) hx hb dX8_thing_61 (by decide) ?_
            refine lv_goto (tgt := 72) hx hb dX8_thing_63 (by decide) ?_
            exact hRet _ _ _ _ hf _ _ _ _ hP hD hS rfl dX8_thing_72
        · replace hf := k_neg hf c12
          refine lv_bipush (v := (-2)) hx hb dX8_thing_49 (by decide) ?_
          exact hRet _ _ _ _ hf _ _ _ _ hP hD hS rfl dX8_thing_51
    · replace hf := k_pos hf c4
      refine lv_iconst (v := (-1)) hx hb dX8_thing_32 (by decide) ?_
      exact hRet _ _ _ _ hf _ _ _ _ hP hD hS rfl dX8_thing_33

def p_X8_tackle (v_h_now_ta_whole : Int32) (v_h_now_ta_size : Int32) (f_h_now_ta_mast : Nat → Int32) (f_h_now_ta_parts : Nat → Int32) (f_h_now_ta_strength : Nat → Int32) (a1 : Int32) (a2 : Int32) (a3 : Int32) : Option (Int32 × Int32 × Int32 × (Nat → Int32) × (Nat → Int32) × (Nat → Int32)) :=
  k_b1 (p_X8_within a1 0 2) fun r1 =>
  if r1 = 0 then
    some ((-1), v_h_now_ta_whole, v_h_now_ta_size, f_h_now_ta_mast, f_h_now_ta_parts, f_h_now_ta_strength)
  else
    k_b1 (p_X8_within a2 1 6) fun r3 =>
    if r3 = 0 then
      some ((-1), v_h_now_ta_whole, v_h_now_ta_size, f_h_now_ta_mast, f_h_now_ta_parts, f_h_now_ta_strength)
    else
      k_b1 (p_X8_within a3 1 400) fun r5 =>
      if r5 = 0 then
        some ((-1), v_h_now_ta_whole, v_h_now_ta_size, f_h_now_ta_mast, f_h_now_ta_parts, f_h_now_ta_strength)
      else
        if v_h_now_ta_size < 6 then
          k_b6 (p_X6_add v_h_now_ta_whole v_h_now_ta_size f_h_now_ta_mast f_h_now_ta_parts f_h_now_ta_strength a1 a2 a3) fun r8 w_h_now_ta_whole_9 w_h_now_ta_size_10 w_h_now_ta_mast_11 w_h_now_ta_parts_12 w_h_now_ta_strength_13 =>
          some (r8, w_h_now_ta_whole_9, w_h_now_ta_size_10, w_h_now_ta_mast_11, w_h_now_ta_parts_12, w_h_now_ta_strength_13)
        else
          some ((-3), v_h_now_ta_whole, v_h_now_ta_size, f_h_now_ta_mast, f_h_now_ta_parts, f_h_now_ta_strength)
abbrev rm_X8_tackle : Room := { frames := 1, cells := 0, slots := 0, locals := 23 }
theorem hdS_X8_tackle : yX8_tackle.cls ≠ "java/lang/invoke/MethodHandle" ∧ yX8_tackle.cls ≠ "java/lang/invoke/VarHandle" ∧ (parseMethodDescriptor yX8_tackle.desc).map (fun d => d.parameters.length) = some 3 := by decide +kernel
theorem hdV_X8_tackle : yX8_tackle.cls = RX8 ∧ yX8_tackle.cls ≠ "java/lang/invoke/MethodHandle" ∧ yX8_tackle.cls ≠ "java/lang/invoke/VarHandle" ∧ (parseMethodDescriptor yX8_tackle.desc).map (fun d => d.parameters.length) = some 3 := by decide +kernel
set_option maxHeartbeats 4000000 in
set_option maxRecDepth 100000 in
theorem c_X8_tackle (l : Launch) (D : va_G) (cI cZ cJ cS : ClassId) (h sr h_now h_kept h_planner h_floating h_planks h_now_th h_now_ta h_now_se h_now_ta_mast h_now_ta_parts h_now_ta_strength : Nat) (v_h_keptSize : Int32) (v_h_now_hour : Int32) (v_h_now_heel : Int32) (v_h_now_water : Int32) (v_h_now_pitch : Int32) (v_h_now_boatUsed : Int32) (v_h_now_heelWent : Int32) (v_h_now_pitchTaken : Int32) (v_h_now_hoursOfMen : Int32) (v_h_now_parted : Int32) (v_h_now_moved : Int32) (v_h_now_ta_whole : Int32) (v_h_now_ta_size : Int32) (f_h_now_ta_mast : Nat → Int32) (f_h_now_ta_parts : Nat → Int32) (f_h_now_ta_strength : Nat → Int32) (a1 : Int32) (a2 : Int32) (a3 : Int32) (r : Int32) (v_h_now_ta_whole' : Int32) (v_h_now_ta_size' : Int32) (f_h_now_ta_mast' : Nat → Int32) (f_h_now_ta_parts' : Nat → Int32) (f_h_now_ta_strength' : Nat → Int32) (hf : p_X8_tackle v_h_now_ta_whole v_h_now_ta_size f_h_now_ta_mast f_h_now_ta_parts f_h_now_ta_strength a1 a2 a3 = some (r, v_h_now_ta_whole', v_h_now_ta_size', f_h_now_ta_mast', f_h_now_ta_parts', f_h_now_ta_strength')) : k_MI l yX8_tackle wsX8_tackle rm_X8_tackle D (k_tys cI cZ cJ cS) [.ref h, .int a1, .int a2, .int a3] [(h, .inr (8, [.ref sr, .ref h_now, .ref h_kept, .ref h_planner, .ref h_floating, .ref h_planks, .int v_h_keptSize])), (h_now, .inr (4, [.ref sr, .ref h_now_th, .ref h_now_ta, .ref h_now_se, .int v_h_now_hour, .int v_h_now_heel, .int v_h_now_water, .int v_h_now_pitch, .int v_h_now_boatUsed, .int v_h_now_heelWent, .int v_h_now_pitchTaken, .int v_h_now_hoursOfMen, .int v_h_now_parted, .int v_h_now_moved])), (h_now_ta, .inr (6, [.ref h_now_ta_mast, .ref h_now_ta_parts, .ref h_now_ta_strength, .int v_h_now_ta_whole, .int v_h_now_ta_size])), (h_now_ta_mast, .inl (cI, 6, .inl f_h_now_ta_mast)), (h_now_ta_parts, .inl (cI, 6, .inl f_h_now_ta_parts)), (h_now_ta_strength, .inl (cI, 6, .inl f_h_now_ta_strength))] [(h, .inr (8, [.ref sr, .ref h_now, .ref h_kept, .ref h_planner, .ref h_floating, .ref h_planks, .int v_h_keptSize])), (h_now, .inr (4, [.ref sr, .ref h_now_th, .ref h_now_ta, .ref h_now_se, .int v_h_now_hour, .int v_h_now_heel, .int v_h_now_water, .int v_h_now_pitch, .int v_h_now_boatUsed, .int v_h_now_heelWent, .int v_h_now_pitchTaken, .int v_h_now_hoursOfMen, .int v_h_now_parted, .int v_h_now_moved])), (h_now_ta, .inr (6, [.ref h_now_ta_mast, .ref h_now_ta_parts, .ref h_now_ta_strength, .int v_h_now_ta_whole', .int v_h_now_ta_size'])), (h_now_ta_mast, .inl (cI, 6, .inl f_h_now_ta_mast')), (h_now_ta_parts, .inl (cI, 6, .inl f_h_now_ta_parts')), (h_now_ta_strength, .inl (cI, 6, .inl f_h_now_ta_strength'))] r := by
  refine k_enter (y := yX8_tackle) (wl := wsX8_tackle) (rm := rm_X8_tackle) (av := [.ref h, .int a1, .int a2, .int a3]) (D := D) (tys := k_tys cI cZ cJ cS) (ws := [(h, .inr (8, [.ref sr, .ref h_now, .ref h_kept, .ref h_planner, .ref h_floating, .ref h_planks, .int v_h_keptSize])), (h_now, .inr (4, [.ref sr, .ref h_now_th, .ref h_now_ta, .ref h_now_se, .int v_h_now_hour, .int v_h_now_heel, .int v_h_now_water, .int v_h_now_pitch, .int v_h_now_boatUsed, .int v_h_now_heelWent, .int v_h_now_pitchTaken, .int v_h_now_hoursOfMen, .int v_h_now_parted, .int v_h_now_moved])), (h_now_ta, .inr (6, [.ref h_now_ta_mast, .ref h_now_ta_parts, .ref h_now_ta_strength, .int v_h_now_ta_whole, .int v_h_now_ta_size])), (h_now_ta_mast, .inl (cI, 6, .inl f_h_now_ta_mast)), (h_now_ta_parts, .inl (cI, 6, .inl f_h_now_ta_parts)), (h_now_ta_strength, .inl (cI, 6, .inl f_h_now_ta_strength))]) (cc := cX8_tackle) (maxL := 4) (ret := (some .int)) (Qc := fun A => k_Qi D (k_tys cI cZ cJ cS) [(h, .inr (8, [.ref sr, .ref h_now, .ref h_kept, .ref h_planner, .ref h_floating, .ref h_planks, .int v_h_keptSize])), (h_now, .inr (4, [.ref sr, .ref h_now_th, .ref h_now_ta, .ref h_now_se, .int v_h_now_hour, .int v_h_now_heel, .int v_h_now_water, .int v_h_now_pitch, .int v_h_now_boatUsed, .int v_h_now_heelWent, .int v_h_now_pitchTaken, .int v_h_now_hoursOfMen, .int v_h_now_parted, .int v_h_now_moved])), (h_now_ta, .inr (6, [.ref h_now_ta_mast, .ref h_now_ta_parts, .ref h_now_ta_strength, .int v_h_now_ta_whole', .int v_h_now_ta_size'])), (h_now_ta_mast, .inl (cI, 6, .inl f_h_now_ta_mast')), (h_now_ta_parts, .inl (cI, 6, .inl f_h_now_ta_parts')), (h_now_ta_strength, .inl (cI, 6, .inl f_h_now_ta_strength'))] A r) (by decide) rfl (Nat.le_of_ble_eq_true rfl) [(0, .ref h), (1, .int a1), (2, .int a2), (3, .int a3)] rfl ?_
  intro p e s m below meth c A hx hb hml hr hlocks hnm hown hK hP hD hA hS hN ls args Q hts hl hQ
  replace hown : s.vm.findClass RX8 = some m.cls := hown
  have S0 : CallFix p m c cX8_tackle 4 s args wsX8_tackle RX8 := ⟨hx, hb, hml, hown, hts⟩
  have inX8 : ∀ w ∈ u_ws RX8 TX8 7, w ∈ wsX8_tackle := fun w h => List.mem_cons_of_mem _ (List.mem_append_left _ (List.mem_append_left _ (List.mem_append_right _ h)))
  have inX4 : ∀ w ∈ u_ws RX4 TX4 14, w ∈ wsX8_tackle := fun w h => List.mem_cons_of_mem _ (List.mem_append_left _ (List.mem_append_right _ h))
  have inX6 : ∀ w ∈ u_ws RX6 TX6 5, w ∈ wsX8_tackle := fun w h => List.mem_cons_of_mem _ (List.mem_append_right _ h)
  have wl1 : (Cond.fieldLink RX8 21 "BeachedShip" "now" "LBeachedShip$Ship;").before args s = true := hts _ (List.mem_of_getElem? (i := 1) rfl)
  have wl2 : (Cond.fieldLink RX8 112 "BeachedShip$Ship" "tackles" "LBeachedShip$Tackles;").before args s = true := hts _ (List.mem_of_getElem? (i := 2) rfl)
  have wl3 : (Cond.fieldLink RX8 116 "BeachedShip$Tackles" "size" "I").before args s = true := hts _ (List.mem_of_getElem? (i := 3) rfl)
  have hRet : ∀ (r_z : Int32) (v_h_now_ta_whole_z : Int32) (v_h_now_ta_size_z : Int32) (f_h_now_ta_mast_z : Nat → Int32) (f_h_now_ta_parts_z : Nat → Int32) (f_h_now_ta_strength_z : Nat → Int32), some (r_z, v_h_now_ta_whole_z, v_h_now_ta_size_z, f_h_now_ta_mast_z, f_h_now_ta_parts_z, f_h_now_ta_strength_z) = some (r, v_h_now_ta_whole', v_h_now_ta_size', f_h_now_ta_mast', f_h_now_ta_parts', f_h_now_ta_strength') → ∀ (H : Heap) (locs : List Loc) (ls : Array Slot) (pc : Nat), va_P D vwCl [(h, .inr (8, [.ref sr, .ref h_now, .ref h_kept, .ref h_planner, .ref h_floating, .ref h_planks, .int v_h_keptSize])), (h_now, .inr (4, [.ref sr, .ref h_now_th, .ref h_now_ta, .ref h_now_se, .int v_h_now_hour, .int v_h_now_heel, .int v_h_now_water, .int v_h_now_pitch, .int v_h_now_boatUsed, .int v_h_now_heelWent, .int v_h_now_pitchTaken, .int v_h_now_hoursOfMen, .int v_h_now_parted, .int v_h_now_moved])), (h_now_ta, .inr (6, [.ref h_now_ta_mast, .ref h_now_ta_parts, .ref h_now_ta_strength, .int v_h_now_ta_whole_z, .int v_h_now_ta_size_z])), (h_now_ta_mast, .inl (cI, 6, .inl f_h_now_ta_mast_z)), (h_now_ta_parts, .inl (cI, 6, .inl f_h_now_ta_parts_z)), (h_now_ta_strength, .inl (cI, 6, .inl f_h_now_ta_strength_z))] H → va_D A [(h, .inr (8, [.ref sr, .ref h_now, .ref h_kept, .ref h_planner, .ref h_floating, .ref h_planks, .int v_h_keptSize])), (h_now, .inr (4, [.ref sr, .ref h_now_th, .ref h_now_ta, .ref h_now_se, .int v_h_now_hour, .int v_h_now_heel, .int v_h_now_water, .int v_h_now_pitch, .int v_h_now_boatUsed, .int v_h_now_heelWent, .int v_h_now_pitchTaken, .int v_h_now_hoursOfMen, .int v_h_now_parted, .int v_h_now_moved])), (h_now_ta, .inr (6, [.ref h_now_ta_mast, .ref h_now_ta_parts, .ref h_now_ta_strength, .int v_h_now_ta_whole_z, .int v_h_now_ta_size_z])), (h_now_ta_mast, .inl (cI, 6, .inl f_h_now_ta_mast_z)), (h_now_ta_parts, .inl (cI, 6, .inl f_h_now_ta_parts_z)), (h_now_ta_strength, .inl (cI, 6, .inl f_h_now_ta_strength_z))] → va_S A s.heap H locs → narrow .int (.int r_z) = .int r_z → decode cX8_tackle pc = .ok (.ireturn, 1) → W p l e rm_X8_tackle s m args below meth c H locs 0 0 Q (F0 m pc ls [.int r_z]) := by
    intro r_z v_h_now_ta_whole_z v_h_now_ta_size_z f_h_now_ta_mast_z f_h_now_ta_parts_z f_h_now_ta_strength_z hz H locs ls pc hP hD hS hn hd
    cases hz
    exact k_iret hx hb hr hlocks hn hK hP hD hS hQ rfl hd
  unfold p_X8_tackle at hf
  refine lv_iload_n hx hb dX8_tackle_0 rfl (lv_at hl 1 rfl) ?_
  refine lv_iconst (v := 0) hx hb dX8_tackle_1 (by decide) ?_
  refine lv_iconst (v := 2) hx hb dX8_tackle_2 (by decide) ?_
  obtain ⟨r1, hc1, hf⟩ := k_b1_some hf
  refine k_SiR (As := [.int a1, .int 0, .int 2]) (rest := []) S0 (c_X8_within l D cI cZ cJ cS a1 0 2 r1 hc1) (va_cwS 3 hts gX8_tackle_X8_within rfl rfl rfl hdS_X8_within ⟨Nat.le_of_ble_eq_true rfl, Nat.le_of_ble_eq_true rfl⟩) hK hP hD hS hA hN [] rfl (by decide) rfl hl.1 rfl (Nat.le_of_ble_eq_true rfl) dX8_tackle_3 (fun H locs hP hS => ?_)
  refine lv_if_eq (tgt := 30) hx hb dX8_tackle_6 (by decide) (fun c2 => ?_) (fun c2 => ?_)
  · replace hf := k_pos hf c2
    refine lv_iconst (v := (-1)) hx hb dX8_tackle_30 (by decide) ?_
    exact hRet _ _ _ _ _ _ hf _ _ _ _ hP hD hS rfl dX8_tackle_31
  · replace hf := k_neg hf c2
    refine lv_iload_n hx hb dX8_tackle_9 rfl (lv_at hl 2 rfl) ?_
    refine lv_iconst (v := 1) hx hb dX8_tackle_10 (by decide) ?_
    refine lv_bipush (v := 6) hx hb dX8_tackle_11 (by decide) ?_
    obtain ⟨r3, hc3, hf⟩ := k_b1_some hf
    refine k_SiR (As := [.int a2, .int 1, .int 6]) (rest := []) S0 (c_X8_within l D cI cZ cJ cS a2 1 6 r3 hc3) (va_cwS 3 hts gX8_tackle_X8_within rfl rfl rfl hdS_X8_within ⟨Nat.le_of_ble_eq_true rfl, Nat.le_of_ble_eq_true rfl⟩) hK hP hD hS hA hN [] rfl (by decide) rfl hl.1 rfl (Nat.le_of_ble_eq_true rfl) dX8_tackle_13 (fun H locs hP hS => ?_)
    refine lv_if_eq (tgt := 30) hx hb dX8_tackle_16 (by decide) (fun c4 => ?_) (fun c4 => ?_)
    · replace hf := k_pos hf c4
      refine lv_iconst (v := (-1)) hx hb dX8_tackle_30 (by decide) ?_
      exact hRet _ _ _ _ _ _ hf _ _ _ _ hP hD hS rfl dX8_tackle_31
    · replace hf := k_neg hf c4
      refine lv_iload_n hx hb dX8_tackle_19 rfl (lv_at hl 3 rfl) ?_
      refine lv_iconst (v := 1) hx hb dX8_tackle_20 (by decide) ?_
      refine lv_sipush (v := 400) hx hb dX8_tackle_21 (by decide) ?_
      obtain ⟨r5, hc5, hf⟩ := k_b1_some hf
      refine k_SiR (As := [.int a3, .int 1, .int 400]) (rest := []) S0 (c_X8_within l D cI cZ cJ cS a3 1 400 r5 hc5) (va_cwS 3 hts gX8_tackle_X8_within rfl rfl rfl hdS_X8_within ⟨Nat.le_of_ble_eq_true rfl, Nat.le_of_ble_eq_true rfl⟩) hK hP hD hS hA hN [] rfl (by decide) rfl hl.1 rfl (Nat.le_of_ble_eq_true rfl) dX8_tackle_24 (fun H locs hP hS => ?_)
      refine lv_if_ne (tgt := 32) hx hb dX8_tackle_27 (by decide) (fun c6 => ?_) (fun c6 => ?_)
      · replace hf := k_neg hf c6
        refine lv_aload_n hx hb dX8_tackle_32 rfl (lv_at hl 0 rfl) ?_
        refine k_get (C := RX8) (T := TX8) (N := 7) hx hb hts inX8 hown hK hP 0 rfl rfl 1 (by decide) rfl wl1 rfl dX8_tackle_33 ?_
        refine k_get (C := RX4) (T := TX4) (N := 14) hx hb hts inX4 hown hK hP 1 rfl rfl 2 (by decide) rfl wl2 rfl dX8_tackle_36 ?_
        refine k_get (C := RX6) (T := TX6) (N := 5) hx hb hts inX6 hown hK hP 2 rfl rfl 4 (by decide) rfl wl3 rfl dX8_tackle_39 ?_
        refine lv_bipush (v := 6) hx hb dX8_tackle_42 (by decide) ?_
        refine lv_icmp_lt (tgt := 52) hx hb dX8_tackle_44 (by decide) (fun c7 => ?_) (fun c7 => ?_)
        · replace hf := k_pos hf c7
          refine lv_aload_n hx hb dX8_tackle_52 rfl (lv_at hl 0 rfl) ?_
          refine k_get (C := RX8) (T := TX8) (N := 7) hx hb hts inX8 hown hK hP 0 rfl rfl 1 (by decide) rfl wl1 rfl dX8_tackle_53 ?_
          refine k_get (C := RX4) (T := TX4) (N := 14) hx hb hts inX4 hown hK hP 1 rfl rfl 2 (by decide) rfl wl2 rfl dX8_tackle_56 ?_
          refine lv_iload_n hx hb dX8_tackle_59 rfl (lv_at hl 1 rfl) ?_
          refine lv_iload_n hx hb dX8_tackle_60 rfl (lv_at hl 2 rfl) ?_
          refine lv_iload_n hx hb dX8_tackle_61 rfl (lv_at hl 3 rfl) ?_
          obtain ⟨r8, w_h_now_ta_whole_9, w_h_now_ta_size_10, w_h_now_ta_mast_11, w_h_now_ta_parts_12, w_h_now_ta_strength_13, hc13, hf⟩ := k_b6_some hf
          refine k_Vi (ws2 := [(h, .inr (8, [.ref sr, .ref h_now, .ref h_kept, .ref h_planner, .ref h_floating, .ref h_planks, .int v_h_keptSize])), (h_now, .inr (4, [.ref sr, .ref h_now_th, .ref h_now_ta, .ref h_now_se, .int v_h_now_hour, .int v_h_now_heel, .int v_h_now_water, .int v_h_now_pitch, .int v_h_now_boatUsed, .int v_h_now_heelWent, .int v_h_now_pitchTaken, .int v_h_now_hoursOfMen, .int v_h_now_parted, .int v_h_now_moved])), (h_now_ta, .inr (6, [.ref h_now_ta_mast, .ref h_now_ta_parts, .ref h_now_ta_strength, .int w_h_now_ta_whole_9, .int w_h_now_ta_size_10])), (h_now_ta_mast, .inl (cI, 6, .inl w_h_now_ta_mast_11)), (h_now_ta_parts, .inl (cI, 6, .inl w_h_now_ta_parts_12)), (h_now_ta_strength, .inl (cI, 6, .inl w_h_now_ta_strength_13))]) (q0 := 0) (As := [.int a1, .int a2, .int a3]) (rest := []) S0 (c_X6_add l D cI cZ cJ cS h_now_ta h_now_ta_mast h_now_ta_parts h_now_ta_strength v_h_now_ta_whole v_h_now_ta_size f_h_now_ta_mast f_h_now_ta_parts f_h_now_ta_strength a1 a2 a3 r8 w_h_now_ta_whole_9 w_h_now_ta_size_10 w_h_now_ta_mast_11 w_h_now_ta_parts_12 w_h_now_ta_strength_13 hc13) (cwV 3 hts gX8_tackle_X6_add rfl rfl rfl hdV_X6_add ⟨Nat.le_of_ble_eq_true rfl, Nat.le_of_ble_eq_true rfl⟩) hK hP hD hS hA hN [2, 3, 4, 5] rfl (by decide) rfl rfl rfl rfl hl.1 rfl (Nat.le_of_ble_eq_true rfl) rfl rfl rfl dX8_tackle_62 (fun H locs hP hD hS => ?_)
          exact hRet _ _ _ _ _ _ hf _ _ _ _ hP hD hS rfl dX8_tackle_65
        · replace hf := k_neg hf c7
          refine lv_bipush (v := (-3)) hx hb dX8_tackle_47 (by decide) ?_
          refine lv_goto (tgt := 65) hx hb dX8_tackle_49 (by decide) ?_
          exact hRet _ _ _ _ _ _ hf _ _ _ _ hP hD hS rfl dX8_tackle_65
      · replace hf := k_pos hf c6
        refine lv_iconst (v := (-1)) hx hb dX8_tackle_30 (by decide) ?_
        exact hRet _ _ _ _ _ _ hf _ _ _ _ hP hD hS rfl dX8_tackle_31

def p_X8_seam (v_h_now_se_size : Int32) (f_h_now_se_strake : Nat → Int32) (f_h_now_se_side : Nat → Int32) (f_h_now_se_hands : Nat → Int32) (f_h_now_se_hours : Nat → Int32) (f_h_now_se_pitch : Nat → Int32) (f_h_now_se_worth : Nat → Int32) (f_h_now_se_state : Nat → Int32) (f_h_now_se_done : Nat → Int32) (a1 : Int32) (a2 : Int32) (a3 : Int32) (a4 : Int32) (a5 : Int32) (a6 : Int32) : Option (Int32 × Int32 × (Nat → Int32) × (Nat → Int32) × (Nat → Int32) × (Nat → Int32) × (Nat → Int32) × (Nat → Int32) × (Nat → Int32) × (Nat → Int32)) :=
  k_b1 (p_X8_within a1 1 10) fun r1 =>
  if r1 = 0 then
    some ((-1), v_h_now_se_size, f_h_now_se_strake, f_h_now_se_side, f_h_now_se_hands, f_h_now_se_hours, f_h_now_se_pitch, f_h_now_se_worth, f_h_now_se_state, f_h_now_se_done)
  else
    k_b1 (p_X8_within a2 0 1) fun r3 =>
    if r3 = 0 then
      some ((-1), v_h_now_se_size, f_h_now_se_strake, f_h_now_se_side, f_h_now_se_hands, f_h_now_se_hours, f_h_now_se_pitch, f_h_now_se_worth, f_h_now_se_state, f_h_now_se_done)
    else
      k_b1 (p_X8_within a3 1 6) fun r5 =>
      if r5 = 0 then
        some ((-1), v_h_now_se_size, f_h_now_se_strake, f_h_now_se_side, f_h_now_se_hands, f_h_now_se_hours, f_h_now_se_pitch, f_h_now_se_worth, f_h_now_se_state, f_h_now_se_done)
      else
        k_b1 (p_X8_within a4 1 4) fun r7 =>
        if r7 = 0 then
          some ((-1), v_h_now_se_size, f_h_now_se_strake, f_h_now_se_side, f_h_now_se_hands, f_h_now_se_hours, f_h_now_se_pitch, f_h_now_se_worth, f_h_now_se_state, f_h_now_se_done)
        else
          k_b1 (p_X8_within a5 0 50) fun r9 =>
          if r9 = 0 then
            some ((-1), v_h_now_se_size, f_h_now_se_strake, f_h_now_se_side, f_h_now_se_hands, f_h_now_se_hours, f_h_now_se_pitch, f_h_now_se_worth, f_h_now_se_state, f_h_now_se_done)
          else
            k_b1 (p_X8_within a6 1 100) fun r11 =>
            if r11 = 0 then
              some ((-1), v_h_now_se_size, f_h_now_se_strake, f_h_now_se_side, f_h_now_se_hands, f_h_now_se_hours, f_h_now_se_pitch, f_h_now_se_worth, f_h_now_se_state, f_h_now_se_done)
            else
              if v_h_now_se_size < 12 then
                k_b10 (p_X3_add v_h_now_se_size f_h_now_se_strake f_h_now_se_side f_h_now_se_hands f_h_now_se_hours f_h_now_se_pitch f_h_now_se_worth f_h_now_se_state f_h_now_se_done a1 a2 a3 a4 a5 a6) fun r14 w_h_now_se_size_15 w_h_now_se_strake_16 w_h_now_se_side_17 w_h_now_se_hands_18 w_h_now_se_hours_19 w_h_now_se_pitch_20 w_h_now_se_worth_21 w_h_now_se_state_22 w_h_now_se_done_23 =>
                some (r14, w_h_now_se_size_15, w_h_now_se_strake_16, w_h_now_se_side_17, w_h_now_se_hands_18, w_h_now_se_hours_19, w_h_now_se_pitch_20, w_h_now_se_worth_21, w_h_now_se_state_22, w_h_now_se_done_23)
              else
                some ((-3), v_h_now_se_size, f_h_now_se_strake, f_h_now_se_side, f_h_now_se_hands, f_h_now_se_hours, f_h_now_se_pitch, f_h_now_se_worth, f_h_now_se_state, f_h_now_se_done)
abbrev rm_X8_seam : Room := { frames := 1, cells := 0, slots := 0, locals := 26 }
theorem hdS_X8_seam : yX8_seam.cls ≠ "java/lang/invoke/MethodHandle" ∧ yX8_seam.cls ≠ "java/lang/invoke/VarHandle" ∧ (parseMethodDescriptor yX8_seam.desc).map (fun d => d.parameters.length) = some 6 := by decide +kernel
theorem hdV_X8_seam : yX8_seam.cls = RX8 ∧ yX8_seam.cls ≠ "java/lang/invoke/MethodHandle" ∧ yX8_seam.cls ≠ "java/lang/invoke/VarHandle" ∧ (parseMethodDescriptor yX8_seam.desc).map (fun d => d.parameters.length) = some 6 := by decide +kernel
set_option maxHeartbeats 4000000 in
set_option maxRecDepth 100000 in
theorem c_X8_seam (l : Launch) (D : va_G) (cI cZ cJ cS : ClassId) (h sr h_now h_kept h_planner h_floating h_planks h_now_th h_now_ta h_now_se h_now_se_strake h_now_se_side h_now_se_hands h_now_se_hours h_now_se_pitch h_now_se_worth h_now_se_state h_now_se_done : Nat) (v_h_keptSize : Int32) (v_h_now_hour : Int32) (v_h_now_heel : Int32) (v_h_now_water : Int32) (v_h_now_pitch : Int32) (v_h_now_boatUsed : Int32) (v_h_now_heelWent : Int32) (v_h_now_pitchTaken : Int32) (v_h_now_hoursOfMen : Int32) (v_h_now_parted : Int32) (v_h_now_moved : Int32) (v_h_now_se_size : Int32) (f_h_now_se_strake : Nat → Int32) (f_h_now_se_side : Nat → Int32) (f_h_now_se_hands : Nat → Int32) (f_h_now_se_hours : Nat → Int32) (f_h_now_se_pitch : Nat → Int32) (f_h_now_se_worth : Nat → Int32) (f_h_now_se_state : Nat → Int32) (f_h_now_se_done : Nat → Int32) (a1 : Int32) (a2 : Int32) (a3 : Int32) (a4 : Int32) (a5 : Int32) (a6 : Int32) (r : Int32) (v_h_now_se_size' : Int32) (f_h_now_se_strake' : Nat → Int32) (f_h_now_se_side' : Nat → Int32) (f_h_now_se_hands' : Nat → Int32) (f_h_now_se_hours' : Nat → Int32) (f_h_now_se_pitch' : Nat → Int32) (f_h_now_se_worth' : Nat → Int32) (f_h_now_se_state' : Nat → Int32) (f_h_now_se_done' : Nat → Int32) (hf : p_X8_seam v_h_now_se_size f_h_now_se_strake f_h_now_se_side f_h_now_se_hands f_h_now_se_hours f_h_now_se_pitch f_h_now_se_worth f_h_now_se_state f_h_now_se_done a1 a2 a3 a4 a5 a6 = some (r, v_h_now_se_size', f_h_now_se_strake', f_h_now_se_side', f_h_now_se_hands', f_h_now_se_hours', f_h_now_se_pitch', f_h_now_se_worth', f_h_now_se_state', f_h_now_se_done')) : k_MI l yX8_seam wsX8_seam rm_X8_seam D (k_tys cI cZ cJ cS) [.ref h, .int a1, .int a2, .int a3, .int a4, .int a5, .int a6] [(h, .inr (8, [.ref sr, .ref h_now, .ref h_kept, .ref h_planner, .ref h_floating, .ref h_planks, .int v_h_keptSize])), (h_now, .inr (4, [.ref sr, .ref h_now_th, .ref h_now_ta, .ref h_now_se, .int v_h_now_hour, .int v_h_now_heel, .int v_h_now_water, .int v_h_now_pitch, .int v_h_now_boatUsed, .int v_h_now_heelWent, .int v_h_now_pitchTaken, .int v_h_now_hoursOfMen, .int v_h_now_parted, .int v_h_now_moved])), (h_now_se, .inr (3, [.ref h_now_se_strake, .ref h_now_se_side, .ref h_now_se_hands, .ref h_now_se_hours, .ref h_now_se_pitch, .ref h_now_se_worth, .ref h_now_se_state, .ref h_now_se_done, .int v_h_now_se_size])), (h_now_se_strake, .inl (cI, 12, .inl f_h_now_se_strake)), (h_now_se_side, .inl (cI, 12, .inl f_h_now_se_side)), (h_now_se_hands, .inl (cI, 12, .inl f_h_now_se_hands)), (h_now_se_hours, .inl (cI, 12, .inl f_h_now_se_hours)), (h_now_se_pitch, .inl (cI, 12, .inl f_h_now_se_pitch)), (h_now_se_worth, .inl (cI, 12, .inl f_h_now_se_worth)), (h_now_se_state, .inl (cI, 12, .inl f_h_now_se_state)), (h_now_se_done, .inl (cI, 12, .inl f_h_now_se_done))] [(h, .inr (8, [.ref sr, .ref h_now, .ref h_kept, .ref h_planner, .ref h_floating, .ref h_planks, .int v_h_keptSize])), (h_now, .inr (4, [.ref sr, .ref h_now_th, .ref h_now_ta, .ref h_now_se, .int v_h_now_hour, .int v_h_now_heel, .int v_h_now_water, .int v_h_now_pitch, .int v_h_now_boatUsed, .int v_h_now_heelWent, .int v_h_now_pitchTaken, .int v_h_now_hoursOfMen, .int v_h_now_parted, .int v_h_now_moved])), (h_now_se, .inr (3, [.ref h_now_se_strake, .ref h_now_se_side, .ref h_now_se_hands, .ref h_now_se_hours, .ref h_now_se_pitch, .ref h_now_se_worth, .ref h_now_se_state, .ref h_now_se_done, .int v_h_now_se_size'])), (h_now_se_strake, .inl (cI, 12, .inl f_h_now_se_strake')), (h_now_se_side, .inl (cI, 12, .inl f_h_now_se_side')), (h_now_se_hands, .inl (cI, 12, .inl f_h_now_se_hands')), (h_now_se_hours, .inl (cI, 12, .inl f_h_now_se_hours')), (h_now_se_pitch, .inl (cI, 12, .inl f_h_now_se_pitch')), (h_now_se_worth, .inl (cI, 12, .inl f_h_now_se_worth')), (h_now_se_state, .inl (cI, 12, .inl f_h_now_se_state')), (h_now_se_done, .inl (cI, 12, .inl f_h_now_se_done'))] r := by
  refine k_enter (y := yX8_seam) (wl := wsX8_seam) (rm := rm_X8_seam) (av := [.ref h, .int a1, .int a2, .int a3, .int a4, .int a5, .int a6]) (D := D) (tys := k_tys cI cZ cJ cS) (ws := [(h, .inr (8, [.ref sr, .ref h_now, .ref h_kept, .ref h_planner, .ref h_floating, .ref h_planks, .int v_h_keptSize])), (h_now, .inr (4, [.ref sr, .ref h_now_th, .ref h_now_ta, .ref h_now_se, .int v_h_now_hour, .int v_h_now_heel, .int v_h_now_water, .int v_h_now_pitch, .int v_h_now_boatUsed, .int v_h_now_heelWent, .int v_h_now_pitchTaken, .int v_h_now_hoursOfMen, .int v_h_now_parted, .int v_h_now_moved])), (h_now_se, .inr (3, [.ref h_now_se_strake, .ref h_now_se_side, .ref h_now_se_hands, .ref h_now_se_hours, .ref h_now_se_pitch, .ref h_now_se_worth, .ref h_now_se_state, .ref h_now_se_done, .int v_h_now_se_size])), (h_now_se_strake, .inl (cI, 12, .inl f_h_now_se_strake)), (h_now_se_side, .inl (cI, 12, .inl f_h_now_se_side)), (h_now_se_hands, .inl (cI, 12, .inl f_h_now_se_hands)), (h_now_se_hours, .inl (cI, 12, .inl f_h_now_se_hours)), (h_now_se_pitch, .inl (cI, 12, .inl f_h_now_se_pitch)), (h_now_se_worth, .inl (cI, 12, .inl f_h_now_se_worth)), (h_now_se_state, .inl (cI, 12, .inl f_h_now_se_state)), (h_now_se_done, .inl (cI, 12, .inl f_h_now_se_done))]) (cc := cX8_seam) (maxL := 7) (ret := (some .int)) (Qc := fun A => k_Qi D (k_tys cI cZ cJ cS) [(h, .inr (8, [.ref sr, .ref h_now, .ref h_kept, .ref h_planner, .ref h_floating, .ref h_planks, .int v_h_keptSize])), (h_now, .inr (4, [.ref sr, .ref h_now_th, .ref h_now_ta, .ref h_now_se, .int v_h_now_hour, .int v_h_now_heel, .int v_h_now_water, .int v_h_now_pitch, .int v_h_now_boatUsed, .int v_h_now_heelWent, .int v_h_now_pitchTaken, .int v_h_now_hoursOfMen, .int v_h_now_parted, .int v_h_now_moved])), (h_now_se, .inr (3, [.ref h_now_se_strake, .ref h_now_se_side, .ref h_now_se_hands, .ref h_now_se_hours, .ref h_now_se_pitch, .ref h_now_se_worth, .ref h_now_se_state, .ref h_now_se_done, .int v_h_now_se_size'])), (h_now_se_strake, .inl (cI, 12, .inl f_h_now_se_strake')), (h_now_se_side, .inl (cI, 12, .inl f_h_now_se_side')), (h_now_se_hands, .inl (cI, 12, .inl f_h_now_se_hands')), (h_now_se_hours, .inl (cI, 12, .inl f_h_now_se_hours')), (h_now_se_pitch, .inl (cI, 12, .inl f_h_now_se_pitch')), (h_now_se_worth, .inl (cI, 12, .inl f_h_now_se_worth')), (h_now_se_state, .inl (cI, 12, .inl f_h_now_se_state')), (h_now_se_done, .inl (cI, 12, .inl f_h_now_se_done'))] A r) (by decide) rfl (Nat.le_of_ble_eq_true rfl) [(0, .ref h), (1, .int a1), (2, .int a2), (3, .int a3), (4, .int a4), (5, .int a5), (6, .int a6)] rfl ?_
  intro p e s m below meth c A hx hb hml hr hlocks hnm hown hK hP hD hA hS hN ls args Q hts hl hQ
  replace hown : s.vm.findClass RX8 = some m.cls := hown
  have S0 : CallFix p m c cX8_seam 7 s args wsX8_seam RX8 := ⟨hx, hb, hml, hown, hts⟩
  have inX8 : ∀ w ∈ u_ws RX8 TX8 7, w ∈ wsX8_seam := fun w h => List.mem_cons_of_mem _ (List.mem_append_left _ (List.mem_append_left _ (List.mem_append_right _ h)))
  have inX4 : ∀ w ∈ u_ws RX4 TX4 14, w ∈ wsX8_seam := fun w h => List.mem_cons_of_mem _ (List.mem_append_left _ (List.mem_append_right _ h))
  have inX3 : ∀ w ∈ u_ws RX3 TX3 9, w ∈ wsX8_seam := fun w h => List.mem_cons_of_mem _ (List.mem_append_right _ h)
  have wl1 : (Cond.fieldLink RX8 21 "BeachedShip" "now" "LBeachedShip$Ship;").before args s = true := hts _ (List.mem_of_getElem? (i := 1) rfl)
  have wl2 : (Cond.fieldLink RX8 122 "BeachedShip$Ship" "seams" "LBeachedShip$Seams;").before args s = true := hts _ (List.mem_of_getElem? (i := 2) rfl)
  have wl3 : (Cond.fieldLink RX8 126 "BeachedShip$Seams" "size" "I").before args s = true := hts _ (List.mem_of_getElem? (i := 3) rfl)
  have hRet : ∀ (r_z : Int32) (v_h_now_se_size_z : Int32) (f_h_now_se_strake_z : Nat → Int32) (f_h_now_se_side_z : Nat → Int32) (f_h_now_se_hands_z : Nat → Int32) (f_h_now_se_hours_z : Nat → Int32) (f_h_now_se_pitch_z : Nat → Int32) (f_h_now_se_worth_z : Nat → Int32) (f_h_now_se_state_z : Nat → Int32) (f_h_now_se_done_z : Nat → Int32), some (r_z, v_h_now_se_size_z, f_h_now_se_strake_z, f_h_now_se_side_z, f_h_now_se_hands_z, f_h_now_se_hours_z, f_h_now_se_pitch_z, f_h_now_se_worth_z, f_h_now_se_state_z, f_h_now_se_done_z) = some (r, v_h_now_se_size', f_h_now_se_strake', f_h_now_se_side', f_h_now_se_hands', f_h_now_se_hours', f_h_now_se_pitch', f_h_now_se_worth', f_h_now_se_state', f_h_now_se_done') → ∀ (H : Heap) (locs : List Loc) (ls : Array Slot) (pc : Nat), va_P D vwCl [(h, .inr (8, [.ref sr, .ref h_now, .ref h_kept, .ref h_planner, .ref h_floating, .ref h_planks, .int v_h_keptSize])), (h_now, .inr (4, [.ref sr, .ref h_now_th, .ref h_now_ta, .ref h_now_se, .int v_h_now_hour, .int v_h_now_heel, .int v_h_now_water, .int v_h_now_pitch, .int v_h_now_boatUsed, .int v_h_now_heelWent, .int v_h_now_pitchTaken, .int v_h_now_hoursOfMen, .int v_h_now_parted, .int v_h_now_moved])), (h_now_se, .inr (3, [.ref h_now_se_strake, .ref h_now_se_side, .ref h_now_se_hands, .ref h_now_se_hours, .ref h_now_se_pitch, .ref h_now_se_worth, .ref h_now_se_state, .ref h_now_se_done, .int v_h_now_se_size_z])), (h_now_se_strake, .inl (cI, 12, .inl f_h_now_se_strake_z)), (h_now_se_side, .inl (cI, 12, .inl f_h_now_se_side_z)), (h_now_se_hands, .inl (cI, 12, .inl f_h_now_se_hands_z)), (h_now_se_hours, .inl (cI, 12, .inl f_h_now_se_hours_z)), (h_now_se_pitch, .inl (cI, 12, .inl f_h_now_se_pitch_z)), (h_now_se_worth, .inl (cI, 12, .inl f_h_now_se_worth_z)), (h_now_se_state, .inl (cI, 12, .inl f_h_now_se_state_z)), (h_now_se_done, .inl (cI, 12, .inl f_h_now_se_done_z))] H → va_D A [(h, .inr (8, [.ref sr, .ref h_now, .ref h_kept, .ref h_planner, .ref h_floating, .ref h_planks, .int v_h_keptSize])), (h_now, .inr (4, [.ref sr, .ref h_now_th, .ref h_now_ta, .ref h_now_se, .int v_h_now_hour, .int v_h_now_heel, .int v_h_now_water, .int v_h_now_pitch, .int v_h_now_boatUsed, .int v_h_now_heelWent, .int v_h_now_pitchTaken, .int v_h_now_hoursOfMen, .int v_h_now_parted, .int v_h_now_moved])), (h_now_se, .inr (3, [.ref h_now_se_strake, .ref h_now_se_side, .ref h_now_se_hands, .ref h_now_se_hours, .ref h_now_se_pitch, .ref h_now_se_worth, .ref h_now_se_state, .ref h_now_se_done, .int v_h_now_se_size_z])), (h_now_se_strake, .inl (cI, 12, .inl f_h_now_se_strake_z)), (h_now_se_side, .inl (cI, 12, .inl f_h_now_se_side_z)), (h_now_se_hands, .inl (cI, 12, .inl f_h_now_se_hands_z)), (h_now_se_hours, .inl (cI, 12, .inl f_h_now_se_hours_z)), (h_now_se_pitch, .inl (cI, 12, .inl f_h_now_se_pitch_z)), (h_now_se_worth, .inl (cI, 12, .inl f_h_now_se_worth_z)), (h_now_se_state, .inl (cI, 12, .inl f_h_now_se_state_z)), (h_now_se_done, .inl (cI, 12, .inl f_h_now_se_done_z))] → va_S A s.heap H locs → narrow .int (.int r_z) = .int r_z → decode cX8_seam pc = .ok (.ireturn, 1) → W p l e rm_X8_seam s m args below meth c H locs 0 0 Q (F0 m pc ls [.int r_z]) := by
    intro r_z v_h_now_se_size_z f_h_now_se_strake_z f_h_now_se_side_z f_h_now_se_hands_z f_h_now_se_hours_z f_h_now_se_pitch_z f_h_now_se_worth_z f_h_now_se_state_z f_h_now_se_done_z hz H locs ls pc hP hD hS hn hd
    cases hz
    exact k_iret hx hb hr hlocks hn hK hP hD hS hQ rfl hd
  unfold p_X8_seam at hf
  refine lv_iload_n hx hb dX8_seam_0 rfl (lv_at hl 1 rfl) ?_
  refine lv_iconst (v := 1) hx hb dX8_seam_1 (by decide) ?_
  refine lv_bipush (v := 10) hx hb dX8_seam_2 (by decide) ?_
  obtain ⟨r1, hc1, hf⟩ := k_b1_some hf
  refine k_SiR (As := [.int a1, .int 1, .int 10]) (rest := []) S0 (c_X8_within l D cI cZ cJ cS a1 1 10 r1 hc1) (va_cwS 3 hts gX8_seam_X8_within rfl rfl rfl hdS_X8_within ⟨Nat.le_of_ble_eq_true rfl, Nat.le_of_ble_eq_true rfl⟩) hK hP hD hS hA hN [] rfl (by decide) rfl hl.1 rfl (Nat.le_of_ble_eq_true rfl) dX8_seam_4 (fun H locs hP hS => ?_)
  refine lv_if_eq (tgt := 29) hx hb dX8_seam_7 (by decide) (fun c2 => ?_) (fun c2 => ?_)
  · replace hf := k_pos hf c2
    refine lv_iconst (v := (-1)) hx hb dX8_seam_29 (by decide) ?_
    exact hRet _ _ _ _ _ _ _ _ _ _ hf _ _ _ _ hP hD hS rfl dX8_seam_30
  · replace hf := k_neg hf c2
    refine lv_iload_n hx hb dX8_seam_10 rfl (lv_at hl 2 rfl) ?_
    refine lv_iconst (v := 0) hx hb dX8_seam_11 (by decide) ?_
    refine lv_iconst (v := 1) hx hb dX8_seam_12 (by decide) ?_
    obtain ⟨r3, hc3, hf⟩ := k_b1_some hf
    refine k_SiR (As := [.int a2, .int 0, .int 1]) (rest := []) S0 (c_X8_within l D cI cZ cJ cS a2 0 1 r3 hc3) (va_cwS 3 hts gX8_seam_X8_within rfl rfl rfl hdS_X8_within ⟨Nat.le_of_ble_eq_true rfl, Nat.le_of_ble_eq_true rfl⟩) hK hP hD hS hA hN [] rfl (by decide) rfl hl.1 rfl (Nat.le_of_ble_eq_true rfl) dX8_seam_13 (fun H locs hP hS => ?_)
    refine lv_if_eq (tgt := 29) hx hb dX8_seam_16 (by decide) (fun c4 => ?_) (fun c4 => ?_)
    · replace hf := k_pos hf c4
      refine lv_iconst (v := (-1)) hx hb dX8_seam_29 (by decide) ?_
      exact hRet _ _ _ _ _ _ _ _ _ _ hf _ _ _ _ hP hD hS rfl dX8_seam_30
    · replace hf := k_neg hf c4
      refine lv_iload_n hx hb dX8_seam_19 rfl (lv_at hl 3 rfl) ?_
      refine lv_iconst (v := 1) hx hb dX8_seam_20 (by decide) ?_
      refine lv_bipush (v := 6) hx hb dX8_seam_21 (by decide) ?_
      obtain ⟨r5, hc5, hf⟩ := k_b1_some hf
      refine k_SiR (As := [.int a3, .int 1, .int 6]) (rest := []) S0 (c_X8_within l D cI cZ cJ cS a3 1 6 r5 hc5) (va_cwS 3 hts gX8_seam_X8_within rfl rfl rfl hdS_X8_within ⟨Nat.le_of_ble_eq_true rfl, Nat.le_of_ble_eq_true rfl⟩) hK hP hD hS hA hN [] rfl (by decide) rfl hl.1 rfl (Nat.le_of_ble_eq_true rfl) dX8_seam_23 (fun H locs hP hS => ?_)
      refine lv_if_ne (tgt := 31) hx hb dX8_seam_26 (by decide) (fun c6 => ?_) (fun c6 => ?_)
      · replace hf := k_neg hf c6
        refine lv_iload hx hb dX8_seam_31 (lv_at hl 4 rfl) ?_
        refine lv_iconst (v := 1) hx hb dX8_seam_33 (by decide) ?_
        refine lv_iconst (v := 4) hx hb dX8_seam_34 (by decide) ?_
        obtain ⟨r7, hc7, hf⟩ := k_b1_some hf
        refine k_SiR (As := [.int a4, .int 1, .int 4]) (rest := []) S0 (c_X8_within l D cI cZ cJ cS a4 1 4 r7 hc7) (va_cwS 3 hts gX8_seam_X8_within rfl rfl rfl hdS_X8_within ⟨Nat.le_of_ble_eq_true rfl, Nat.le_of_ble_eq_true rfl⟩) hK hP hD hS hA hN [] rfl (by decide) rfl hl.1 rfl (Nat.le_of_ble_eq_true rfl) dX8_seam_35 (fun H locs hP hS => ?_)
        refine lv_if_eq (tgt := 63) hx hb dX8_seam_38 (by decide) (fun c8 => ?_) (fun c8 => ?_)
        · replace hf := k_pos hf c8
          refine lv_iconst (v := (-1)) hx hb dX8_seam_63 (by decide) ?_
          exact hRet _ _ _ _ _ _ _ _ _ _ hf _ _ _ _ hP hD hS rfl dX8_seam_64
        · replace hf := k_neg hf c8
          refine lv_iload hx hb dX8_seam_41 (lv_at hl 5 rfl) ?_
          refine lv_iconst (v := 0) hx hb dX8_seam_43 (by decide) ?_
          refine lv_bipush (v := 50) hx hb dX8_seam_44 (by decide) ?_
          obtain ⟨r9, hc9, hf⟩ := k_b1_some hf
          refine k_SiR (As := [.int a5, .int 0, .int 50]) (rest := []) S0 (c_X8_within l D cI cZ cJ cS a5 0 50 r9 hc9) (va_cwS 3 hts gX8_seam_X8_within rfl rfl rfl hdS_X8_within ⟨Nat.le_of_ble_eq_true rfl, Nat.le_of_ble_eq_true rfl⟩) hK hP hD hS hA hN [] rfl (by decide) rfl hl.1 rfl (Nat.le_of_ble_eq_true rfl) dX8_seam_46 (fun H locs hP hS => ?_)
          refine lv_if_eq (tgt := 63) hx hb dX8_seam_49 (by decide) (fun c10 => ?_) (fun c10 => ?_)
          · replace hf := k_pos hf c10
            refine lv_iconst (v := (-1)) hx hb dX8_seam_63 (by decide) ?_
            exact hRet _ _ _ _ _ _ _ _ _ _ hf _ _ _ _ hP hD hS rfl dX8_seam_64
          · replace hf := k_neg hf c10
            refine lv_iload hx hb dX8_seam_52 (lv_at hl 6 rfl) ?_
            refine lv_iconst (v := 1) hx hb dX8_seam_54 (by decide) ?_
            refine lv_bipush (v := 100) hx hb dX8_seam_55 (by decide) ?_
            obtain ⟨r11, hc11, hf⟩ := k_b1_some hf
            refine k_SiR (As := [.int a6, .int 1, .int 100]) (rest := []) S0 (c_X8_within l D cI cZ cJ cS a6 1 100 r11 hc11) (va_cwS 3 hts gX8_seam_X8_within rfl rfl rfl hdS_X8_within ⟨Nat.le_of_ble_eq_true rfl, Nat.le_of_ble_eq_true rfl⟩) hK hP hD hS hA hN [] rfl (by decide) rfl hl.1 rfl (Nat.le_of_ble_eq_true rfl) dX8_seam_57 (fun H locs hP hS => ?_)
            refine lv_if_ne (tgt := 65) hx hb dX8_seam_60 (by decide) (fun c12 => ?_) (fun c12 => ?_)
            · replace hf := k_neg hf c12
              refine lv_aload_n hx hb dX8_seam_65 rfl (lv_at hl 0 rfl) ?_
              refine k_get (C := RX8) (T := TX8) (N := 7) hx hb hts inX8 hown hK hP 0 rfl rfl 1 (by decide) rfl wl1 rfl dX8_seam_66 ?_
              refine k_get (C := RX4) (T := TX4) (N := 14) hx hb hts inX4 hown hK hP 1 rfl rfl 3 (by decide) rfl wl2 rfl dX8_seam_69 ?_
              refine k_get (C := RX3) (T := TX3) (N := 9) hx hb hts inX3 hown hK hP 2 rfl rfl 8 (by decide) rfl wl3 rfl dX8_seam_72 ?_
              refine lv_bipush (v := 12) hx hb dX8_seam_75 (by decide) ?_
              refine lv_icmp_lt (tgt := 85) hx hb dX8_seam_77 (by decide) (fun c13 => ?_) (fun c13 => ?_)
              · replace hf := k_pos hf c13
                refine lv_aload_n hx hb dX8_seam_85 rfl (lv_at hl 0 rfl) ?_
                refine k_get (C := RX8) (T := TX8) (N := 7) hx hb hts inX8 hown hK hP 0 rfl rfl 1 (by decide) rfl wl1 rfl dX8_seam_86 ?_
                refine k_get (C := RX4) (T := TX4) (N := 14) hx hb hts inX4 hown hK hP 1 rfl rfl 3 (by decide) rfl wl2 rfl dX8_seam_89 ?_
                refine lv_iload_n hx hb dX8_seam_92 rfl (lv_at hl 1 rfl) ?_
                refine lv_iload_n hx hb dX8_seam_93 rfl (lv_at hl 2 rfl) ?_
                refine lv_iload_n hx hb dX8_seam_94 rfl (lv_at hl 3 rfl) ?_
                refine lv_iload hx hb dX8_seam_95 (lv_at hl 4 rfl) ?_
                refine lv_iload hx hb dX8_seam_97 (lv_at hl 5 rfl) ?_
                refine lv_iload hx hb dX8_seam_99 (lv_at hl 6 rfl) ?_
                obtain ⟨r14, w_h_now_se_size_15, w_h_now_se_strake_16, w_h_now_se_side_17, w_h_now_se_hands_18, w_h_now_se_hours_19, w_h_now_se_pitch_20, w_h_now_se_worth_21, w_h_now_se_state_22, w_h_now_se_done_23, hc23, hf⟩ := k_b10_some hf
                refine k_Vi (ws2 := [(h, .inr (8, [.ref sr, .ref h_now, .ref h_kept, .ref h_planner, .ref h_floating, .ref h_planks, .int v_h_keptSize])), (h_now, .inr (4, [.ref sr, .ref h_now_th, .ref h_now_ta, .ref h_now_se, .int v_h_now_hour, .int v_h_now_heel, .int v_h_now_water, .int v_h_now_pitch, .int v_h_now_boatUsed, .int v_h_now_heelWent, .int v_h_now_pitchTaken, .int v_h_now_hoursOfMen, .int v_h_now_parted, .int v_h_now_moved])), (h_now_se, .inr (3, [.ref h_now_se_strake, .ref h_now_se_side, .ref h_now_se_hands, .ref h_now_se_hours, .ref h_now_se_pitch, .ref h_now_se_worth, .ref h_now_se_state, .ref h_now_se_done, .int w_h_now_se_size_15])), (h_now_se_strake, .inl (cI, 12, .inl w_h_now_se_strake_16)), (h_now_se_side, .inl (cI, 12, .inl w_h_now_se_side_17)), (h_now_se_hands, .inl (cI, 12, .inl w_h_now_se_hands_18)), (h_now_se_hours, .inl (cI, 12, .inl w_h_now_se_hours_19)), (h_now_se_pitch, .inl (cI, 12, .inl w_h_now_se_pitch_20)), (h_now_se_worth, .inl (cI, 12, .inl w_h_now_se_worth_21)), (h_now_se_state, .inl (cI, 12, .inl w_h_now_se_state_22)), (h_now_se_done, .inl (cI, 12, .inl w_h_now_se_done_23))]) (q0 := 0) (As := [.int a1, .int a2, .int a3, .int a4, .int a5, .int a6]) (rest := []) S0 (c_X3_add l D cI cZ cJ cS h_now_se h_now_se_strake h_now_se_side h_now_se_hands h_now_se_hours h_now_se_pitch h_now_se_worth h_now_se_state h_now_se_done v_h_now_se_size f_h_now_se_strake f_h_now_se_side f_h_now_se_hands f_h_now_se_hours f_h_now_se_pitch f_h_now_se_worth f_h_now_se_state f_h_now_se_done a1 a2 a3 a4 a5 a6 r14 w_h_now_se_size_15 w_h_now_se_strake_16 w_h_now_se_side_17 w_h_now_se_hands_18 w_h_now_se_hours_19 w_h_now_se_pitch_20 w_h_now_se_worth_21 w_h_now_se_state_22 w_h_now_se_done_23 hc23) (cwV 6 hts gX8_seam_X3_add rfl rfl rfl hdV_X3_add ⟨Nat.le_of_ble_eq_true rfl, Nat.le_of_ble_eq_true rfl⟩) hK hP hD hS hA hN [2, 3, 4, 5, 6, 7, 8, 9, 10] rfl (by decide) rfl rfl rfl rfl hl.1 rfl (Nat.le_of_ble_eq_true rfl) rfl rfl rfl dX8_seam_101 (fun H locs hP hD hS => ?_)
                exact hRet _ _ _ _ _ _ _ _ _ _ hf _ _ _ _ hP hD hS rfl dX8_seam_104
              · replace hf := k_neg hf c13
                refine lv_bipush (v := (-3)) hx hb dX8_seam_80 (by decide) ?_
                refine lv_goto (tgt := 104) hx hb dX8_seam_82 (by decide) ?_
                exact hRet _ _ _ _ _ _ _ _ _ _ hf _ _ _ _ hP hD hS rfl dX8_seam_104
            · replace hf := k_pos hf c12
              refine lv_iconst (v := (-1)) hx hb dX8_seam_63 (by decide) ?_
              exact hRet _ _ _ _ _ _ _ _ _ _ hf _ _ _ _ hP hD hS rfl dX8_seam_64
      · replace hf := k_pos hf c6
        refine lv_iconst (v := (-1)) hx hb dX8_seam_29 (by decide) ?_
        exact hRet _ _ _ _ _ _ _ _ _ _ hf _ _ _ _ hP hD hS rfl dX8_seam_30

def p_X8_ship (v_h_now_hour : Int32) (v_h_now_heel : Int32) (v_h_now_water : Int32) (f_sr_rules : Nat → Int32) (v_h_now_th_out : Int32) (v_h_now_th_size : Int32) (f_h_now_th_weight : Nat → Int32) (f_sr_tide : Nat → Int32) (v_h_now_se_size : Int32) (f_h_now_se_state : Nat → Int32) (f_sr_rain : Nat → Int32) (v_h_now_ta_whole : Int32) (v_h_now_ta_size : Int32) (f_h_now_ta_parts : Nat → Int32) (f_h_now_ta_strength : Nat → Int32) (f_h_now_ta_mast : Nat → Int32) (a1 : Int32) : Option (Int32) :=
  if a1 = 0 then
    k_b1 (p_X4_total f_sr_rules v_h_now_th_out v_h_now_th_size f_h_now_th_weight) fun r2 =>
    some r2
  else
  if a1 = 1 then
    k_b1 (p_X4_total f_sr_rules v_h_now_th_out v_h_now_th_size f_h_now_th_weight) fun r4 =>
    k_b1 (p_X8_draught r4) fun r5 =>
    some r5
  else
  if a1 = 2 then
    some v_h_now_heel
  else
  if a1 = 3 then
    k_b1 (p_X4_force f_sr_rules v_h_now_th_out v_h_now_th_size f_h_now_th_weight v_h_now_heel) fun r8 =>
    some r8
  else
  if a1 = 4 then
    some v_h_now_water
  else
  if a1 = 5 then
    k_b1 (p_X4_floats v_h_now_hour v_h_now_heel f_sr_rules v_h_now_th_out v_h_now_th_size f_h_now_th_weight f_sr_tide v_h_now_se_size f_h_now_se_state) fun r11 =>
    k_b1 (p_X8_asNumber r11) fun r12 =>
    some r12
  else
  if a1 = 6 then
    k_b1 (p_X5_rainsIn f_sr_rain v_h_now_hour) fun r14 =>
    k_b1 (p_X4_holds f_sr_rules v_h_now_th_out v_h_now_th_size f_h_now_th_weight v_h_now_ta_whole v_h_now_ta_size f_h_now_ta_parts f_h_now_ta_strength f_h_now_ta_mast v_h_now_heel r14) fun r15 =>
    k_b1 (p_X8_asNumber r15) fun r16 =>
    some r16
  else
  if a1 = 7 then
    k_b1 (p_X4_isLost v_h_now_water) fun r18 =>
    k_b1 (p_X8_asNumber r18) fun r19 =>
    some r19
  else
    some (-100)
abbrev rm_X8_ship : Room := { frames := 5, cells := 0, slots := 0, locals := 118 }
theorem hdS_X8_ship : yX8_ship.cls ≠ "java/lang/invoke/MethodHandle" ∧ yX8_ship.cls ≠ "java/lang/invoke/VarHandle" ∧ (parseMethodDescriptor yX8_ship.desc).map (fun d => d.parameters.length) = some 1 := by decide +kernel
theorem hdV_X8_ship : yX8_ship.cls = RX8 ∧ yX8_ship.cls ≠ "java/lang/invoke/MethodHandle" ∧ yX8_ship.cls ≠ "java/lang/invoke/VarHandle" ∧ (parseMethodDescriptor yX8_ship.desc).map (fun d => d.parameters.length) = some 1 := by decide +kernel
set_option maxHeartbeats 4000000 in
set_option maxRecDepth 100000 in
theorem c_X8_ship (l : Launch) (D : va_G) (cI cZ cJ cS : ClassId) (h sr h_now h_kept h_planner h_floating h_planks h_now_th h_now_ta h_now_se sr_tide sr_rain sr_rules h_now_th_weight h_now_th_under h_now_se_strake h_now_se_side h_now_se_hands h_now_se_hours h_now_se_pitch h_now_se_worth h_now_se_state h_now_se_done h_now_ta_mast h_now_ta_parts h_now_ta_strength : Nat) (v_h_keptSize : Int32) (v_h_now_hour : Int32) (v_h_now_heel : Int32) (v_h_now_water : Int32) (v_h_now_pitch : Int32) (v_h_now_boatUsed : Int32) (v_h_now_heelWent : Int32) (v_h_now_pitchTaken : Int32) (v_h_now_hoursOfMen : Int32) (v_h_now_parted : Int32) (v_h_now_moved : Int32) (f_sr_rules : Nat → Int32) (v_h_now_th_out : Int32) (v_h_now_th_size : Int32) (f_h_now_th_weight : Nat → Int32) (f_sr_tide : Nat → Int32) (v_h_now_se_size : Int32) (f_h_now_se_state : Nat → Int32) (f_sr_rain : Nat → Int32) (v_h_now_ta_whole : Int32) (v_h_now_ta_size : Int32) (f_h_now_ta_parts : Nat → Int32) (f_h_now_ta_strength : Nat → Int32) (f_h_now_ta_mast : Nat → Int32) (a1 : Int32) (r : Int32) (hf : p_X8_ship v_h_now_hour v_h_now_heel v_h_now_water f_sr_rules v_h_now_th_out v_h_now_th_size f_h_now_th_weight f_sr_tide v_h_now_se_size f_h_now_se_state f_sr_rain v_h_now_ta_whole v_h_now_ta_size f_h_now_ta_parts f_h_now_ta_strength f_h_now_ta_mast a1 = some r) : k_MI l yX8_ship wsX8_ship rm_X8_ship D (k_tys cI cZ cJ cS) [.ref h, .int a1] [(h, .inr (8, [.ref sr, .ref h_now, .ref h_kept, .ref h_planner, .ref h_floating, .ref h_planks, .int v_h_keptSize])), (h_now, .inr (4, [.ref sr, .ref h_now_th, .ref h_now_ta, .ref h_now_se, .int v_h_now_hour, .int v_h_now_heel, .int v_h_now_water, .int v_h_now_pitch, .int v_h_now_boatUsed, .int v_h_now_heelWent, .int v_h_now_pitchTaken, .int v_h_now_hoursOfMen, .int v_h_now_parted, .int v_h_now_moved])), (sr, .inr (5, [.ref sr_tide, .ref sr_rain, .ref sr_rules])), (sr_rules, .inl (cI, 8, .inl f_sr_rules)), (h_now_th, .inr (7, [.ref h_now_th_weight, .ref h_now_th_under, .int v_h_now_th_out, .int v_h_now_th_size])), (h_now_th_weight, .inl (cI, 12, .inl f_h_now_th_weight)), (sr_tide, .inl (cI, 96, .inl f_sr_tide)), (h_now_se, .inr (3, [.ref h_now_se_strake, .ref h_now_se_side, .ref h_now_se_hands, .ref h_now_se_hours, .ref h_now_se_pitch, .ref h_now_se_worth, .ref h_now_se_state, .ref h_now_se_done, .int v_h_now_se_size])), (h_now_se_state, .inl (cI, 12, .inl f_h_now_se_state)), (sr_rain, .inl (cZ, 96, .inl f_sr_rain)), (h_now_ta, .inr (6, [.ref h_now_ta_mast, .ref h_now_ta_parts, .ref h_now_ta_strength, .int v_h_now_ta_whole, .int v_h_now_ta_size])), (h_now_ta_parts, .inl (cI, 6, .inl f_h_now_ta_parts)), (h_now_ta_strength, .inl (cI, 6, .inl f_h_now_ta_strength)), (h_now_ta_mast, .inl (cI, 6, .inl f_h_now_ta_mast))] [(h, .inr (8, [.ref sr, .ref h_now, .ref h_kept, .ref h_planner, .ref h_floating, .ref h_planks, .int v_h_keptSize])), (h_now, .inr (4, [.ref sr, .ref h_now_th, .ref h_now_ta, .ref h_now_se, .int v_h_now_hour, .int v_h_now_heel, .int v_h_now_water, .int v_h_now_pitch, .int v_h_now_boatUsed, .int v_h_now_heelWent, .int v_h_now_pitchTaken, .int v_h_now_hoursOfMen, .int v_h_now_parted, .int v_h_now_moved])), (sr, .inr (5, [.ref sr_tide, .ref sr_rain, .ref sr_rules])), (sr_rules, .inl (cI, 8, .inl f_sr_rules)), (h_now_th, .inr (7, [.ref h_now_th_weight, .ref h_now_th_under, .int v_h_now_th_out, .int v_h_now_th_size])), (h_now_th_weight, .inl (cI, 12, .inl f_h_now_th_weight)), (sr_tide, .inl (cI, 96, .inl f_sr_tide)), (h_now_se, .inr (3, [.ref h_now_se_strake, .ref h_now_se_side, .ref h_now_se_hands, .ref h_now_se_hours, .ref h_now_se_pitch, .ref h_now_se_worth, .ref h_now_se_state, .ref h_now_se_done, .int v_h_now_se_size])), (h_now_se_state, .inl (cI, 12, .inl f_h_now_se_state)), (sr_rain, .inl (cZ, 96, .inl f_sr_rain)), (h_now_ta, .inr (6, [.ref h_now_ta_mast, .ref h_now_ta_parts, .ref h_now_ta_strength, .int v_h_now_ta_whole, .int v_h_now_ta_size])), (h_now_ta_parts, .inl (cI, 6, .inl f_h_now_ta_parts)), (h_now_ta_strength, .inl (cI, 6, .inl f_h_now_ta_strength)), (h_now_ta_mast, .inl (cI, 6, .inl f_h_now_ta_mast))] r := by
  refine k_enter (y := yX8_ship) (wl := wsX8_ship) (rm := rm_X8_ship) (av := [.ref h, .int a1]) (D := D) (tys := k_tys cI cZ cJ cS) (ws := [(h, .inr (8, [.ref sr, .ref h_now, .ref h_kept, .ref h_planner, .ref h_floating, .ref h_planks, .int v_h_keptSize])), (h_now, .inr (4, [.ref sr, .ref h_now_th, .ref h_now_ta, .ref h_now_se, .int v_h_now_hour, .int v_h_now_heel, .int v_h_now_water, .int v_h_now_pitch, .int v_h_now_boatUsed, .int v_h_now_heelWent, .int v_h_now_pitchTaken, .int v_h_now_hoursOfMen, .int v_h_now_parted, .int v_h_now_moved])), (sr, .inr (5, [.ref sr_tide, .ref sr_rain, .ref sr_rules])), (sr_rules, .inl (cI, 8, .inl f_sr_rules)), (h_now_th, .inr (7, [.ref h_now_th_weight, .ref h_now_th_under, .int v_h_now_th_out, .int v_h_now_th_size])), (h_now_th_weight, .inl (cI, 12, .inl f_h_now_th_weight)), (sr_tide, .inl (cI, 96, .inl f_sr_tide)), (h_now_se, .inr (3, [.ref h_now_se_strake, .ref h_now_se_side, .ref h_now_se_hands, .ref h_now_se_hours, .ref h_now_se_pitch, .ref h_now_se_worth, .ref h_now_se_state, .ref h_now_se_done, .int v_h_now_se_size])), (h_now_se_state, .inl (cI, 12, .inl f_h_now_se_state)), (sr_rain, .inl (cZ, 96, .inl f_sr_rain)), (h_now_ta, .inr (6, [.ref h_now_ta_mast, .ref h_now_ta_parts, .ref h_now_ta_strength, .int v_h_now_ta_whole, .int v_h_now_ta_size])), (h_now_ta_parts, .inl (cI, 6, .inl f_h_now_ta_parts)), (h_now_ta_strength, .inl (cI, 6, .inl f_h_now_ta_strength)), (h_now_ta_mast, .inl (cI, 6, .inl f_h_now_ta_mast))]) (cc := cX8_ship) (maxL := 2) (ret := (some .int)) (Qc := fun A => k_Qi D (k_tys cI cZ cJ cS) [(h, .inr (8, [.ref sr, .ref h_now, .ref h_kept, .ref h_planner, .ref h_floating, .ref h_planks, .int v_h_keptSize])), (h_now, .inr (4, [.ref sr, .ref h_now_th, .ref h_now_ta, .ref h_now_se, .int v_h_now_hour, .int v_h_now_heel, .int v_h_now_water, .int v_h_now_pitch, .int v_h_now_boatUsed, .int v_h_now_heelWent, .int v_h_now_pitchTaken, .int v_h_now_hoursOfMen, .int v_h_now_parted, .int v_h_now_moved])), (sr, .inr (5, [.ref sr_tide, .ref sr_rain, .ref sr_rules])), (sr_rules, .inl (cI, 8, .inl f_sr_rules)), (h_now_th, .inr (7, [.ref h_now_th_weight, .ref h_now_th_under, .int v_h_now_th_out, .int v_h_now_th_size])), (h_now_th_weight, .inl (cI, 12, .inl f_h_now_th_weight)), (sr_tide, .inl (cI, 96, .inl f_sr_tide)), (h_now_se, .inr (3, [.ref h_now_se_strake, .ref h_now_se_side, .ref h_now_se_hands, .ref h_now_se_hours, .ref h_now_se_pitch, .ref h_now_se_worth, .ref h_now_se_state, .ref h_now_se_done, .int v_h_now_se_size])), (h_now_se_state, .inl (cI, 12, .inl f_h_now_se_state)), (sr_rain, .inl (cZ, 96, .inl f_sr_rain)), (h_now_ta, .inr (6, [.ref h_now_ta_mast, .ref h_now_ta_parts, .ref h_now_ta_strength, .int v_h_now_ta_whole, .int v_h_now_ta_size])), (h_now_ta_parts, .inl (cI, 6, .inl f_h_now_ta_parts)), (h_now_ta_strength, .inl (cI, 6, .inl f_h_now_ta_strength)), (h_now_ta_mast, .inl (cI, 6, .inl f_h_now_ta_mast))] A r) (by decide) rfl (Nat.le_of_ble_eq_true rfl) [(0, .ref h), (1, .int a1)] rfl ?_
  intro p e s m below meth c A hx hb hml hr hlocks hnm hown hK hP hD hA hS hN ls args Q hts hl hQ
  replace hown : s.vm.findClass RX8 = some m.cls := hown
  have S0 : CallFix p m c cX8_ship 2 s args wsX8_ship RX8 := ⟨hx, hb, hml, hown, hts⟩
  have inX8 : ∀ w ∈ u_ws RX8 TX8 7, w ∈ wsX8_ship := fun w h => List.mem_cons_of_mem _ (List.mem_append_left _ (List.mem_append_left _ (List.mem_append_left _ (List.mem_append_left _ (List.mem_append_left _ (List.mem_append_right _ h))))))
  have inX4 : ∀ w ∈ u_ws RX4 TX4 14, w ∈ wsX8_ship := fun w h => List.mem_cons_of_mem _ (List.mem_append_left _ (List.mem_append_left _ (List.mem_append_left _ (List.mem_append_left _ (List.mem_append_right _ h)))))
  have wl1 : (Cond.fieldLink RX8 21 "BeachedShip" "now" "LBeachedShip$Ship;").before args s = true := hts _ (List.mem_of_getElem? (i := 1) rfl)
  have wl2 : (Cond.fieldLink RX8 140 "BeachedShip$Ship" "heel" "I").before args s = true := hts _ (List.mem_of_getElem? (i := 2) rfl)
  have wl3 : (Cond.fieldLink RX8 146 "BeachedShip$Ship" "water" "I").before args s = true := hts _ (List.mem_of_getElem? (i := 3) rfl)
  have wl4 : (Cond.fieldLink RX8 10 "BeachedShip" "shore" "LBeachedShip$Shore;").before args s = true := hts _ (List.mem_of_getElem? (i := 4) rfl)
  have wl5 : (Cond.fieldLink RX8 153 "BeachedShip$Ship" "hour" "I").before args s = true := hts _ (List.mem_of_getElem? (i := 5) rfl)
  have hRet : ∀ (r_z : Int32), some r_z = some r → ∀ (H : Heap) (locs : List Loc) (ls : Array Slot) (pc : Nat), va_P D vwCl [(h, .inr (8, [.ref sr, .ref h_now, .ref h_kept, .ref h_planner, .ref h_floating, .ref h_planks, .int v_h_keptSize])), (h_now, .inr (4, [.ref sr, .ref h_now_th, .ref h_now_ta, .ref h_now_se, .int v_h_now_hour, .int v_h_now_heel, .int v_h_now_water, .int v_h_now_pitch, .int v_h_now_boatUsed, .int v_h_now_heelWent, .int v_h_now_pitchTaken, .int v_h_now_hoursOfMen, .int v_h_now_parted, .int v_h_now_moved])), (sr, .inr (5, [.ref sr_tide, .ref sr_rain, .ref sr_rules])), (sr_rules, .inl (cI, 8, .inl f_sr_rules)), (h_now_th, .inr (7, [.ref h_now_th_weight, .ref h_now_th_under, .int v_h_now_th_out, .int v_h_now_th_size])), (h_now_th_weight, .inl (cI, 12, .inl f_h_now_th_weight)), (sr_tide, .inl (cI, 96, .inl f_sr_tide)), (h_now_se, .inr (3, [.ref h_now_se_strake, .ref h_now_se_side, .ref h_now_se_hands, .ref h_now_se_hours, .ref h_now_se_pitch, .ref h_now_se_worth, .ref h_now_se_state, .ref h_now_se_done, .int v_h_now_se_size])), (h_now_se_state, .inl (cI, 12, .inl f_h_now_se_state)), (sr_rain, .inl (cZ, 96, .inl f_sr_rain)), (h_now_ta, .inr (6, [.ref h_now_ta_mast, .ref h_now_ta_parts, .ref h_now_ta_strength, .int v_h_now_ta_whole, .int v_h_now_ta_size])), (h_now_ta_parts, .inl (cI, 6, .inl f_h_now_ta_parts)), (h_now_ta_strength, .inl (cI, 6, .inl f_h_now_ta_strength)), (h_now_ta_mast, .inl (cI, 6, .inl f_h_now_ta_mast))] H → va_D A [(h, .inr (8, [.ref sr, .ref h_now, .ref h_kept, .ref h_planner, .ref h_floating, .ref h_planks, .int v_h_keptSize])), (h_now, .inr (4, [.ref sr, .ref h_now_th, .ref h_now_ta, .ref h_now_se, .int v_h_now_hour, .int v_h_now_heel, .int v_h_now_water, .int v_h_now_pitch, .int v_h_now_boatUsed, .int v_h_now_heelWent, .int v_h_now_pitchTaken, .int v_h_now_hoursOfMen, .int v_h_now_parted, .int v_h_now_moved])), (sr, .inr (5, [.ref sr_tide, .ref sr_rain, .ref sr_rules])), (sr_rules, .inl (cI, 8, .inl f_sr_rules)), (h_now_th, .inr (7, [.ref h_now_th_weight, .ref h_now_th_under, .int v_h_now_th_out, .int v_h_now_th_size])), (h_now_th_weight, .inl (cI, 12, .inl f_h_now_th_weight)), (sr_tide, .inl (cI, 96, .inl f_sr_tide)), (h_now_se, .inr (3, [.ref h_now_se_strake, .ref h_now_se_side, .ref h_now_se_hands, .ref h_now_se_hours, .ref h_now_se_pitch, .ref h_now_se_worth, .ref h_now_se_state, .ref h_now_se_done, .int v_h_now_se_size])), (h_now_se_state, .inl (cI, 12, .inl f_h_now_se_state)), (sr_rain, .inl (cZ, 96, .inl f_sr_rain)), (h_now_ta, .inr (6, [.ref h_now_ta_mast, .ref h_now_ta_parts, .ref h_now_ta_strength, .int v_h_now_ta_whole, .int v_h_now_ta_size])), (h_now_ta_parts, .inl (cI, 6, .inl f_h_now_ta_parts)), (h_now_ta_strength, .inl (cI, 6, .inl f_h_now_ta_strength)), (h_now_ta_mast, .inl (cI, 6, .inl f_h_now_ta_mast))] → va_S A s.heap H locs → narrow .int (.int r_z) = .int r_z → decode cX8_ship pc = .ok (.ireturn, 1) → W p l e rm_X8_ship s m args below meth c H locs 0 0 Q (F0 m pc ls [.int r_z]) := by
    intro r_z hz H locs ls pc hP hD hS hn hd
    cases hz
    exact k_iret hx hb hr hlocks hn hK hP hD hS hQ rfl hd
  unfold p_X8_ship at hf
  refine lv_iload_n hx hb dX8_ship_0 rfl (lv_at hl 1 rfl) ?_
  by_cases c1 : a1 = 0
  · replace hf := k_pos hf c1
    refine k_tsw (k := 0) (j := 0) (off := 47) (tgt := 48) hx hb dX8_ship_1 c1 (by decide) (by decide) (by decide) rfl (by decide) ?_
    refine lv_aload_n hx hb dX8_ship_48 rfl (lv_at hl 0 rfl) ?_
    refine k_get (C := RX8) (T := TX8) (N := 7) hx hb hts inX8 hown hK hP 0 rfl rfl 1 (by decide) rfl wl1 rfl dX8_ship_49 ?_
    obtain ⟨r2, hc2, hf⟩ := k_b1_some hf
    refine k_ViR (q0 := 0) (As := []) (rest := []) S0 (c_X4_total l D cI cZ cJ cS h_now sr h_now_th h_now_ta h_now_se sr_tide sr_rain sr_rules h_now_th_weight h_now_th_under v_h_now_hour v_h_now_heel v_h_now_water v_h_now_pitch v_h_now_boatUsed v_h_now_heelWent v_h_now_pitchTaken v_h_now_hoursOfMen v_h_now_parted v_h_now_moved f_sr_rules v_h_now_th_out v_h_now_th_size f_h_now_th_weight r2 hc2) (cwV 0 hts gX8_ship_X4_total rfl rfl rfl hdV_X4_total ⟨Nat.le_of_ble_eq_true rfl, Nat.le_of_ble_eq_true rfl⟩) hK hP hD hS hA hN [1, 2, 3, 4, 5] rfl (by decide) rfl rfl rfl rfl hl.1 rfl (Nat.le_of_ble_eq_true rfl) dX8_ship_52 (fun H locs hP hS => ?_)
    exact hRet _ hf _ _ _ _ hP hD hS rfl dX8_ship_55
  · replace hf := k_neg hf c1
    by_cases c3 : a1 = 1
    · replace hf := k_pos hf c3
      refine k_tsw (k := 1) (j := 1) (off := 55) (tgt := 56) hx hb dX8_ship_1 c3 (by decide) (by decide) (by decide) rfl (by decide) ?_
      refine lv_aload_n hx hb dX8_ship_56 rfl (lv_at hl 0 rfl) ?_
      refine k_get (C := RX8) (T := TX8) (N := 7) hx hb hts inX8 hown hK hP 0 rfl rfl 1 (by decide) rfl wl1 rfl dX8_ship_57 ?_
      obtain ⟨r4, hc4, hf⟩ := k_b1_some hf
      refine k_ViR (q0 := 0) (As := []) (rest := []) S0 (c_X4_total l D cI cZ cJ cS h_now sr h_now_th h_now_ta h_now_se sr_tide sr_rain sr_rules h_now_th_weight h_now_th_under v_h_now_hour v_h_now_heel v_h_now_water v_h_now_pitch v_h_now_boatUsed v_h_now_heelWent v_h_now_pitchTaken v_h_now_hoursOfMen v_h_now_parted v_h_now_moved f_sr_rules v_h_now_th_out v_h_now_th_size f_h_now_th_weight r4 hc4) (cwV 0 hts gX8_ship_X4_total rfl rfl rfl hdV_X4_total ⟨Nat.le_of_ble_eq_true rfl, Nat.le_of_ble_eq_true rfl⟩) hK hP hD hS hA hN [1, 2, 3, 4, 5] rfl (by decide) rfl rfl rfl rfl hl.1 rfl (Nat.le_of_ble_eq_true rfl) dX8_ship_60 (fun H locs hP hS => ?_)
      obtain ⟨r5, hc5, hf⟩ := k_b1_some hf
      refine k_SiR (As := [.int r4]) (rest := []) S0 (c_X8_draught l D cI cZ cJ cS r4 r5 hc5) (va_cwS 1 hts gX8_ship_X8_draught rfl rfl rfl hdS_X8_draught ⟨Nat.le_of_ble_eq_true rfl, Nat.le_of_ble_eq_true rfl⟩) hK hP hD hS hA hN [] rfl (by decide) rfl hl.1 rfl (Nat.le_of_ble_eq_true rfl) dX8_ship_63 (fun H locs hP hS => ?_)
      exact hRet _ hf _ _ _ _ hP hD hS rfl dX8_ship_66
    · replace hf := k_neg hf c3
      by_cases c6 : a1 = 2
      · replace hf := k_pos hf c6
        refine k_tsw (k := 2) (j := 2) (off := 66) (tgt := 67) hx hb dX8_ship_1 c6 (by decide) (by decide) (by decide) rfl (by decide) ?_
        refine lv_aload_n hx hb dX8_ship_67 rfl (lv_at hl 0 rfl) ?_
        refine k_get (C := RX8) (T := TX8) (N := 7) hx hb hts inX8 hown hK hP 0 rfl rfl 1 (by decide) rfl wl1 rfl dX8_ship_68 ?_
        refine k_get (C := RX4) (T := TX4) (N := 14) hx hb hts inX4 hown hK hP 1 rfl rfl 5 (by decide) rfl wl2 rfl dX8_ship_71 ?_
        exact hRet _ hf _ _ _ _ hP hD hS rfl dX8_ship_74
      · replace hf := k_neg hf c6
        by_cases c7 : a1 = 3
        · replace hf := k_pos hf c7
          refine k_tsw (k := 3) (j := 3) (off := 74) (tgt := 75) hx hb dX8_ship_1 c7 (by decide) (by decide) (by decide) rfl (by decide) ?_
          refine lv_aload_n hx hb dX8_ship_75 rfl (lv_at hl 0 rfl) ?_
          refine k_get (C := RX8) (T := TX8) (N := 7) hx hb hts inX8 hown hK hP 0 rfl rfl 1 (by decide) rfl wl1 rfl dX8_ship_76 ?_
          refine lv_aload_n hx hb dX8_ship_79 rfl (lv_at hl 0 rfl) ?_
          refine k_get (C := RX8) (T := TX8) (N := 7) hx hb hts inX8 hown hK hP 0 rfl rfl 1 (by decide) rfl wl1 rfl dX8_ship_80 ?_
          refine k_get (C := RX4) (T := TX4) (N := 14) hx hb hts inX4 hown hK hP 1 rfl rfl 5 (by decide) rfl wl2 rfl dX8_ship_83 ?_
          obtain ⟨r8, hc8, hf⟩ := k_b1_some hf
          refine k_ViR (q0 := 0) (As := [.int v_h_now_heel]) (rest := []) S0 (c_X4_force l D cI cZ cJ cS h_now sr h_now_th h_now_ta h_now_se sr_tide sr_rain sr_rules h_now_th_weight h_now_th_under v_h_now_hour v_h_now_heel v_h_now_water v_h_now_pitch v_h_now_boatUsed v_h_now_heelWent v_h_now_pitchTaken v_h_now_hoursOfMen v_h_now_parted v_h_now_moved f_sr_rules v_h_now_th_out v_h_now_th_size f_h_now_th_weight v_h_now_heel r8 hc8) (cwV 1 hts gX8_ship_X4_force rfl rfl rfl hdV_X4_force ⟨Nat.le_of_ble_eq_true rfl, Nat.le_of_ble_eq_true rfl⟩) hK hP hD hS hA hN [1, 2, 3, 4, 5] rfl (by decide) rfl rfl rfl rfl hl.1 rfl (Nat.le_of_ble_eq_true rfl) dX8_ship_86 (fun H locs hP hS => ?_)
          exact hRet _ hf _ _ _ _ hP hD hS rfl dX8_ship_89
        · replace hf := k_neg hf c7
          by_cases c9 : a1 = 4
          · replace hf := k_pos hf c9
            refine k_tsw (k := 4) (j := 4) (off := 89) (tgt := 90) hx hb dX8_ship_1 c9 (by decide) (by decide) (by decide) rfl (by decide) ?_
            refine lv_aload_n hx hb dX8_ship_90 rfl (lv_at hl 0 rfl) ?_
            refine k_get (C := RX8) (T := TX8) (N := 7) hx hb hts inX8 hown hK hP 0 rfl rfl 1 (by decide) rfl wl1 rfl dX8_ship_91 ?_
            refine k_get (C := RX4) (T := TX4) (N := 14) hx hb hts inX4 hown hK hP 1 rfl rfl 6 (by decide) rfl wl3 rfl dX8_ship_94 ?_
            exact hRet _ hf _ _ _ _ hP hD hS rfl dX8_ship_97
          · replace hf := k_neg hf c9
            by_cases c10 : a1 = 5
            · replace hf := k_pos hf c10
              refine k_tsw (k := 5) (j := 5) (off := 97) (tgt := 98) hx hb dX8_ship_1 c10 (by decide) (by decide) (by decide) rfl (by decide) ?_
              refine lv_aload_n hx hb dX8_ship_98 rfl (lv_at hl 0 rfl) ?_
              refine k_get (C := RX8) (T := TX8) (N := 7) hx hb hts inX8 hown hK hP 0 rfl rfl 1 (by decide) rfl wl1 rfl dX8_ship_99 ?_
              obtain ⟨r11, hc11, hf⟩ := k_b1_some hf
              refine k_ViR (q0 := 0) (As := []) (rest := []) S0 (c_X4_floats l D cI cZ cJ cS h_now sr h_now_th h_now_ta h_now_se sr_tide sr_rain sr_rules h_now_th_weight h_now_th_under h_now_se_strake h_now_se_side h_now_se_hands h_now_se_hours h_now_se_pitch h_now_se_worth h_now_se_state h_now_se_done v_h_now_hour v_h_now_heel v_h_now_water v_h_now_pitch v_h_now_boatUsed v_h_now_heelWent v_h_now_pitchTaken v_h_now_hoursOfMen v_h_now_parted v_h_now_moved f_sr_rules v_h_now_th_out v_h_now_th_size f_h_now_th_weight f_sr_tide v_h_now_se_size f_h_now_se_state r11 hc11) (cwV 0 hts gX8_ship_X4_floats rfl rfl rfl hdV_X4_floats ⟨Nat.le_of_ble_eq_true rfl, Nat.le_of_ble_eq_true rfl⟩) hK hP hD hS hA hN [1, 2, 3, 4, 5, 6, 7, 8] rfl (by decide) rfl rfl rfl rfl hl.1 rfl (Nat.le_of_ble_eq_true rfl) dX8_ship_102 (fun H locs hP hS => ?_)
              obtain ⟨r12, hc12, hf⟩ := k_b1_some hf
              refine k_SiR (As := [.int r11]) (rest := []) S0 (c_X8_asNumber l D cI cZ cJ cS r11 r12 hc12) (va_cwS 1 hts gX8_ship_X8_asNumber rfl rfl rfl hdS_X8_asNumber ⟨Nat.le_of_ble_eq_true rfl, Nat.le_of_ble_eq_true rfl⟩) hK hP hD hS hA hN [] rfl (by decide) rfl hl.1 rfl (Nat.le_of_ble_eq_true rfl) dX8_ship_105 (fun H locs hP hS => ?_)
              exact hRet _ hf _ _ _ _ hP hD hS rfl dX8_ship_108
            · replace hf := k_neg hf c10
              by_cases c13 : a1 = 6
              · replace hf := k_pos hf c13
                refine k_tsw (k := 6) (j := 6) (off := 108) (tgt := 109) hx hb dX8_ship_1 c13 (by decide) (by decide) (by decide) rfl (by decide) ?_
                refine lv_aload_n hx hb dX8_ship_109 rfl (lv_at hl 0 rfl) ?_
                refine k_get (C := RX8) (T := TX8) (N := 7) hx hb hts inX8 hown hK hP 0 rfl rfl 1 (by decide) rfl wl1 rfl dX8_ship_110 ?_
                refine lv_aload_n hx hb dX8_ship_113 rfl (lv_at hl 0 rfl) ?_
                refine k_get (C := RX8) (T := TX8) (N := 7) hx hb hts inX8 hown hK hP 0 rfl rfl 1 (by decide) rfl wl1 rfl dX8_ship_114 ?_
                refine k_get (C := RX4) (T := TX4) (N := 14) hx hb hts inX4 hown hK hP 1 rfl rfl 5 (by decide) rfl wl2 rfl dX8_ship_117 ?_
                refine lv_aload_n hx hb dX8_ship_120 rfl (lv_at hl 0 rfl) ?_
                refine k_get (C := RX8) (T := TX8) (N := 7) hx hb hts inX8 hown hK hP 0 rfl rfl 0 (by decide) rfl wl4 rfl dX8_ship_121 ?_
                refine lv_aload_n hx hb dX8_ship_124 rfl (lv_at hl 0 rfl) ?_
                refine k_get (C := RX8) (T := TX8) (N := 7) hx hb hts inX8 hown hK hP 0 rfl rfl 1 (by decide) rfl wl1 rfl dX8_ship_125 ?_
                refine k_get (C := RX4) (T := TX4) (N := 14) hx hb hts inX4 hown hK hP 1 rfl rfl 4 (by decide) rfl wl5 rfl dX8_ship_128 ?_
                obtain ⟨r14, hc14, hf⟩ := k_b1_some hf
                refine k_ViR (q0 := 0) (As := [.int v_h_now_hour]) (rest := [.int v_h_now_heel, .ref h_now]) S0 (c_X5_rainsIn l D cI cZ cJ cS sr sr_tide sr_rain sr_rules f_sr_rain v_h_now_hour r14 hc14) (cwV 1 hts gX8_ship_X5_rainsIn rfl rfl rfl hdV_X5_rainsIn ⟨Nat.le_of_ble_eq_true rfl, Nat.le_of_ble_eq_true rfl⟩) hK hP hD hS hA hN [2, 9] rfl (by decide) rfl rfl rfl rfl hl.1 rfl (Nat.le_of_ble_eq_true rfl) dX8_ship_131 (fun H locs hP hS => ?_)
                obtain ⟨r15, hc15, hf⟩ := k_b1_some hf
                refine k_ViR (q0 := 0) (As := [.int v_h_now_heel, .int r14]) (rest := []) S0 (c_X4_holds l D cI cZ cJ cS h_now sr h_now_th h_now_ta h_now_se sr_tide sr_rain sr_rules h_now_th_weight h_now_th_under h_now_ta_mast h_now_ta_parts h_now_ta_strength v_h_now_hour v_h_now_heel v_h_now_water v_h_now_pitch v_h_now_boatUsed v_h_now_heelWent v_h_now_pitchTaken v_h_now_hoursOfMen v_h_now_parted v_h_now_moved f_sr_rules v_h_now_th_out v_h_now_th_size f_h_now_th_weight v_h_now_ta_whole v_h_now_ta_size f_h_now_ta_parts f_h_now_ta_strength f_h_now_ta_mast v_h_now_heel r14 r15 hc15) (cwV 2 hts gX8_ship_X4_holds rfl rfl rfl hdV_X4_holds ⟨Nat.le_of_ble_eq_true rfl, Nat.le_of_ble_eq_true rfl⟩) hK hP hD hS hA hN [1, 2, 3, 4, 5, 10, 11, 12, 13] rfl (by decide) rfl rfl rfl rfl hl.1 rfl (Nat.le_of_ble_eq_true rfl) dX8_ship_134 (fun H locs hP hS => ?_)
                obtain ⟨r16, hc16, hf⟩ := k_b1_some hf
                refine k_SiR (As := [.int r15]) (rest := []) S0 (c_X8_asNumber l D cI cZ cJ cS r15 r16 hc16) (va_cwS 1 hts gX8_ship_X8_asNumber rfl rfl rfl hdS_X8_asNumber ⟨Nat.le_of_ble_eq_true rfl, Nat.le_of_ble_eq_true rfl⟩) hK hP hD hS hA hN [] rfl (by decide) rfl hl.1 rfl (Nat.le_of_ble_eq_true rfl) dX8_ship_137 (fun H locs hP hS => ?_)
                exact hRet _ hf _ _ _ _ hP hD hS rfl dX8_ship_140
              · replace hf := k_neg hf c13
                by_cases c17 : a1 = 7
                · replace hf := k_pos hf c17
                  refine k_tsw (k := 7) (j := 7) (off := 140) (tgt := 141) hx hb dX8_ship_1 c17 (by decide) (by decide) (by decide) rfl (by decide) ?_
                  refine lv_aload_n hx hb dX8_ship_141 rfl (lv_at hl 0 rfl) ?_
                  refine k_get (C := RX8) (T := TX8) (N := 7) hx hb hts inX8 hown hK hP 0 rfl rfl 1 (by decide) rfl wl1 rfl dX8_ship_142 ?_
                  obtain ⟨r18, hc18, hf⟩ := k_b1_some hf
                  refine k_ViR (q0 := 0) (As := []) (rest := []) S0 (c_X4_isLost l D cI cZ cJ cS h_now sr h_now_th h_now_ta h_now_se v_h_now_hour v_h_now_heel v_h_now_water v_h_now_pitch v_h_now_boatUsed v_h_now_heelWent v_h_now_pitchTaken v_h_now_hoursOfMen v_h_now_parted v_h_now_moved r18 hc18) (cwV 0 hts gX8_ship_X4_isLost rfl rfl rfl hdV_X4_isLost ⟨Nat.le_of_ble_eq_true rfl, Nat.le_of_ble_eq_true rfl⟩) hK hP hD hS hA hN [1] rfl (by decide) rfl rfl rfl rfl hl.1 rfl (Nat.le_of_ble_eq_true rfl) dX8_ship_145 (fun H locs hP hS => ?_)
                  obtain ⟨r19, hc19, hf⟩ := k_b1_some hf
                  refine k_SiR (As := [.int r18]) (rest := []) S0 (c_X8_asNumber l D cI cZ cJ cS r18 r19 hc19) (va_cwS 1 hts gX8_ship_X8_asNumber rfl rfl rfl hdS_X8_asNumber ⟨Nat.le_of_ble_eq_true rfl, Nat.le_of_ble_eq_true rfl⟩) hK hP hD hS hA hN [] rfl (by decide) rfl hl.1 rfl (Nat.le_of_ble_eq_true rfl) dX8_ship_148 (fun H locs hP hS => ?_)
                  exact hRet _ hf _ _ _ _ hP hD hS rfl dX8_ship_151
                · replace hf := k_neg hf c17
                  refine lv_tableOut (tgt := 152) hx hb dX8_ship_1 (by have := k_ne_toInt c1; have e0 : (0 : Int32).toInt = 0 := (by decide); have := k_ne_toInt c3; have e1 : (1 : Int32).toInt = 1 := (by decide); have := k_ne_toInt c6; have e2 : (2 : Int32).toInt = 2 := (by decide); have := k_ne_toInt c7; have e3 : (3 : Int32).toInt = 3 := (by decide); have := k_ne_toInt c9; have e4 : (4 : Int32).toInt = 4 := (by decide); have := k_ne_toInt c10; have e5 : (5 : Int32).toInt = 5 := (by decide); have := k_ne_toInt c13; have e6 : (6 : Int32).toInt = 6 := (by decide); have := k_ne_toInt c17; have e7 : (7 : Int32).toInt = 7 := (by decide); omega) (by decide) ?_
                  refine lv_bipush (v := (-100)) hx hb dX8_ship_152 (by decide) ?_
                  exact hRet _ hf _ _ _ _ hP hD hS rfl dX8_ship_154

def lb_X8_greatest_3 (f_sr_rules : Nat → Int32) (v_h_now_th_out : Int32) (v_h_now_th_size : Int32) (f_h_now_th_weight : Nat → Int32) (v_h_now_ta_whole : Int32) (v_h_now_ta_size : Int32) (f_h_now_ta_parts : Nat → Int32) (f_h_now_ta_strength : Nat → Int32) (f_h_now_ta_mast : Nat → Int32) (a1 : Int32) (x2_9 : Int32) : Option ((Int32) ⊕ (Int32)) :=
  if x2_9 ≤ 0 then
    some (.inr x2_9)
  else
    k_b1 (p_X4_holds f_sr_rules v_h_now_th_out v_h_now_th_size f_h_now_th_weight v_h_now_ta_whole v_h_now_ta_size f_h_now_ta_parts f_h_now_ta_strength f_h_now_ta_mast x2_9 a1) fun r11 =>
    if r11 = 0 then
      some (.inl (x2_9 + (-1)))
    else
      some (.inr x2_9)
def p_X8_greatest (f_sr_rules : Nat → Int32) (v_h_now_th_out : Int32) (v_h_now_th_size : Int32) (f_h_now_th_weight : Nat → Int32) (v_h_now_ta_whole : Int32) (v_h_now_ta_size : Int32) (f_h_now_ta_parts : Nat → Int32) (f_h_now_ta_strength : Nat → Int32) (f_h_now_ta_mast : Nat → Int32) (a1 : Int32) : Option (Int32) :=
  k_b1 (k_lp (fun s => lb_X8_greatest_3 f_sr_rules v_h_now_th_out v_h_now_th_size f_h_now_th_weight v_h_now_ta_whole v_h_now_ta_size f_h_now_ta_parts f_h_now_ta_strength f_h_now_ta_mast a1 s) k_fuel 9) fun x2_8 =>
  some x2_8
abbrev rm_X8_greatest : Room := { frames := 5, cells := 0, slots := 0, locals := 118 }
theorem hdS_X8_greatest : yX8_greatest.cls ≠ "java/lang/invoke/MethodHandle" ∧ yX8_greatest.cls ≠ "java/lang/invoke/VarHandle" ∧ (parseMethodDescriptor yX8_greatest.desc).map (fun d => d.parameters.length) = some 1 := by decide +kernel
theorem hdV_X8_greatest : yX8_greatest.cls = RX8 ∧ yX8_greatest.cls ≠ "java/lang/invoke/MethodHandle" ∧ yX8_greatest.cls ≠ "java/lang/invoke/VarHandle" ∧ (parseMethodDescriptor yX8_greatest.desc).map (fun d => d.parameters.length) = some 1 := by decide +kernel
set_option maxHeartbeats 4000000 in
set_option maxRecDepth 100000 in
theorem c_X8_greatest (l : Launch) (D : va_G) (cI cZ cJ cS : ClassId) (h sr h_now h_kept h_planner h_floating h_planks h_now_th h_now_ta h_now_se sr_tide sr_rain sr_rules h_now_th_weight h_now_th_under h_now_ta_mast h_now_ta_parts h_now_ta_strength : Nat) (v_h_keptSize : Int32) (v_h_now_hour : Int32) (v_h_now_heel : Int32) (v_h_now_water : Int32) (v_h_now_pitch : Int32) (v_h_now_boatUsed : Int32) (v_h_now_heelWent : Int32) (v_h_now_pitchTaken : Int32) (v_h_now_hoursOfMen : Int32) (v_h_now_parted : Int32) (v_h_now_moved : Int32) (f_sr_rules : Nat → Int32) (v_h_now_th_out : Int32) (v_h_now_th_size : Int32) (f_h_now_th_weight : Nat → Int32) (v_h_now_ta_whole : Int32) (v_h_now_ta_size : Int32) (f_h_now_ta_parts : Nat → Int32) (f_h_now_ta_strength : Nat → Int32) (f_h_now_ta_mast : Nat → Int32) (a1 : Int32) (r : Int32) (hf : p_X8_greatest f_sr_rules v_h_now_th_out v_h_now_th_size f_h_now_th_weight v_h_now_ta_whole v_h_now_ta_size f_h_now_ta_parts f_h_now_ta_strength f_h_now_ta_mast a1 = some r) : k_MI l yX8_greatest wsX8_greatest rm_X8_greatest D (k_tys cI cZ cJ cS) [.ref h, .int a1] [(h, .inr (8, [.ref sr, .ref h_now, .ref h_kept, .ref h_planner, .ref h_floating, .ref h_planks, .int v_h_keptSize])), (h_now, .inr (4, [.ref sr, .ref h_now_th, .ref h_now_ta, .ref h_now_se, .int v_h_now_hour, .int v_h_now_heel, .int v_h_now_water, .int v_h_now_pitch, .int v_h_now_boatUsed, .int v_h_now_heelWent, .int v_h_now_pitchTaken, .int v_h_now_hoursOfMen, .int v_h_now_parted, .int v_h_now_moved])), (sr, .inr (5, [.ref sr_tide, .ref sr_rain, .ref sr_rules])), (sr_rules, .inl (cI, 8, .inl f_sr_rules)), (h_now_th, .inr (7, [.ref h_now_th_weight, .ref h_now_th_under, .int v_h_now_th_out, .int v_h_now_th_size])), (h_now_th_weight, .inl (cI, 12, .inl f_h_now_th_weight)), (h_now_ta, .inr (6, [.ref h_now_ta_mast, .ref h_now_ta_parts, .ref h_now_ta_strength, .int v_h_now_ta_whole, .int v_h_now_ta_size])), (h_now_ta_parts, .inl (cI, 6, .inl f_h_now_ta_parts)), (h_now_ta_strength, .inl (cI, 6, .inl f_h_now_ta_strength)), (h_now_ta_mast, .inl (cI, 6, .inl f_h_now_ta_mast))] [(h, .inr (8, [.ref sr, .ref h_now, .ref h_kept, .ref h_planner, .ref h_floating, .ref h_planks, .int v_h_keptSize])), (h_now, .inr (4, [.ref sr, .ref h_now_th, .ref h_now_ta, .ref h_now_se, .int v_h_now_hour, .int v_h_now_heel, .int v_h_now_water, .int v_h_now_pitch, .int v_h_now_boatUsed, .int v_h_now_heelWent, .int v_h_now_pitchTaken, .int v_h_now_hoursOfMen, .int v_h_now_parted, .int v_h_now_moved])), (sr, .inr (5, [.ref sr_tide, .ref sr_rain, .ref sr_rules])), (sr_rules, .inl (cI, 8, .inl f_sr_rules)), (h_now_th, .inr (7, [.ref h_now_th_weight, .ref h_now_th_under, .int v_h_now_th_out, .int v_h_now_th_size])), (h_now_th_weight, .inl (cI, 12, .inl f_h_now_th_weight)), (h_now_ta, .inr (6, [.ref h_now_ta_mast, .ref h_now_ta_parts, .ref h_now_ta_strength, .int v_h_now_ta_whole, .int v_h_now_ta_size])), (h_now_ta_parts, .inl (cI, 6, .inl f_h_now_ta_parts)), (h_now_ta_strength, .inl (cI, 6, .inl f_h_now_ta_strength)), (h_now_ta_mast, .inl (cI, 6, .inl f_h_now_ta_mast))] r := by
  refine k_enter (y := yX8_greatest) (wl := wsX8_greatest) (rm := rm_X8_greatest) (av := [.ref h, .int a1]) (D := D) (tys := k_tys cI cZ cJ cS) (ws := [(h, .inr (8, [.ref sr, .ref h_now, .ref h_kept, .ref h_planner, .ref h_floating, .ref h_planks, .int v_h_keptSize])), (h_now, .inr (4, [.ref sr, .ref h_now_th, .ref h_now_ta, .ref h_now_se, .int v_h_now_hour, .int v_h_now_heel, .int v_h_now_water, .int v_h_now_pitch, .int v_h_now_boatUsed, .int v_h_now_heelWent, .int v_h_now_pitchTaken, .int v_h_now_hoursOfMen, .int v_h_now_parted, .int v_h_now_moved])), (sr, .inr (5, [.ref sr_tide, .ref sr_rain, .ref sr_rules])), (sr_rules, .inl (cI, 8, .inl f_sr_rules)), (h_now_th, .inr (7, [.ref h_now_th_weight, .ref h_now_th_under, .int v_h_now_th_out, .int v_h_now_th_size])), (h_now_th_weight, .inl (cI, 12, .inl f_h_now_th_weight)), (h_now_ta, .inr (6, [.ref h_now_ta_mast, .ref h_now_ta_parts, .ref h_now_ta_strength, .int v_h_now_ta_whole, .int v_h_now_ta_size])), (h_now_ta_parts, .inl (cI, 6, .inl f_h_now_ta_parts)), (h_now_ta_strength, .inl (cI, 6, .inl f_h_now_ta_strength)), (h_now_ta_mast, .inl (cI, 6, .inl f_h_now_ta_mast))]) (cc := cX8_greatest) (maxL := 3) (ret := (some .int)) (Qc := fun A => k_Qi D (k_tys cI cZ cJ cS) [(h, .inr (8, [.ref sr, .ref h_now, .ref h_kept, .ref h_planner, .ref h_floating, .ref h_planks, .int v_h_keptSize])), (h_now, .inr (4, [.ref sr, .ref h_now_th, .ref h_now_ta, .ref h_now_se, .int v_h_now_hour, .int v_h_now_heel, .int v_h_now_water, .int v_h_now_pitch, .int v_h_now_boatUsed, .int v_h_now_heelWent, .int v_h_now_pitchTaken, .int v_h_now_hoursOfMen, .int v_h_now_parted, .int v_h_now_moved])), (sr, .inr (5, [.ref sr_tide, .ref sr_rain, .ref sr_rules])), (sr_rules, .inl (cI, 8, .inl f_sr_rules)), (h_now_th, .inr (7, [.ref h_now_th_weight, .ref h_now_th_under, .int v_h_now_th_out, .int v_h_now_th_size])), (h_now_th_weight, .inl (cI, 12, .inl f_h_now_th_weight)), (h_now_ta, .inr (6, [.ref h_now_ta_mast, .ref h_now_ta_parts, .ref h_now_ta_strength, .int v_h_now_ta_whole, .int v_h_now_ta_size])), (h_now_ta_parts, .inl (cI, 6, .inl f_h_now_ta_parts)), (h_now_ta_strength, .inl (cI, 6, .inl f_h_now_ta_strength)), (h_now_ta_mast, .inl (cI, 6, .inl f_h_now_ta_mast))] A r) (by decide) rfl (Nat.le_of_ble_eq_true rfl) [(0, .ref h), (1, .int a1)] rfl ?_
  intro p e s m below meth c A hx hb hml hr hlocks hnm hown hK hP hD hA hS hN ls args Q hts hl hQ
  replace hown : s.vm.findClass RX8 = some m.cls := hown
  have S0 : CallFix p m c cX8_greatest 3 s args wsX8_greatest RX8 := ⟨hx, hb, hml, hown, hts⟩
  have inX8 : ∀ w ∈ u_ws RX8 TX8 7, w ∈ wsX8_greatest := fun w h => List.mem_cons_of_mem _ (List.mem_append_left _ (List.mem_append_left _ (List.mem_append_left _ (List.mem_append_left _ (List.mem_append_right _ h)))))
  have wl1 : (Cond.fieldLink RX8 21 "BeachedShip" "now" "LBeachedShip$Ship;").before args s = true := hts _ (List.mem_of_getElem? (i := 1) rfl)
  have hRet : ∀ (r_z : Int32), some r_z = some r → ∀ (H : Heap) (locs : List Loc) (ls : Array Slot) (pc : Nat), va_P D vwCl [(h, .inr (8, [.ref sr, .ref h_now, .ref h_kept, .ref h_planner, .ref h_floating, .ref h_planks, .int v_h_keptSize])), (h_now, .inr (4, [.ref sr, .ref h_now_th, .ref h_now_ta, .ref h_now_se, .int v_h_now_hour, .int v_h_now_heel, .int v_h_now_water, .int v_h_now_pitch, .int v_h_now_boatUsed, .int v_h_now_heelWent, .int v_h_now_pitchTaken, .int v_h_now_hoursOfMen, .int v_h_now_parted, .int v_h_now_moved])), (sr, .inr (5, [.ref sr_tide, .ref sr_rain, .ref sr_rules])), (sr_rules, .inl (cI, 8, .inl f_sr_rules)), (h_now_th, .inr (7, [.ref h_now_th_weight, .ref h_now_th_under, .int v_h_now_th_out, .int v_h_now_th_size])), (h_now_th_weight, .inl (cI, 12, .inl f_h_now_th_weight)), (h_now_ta, .inr (6, [.ref h_now_ta_mast, .ref h_now_ta_parts, .ref h_now_ta_strength, .int v_h_now_ta_whole, .int v_h_now_ta_size])), (h_now_ta_parts, .inl (cI, 6, .inl f_h_now_ta_parts)), (h_now_ta_strength, .inl (cI, 6, .inl f_h_now_ta_strength)), (h_now_ta_mast, .inl (cI, 6, .inl f_h_now_ta_mast))] H → va_D A [(h, .inr (8, [.ref sr, .ref h_now, .ref h_kept, .ref h_planner, .ref h_floating, .ref h_planks, .int v_h_keptSize])), (h_now, .inr (4, [.ref sr, .ref h_now_th, .ref h_now_ta, .ref h_now_se, .int v_h_now_hour, .int v_h_now_heel, .int v_h_now_water, .int v_h_now_pitch, .int v_h_now_boatUsed, .int v_h_now_heelWent, .int v_h_now_pitchTaken, .int v_h_now_hoursOfMen, .int v_h_now_parted, .int v_h_now_moved])), (sr, .inr (5, [.ref sr_tide, .ref sr_rain, .ref sr_rules])), (sr_rules, .inl (cI, 8, .inl f_sr_rules)), (h_now_th, .inr (7, [.ref h_now_th_weight, .ref h_now_th_under, .int v_h_now_th_out, .int v_h_now_th_size])), (h_now_th_weight, .inl (cI, 12, .inl f_h_now_th_weight)), (h_now_ta, .inr (6, [.ref h_now_ta_mast, .ref h_now_ta_parts, .ref h_now_ta_strength, .int v_h_now_ta_whole, .int v_h_now_ta_size])), (h_now_ta_parts, .inl (cI, 6, .inl f_h_now_ta_parts)), (h_now_ta_strength, .inl (cI, 6, .inl f_h_now_ta_strength)), (h_now_ta_mast, .inl (cI, 6, .inl f_h_now_ta_mast))] → va_S A s.heap H locs → narrow .int (.int r_z) = .int r_z → decode cX8_greatest pc = .ok (.ireturn, 1) → W p l e rm_X8_greatest s m args below meth c H locs 0 0 Q (F0 m pc ls [.int r_z]) := by
    intro r_z hz H locs ls pc hP hD hS hn hd
    cases hz
    exact k_iret hx hb hr hlocks hn hK hP hD hS hQ rfl hd
  unfold p_X8_greatest at hf
  refine lv_bipush (v := 9) hx hb dX8_greatest_0 (by decide) ?_
  refine lv_istore_n (lv' := [(2, .int 9), (0, .ref h), (1, .int a1)]) hx hb dX8_greatest_2 rfl hl (by decide) rfl (fun ls hl => ?_)
  obtain ⟨ee7, hlp7, hfr7⟩ := k_b1_ee hf
  have hE7 : ∀ (x2_8 : Int32), ee7 = x2_8 → ∀ (H : Heap) (locs : List Loc) (ls : Array Slot), va_P D vwCl [(h, .inr (8, [.ref sr, .ref h_now, .ref h_kept, .ref h_planner, .ref h_floating, .ref h_planks, .int v_h_keptSize])), (h_now, .inr (4, [.ref sr, .ref h_now_th, .ref h_now_ta, .ref h_now_se, .int v_h_now_hour, .int v_h_now_heel, .int v_h_now_water, .int v_h_now_pitch, .int v_h_now_boatUsed, .int v_h_now_heelWent, .int v_h_now_pitchTaken, .int v_h_now_hoursOfMen, .int v_h_now_parted, .int v_h_now_moved])), (sr, .inr (5, [.ref sr_tide, .ref sr_rain, .ref sr_rules])), (sr_rules, .inl (cI, 8, .inl f_sr_rules)), (h_now_th, .inr (7, [.ref h_now_th_weight, .ref h_now_th_under, .int v_h_now_th_out, .int v_h_now_th_size])), (h_now_th_weight, .inl (cI, 12, .inl f_h_now_th_weight)), (h_now_ta, .inr (6, [.ref h_now_ta_mast, .ref h_now_ta_parts, .ref h_now_ta_strength, .int v_h_now_ta_whole, .int v_h_now_ta_size])), (h_now_ta_parts, .inl (cI, 6, .inl f_h_now_ta_parts)), (h_now_ta_strength, .inl (cI, 6, .inl f_h_now_ta_strength)), (h_now_ta_mast, .inl (cI, 6, .inl f_h_now_ta_mast))] H → va_D A [(h, .inr (8, [.ref sr, .ref h_now, .ref h_kept, .ref h_planner, .ref h_floating, .ref h_planks, .int v_h_keptSize])), (h_now, .inr (4, [.ref sr, .ref h_now_th, .ref h_now_ta, .ref h_now_se, .int v_h_now_hour, .int v_h_now_heel, .int v_h_now_water, .int v_h_now_pitch, .int v_h_now_boatUsed, .int v_h_now_heelWent, .int v_h_now_pitchTaken, .int v_h_now_hoursOfMen, .int v_h_now_parted, .int v_h_now_moved])), (sr, .inr (5, [.ref sr_tide, .ref sr_rain, .ref sr_rules])), (sr_rules, .inl (cI, 8, .inl f_sr_rules)), (h_now_th, .inr (7, [.ref h_now_th_weight, .ref h_now_th_under, .int v_h_now_th_out, .int v_h_now_th_size])), (h_now_th_weight, .inl (cI, 12, .inl f_h_now_th_weight)), (h_now_ta, .inr (6, [.ref h_now_ta_mast, .ref h_now_ta_parts, .ref h_now_ta_strength, .int v_h_now_ta_whole, .int v_h_now_ta_size])), (h_now_ta_parts, .inl (cI, 6, .inl f_h_now_ta_parts)), (h_now_ta_strength, .inl (cI, 6, .inl f_h_now_ta_strength)), (h_now_ta_mast, .inl (cI, 6, .inl f_h_now_ta_mast))] → va_S A s.heap H locs → lv_has ls 3 [(2, .int x2_8)] → W p l e rm_X8_greatest s m args below meth c H locs 0 0 Q (F0 m 25 ls []) := by
    intro x2_8 he H locs ls hP hD hS hl
    replace hf := hfr7 x2_8 he
    refine lv_iload_n hx hb dX8_greatest_25 rfl (lv_at hl 0 rfl) ?_
    exact hRet _ hf _ _ _ _ hP hD hS rfl dX8_greatest_26
  refine (k_lp_ind (fun sx7 => ∀ (H : Heap) (locs : List Loc) (ls : Array Slot), va_P D vwCl [(h, .inr (8, [.ref sr, .ref h_now, .ref h_kept, .ref h_planner, .ref h_floating, .ref h_planks, .int v_h_keptSize])), (h_now, .inr (4, [.ref sr, .ref h_now_th, .ref h_now_ta, .ref h_now_se, .int v_h_now_hour, .int v_h_now_heel, .int v_h_now_water, .int v_h_now_pitch, .int v_h_now_boatUsed, .int v_h_now_heelWent, .int v_h_now_pitchTaken, .int v_h_now_hoursOfMen, .int v_h_now_parted, .int v_h_now_moved])), (sr, .inr (5, [.ref sr_tide, .ref sr_rain, .ref sr_rules])), (sr_rules, .inl (cI, 8, .inl f_sr_rules)), (h_now_th, .inr (7, [.ref h_now_th_weight, .ref h_now_th_under, .int v_h_now_th_out, .int v_h_now_th_size])), (h_now_th_weight, .inl (cI, 12, .inl f_h_now_th_weight)), (h_now_ta, .inr (6, [.ref h_now_ta_mast, .ref h_now_ta_parts, .ref h_now_ta_strength, .int v_h_now_ta_whole, .int v_h_now_ta_size])), (h_now_ta_parts, .inl (cI, 6, .inl f_h_now_ta_parts)), (h_now_ta_strength, .inl (cI, 6, .inl f_h_now_ta_strength)), (h_now_ta_mast, .inl (cI, 6, .inl f_h_now_ta_mast))] H → va_D A [(h, .inr (8, [.ref sr, .ref h_now, .ref h_kept, .ref h_planner, .ref h_floating, .ref h_planks, .int v_h_keptSize])), (h_now, .inr (4, [.ref sr, .ref h_now_th, .ref h_now_ta, .ref h_now_se, .int v_h_now_hour, .int v_h_now_heel, .int v_h_now_water, .int v_h_now_pitch, .int v_h_now_boatUsed, .int v_h_now_heelWent, .int v_h_now_pitchTaken, .int v_h_now_hoursOfMen, .int v_h_now_parted, .int v_h_now_moved])), (sr, .inr (5, [.ref sr_tide, .ref sr_rain, .ref sr_rules])), (sr_rules, .inl (cI, 8, .inl f_sr_rules)), (h_now_th, .inr (7, [.ref h_now_th_weight, .ref h_now_th_under, .int v_h_now_th_out, .int v_h_now_th_size])), (h_now_th_weight, .inl (cI, 12, .inl f_h_now_th_weight)), (h_now_ta, .inr (6, [.ref h_now_ta_mast, .ref h_now_ta_parts, .ref h_now_ta_strength, .int v_h_now_ta_whole, .int v_h_now_ta_size])), (h_now_ta_parts, .inl (cI, 6, .inl f_h_now_ta_parts)), (h_now_ta_strength, .inl (cI, 6, .inl f_h_now_ta_strength)), (h_now_ta_mast, .inl (cI, 6, .inl f_h_now_ta_mast))] → va_S A s.heap H locs → lv_has ls 3 [(2, .int sx7), (0, .ref h), (1, .int a1)] → W p l e rm_X8_greatest s m args below meth c H locs 0 0 Q (F0 m 3 ls [])) (fun sx7 X7 hX7 hin7 hout7 => ?_) _ _ hlp7) _ _ _ hP hD hS (lv_sub hl [0, 1, 2] rfl)
  obtain ⟨x2_9, rfl⟩ : ∃ z, z = sx7 := ⟨_, rfl⟩
  intro H locs ls hP hD hS hl
  replace hP : va_P D vwCl [(h, .inr (8, [.ref sr, .ref h_now, .ref h_kept, .ref h_planner, .ref h_floating, .ref h_planks, .int v_h_keptSize])), (h_now, .inr (4, [.ref sr, .ref h_now_th, .ref h_now_ta, .ref h_now_se, .int v_h_now_hour, .int v_h_now_heel, .int v_h_now_water, .int v_h_now_pitch, .int v_h_now_boatUsed, .int v_h_now_heelWent, .int v_h_now_pitchTaken, .int v_h_now_hoursOfMen, .int v_h_now_parted, .int v_h_now_moved])), (sr, .inr (5, [.ref sr_tide, .ref sr_rain, .ref sr_rules])), (sr_rules, .inl (cI, 8, .inl f_sr_rules)), (h_now_th, .inr (7, [.ref h_now_th_weight, .ref h_now_th_under, .int v_h_now_th_out, .int v_h_now_th_size])), (h_now_th_weight, .inl (cI, 12, .inl f_h_now_th_weight)), (h_now_ta, .inr (6, [.ref h_now_ta_mast, .ref h_now_ta_parts, .ref h_now_ta_strength, .int v_h_now_ta_whole, .int v_h_now_ta_size])), (h_now_ta_parts, .inl (cI, 6, .inl f_h_now_ta_parts)), (h_now_ta_strength, .inl (cI, 6, .inl f_h_now_ta_strength)), (h_now_ta_mast, .inl (cI, 6, .inl f_h_now_ta_mast))] H := hP
  replace hD : va_D A [(h, .inr (8, [.ref sr, .ref h_now, .ref h_kept, .ref h_planner, .ref h_floating, .ref h_planks, .int v_h_keptSize])), (h_now, .inr (4, [.ref sr, .ref h_now_th, .ref h_now_ta, .ref h_now_se, .int v_h_now_hour, .int v_h_now_heel, .int v_h_now_water, .int v_h_now_pitch, .int v_h_now_boatUsed, .int v_h_now_heelWent, .int v_h_now_pitchTaken, .int v_h_now_hoursOfMen, .int v_h_now_parted, .int v_h_now_moved])), (sr, .inr (5, [.ref sr_tide, .ref sr_rain, .ref sr_rules])), (sr_rules, .inl (cI, 8, .inl f_sr_rules)), (h_now_th, .inr (7, [.ref h_now_th_weight, .ref h_now_th_under, .int v_h_now_th_out, .int v_h_now_th_size])), (h_now_th_weight, .inl (cI, 12, .inl f_h_now_th_weight)), (h_now_ta, .inr (6, [.ref h_now_ta_mast, .ref h_now_ta_parts, .ref h_now_ta_strength, .int v_h_now_ta_whole, .int v_h_now_ta_size])), (h_now_ta_parts, .inl (cI, 6, .inl f_h_now_ta_parts)), (h_now_ta_strength, .inl (cI, 6, .inl f_h_now_ta_strength)), (h_now_ta_mast, .inl (cI, 6, .inl f_h_now_ta_mast))] := hD
  replace hl : lv_has ls 3 [(2, .int x2_9), (0, .ref h), (1, .int a1)] := hl
  replace hX7 : lb_X8_greatest_3 f_sr_rules v_h_now_th_out v_h_now_th_size f_h_now_th_weight v_h_now_ta_whole v_h_now_ta_size f_h_now_ta_parts f_h_now_ta_strength f_h_now_ta_mast a1 x2_9 = some X7 := hX7
  unfold lb_X8_greatest_3 at hX7
  refine lv_iload_n hx hb dX8_greatest_3 rfl (lv_at hl 0 rfl) ?_
  refine lv_if_le (tgt := 25) hx hb dX8_greatest_4 (by decide) (fun c10 => ?_) (fun c10 => ?_)
  · replace hX7 := k_pos hX7 c10
    exact hE7 _ (hout7 _ (Option.some.inj hX7).symm).symm _ _ _ hP hD hS (lv_sub hl [0] rfl)
  · replace hX7 := k_neg hX7 c10
    refine lv_aload_n hx hb dX8_greatest_7 rfl (lv_at hl 1 rfl) ?_
    refine k_get (C := RX8) (T := TX8) (N := 7) hx hb hts inX8 hown hK hP 0 rfl rfl 1 (by decide) rfl wl1 rfl dX8_greatest_8 ?_
    refine lv_iload_n hx hb dX8_greatest_11 rfl (lv_at hl 0 rfl) ?_
    refine lv_iload_n hx hb dX8_greatest_12 rfl (lv_at hl 2 rfl) ?_
    obtain ⟨r11, hc11, hX7⟩ := k_b1_some hX7
    refine k_ViR (q0 := 0) (As := [.int x2_9, .int a1]) (rest := []) S0 (c_X4_holds l D cI cZ cJ cS h_now sr h_now_th h_now_ta h_now_se sr_tide sr_rain sr_rules h_now_th_weight h_now_th_under h_now_ta_mast h_now_ta_parts h_now_ta_strength v_h_now_hour v_h_now_heel v_h_now_water v_h_now_pitch v_h_now_boatUsed v_h_now_heelWent v_h_now_pitchTaken v_h_now_hoursOfMen v_h_now_parted v_h_now_moved f_sr_rules v_h_now_th_out v_h_now_th_size f_h_now_th_weight v_h_now_ta_whole v_h_now_ta_size f_h_now_ta_parts f_h_now_ta_strength f_h_now_ta_mast x2_9 a1 r11 hc11) (cwV 2 hts gX8_greatest_X4_holds rfl rfl rfl hdV_X4_holds ⟨Nat.le_of_ble_eq_true rfl, Nat.le_of_ble_eq_true rfl⟩) hK hP hD hS hA hN [1, 2, 3, 4, 5, 6, 7, 8, 9] rfl (by decide) rfl rfl rfl rfl hl.1 rfl (Nat.le_of_ble_eq_true rfl) dX8_greatest_13 (fun H locs hP hS => ?_)
    refine lv_if_ne (tgt := 25) hx hb dX8_greatest_16 (by decide) (fun c12 => ?_) (fun c12 => ?_)
    · replace hX7 := k_neg hX7 c12
      exact hE7 _ (hout7 _ (Option.some.inj hX7).symm).symm _ _ _ hP hD hS (lv_sub hl [0] rfl)
    · replace hX7 := k_pos hX7 c12
      refine lv_iinc (v := x2_9 + (-1)) (lv' := [(2, .int (x2_9 + (-1))), (0, .ref h), (1, .int a1)]) hx hb dX8_greatest_19 hl (k := 0) rfl rfl (by decide) rfl (fun ls hl => ?_)
      refine lv_goto (tgt := 3) hx hb dX8_greatest_22 (by decide) ?_
      exact hin7 (x2_9 + (-1)) (Option.some.inj hX7).symm _ _ _ hP hD hS (lv_sub hl [0, 1, 2] rfl)

def p_X8_seamTold (v_h_now_hour : Int32) (v_h_now_heel : Int32) (v_h_now_se_size : Int32) (f_h_now_se_state : Nat → Int32) (f_sr_tide : Nat → Int32) (f_h_now_se_strake : Nat → Int32) (f_h_now_se_side : Nat → Int32) (f_h_now_se_done : Nat → Int32) (a1 : Int32) (a2 : Int32) : Option (Int32) :=
  k_b1 (p_X8_within a1 0 (v_h_now_se_size - 1)) fun r1 =>
  if r1 = 0 then
    some (-1)
  else
    if a2 = 0 then
      k_ix a1 12 (
        some (f_h_now_se_state a1.toNatClampNeg))
    else
    if a2 = 1 then
      k_b1 (p_X4_isBare v_h_now_heel f_sr_tide f_h_now_se_strake f_h_now_se_side a1 v_h_now_hour) fun r6 =>
      k_b1 (p_X8_asNumber r6) fun r7 =>
      some r7
    else
    if a2 = 2 then
      k_ix a1 12 (
        some (f_h_now_se_done a1.toNatClampNeg))
    else
    if a2 = 3 then
      k_b1 (p_X4_hoursBare v_h_now_hour v_h_now_heel f_sr_tide f_h_now_se_strake f_h_now_se_side a1) fun r11 =>
      some r11
    else
      some (-1)
abbrev rm_X8_seamTold : Room := { frames := 4, cells := 0, slots := 0, locals := 89 }
theorem hdS_X8_seamTold : yX8_seamTold.cls ≠ "java/lang/invoke/MethodHandle" ∧ yX8_seamTold.cls ≠ "java/lang/invoke/VarHandle" ∧ (parseMethodDescriptor yX8_seamTold.desc).map (fun d => d.parameters.length) = some 2 := by decide +kernel
theorem hdV_X8_seamTold : yX8_seamTold.cls = RX8 ∧ yX8_seamTold.cls ≠ "java/lang/invoke/MethodHandle" ∧ yX8_seamTold.cls ≠ "java/lang/invoke/VarHandle" ∧ (parseMethodDescriptor yX8_seamTold.desc).map (fun d => d.parameters.length) = some 2 := by decide +kernel
set_option maxHeartbeats 4000000 in
set_option maxRecDepth 100000 in
theorem c_X8_seamTold (l : Launch) (D : va_G) (cI cZ cJ cS : ClassId) (h sr h_now h_kept h_planner h_floating h_planks h_now_th h_now_ta h_now_se h_now_se_strake h_now_se_side h_now_se_hands h_now_se_hours h_now_se_pitch h_now_se_worth h_now_se_state h_now_se_done sr_tide sr_rain sr_rules : Nat) (v_h_keptSize : Int32) (v_h_now_hour : Int32) (v_h_now_heel : Int32) (v_h_now_water : Int32) (v_h_now_pitch : Int32) (v_h_now_boatUsed : Int32) (v_h_now_heelWent : Int32) (v_h_now_pitchTaken : Int32) (v_h_now_hoursOfMen : Int32) (v_h_now_parted : Int32) (v_h_now_moved : Int32) (v_h_now_se_size : Int32) (f_h_now_se_state : Nat → Int32) (f_sr_tide : Nat → Int32) (f_h_now_se_strake : Nat → Int32) (f_h_now_se_side : Nat → Int32) (f_h_now_se_done : Nat → Int32) (a1 : Int32) (a2 : Int32) (r : Int32) (hf : p_X8_seamTold v_h_now_hour v_h_now_heel v_h_now_se_size f_h_now_se_state f_sr_tide f_h_now_se_strake f_h_now_se_side f_h_now_se_done a1 a2 = some r) : k_MI l yX8_seamTold wsX8_seamTold rm_X8_seamTold D (k_tys cI cZ cJ cS) [.ref h, .int a1, .int a2] [(h, .inr (8, [.ref sr, .ref h_now, .ref h_kept, .ref h_planner, .ref h_floating, .ref h_planks, .int v_h_keptSize])), (h_now, .inr (4, [.ref sr, .ref h_now_th, .ref h_now_ta, .ref h_now_se, .int v_h_now_hour, .int v_h_now_heel, .int v_h_now_water, .int v_h_now_pitch, .int v_h_now_boatUsed, .int v_h_now_heelWent, .int v_h_now_pitchTaken, .int v_h_now_hoursOfMen, .int v_h_now_parted, .int v_h_now_moved])), (h_now_se, .inr (3, [.ref h_now_se_strake, .ref h_now_se_side, .ref h_now_se_hands, .ref h_now_se_hours, .ref h_now_se_pitch, .ref h_now_se_worth, .ref h_now_se_state, .ref h_now_se_done, .int v_h_now_se_size])), (h_now_se_state, .inl (cI, 12, .inl f_h_now_se_state)), (sr, .inr (5, [.ref sr_tide, .ref sr_rain, .ref sr_rules])), (sr_tide, .inl (cI, 96, .inl f_sr_tide)), (h_now_se_strake, .inl (cI, 12, .inl f_h_now_se_strake)), (h_now_se_side, .inl (cI, 12, .inl f_h_now_se_side)), (h_now_se_done, .inl (cI, 12, .inl f_h_now_se_done))] [(h, .inr (8, [.ref sr, .ref h_now, .ref h_kept, .ref h_planner, .ref h_floating, .ref h_planks, .int v_h_keptSize])), (h_now, .inr (4, [.ref sr, .ref h_now_th, .ref h_now_ta, .ref h_now_se, .int v_h_now_hour, .int v_h_now_heel, .int v_h_now_water, .int v_h_now_pitch, .int v_h_now_boatUsed, .int v_h_now_heelWent, .int v_h_now_pitchTaken, .int v_h_now_hoursOfMen, .int v_h_now_parted, .int v_h_now_moved])), (h_now_se, .inr (3, [.ref h_now_se_strake, .ref h_now_se_side, .ref h_now_se_hands, .ref h_now_se_hours, .ref h_now_se_pitch, .ref h_now_se_worth, .ref h_now_se_state, .ref h_now_se_done, .int v_h_now_se_size])), (h_now_se_state, .inl (cI, 12, .inl f_h_now_se_state)), (sr, .inr (5, [.ref sr_tide, .ref sr_rain, .ref sr_rules])), (sr_tide, .inl (cI, 96, .inl f_sr_tide)), (h_now_se_strake, .inl (cI, 12, .inl f_h_now_se_strake)), (h_now_se_side, .inl (cI, 12, .inl f_h_now_se_side)), (h_now_se_done, .inl (cI, 12, .inl f_h_now_se_done))] r := by
  refine k_enter (y := yX8_seamTold) (wl := wsX8_seamTold) (rm := rm_X8_seamTold) (av := [.ref h, .int a1, .int a2]) (D := D) (tys := k_tys cI cZ cJ cS) (ws := [(h, .inr (8, [.ref sr, .ref h_now, .ref h_kept, .ref h_planner, .ref h_floating, .ref h_planks, .int v_h_keptSize])), (h_now, .inr (4, [.ref sr, .ref h_now_th, .ref h_now_ta, .ref h_now_se, .int v_h_now_hour, .int v_h_now_heel, .int v_h_now_water, .int v_h_now_pitch, .int v_h_now_boatUsed, .int v_h_now_heelWent, .int v_h_now_pitchTaken, .int v_h_now_hoursOfMen, .int v_h_now_parted, .int v_h_now_moved])), (h_now_se, .inr (3, [.ref h_now_se_strake, .ref h_now_se_side, .ref h_now_se_hands, .ref h_now_se_hours, .ref h_now_se_pitch, .ref h_now_se_worth, .ref h_now_se_state, .ref h_now_se_done, .int v_h_now_se_size])), (h_now_se_state, .inl (cI, 12, .inl f_h_now_se_state)), (sr, .inr (5, [.ref sr_tide, .ref sr_rain, .ref sr_rules])), (sr_tide, .inl (cI, 96, .inl f_sr_tide)), (h_now_se_strake, .inl (cI, 12, .inl f_h_now_se_strake)), (h_now_se_side, .inl (cI, 12, .inl f_h_now_se_side)), (h_now_se_done, .inl (cI, 12, .inl f_h_now_se_done))]) (cc := cX8_seamTold) (maxL := 3) (ret := (some .int)) (Qc := fun A => k_Qi D (k_tys cI cZ cJ cS) [(h, .inr (8, [.ref sr, .ref h_now, .ref h_kept, .ref h_planner, .ref h_floating, .ref h_planks, .int v_h_keptSize])), (h_now, .inr (4, [.ref sr, .ref h_now_th, .ref h_now_ta, .ref h_now_se, .int v_h_now_hour, .int v_h_now_heel, .int v_h_now_water, .int v_h_now_pitch, .int v_h_now_boatUsed, .int v_h_now_heelWent, .int v_h_now_pitchTaken, .int v_h_now_hoursOfMen, .int v_h_now_parted, .int v_h_now_moved])), (h_now_se, .inr (3, [.ref h_now_se_strake, .ref h_now_se_side, .ref h_now_se_hands, .ref h_now_se_hours, .ref h_now_se_pitch, .ref h_now_se_worth, .ref h_now_se_state, .ref h_now_se_done, .int v_h_now_se_size])), (h_now_se_state, .inl (cI, 12, .inl f_h_now_se_state)), (sr, .inr (5, [.ref sr_tide, .ref sr_rain, .ref sr_rules])), (sr_tide, .inl (cI, 96, .inl f_sr_tide)), (h_now_se_strake, .inl (cI, 12, .inl f_h_now_se_strake)), (h_now_se_side, .inl (cI, 12, .inl f_h_now_se_side)), (h_now_se_done, .inl (cI, 12, .inl f_h_now_se_done))] A r) (by decide) rfl (Nat.le_of_ble_eq_true rfl) [(0, .ref h), (1, .int a1), (2, .int a2)] rfl ?_
  intro p e s m below meth c A hx hb hml hr hlocks hnm hown hK hP hD hA hS hN ls args Q hts hl hQ
  replace hown : s.vm.findClass RX8 = some m.cls := hown
  have S0 : CallFix p m c cX8_seamTold 3 s args wsX8_seamTold RX8 := ⟨hx, hb, hml, hown, hts⟩
  have inX8 : ∀ w ∈ u_ws RX8 TX8 7, w ∈ wsX8_seamTold := fun w h => List.mem_cons_of_mem _ (List.mem_append_left _ (List.mem_append_left _ (List.mem_append_left _ (List.mem_append_right _ h))))
  have inX4 : ∀ w ∈ u_ws RX4 TX4 14, w ∈ wsX8_seamTold := fun w h => List.mem_cons_of_mem _ (List.mem_append_left _ (List.mem_append_left _ (List.mem_append_right _ h)))
  have inX3 : ∀ w ∈ u_ws RX3 TX3 9, w ∈ wsX8_seamTold := fun w h => List.mem_cons_of_mem _ (List.mem_append_left _ (List.mem_append_right _ h))
  have wl1 : (Cond.fieldLink RX8 21 "BeachedShip" "now" "LBeachedShip$Ship;").before args s = true := hts _ (List.mem_of_getElem? (i := 1) rfl)
  have wl2 : (Cond.fieldLink RX8 122 "BeachedShip$Ship" "seams" "LBeachedShip$Seams;").before args s = true := hts _ (List.mem_of_getElem? (i := 2) rfl)
  have wl3 : (Cond.fieldLink RX8 126 "BeachedShip$Seams" "size" "I").before args s = true := hts _ (List.mem_of_getElem? (i := 3) rfl)
  have wl4 : (Cond.fieldLink RX8 180 "BeachedShip$Seams" "state" "[I").before args s = true := hts _ (List.mem_of_getElem? (i := 4) rfl)
  have wl5 : (Cond.fieldLink RX8 153 "BeachedShip$Ship" "hour" "I").before args s = true := hts _ (List.mem_of_getElem? (i := 5) rfl)
  have wl6 : (Cond.fieldLink RX8 186 "BeachedShip$Seams" "done" "[I").before args s = true := hts _ (List.mem_of_getElem? (i := 6) rfl)
  have hRet : ∀ (r_z : Int32), some r_z = some r → ∀ (H : Heap) (locs : List Loc) (ls : Array Slot) (pc : Nat), va_P D vwCl [(h, .inr (8, [.ref sr, .ref h_now, .ref h_kept, .ref h_planner, .ref h_floating, .ref h_planks, .int v_h_keptSize])), (h_now, .inr (4, [.ref sr, .ref h_now_th, .ref h_now_ta, .ref h_now_se, .int v_h_now_hour, .int v_h_now_heel, .int v_h_now_water, .int v_h_now_pitch, .int v_h_now_boatUsed, .int v_h_now_heelWent, .int v_h_now_pitchTaken, .int v_h_now_hoursOfMen, .int v_h_now_parted, .int v_h_now_moved])), (h_now_se, .inr (3, [.ref h_now_se_strake, .ref h_now_se_side, .ref h_now_se_hands, .ref h_now_se_hours, .ref h_now_se_pitch, .ref h_now_se_worth, .ref h_now_se_state, .ref h_now_se_done, .int v_h_now_se_size])), (h_now_se_state, .inl (cI, 12, .inl f_h_now_se_state)), (sr, .inr (5, [.ref sr_tide, .ref sr_rain, .ref sr_rules])), (sr_tide, .inl (cI, 96, .inl f_sr_tide)), (h_now_se_strake, .inl (cI, 12, .inl f_h_now_se_strake)), (h_now_se_side, .inl (cI, 12, .inl f_h_now_se_side)), (h_now_se_done, .inl (cI, 12, .inl f_h_now_se_done))] H → va_D A [(h, .inr (8, [.ref sr, .ref h_now, .ref h_kept, .ref h_planner, .ref h_floating, .ref h_planks, .int v_h_keptSize])), (h_now, .inr (4, [.ref sr, .ref h_now_th, .ref h_now_ta, .ref h_now_se, .int v_h_now_hour, .int v_h_now_heel, .int v_h_now_water, .int v_h_now_pitch, .int v_h_now_boatUsed, .int v_h_now_heelWent, .int v_h_now_pitchTaken, .int v_h_now_hoursOfMen, .int v_h_now_parted, .int v_h_now_moved])), (h_now_se, .inr (3, [.ref h_now_se_strake, .ref h_now_se_side, .ref h_now_se_hands, .ref h_now_se_hours, .ref h_now_se_pitch, .ref h_now_se_worth, .ref h_now_se_state, .ref h_now_se_done, .int v_h_now_se_size])), (h_now_se_state, .inl (cI, 12, .inl f_h_now_se_state)), (sr, .inr (5, [.ref sr_tide, .ref sr_rain, .ref sr_rules])), (sr_tide, .inl (cI, 96, .inl f_sr_tide)), (h_now_se_strake, .inl (cI, 12, .inl f_h_now_se_strake)), (h_now_se_side, .inl (cI, 12, .inl f_h_now_se_side)), (h_now_se_done, .inl (cI, 12, .inl f_h_now_se_done))] → va_S A s.heap H locs → narrow .int (.int r_z) = .int r_z → decode cX8_seamTold pc = .ok (.ireturn, 1) → W p l e rm_X8_seamTold s m args below meth c H locs 0 0 Q (F0 m pc ls [.int r_z]) := by
    intro r_z hz H locs ls pc hP hD hS hn hd
    cases hz
    exact k_iret hx hb hr hlocks hn hK hP hD hS hQ rfl hd
  unfold p_X8_seamTold at hf
  refine lv_iload_n hx hb dX8_seamTold_0 rfl (lv_at hl 1 rfl) ?_
  refine lv_iconst (v := 0) hx hb dX8_seamTold_1 (by decide) ?_
  refine lv_aload_n hx hb dX8_seamTold_2 rfl (lv_at hl 0 rfl) ?_
  refine k_get (C := RX8) (T := TX8) (N := 7) hx hb hts inX8 hown hK hP 0 rfl rfl 1 (by decide) rfl wl1 rfl dX8_seamTold_3 ?_
  refine k_get (C := RX4) (T := TX4) (N := 14) hx hb hts inX4 hown hK hP 1 rfl rfl 3 (by decide) rfl wl2 rfl dX8_seamTold_6 ?_
  refine k_get (C := RX3) (T := TX3) (N := 9) hx hb hts inX3 hown hK hP 2 rfl rfl 8 (by decide) rfl wl3 rfl dX8_seamTold_9 ?_
  refine lv_iconst (v := 1) hx hb dX8_seamTold_12 (by decide) ?_
  refine lv_isub hx hb dX8_seamTold_13 ?_
  obtain ⟨r1, hc1, hf⟩ := k_b1_some hf
  refine k_SiR (As := [.int a1, .int 0, .int (v_h_now_se_size - 1)]) (rest := []) S0 (c_X8_within l D cI cZ cJ cS a1 0 (v_h_now_se_size - 1) r1 hc1) (va_cwS 3 hts gX8_seamTold_X8_within rfl rfl rfl hdS_X8_within ⟨Nat.le_of_ble_eq_true rfl, Nat.le_of_ble_eq_true rfl⟩) hK hP hD hS hA hN [] rfl (by decide) rfl hl.1 rfl (Nat.le_of_ble_eq_true rfl) dX8_seamTold_14 (fun H locs hP hS => ?_)
  refine lv_if_ne (tgt := 22) hx hb dX8_seamTold_17 (by decide) (fun c2 => ?_) (fun c2 => ?_)
  · replace hf := k_neg hf c2
    refine lv_iload_n hx hb dX8_seamTold_22 rfl (lv_at hl 2 rfl) ?_
    by_cases c3 : a2 = 0
    · replace hf := k_pos hf c3
      refine k_tsw (k := 0) (j := 0) (off := 29) (tgt := 52) hx hb dX8_seamTold_23 c3 (by decide) (by decide) (by decide) rfl (by decide) ?_
      refine lv_aload_n hx hb dX8_seamTold_52 rfl (lv_at hl 0 rfl) ?_
      refine k_get (C := RX8) (T := TX8) (N := 7) hx hb hts inX8 hown hK hP 0 rfl rfl 1 (by decide) rfl wl1 rfl dX8_seamTold_53 ?_
      refine k_get (C := RX4) (T := TX4) (N := 14) hx hb hts inX4 hown hK hP 1 rfl rfl 3 (by decide) rfl wl2 rfl dX8_seamTold_56 ?_
      refine k_get (C := RX3) (T := TX3) (N := 9) hx hb hts inX3 hown hK hP 2 rfl rfl 6 (by decide) rfl wl4 rfl dX8_seamTold_59 ?_
      refine lv_iload_n hx hb dX8_seamTold_62 rfl (lv_at hl 1 rfl) ?_
      obtain ⟨hi4, hf⟩ := k_ix_some hf
      refine k_iald (k := a1.toNatClampNeg) hx hb hK hP 3 0 rfl rfl hi4 rfl dX8_seamTold_63 ?_
      exact hRet _ hf _ _ _ _ hP hD hS rfl dX8_seamTold_64
    · replace hf := k_neg hf c3
      by_cases c5 : a2 = 1
      · replace hf := k_pos hf c5
        refine k_tsw (k := 1) (j := 1) (off := 42) (tgt := 65) hx hb dX8_seamTold_23 c5 (by decide) (by decide) (by decide) rfl (by decide) ?_
        refine lv_aload_n hx hb dX8_seamTold_65 rfl (lv_at hl 0 rfl) ?_
        refine k_get (C := RX8) (T := TX8) (N := 7) hx hb hts inX8 hown hK hP 0 rfl rfl 1 (by decide) rfl wl1 rfl dX8_seamTold_66 ?_
        refine lv_iload_n hx hb dX8_seamTold_69 rfl (lv_at hl 1 rfl) ?_
        refine lv_aload_n hx hb dX8_seamTold_70 rfl (lv_at hl 0 rfl) ?_
        refine k_get (C := RX8) (T := TX8) (N := 7) hx hb hts inX8 hown hK hP 0 rfl rfl 1 (by decide) rfl wl1 rfl dX8_seamTold_71 ?_
        refine k_get (C := RX4) (T := TX4) (N := 14) hx hb hts inX4 hown hK hP 1 rfl rfl 4 (by decide) rfl wl5 rfl dX8_seamTold_74 ?_
        obtain ⟨r6, hc6, hf⟩ := k_b1_some hf
        refine k_ViR (q0 := 0) (As := [.int a1, .int v_h_now_hour]) (rest := []) S0 (c_X4_isBare l D cI cZ cJ cS h_now sr h_now_th h_now_ta h_now_se sr_tide sr_rain sr_rules h_now_se_strake h_now_se_side h_now_se_hands h_now_se_hours h_now_se_pitch h_now_se_worth h_now_se_state h_now_se_done v_h_now_hour v_h_now_heel v_h_now_water v_h_now_pitch v_h_now_boatUsed v_h_now_heelWent v_h_now_pitchTaken v_h_now_hoursOfMen v_h_now_parted v_h_now_moved f_sr_tide v_h_now_se_size f_h_now_se_strake f_h_now_se_side a1 v_h_now_hour r6 hc6) (cwV 2 hts gX8_seamTold_X4_isBare rfl rfl rfl hdV_X4_isBare ⟨Nat.le_of_ble_eq_true rfl, Nat.le_of_ble_eq_true rfl⟩) hK hP hD hS hA hN [1, 4, 5, 2, 6, 7] rfl (by decide) rfl rfl rfl rfl hl.1 rfl (Nat.le_of_ble_eq_true rfl) dX8_seamTold_77 (fun H locs hP hS => ?_)
        obtain ⟨r7, hc7, hf⟩ := k_b1_some hf
        refine k_SiR (As := [.int r6]) (rest := []) S0 (c_X8_asNumber l D cI cZ cJ cS r6 r7 hc7) (va_cwS 1 hts gX8_seamTold_X8_asNumber rfl rfl rfl hdS_X8_asNumber ⟨Nat.le_of_ble_eq_true rfl, Nat.le_of_ble_eq_true rfl⟩) hK hP hD hS hA hN [] rfl (by decide) rfl hl.1 rfl (Nat.le_of_ble_eq_true rfl) dX8_seamTold_80 (fun H locs hP hS => ?_)
        exact hRet _ hf _ _ _ _ hP hD hS rfl dX8_seamTold_83
      · replace hf := k_neg hf c5
        by_cases c8 : a2 = 2
        · replace hf := k_pos hf c8
          refine k_tsw (k := 2) (j := 2) (off := 61) (tgt := 84) hx hb dX8_seamTold_23 c8 (by decide) (by decide) (by decide) rfl (by decide) ?_
          refine lv_aload_n hx hb dX8_seamTold_84 rfl (lv_at hl 0 rfl) ?_
          refine k_get (C := RX8) (T := TX8) (N := 7) hx hb hts inX8 hown hK hP 0 rfl rfl 1 (by decide) rfl wl1 rfl dX8_seamTold_85 ?_
          refine k_get (C := RX4) (T := TX4) (N := 14) hx hb hts inX4 hown hK hP 1 rfl rfl 3 (by decide) rfl wl2 rfl dX8_seamTold_88 ?_
          refine k_get (C := RX3) (T := TX3) (N := 9) hx hb hts inX3 hown hK hP 2 rfl rfl 7 (by decide) rfl wl6 rfl dX8_seamTold_91 ?_
          refine lv_iload_n hx hb dX8_seamTold_94 rfl (lv_at hl 1 rfl) ?_
          obtain ⟨hi9, hf⟩ := k_ix_some hf
          refine k_iald (k := a1.toNatClampNeg) hx hb hK hP 8 0 rfl rfl hi9 rfl dX8_seamTold_95 ?_
          exact hRet _ hf _ _ _ _ hP hD hS rfl dX8_seamTold_96
        · replace hf := k_neg hf c8
          by_cases c10 : a2 = 3
          · replace hf := k_pos hf c10
            refine k_tsw (k := 3) (j := 3) (off := 74) (tgt := 97) hx hb dX8_seamTold_23 c10 (by decide) (by decide) (by decide) rfl (by decide) ?_
            refine lv_aload_n hx hb dX8_seamTold_97 rfl (lv_at hl 0 rfl) ?_
            refine k_get (C := RX8) (T := TX8) (N := 7) hx hb hts inX8 hown hK hP 0 rfl rfl 1 (by decide) rfl wl1 rfl dX8_seamTold_98 ?_
            refine lv_iload_n hx hb dX8_seamTold_101 rfl (lv_at hl 1 rfl) ?_
            obtain ⟨r11, hc11, hf⟩ := k_b1_some hf
            refine k_ViR (q0 := 0) (As := [.int a1]) (rest := []) S0 (c_X4_hoursBare l D cI cZ cJ cS h_now sr h_now_th h_now_ta h_now_se sr_tide sr_rain sr_rules h_now_se_strake h_now_se_side h_now_se_hands h_now_se_hours h_now_se_pitch h_now_se_worth h_now_se_state h_now_se_done v_h_now_hour v_h_now_heel v_h_now_water v_h_now_pitch v_h_now_boatUsed v_h_now_heelWent v_h_now_pitchTaken v_h_now_hoursOfMen v_h_now_parted v_h_now_moved f_sr_tide v_h_now_se_size f_h_now_se_strake f_h_now_se_side a1 r11 hc11) (cwV 1 hts gX8_seamTold_X4_hoursBare rfl rfl rfl hdV_X4_hoursBare ⟨Nat.le_of_ble_eq_true rfl, Nat.le_of_ble_eq_true rfl⟩) hK hP hD hS hA hN [1, 4, 5, 2, 6, 7] rfl (by decide) rfl rfl rfl rfl hl.1 rfl (Nat.le_of_ble_eq_true rfl) dX8_seamTold_102 (fun H locs hP hS => ?_)
            exact hRet _ hf _ _ _ _ hP hD hS rfl dX8_seamTold_105
          · replace hf := k_neg hf c10
            refine lv_tableOut (tgt := 106) hx hb dX8_seamTold_23 (by have := k_ne_toInt c3; have e0 : (0 : Int32).toInt = 0 := (by decide); have := k_ne_toInt c5; have e1 : (1 : Int32).toInt = 1 := (by decide); have := k_ne_toInt c8; have e2 : (2 : Int32).toInt = 2 := (by decide); have := k_ne_toInt c10; have e3 : (3 : Int32).toInt = 3 := (by decide); omega) (by decide) ?_
            refine lv_iconst (v := (-1)) hx hb dX8_seamTold_106 (by decide) ?_
            exact hRet _ hf _ _ _ _ hP hD hS rfl dX8_seamTold_107
  · replace hf := k_pos hf c2
    refine lv_iconst (v := (-1)) hx hb dX8_seamTold_20 (by decide) ?_
    exact hRet _ hf _ _ _ _ hP hD hS rfl dX8_seamTold_21

def p_X8_tap (f_h_planks_tapped : Nat → Int32) (a1 : Int32) (a2 : Int32) : Option (Int32 × (Nat → Int32)) :=
  k_b1 (p_X8_within a1 0 29) fun r1 =>
  if r1 = 0 then
    some ((-100), f_h_planks_tapped)
  else
    k_b1 (p_X8_within a2 (-1) 1) fun r3 =>
    if r3 = 0 then
      some ((-100), f_h_planks_tapped)
    else
      k_ix a1 30 (
        k_ix a1 30 (
          some (f_h_planks_tapped a1.toNatClampNeg, upd f_h_planks_tapped a1.toNatClampNeg a2)))
abbrev rm_X8_tap : Room := { frames := 1, cells := 0, slots := 0, locals := 22 }
theorem hdS_X8_tap : yX8_tap.cls ≠ "java/lang/invoke/MethodHandle" ∧ yX8_tap.cls ≠ "java/lang/invoke/VarHandle" ∧ (parseMethodDescriptor yX8_tap.desc).map (fun d => d.parameters.length) = some 2 := by decide +kernel
theorem hdV_X8_tap : yX8_tap.cls = RX8 ∧ yX8_tap.cls ≠ "java/lang/invoke/MethodHandle" ∧ yX8_tap.cls ≠ "java/lang/invoke/VarHandle" ∧ (parseMethodDescriptor yX8_tap.desc).map (fun d => d.parameters.length) = some 2 := by decide +kernel
set_option maxHeartbeats 4000000 in
set_option maxRecDepth 100000 in
theorem c_X8_tap (l : Launch) (D : va_G) (cI cZ cJ cS : ClassId) (h sr h_now h_kept h_planner h_floating h_planks h_planks_tapped : Nat) (v_h_keptSize : Int32) (f_h_planks_tapped : Nat → Int32) (a1 : Int32) (a2 : Int32) (r : Int32) (f_h_planks_tapped' : Nat → Int32) (hf : p_X8_tap f_h_planks_tapped a1 a2 = some (r, f_h_planks_tapped')) : k_MI l yX8_tap wsX8_tap rm_X8_tap D (k_tys cI cZ cJ cS) [.ref h, .int a1, .int a2] [(h, .inr (8, [.ref sr, .ref h_now, .ref h_kept, .ref h_planner, .ref h_floating, .ref h_planks, .int v_h_keptSize])), (h_planks, .inr (1, [.ref h_planks_tapped])), (h_planks_tapped, .inl (cI, 30, .inl f_h_planks_tapped))] [(h, .inr (8, [.ref sr, .ref h_now, .ref h_kept, .ref h_planner, .ref h_floating, .ref h_planks, .int v_h_keptSize])), (h_planks, .inr (1, [.ref h_planks_tapped])), (h_planks_tapped, .inl (cI, 30, .inl f_h_planks_tapped'))] r := by
  refine k_enter (y := yX8_tap) (wl := wsX8_tap) (rm := rm_X8_tap) (av := [.ref h, .int a1, .int a2]) (D := D) (tys := k_tys cI cZ cJ cS) (ws := [(h, .inr (8, [.ref sr, .ref h_now, .ref h_kept, .ref h_planner, .ref h_floating, .ref h_planks, .int v_h_keptSize])), (h_planks, .inr (1, [.ref h_planks_tapped])), (h_planks_tapped, .inl (cI, 30, .inl f_h_planks_tapped))]) (cc := cX8_tap) (maxL := 4) (ret := (some .int)) (Qc := fun A => k_Qi D (k_tys cI cZ cJ cS) [(h, .inr (8, [.ref sr, .ref h_now, .ref h_kept, .ref h_planner, .ref h_floating, .ref h_planks, .int v_h_keptSize])), (h_planks, .inr (1, [.ref h_planks_tapped])), (h_planks_tapped, .inl (cI, 30, .inl f_h_planks_tapped'))] A r) (by decide) rfl (Nat.le_of_ble_eq_true rfl) [(0, .ref h), (1, .int a1), (2, .int a2)] rfl ?_
  intro p e s m below meth c A hx hb hml hr hlocks hnm hown hK hP hD hA hS hN ls args Q hts hl hQ
  replace hown : s.vm.findClass RX8 = some m.cls := hown
  have S0 : CallFix p m c cX8_tap 4 s args wsX8_tap RX8 := ⟨hx, hb, hml, hown, hts⟩
  have inX8 : ∀ w ∈ u_ws RX8 TX8 7, w ∈ wsX8_tap := fun w h => List.mem_cons_of_mem _ (List.mem_append_left _ (List.mem_append_right _ h))
  have inX1 : ∀ w ∈ u_ws RX1 TX1 1, w ∈ wsX8_tap := fun w h => List.mem_cons_of_mem _ (List.mem_append_right _ h)
  have wl1 : (Cond.fieldLink RX8 48 "BeachedShip" "planks" "LBeachedShip$Planks;").before args s = true := hts _ (List.mem_of_getElem? (i := 1) rfl)
  have wl2 : (Cond.fieldLink RX8 244 "BeachedShip$Planks" "tapped" "[I").before args s = true := hts _ (List.mem_of_getElem? (i := 2) rfl)
  have hRet : ∀ (r_z : Int32) (f_h_planks_tapped_z : Nat → Int32), some (r_z, f_h_planks_tapped_z) = some (r, f_h_planks_tapped') → ∀ (H : Heap) (locs : List Loc) (ls : Array Slot) (pc : Nat), va_P D vwCl [(h, .inr (8, [.ref sr, .ref h_now, .ref h_kept, .ref h_planner, .ref h_floating, .ref h_planks, .int v_h_keptSize])), (h_planks, .inr (1, [.ref h_planks_tapped])), (h_planks_tapped, .inl (cI, 30, .inl f_h_planks_tapped_z))] H → va_D A [(h, .inr (8, [.ref sr, .ref h_now, .ref h_kept, .ref h_planner, .ref h_floating, .ref h_planks, .int v_h_keptSize])), (h_planks, .inr (1, [.ref h_planks_tapped])), (h_planks_tapped, .inl (cI, 30, .inl f_h_planks_tapped_z))] → va_S A s.heap H locs → narrow .int (.int r_z) = .int r_z → decode cX8_tap pc = .ok (.ireturn, 1) → W p l e rm_X8_tap s m args below meth c H locs 0 0 Q (F0 m pc ls [.int r_z]) := by
    intro r_z f_h_planks_tapped_z hz H locs ls pc hP hD hS hn hd
    cases hz
    exact k_iret hx hb hr hlocks hn hK hP hD hS hQ rfl hd
  unfold p_X8_tap at hf
  refine lv_iload_n hx hb dX8_tap_0 rfl (lv_at hl 1 rfl) ?_
  refine lv_iconst (v := 0) hx hb dX8_tap_1 (by decide) ?_
  refine lv_bipush (v := 29) hx hb dX8_tap_2 (by decide) ?_
  obtain ⟨r1, hc1, hf⟩ := k_b1_some hf
  refine k_SiR (As := [.int a1, .int 0, .int 29]) (rest := []) S0 (c_X8_within l D cI cZ cJ cS a1 0 29 r1 hc1) (va_cwS 3 hts gX8_tap_X8_within rfl rfl rfl hdS_X8_within ⟨Nat.le_of_ble_eq_true rfl, Nat.le_of_ble_eq_true rfl⟩) hK hP hD hS hA hN [] rfl (by decide) rfl hl.1 rfl (Nat.le_of_ble_eq_true rfl) dX8_tap_4 (fun H locs hP hS => ?_)
  refine lv_if_eq (tgt := 19) hx hb dX8_tap_7 (by decide) (fun c2 => ?_) (fun c2 => ?_)
  · replace hf := k_pos hf c2
    refine lv_bipush (v := (-100)) hx hb dX8_tap_19 (by decide) ?_
    exact hRet _ _ hf _ _ _ _ hP hD hS rfl dX8_tap_21
  · replace hf := k_neg hf c2
    refine lv_iload_n hx hb dX8_tap_10 rfl (lv_at hl 2 rfl) ?_
    refine lv_iconst (v := (-1)) hx hb dX8_tap_11 (by decide) ?_
    refine lv_iconst (v := 1) hx hb dX8_tap_12 (by decide) ?_
    obtain ⟨r3, hc3, hf⟩ := k_b1_some hf
    refine k_SiR (As := [.int a2, .int (-1), .int 1]) (rest := []) S0 (c_X8_within l D cI cZ cJ cS a2 (-1) 1 r3 hc3) (va_cwS 3 hts gX8_tap_X8_within rfl rfl rfl hdS_X8_within ⟨Nat.le_of_ble_eq_true rfl, Nat.le_of_ble_eq_true rfl⟩) hK hP hD hS hA hN [] rfl (by decide) rfl hl.1 rfl (Nat.le_of_ble_eq_true rfl) dX8_tap_13 (fun H locs hP hS => ?_)
    refine lv_if_ne (tgt := 22) hx hb dX8_tap_16 (by decide) (fun c4 => ?_) (fun c4 => ?_)
    · replace hf := k_neg hf c4
      refine lv_aload_n hx hb dX8_tap_22 rfl (lv_at hl 0 rfl) ?_
      refine k_get (C := RX8) (T := TX8) (N := 7) hx hb hts inX8 hown hK hP 0 rfl rfl 5 (by decide) rfl wl1 rfl dX8_tap_23 ?_
      refine k_get (C := RX1) (T := TX1) (N := 1) hx hb hts inX1 hown hK hP 1 rfl rfl 0 (by decide) rfl wl2 rfl dX8_tap_26 ?_
      refine lv_iload_n hx hb dX8_tap_29 rfl (lv_at hl 1 rfl) ?_
      obtain ⟨hi5, hf⟩ := k_ix_some hf
      refine k_iald (k := a1.toNatClampNeg) hx hb hK hP 2 0 rfl rfl hi5 rfl dX8_tap_30 ?_
      refine lv_istore_n (lv' := [(3, .int (f_h_planks_tapped a1.toNatClampNeg)), (0, .ref h), (1, .int a1), (2, .int a2)]) hx hb dX8_tap_31 rfl hl (by decide) rfl (fun ls hl => ?_)
      refine lv_aload_n hx hb dX8_tap_32 rfl (lv_at hl 1 rfl) ?_
      refine k_get (C := RX8) (T := TX8) (N := 7) hx hb hts inX8 hown hK hP 0 rfl rfl 5 (by decide) rfl wl1 rfl dX8_tap_33 ?_
      refine k_get (C := RX1) (T := TX1) (N := 1) hx hb hts inX1 hown hK hP 1 rfl rfl 0 (by decide) rfl wl2 rfl dX8_tap_36 ?_
      refine lv_iload_n hx hb dX8_tap_39 rfl (lv_at hl 2 rfl) ?_
      refine lv_iload_n hx hb dX8_tap_40 rfl (lv_at hl 3 rfl) ?_
      obtain ⟨hi6, hf⟩ := k_ix_some hf
      refine k_iast (ws2 := [(h, .inr (8, [.ref sr, .ref h_now, .ref h_kept, .ref h_planner, .ref h_floating, .ref h_planks, .int v_h_keptSize])), (h_planks, .inr (1, [.ref h_planks_tapped])), (h_planks_tapped, .inl (cI, 30, .inl (upd f_h_planks_tapped a1.toNatClampNeg a2)))]) (k := a1.toNatClampNeg) hx hb hK hP hD hS 2 0 rfl rfl hi6 rfl rfl dX8_tap_41 (fun H locs hP hD hS => ?_)
      refine lv_iload_n hx hb dX8_tap_42 rfl (lv_at hl 0 rfl) ?_
      exact hRet _ _ hf _ _ _ _ hP hD hS rfl dX8_tap_43
    · replace hf := k_pos hf c4
      refine lv_bipush (v := (-100)) hx hb dX8_tap_19 (by decide) ?_
      exact hRet _ _ hf _ _ _ _ hP hD hS rfl dX8_tap_21

def p_X8_worm (f_h_planks_tapped : Nat → Int32) (a1 : Int32) (a2 : Int32) : Option (Int32) :=
  k_b1 (p_X8_within a1 1 30) fun r1 =>
  if r1 = 0 then
    some (-1)
  else
    if a2 = 0 then
      k_b1 (p_X1_least f_h_planks_tapped a1) fun r4 =>
      some r4
    else
    if a2 = 1 then
      k_b1 (p_X1_most f_h_planks_tapped a1) fun r6 =>
      some r6
    else
    if a2 = 2 then
      k_b1 (p_X1_leastRuns f_h_planks_tapped a1) fun r8 =>
      some r8
    else
    if a2 = 3 then
      k_b1 (p_X1_mostRuns f_h_planks_tapped a1) fun r10 =>
      some r10
    else
      some (-1)
abbrev rm_X8_worm : Room := { frames := 2, cells := 0, slots := 0, locals := 51 }
theorem hdS_X8_worm : yX8_worm.cls ≠ "java/lang/invoke/MethodHandle" ∧ yX8_worm.cls ≠ "java/lang/invoke/VarHandle" ∧ (parseMethodDescriptor yX8_worm.desc).map (fun d => d.parameters.length) = some 2 := by decide +kernel
theorem hdV_X8_worm : yX8_worm.cls = RX8 ∧ yX8_worm.cls ≠ "java/lang/invoke/MethodHandle" ∧ yX8_worm.cls ≠ "java/lang/invoke/VarHandle" ∧ (parseMethodDescriptor yX8_worm.desc).map (fun d => d.parameters.length) = some 2 := by decide +kernel
set_option maxHeartbeats 4000000 in
set_option maxRecDepth 100000 in
theorem c_X8_worm (l : Launch) (D : va_G) (cI cZ cJ cS : ClassId) (h sr h_now h_kept h_planner h_floating h_planks h_planks_tapped : Nat) (v_h_keptSize : Int32) (f_h_planks_tapped : Nat → Int32) (a1 : Int32) (a2 : Int32) (r : Int32) (hf : p_X8_worm f_h_planks_tapped a1 a2 = some r) : k_MI l yX8_worm wsX8_worm rm_X8_worm D (k_tys cI cZ cJ cS) [.ref h, .int a1, .int a2] [(h, .inr (8, [.ref sr, .ref h_now, .ref h_kept, .ref h_planner, .ref h_floating, .ref h_planks, .int v_h_keptSize])), (h_planks, .inr (1, [.ref h_planks_tapped])), (h_planks_tapped, .inl (cI, 30, .inl f_h_planks_tapped))] [(h, .inr (8, [.ref sr, .ref h_now, .ref h_kept, .ref h_planner, .ref h_floating, .ref h_planks, .int v_h_keptSize])), (h_planks, .inr (1, [.ref h_planks_tapped])), (h_planks_tapped, .inl (cI, 30, .inl f_h_planks_tapped))] r := by
  refine k_enter (y := yX8_worm) (wl := wsX8_worm) (rm := rm_X8_worm) (av := [.ref h, .int a1, .int a2]) (D := D) (tys := k_tys cI cZ cJ cS) (ws := [(h, .inr (8, [.ref sr, .ref h_now, .ref h_kept, .ref h_planner, .ref h_floating, .ref h_planks, .int v_h_keptSize])), (h_planks, .inr (1, [.ref h_planks_tapped])), (h_planks_tapped, .inl (cI, 30, .inl f_h_planks_tapped))]) (cc := cX8_worm) (maxL := 3) (ret := (some .int)) (Qc := fun A => k_Qi D (k_tys cI cZ cJ cS) [(h, .inr (8, [.ref sr, .ref h_now, .ref h_kept, .ref h_planner, .ref h_floating, .ref h_planks, .int v_h_keptSize])), (h_planks, .inr (1, [.ref h_planks_tapped])), (h_planks_tapped, .inl (cI, 30, .inl f_h_planks_tapped))] A r) (by decide) rfl (Nat.le_of_ble_eq_true rfl) [(0, .ref h), (1, .int a1), (2, .int a2)] rfl ?_
  intro p e s m below meth c A hx hb hml hr hlocks hnm hown hK hP hD hA hS hN ls args Q hts hl hQ
  replace hown : s.vm.findClass RX8 = some m.cls := hown
  have S0 : CallFix p m c cX8_worm 3 s args wsX8_worm RX8 := ⟨hx, hb, hml, hown, hts⟩
  have inX8 : ∀ w ∈ u_ws RX8 TX8 7, w ∈ wsX8_worm := fun w h => List.mem_cons_of_mem _ (List.mem_append_left _ (List.mem_append_right _ h))
  have wl1 : (Cond.fieldLink RX8 48 "BeachedShip" "planks" "LBeachedShip$Planks;").before args s = true := hts _ (List.mem_of_getElem? (i := 1) rfl)
  have hRet : ∀ (r_z : Int32), some r_z = some r → ∀ (H : Heap) (locs : List Loc) (ls : Array Slot) (pc : Nat), va_P D vwCl [(h, .inr (8, [.ref sr, .ref h_now, .ref h_kept, .ref h_planner, .ref h_floating, .ref h_planks, .int v_h_keptSize])), (h_planks, .inr (1, [.ref h_planks_tapped])), (h_planks_tapped, .inl (cI, 30, .inl f_h_planks_tapped))] H → va_D A [(h, .inr (8, [.ref sr, .ref h_now, .ref h_kept, .ref h_planner, .ref h_floating, .ref h_planks, .int v_h_keptSize])), (h_planks, .inr (1, [.ref h_planks_tapped])), (h_planks_tapped, .inl (cI, 30, .inl f_h_planks_tapped))] → va_S A s.heap H locs → narrow .int (.int r_z) = .int r_z → decode cX8_worm pc = .ok (.ireturn, 1) → W p l e rm_X8_worm s m args below meth c H locs 0 0 Q (F0 m pc ls [.int r_z]) := by
    intro r_z hz H locs ls pc hP hD hS hn hd
    cases hz
    exact k_iret hx hb hr hlocks hn hK hP hD hS hQ rfl hd
  unfold p_X8_worm at hf
  refine lv_iload_n hx hb dX8_worm_0 rfl (lv_at hl 1 rfl) ?_
  refine lv_iconst (v := 1) hx hb dX8_worm_1 (by decide) ?_
  refine lv_bipush (v := 30) hx hb dX8_worm_2 (by decide) ?_
  obtain ⟨r1, hc1, hf⟩ := k_b1_some hf
  refine k_SiR (As := [.int a1, .int 1, .int 30]) (rest := []) S0 (c_X8_within l D cI cZ cJ cS a1 1 30 r1 hc1) (va_cwS 3 hts gX8_worm_X8_within rfl rfl rfl hdS_X8_within ⟨Nat.le_of_ble_eq_true rfl, Nat.le_of_ble_eq_true rfl⟩) hK hP hD hS hA hN [] rfl (by decide) rfl hl.1 rfl (Nat.le_of_ble_eq_true rfl) dX8_worm_4 (fun H locs hP hS => ?_)
  refine lv_if_ne (tgt := 12) hx hb dX8_worm_7 (by decide) (fun c2 => ?_) (fun c2 => ?_)
  · replace hf := k_neg hf c2
    refine lv_iload_n hx hb dX8_worm_12 rfl (lv_at hl 2 rfl) ?_
    by_cases c3 : a2 = 0
    · replace hf := k_pos hf c3
      refine k_tsw (k := 0) (j := 0) (off := 31) (tgt := 44) hx hb dX8_worm_13 c3 (by decide) (by decide) (by decide) rfl (by decide) ?_
      refine lv_aload_n hx hb dX8_worm_44 rfl (lv_at hl 0 rfl) ?_
      refine k_get (C := RX8) (T := TX8) (N := 7) hx hb hts inX8 hown hK hP 0 rfl rfl 5 (by decide) rfl wl1 rfl dX8_worm_45 ?_
      refine lv_iload_n hx hb dX8_worm_48 rfl (lv_at hl 1 rfl) ?_
      obtain ⟨r4, hc4, hf⟩ := k_b1_some hf
      refine k_ViR (q0 := 0) (As := [.int a1]) (rest := []) S0 (c_X1_least l D cI cZ cJ cS h_planks h_planks_tapped f_h_planks_tapped a1 r4 hc4) (cwV 1 hts gX8_worm_X1_least rfl rfl rfl hdV_X1_least ⟨Nat.le_of_ble_eq_true rfl, Nat.le_of_ble_eq_true rfl⟩) hK hP hD hS hA hN [1, 2] rfl (by decide) rfl rfl rfl rfl hl.1 rfl (Nat.le_of_ble_eq_true rfl) dX8_worm_49 (fun H locs hP hS => ?_)
      exact hRet _ hf _ _ _ _ hP hD hS rfl dX8_worm_52
    · replace hf := k_neg hf c3
      by_cases c5 : a2 = 1
      · replace hf := k_pos hf c5
        refine k_tsw (k := 1) (j := 1) (off := 40) (tgt := 53) hx hb dX8_worm_13 c5 (by decide) (by decide) (by decide) rfl (by decide) ?_
        refine lv_aload_n hx hb dX8_worm_53 rfl (lv_at hl 0 rfl) ?_
        refine k_get (C := RX8) (T := TX8) (N := 7) hx hb hts inX8 hown hK hP 0 rfl rfl 5 (by decide) rfl wl1 rfl dX8_worm_54 ?_
        refine lv_iload_n hx hb dX8_worm_57 rfl (lv_at hl 1 rfl) ?_
        obtain ⟨r6, hc6, hf⟩ := k_b1_some hf
        refine k_ViR (q0 := 0) (As := [.int a1]) (rest := []) S0 (c_X1_most l D cI cZ cJ cS h_planks h_planks_tapped f_h_planks_tapped a1 r6 hc6) (cwV 1 hts gX8_worm_X1_most rfl rfl rfl hdV_X1_most ⟨Nat.le_of_ble_eq_true rfl, Nat.le_of_ble_eq_true rfl⟩) hK hP hD hS hA hN [1, 2] rfl (by decide) rfl rfl rfl rfl hl.1 rfl (Nat.le_of_ble_eq_true rfl) dX8_worm_58 (fun H locs hP hS => ?_)
        exact hRet _ hf _ _ _ _ hP hD hS rfl dX8_worm_61
      · replace hf := k_neg hf c5
        by_cases c7 : a2 = 2
        · replace hf := k_pos hf c7
          refine k_tsw (k := 2) (j := 2) (off := 49) (tgt := 62) hx hb dX8_worm_13 c7 (by decide) (by decide) (by decide) rfl (by decide) ?_
          refine lv_aload_n hx hb dX8_worm_62 rfl (lv_at hl 0 rfl) ?_
          refine k_get (C := RX8) (T := TX8) (N := 7) hx hb hts inX8 hown hK hP 0 rfl rfl 5 (by decide) rfl wl1 rfl dX8_worm_63 ?_
          refine lv_iload_n hx hb dX8_worm_66 rfl (lv_at hl 1 rfl) ?_
          obtain ⟨r8, hc8, hf⟩ := k_b1_some hf
          refine k_ViR (q0 := 0) (As := [.int a1]) (rest := []) S0 (c_X1_leastRuns l D cI cZ cJ cS h_planks h_planks_tapped f_h_planks_tapped a1 r8 hc8) (cwV 1 hts gX8_worm_X1_leastRuns rfl rfl rfl hdV_X1_leastRuns ⟨Nat.le_of_ble_eq_true rfl, Nat.le_of_ble_eq_true rfl⟩) hK hP hD hS hA hN [1, 2] rfl (by decide) rfl rfl rfl rfl hl.1 rfl (Nat.le_of_ble_eq_true rfl) dX8_worm_67 (fun H locs hP hS => ?_)
          exact hRet _ hf _ _ _ _ hP hD hS rfl dX8_worm_70
        · replace hf := k_neg hf c7
          by_cases c9 : a2 = 3
          · replace hf := k_pos hf c9
            refine k_tsw (k := 3) (j := 3) (off := 58) (tgt := 71) hx hb dX8_worm_13 c9 (by decide) (by decide) (by decide) rfl (by decide) ?_
            refine lv_aload_n hx hb dX8_worm_71 rfl (lv_at hl 0 rfl) ?_
            refine k_get (C := RX8) (T := TX8) (N := 7) hx hb hts inX8 hown hK hP 0 rfl rfl 5 (by decide) rfl wl1 rfl dX8_worm_72 ?_
            refine lv_iload_n hx hb dX8_worm_75 rfl (lv_at hl 1 rfl) ?_
            obtain ⟨r10, hc10, hf⟩ := k_b1_some hf
            refine k_ViR (q0 := 0) (As := [.int a1]) (rest := []) S0 (c_X1_mostRuns l D cI cZ cJ cS h_planks h_planks_tapped f_h_planks_tapped a1 r10 hc10) (cwV 1 hts gX8_worm_X1_mostRuns rfl rfl rfl hdV_X1_mostRuns ⟨Nat.le_of_ble_eq_true rfl, Nat.le_of_ble_eq_true rfl⟩) hK hP hD hS hA hN [1, 2] rfl (by decide) rfl rfl rfl rfl hl.1 rfl (Nat.le_of_ble_eq_true rfl) dX8_worm_76 (fun H locs hP hS => ?_)
            exact hRet _ hf _ _ _ _ hP hD hS rfl dX8_worm_79
          · replace hf := k_neg hf c9
            refine lv_tableOut (tgt := 80) hx hb dX8_worm_13 (by have := k_ne_toInt c3; have e0 : (0 : Int32).toInt = 0 := (by decide); have := k_ne_toInt c5; have e1 : (1 : Int32).toInt = 1 := (by decide); have := k_ne_toInt c7; have e2 : (2 : Int32).toInt = 2 := (by decide); have := k_ne_toInt c9; have e3 : (3 : Int32).toInt = 3 := (by decide); omega) (by decide) ?_
            refine lv_iconst (v := (-1)) hx hb dX8_worm_80 (by decide) ?_
            exact hRet _ hf _ _ _ _ hP hD hS rfl dX8_worm_81
  · replace hf := k_pos hf c2
    refine lv_iconst (v := (-1)) hx hb dX8_worm_10 (by decide) ?_
    exact hRet _ hf _ _ _ _ hP hD hS rfl dX8_worm_11

def p_X8_book (v_h_now_pitch : Int32) (v_h_now_pitchTaken : Int32) (v_h_now_hoursOfMen : Int32) (v_h_now_parted : Int32) (v_h_now_moved : Int32) (v_h_now_se_size : Int32) (f_h_now_se_state : Nat → Int32) (f_h_now_se_worth : Nat → Int32) (a1 : Int32) : Option (Int32) :=
  if a1 = 0 then
    some v_h_now_pitchTaken
  else
  if a1 = 1 then
    some v_h_now_hoursOfMen
  else
  if a1 = 2 then
    some v_h_now_parted
  else
  if a1 = 3 then
    some v_h_now_moved
  else
  if a1 = 4 then
    k_b1 (p_X3_worthTight v_h_now_se_size f_h_now_se_state f_h_now_se_worth) fun r6 =>
    some r6
  else
  if a1 = 5 then
    some v_h_now_pitch
  else
    some (-1)
abbrev rm_X8_book : Room := { frames := 1, cells := 0, slots := 0, locals := 22 }
theorem hdS_X8_book : yX8_book.cls ≠ "java/lang/invoke/MethodHandle" ∧ yX8_book.cls ≠ "java/lang/invoke/VarHandle" ∧ (parseMethodDescriptor yX8_book.desc).map (fun d => d.parameters.length) = some 1 := by decide +kernel
theorem hdV_X8_book : yX8_book.cls = RX8 ∧ yX8_book.cls ≠ "java/lang/invoke/MethodHandle" ∧ yX8_book.cls ≠ "java/lang/invoke/VarHandle" ∧ (parseMethodDescriptor yX8_book.desc).map (fun d => d.parameters.length) = some 1 := by decide +kernel
set_option maxHeartbeats 4000000 in
set_option maxRecDepth 100000 in
theorem c_X8_book (l : Launch) (D : va_G) (cI cZ cJ cS : ClassId) (h sr h_now h_kept h_planner h_floating h_planks h_now_th h_now_ta h_now_se h_now_se_strake h_now_se_side h_now_se_hands h_now_se_hours h_now_se_pitch h_now_se_worth h_now_se_state h_now_se_done : Nat) (v_h_keptSize : Int32) (v_h_now_hour : Int32) (v_h_now_heel : Int32) (v_h_now_water : Int32) (v_h_now_pitch : Int32) (v_h_now_boatUsed : Int32) (v_h_now_heelWent : Int32) (v_h_now_pitchTaken : Int32) (v_h_now_hoursOfMen : Int32) (v_h_now_parted : Int32) (v_h_now_moved : Int32) (v_h_now_se_size : Int32) (f_h_now_se_state : Nat → Int32) (f_h_now_se_worth : Nat → Int32) (a1 : Int32) (r : Int32) (hf : p_X8_book v_h_now_pitch v_h_now_pitchTaken v_h_now_hoursOfMen v_h_now_parted v_h_now_moved v_h_now_se_size f_h_now_se_state f_h_now_se_worth a1 = some r) : k_MI l yX8_book wsX8_book rm_X8_book D (k_tys cI cZ cJ cS) [.ref h, .int a1] [(h, .inr (8, [.ref sr, .ref h_now, .ref h_kept, .ref h_planner, .ref h_floating, .ref h_planks, .int v_h_keptSize])), (h_now, .inr (4, [.ref sr, .ref h_now_th, .ref h_now_ta, .ref h_now_se, .int v_h_now_hour, .int v_h_now_heel, .int v_h_now_water, .int v_h_now_pitch, .int v_h_now_boatUsed, .int v_h_now_heelWent, .int v_h_now_pitchTaken, .int v_h_now_hoursOfMen, .int v_h_now_parted, .int v_h_now_moved])), (h_now_se, .inr (3, [.ref h_now_se_strake, .ref h_now_se_side, .ref h_now_se_hands, .ref h_now_se_hours, .ref h_now_se_pitch, .ref h_now_se_worth, .ref h_now_se_state, .ref h_now_se_done, .int v_h_now_se_size])), (h_now_se_state, .inl (cI, 12, .inl f_h_now_se_state)), (h_now_se_worth, .inl (cI, 12, .inl f_h_now_se_worth))] [(h, .inr (8, [.ref sr, .ref h_now, .ref h_kept, .ref h_planner, .ref h_floating, .ref h_planks, .int v_h_keptSize])), (h_now, .inr (4, [.ref sr, .ref h_now_th, .ref h_now_ta, .ref h_now_se, .int v_h_now_hour, .int v_h_now_heel, .int v_h_now_water, .int v_h_now_pitch, .int v_h_now_boatUsed, .int v_h_now_heelWent, .int v_h_now_pitchTaken, .int v_h_now_hoursOfMen, .int v_h_now_parted, .int v_h_now_moved])), (h_now_se, .inr (3, [.ref h_now_se_strake, .ref h_now_se_side, .ref h_now_se_hands, .ref h_now_se_hours, .ref h_now_se_pitch, .ref h_now_se_worth, .ref h_now_se_state, .ref h_now_se_done, .int v_h_now_se_size])), (h_now_se_state, .inl (cI, 12, .inl f_h_now_se_state)), (h_now_se_worth, .inl (cI, 12, .inl f_h_now_se_worth))] r := by
  refine k_enter (y := yX8_book) (wl := wsX8_book) (rm := rm_X8_book) (av := [.ref h, .int a1]) (D := D) (tys := k_tys cI cZ cJ cS) (ws := [(h, .inr (8, [.ref sr, .ref h_now, .ref h_kept, .ref h_planner, .ref h_floating, .ref h_planks, .int v_h_keptSize])), (h_now, .inr (4, [.ref sr, .ref h_now_th, .ref h_now_ta, .ref h_now_se, .int v_h_now_hour, .int v_h_now_heel, .int v_h_now_water, .int v_h_now_pitch, .int v_h_now_boatUsed, .int v_h_now_heelWent, .int v_h_now_pitchTaken, .int v_h_now_hoursOfMen, .int v_h_now_parted, .int v_h_now_moved])), (h_now_se, .inr (3, [.ref h_now_se_strake, .ref h_now_se_side, .ref h_now_se_hands, .ref h_now_se_hours, .ref h_now_se_pitch, .ref h_now_se_worth, .ref h_now_se_state, .ref h_now_se_done, .int v_h_now_se_size])), (h_now_se_state, .inl (cI, 12, .inl f_h_now_se_state)), (h_now_se_worth, .inl (cI, 12, .inl f_h_now_se_worth))]) (cc := cX8_book) (maxL := 2) (ret := (some .int)) (Qc := fun A => k_Qi D (k_tys cI cZ cJ cS) [(h, .inr (8, [.ref sr, .ref h_now, .ref h_kept, .ref h_planner, .ref h_floating, .ref h_planks, .int v_h_keptSize])), (h_now, .inr (4, [.ref sr, .ref h_now_th, .ref h_now_ta, .ref h_now_se, .int v_h_now_hour, .int v_h_now_heel, .int v_h_now_water, .int v_h_now_pitch, .int v_h_now_boatUsed, .int v_h_now_heelWent, .int v_h_now_pitchTaken, .int v_h_now_hoursOfMen, .int v_h_now_parted, .int v_h_now_moved])), (h_now_se, .inr (3, [.ref h_now_se_strake, .ref h_now_se_side, .ref h_now_se_hands, .ref h_now_se_hours, .ref h_now_se_pitch, .ref h_now_se_worth, .ref h_now_se_state, .ref h_now_se_done, .int v_h_now_se_size])), (h_now_se_state, .inl (cI, 12, .inl f_h_now_se_state)), (h_now_se_worth, .inl (cI, 12, .inl f_h_now_se_worth))] A r) (by decide) rfl (Nat.le_of_ble_eq_true rfl) [(0, .ref h), (1, .int a1)] rfl ?_
  intro p e s m below meth c A hx hb hml hr hlocks hnm hown hK hP hD hA hS hN ls args Q hts hl hQ
  replace hown : s.vm.findClass RX8 = some m.cls := hown
  have S0 : CallFix p m c cX8_book 2 s args wsX8_book RX8 := ⟨hx, hb, hml, hown, hts⟩
  have inX8 : ∀ w ∈ u_ws RX8 TX8 7, w ∈ wsX8_book := fun w h => List.mem_cons_of_mem _ (List.mem_append_left _ (List.mem_append_left _ (List.mem_append_right _ h)))
  have inX4 : ∀ w ∈ u_ws RX4 TX4 14, w ∈ wsX8_book := fun w h => List.mem_cons_of_mem _ (List.mem_append_left _ (List.mem_append_right _ h))
  have wl1 : (Cond.fieldLink RX8 21 "BeachedShip" "now" "LBeachedShip$Ship;").before args s = true := hts _ (List.mem_of_getElem? (i := 1) rfl)
  have wl2 : (Cond.fieldLink RX8 259 "BeachedShip$Ship" "pitchTaken" "I").before args s = true := hts _ (List.mem_of_getElem? (i := 2) rfl)
  have wl3 : (Cond.fieldLink RX8 262 "BeachedShip$Ship" "hoursOfMen" "I").before args s = true := hts _ (List.mem_of_getElem? (i := 3) rfl)
  have wl4 : (Cond.fieldLink RX8 265 "BeachedShip$Ship" "parted" "I").before args s = true := hts _ (List.mem_of_getElem? (i := 4) rfl)
  have wl5 : (Cond.fieldLink RX8 268 "BeachedShip$Ship" "moved" "I").before args s = true := hts _ (List.mem_of_getElem? (i := 5) rfl)
  have wl6 : (Cond.fieldLink RX8 122 "BeachedShip$Ship" "seams" "LBeachedShip$Seams;").before args s = true := hts _ (List.mem_of_getElem? (i := 6) rfl)
  have wl7 : (Cond.fieldLink RX8 86 "BeachedShip$Ship" "pitch" "I").before args s = true := hts _ (List.mem_of_getElem? (i := 7) rfl)
  have hRet : ∀ (r_z : Int32), some r_z = some r → ∀ (H : Heap) (locs : List Loc) (ls : Array Slot) (pc : Nat), va_P D vwCl [(h, .inr (8, [.ref sr, .ref h_now, .ref h_kept, .ref h_planner, .ref h_floating, .ref h_planks, .int v_h_keptSize])), (h_now, .inr (4, [.ref sr, .ref h_now_th, .ref h_now_ta, .ref h_now_se, .int v_h_now_hour, .int v_h_now_heel, .int v_h_now_water, .int v_h_now_pitch, .int v_h_now_boatUsed, .int v_h_now_heelWent, .int v_h_now_pitchTaken, .int v_h_now_hoursOfMen, .int v_h_now_parted, .int v_h_now_moved])), (h_now_se, .inr (3, [.ref h_now_se_strake, .ref h_now_se_side, .ref h_now_se_hands, .ref h_now_se_hours, .ref h_now_se_pitch, .ref h_now_se_worth, .ref h_now_se_state, .ref h_now_se_done, .int v_h_now_se_size])), (h_now_se_state, .inl (cI, 12, .inl f_h_now_se_state)), (h_now_se_worth, .inl (cI, 12, .inl f_h_now_se_worth))] H → va_D A [(h, .inr (8, [.ref sr, .ref h_now, .ref h_kept, .ref h_planner, .ref h_floating, .ref h_planks, .int v_h_keptSize])), (h_now, .inr (4, [.ref sr, .ref h_now_th, .ref h_now_ta, .ref h_now_se, .int v_h_now_hour, .int v_h_now_heel, .int v_h_now_water, .int v_h_now_pitch, .int v_h_now_boatUsed, .int v_h_now_heelWent, .int v_h_now_pitchTaken, .int v_h_now_hoursOfMen, .int v_h_now_parted, .int v_h_now_moved])), (h_now_se, .inr (3, [.ref h_now_se_strake, .ref h_now_se_side, .ref h_now_se_hands, .ref h_now_se_hours, .ref h_now_se_pitch, .ref h_now_se_worth, .ref h_now_se_state, .ref h_now_se_done, .int v_h_now_se_size])), (h_now_se_state, .inl (cI, 12, .inl f_h_now_se_state)), (h_now_se_worth, .inl (cI, 12, .inl f_h_now_se_worth))] → va_S A s.heap H locs → narrow .int (.int r_z) = .int r_z → decode cX8_book pc = .ok (.ireturn, 1) → W p l e rm_X8_book s m args below meth c H locs 0 0 Q (F0 m pc ls [.int r_z]) := by
    intro r_z hz H locs ls pc hP hD hS hn hd
    cases hz
    exact k_iret hx hb hr hlocks hn hK hP hD hS hQ rfl hd
  unfold p_X8_book at hf
  refine lv_iload_n hx hb dX8_book_0 rfl (lv_at hl 1 rfl) ?_
  by_cases c1 : a1 = 0
  · replace hf := k_pos hf c1
    refine k_tsw (k := 0) (j := 0) (off := 39) (tgt := 40) hx hb dX8_book_1 c1 (by decide) (by decide) (by decide) rfl (by decide) ?_
    refine lv_aload_n hx hb dX8_book_40 rfl (lv_at hl 0 rfl) ?_
    refine k_get (C := RX8) (T := TX8) (N := 7) hx hb hts inX8 hown hK hP 0 rfl rfl 1 (by decide) rfl wl1 rfl dX8_book_41 ?_
    refine k_get (C := RX4) (T := TX4) (N := 14) hx hb hts inX4 hown hK hP 1 rfl rfl 10 (by decide) rfl wl2 rfl dX8_book_44 ?_
    exact hRet _ hf _ _ _ _ hP hD hS rfl dX8_book_47
  · replace hf := k_neg hf c1
    by_cases c2 : a1 = 1
    · replace hf := k_pos hf c2
      refine k_tsw (k := 1) (j := 1) (off := 47) (tgt := 48) hx hb dX8_book_1 c2 (by decide) (by decide) (by decide) rfl (by decide) ?_
      refine lv_aload_n hx hb dX8_book_48 rfl (lv_at hl 0 rfl) ?_
      refine k_get (C := RX8) (T := TX8) (N := 7) hx hb hts inX8 hown hK hP 0 rfl rfl 1 (by decide) rfl wl1 rfl dX8_book_49 ?_
      refine k_get (C := RX4) (T := TX4) (N := 14) hx hb hts inX4 hown hK hP 1 rfl rfl 11 (by decide) rfl wl3 rfl dX8_book_52 ?_
      exact hRet _ hf _ _ _ _ hP hD hS rfl dX8_book_55
    · replace hf := k_neg hf c2
      by_cases c3 : a1 = 2
      · replace hf := k_pos hf c3
        refine k_tsw (k := 2) (j := 2) (off := 55) (tgt := 56) hx hb dX8_book_1 c3 (by decide) (by decide) (by decide) rfl (by decide) ?_
        refine lv_aload_n hx hb dX8_book_56 rfl (lv_at hl 0 rfl) ?_
        refine k_get (C := RX8) (T := TX8) (N := 7) hx hb hts inX8 hown hK hP 0 rfl rfl 1 (by decide) rfl wl1 rfl dX8_book_57 ?_
        refine k_get (C := RX4) (T := TX4) (N := 14) hx hb hts inX4 hown hK hP 1 rfl rfl 12 (by decide) rfl wl4 rfl dX8_book_60 ?_
        exact hRet _ hf _ _ _ _ hP hD hS rfl dX8_book_63
      · replace hf := k_neg hf c3
        by_cases c4 : a1 = 3
        · replace hf := k_pos hf c4
          refine k_tsw (k := 3) (j := 3) (off := 63) (tgt := 64) hx hb dX8_book_1 c4 (by decide) (by decide) (by decide) rfl (by decide) ?_
          refine lv_aload_n hx hb dX8_book_64 rfl (lv_at hl 0 rfl) ?_
          refine k_get (C := RX8) (T := TX8) (N := 7) hx hb hts inX8 hown hK hP 0 rfl rfl 1 (by decide) rfl wl1 rfl dX8_book_65 ?_
          refine k_get (C := RX4) (T := TX4) (N := 14) hx hb hts inX4 hown hK hP 1 rfl rfl 13 (by decide) rfl wl5 rfl dX8_book_68 ?_
          exact hRet _ hf _ _ _ _ hP hD hS rfl dX8_book_71
        · replace hf := k_neg hf c4
          by_cases c5 : a1 = 4
          · replace hf := k_pos hf c5
            refine k_tsw (k := 4) (j := 4) (off := 71) (tgt := 72) hx hb dX8_book_1 c5 (by decide) (by decide) (by decide) rfl (by decide) ?_
            refine lv_aload_n hx hb dX8_book_72 rfl (lv_at hl 0 rfl) ?_
            refine k_get (C := RX8) (T := TX8) (N := 7) hx hb hts inX8 hown hK hP 0 rfl rfl 1 (by decide) rfl wl1 rfl dX8_book_73 ?_
            refine k_get (C := RX4) (T := TX4) (N := 14) hx hb hts inX4 hown hK hP 1 rfl rfl 3 (by decide) rfl wl6 rfl dX8_book_76 ?_
            obtain ⟨r6, hc6, hf⟩ := k_b1_some hf
            refine k_ViR (q0 := 0) (As := []) (rest := []) S0 (c_X3_worthTight l D cI cZ cJ cS h_now_se h_now_se_strake h_now_se_side h_now_se_hands h_now_se_hours h_now_se_pitch h_now_se_worth h_now_se_state h_now_se_done v_h_now_se_size f_h_now_se_state f_h_now_se_worth r6 hc6) (cwV 0 hts gX8_book_X3_worthTight rfl rfl rfl hdV_X3_worthTight ⟨Nat.le_of_ble_eq_true rfl, Nat.le_of_ble_eq_true rfl⟩) hK hP hD hS hA hN [2, 3, 4] rfl (by decide) rfl rfl rfl rfl hl.1 rfl (Nat.le_of_ble_eq_true rfl) dX8_book_79 (fun H locs hP hS => ?_)
            exact hRet _ hf _ _ _ _ hP hD hS rfl dX8_book_82
          · replace hf := k_neg hf c5
            by_cases c7 : a1 = 5
            · replace hf := k_pos hf c7
              refine k_tsw (k := 5) (j := 5) (off := 82) (tgt := 83) hx hb dX8_book_1 c7 (by decide) (by decide) (by decide) rfl (by decide) ?_
              refine lv_aload_n hx hb dX8_book_83 rfl (lv_at hl 0 rfl) ?_
              refine k_get (C := RX8) (T := TX8) (N := 7) hx hb hts inX8 hown hK hP 0 rfl rfl 1 (by decide) rfl wl1 rfl dX8_book_84 ?_
              refine k_get (C := RX4) (T := TX4) (N := 14) hx hb hts inX4 hown hK hP 1 rfl rfl 7 (by decide) rfl wl7 rfl dX8_book_87 ?_
              exact hRet _ hf _ _ _ _ hP hD hS rfl dX8_book_90
            · replace hf := k_neg hf c7
              refine lv_tableOut (tgt := 91) hx hb dX8_book_1 (by have := k_ne_toInt c1; have e0 : (0 : Int32).toInt = 0 := (by decide); have := k_ne_toInt c2; have e1 : (1 : Int32).toInt = 1 := (by decide); have := k_ne_toInt c3; have e2 : (2 : Int32).toInt = 2 := (by decide); have := k_ne_toInt c4; have e3 : (3 : Int32).toInt = 3 := (by decide); have := k_ne_toInt c5; have e4 : (4 : Int32).toInt = 4 := (by decide); have := k_ne_toInt c7; have e5 : (5 : Int32).toInt = 5 := (by decide); omega) (by decide) ?_
              refine lv_iconst (v := (-1)) hx hb dX8_book_91 (by decide) ?_
              exact hRet _ hf _ _ _ _ hP hD hS rfl dX8_book_92

def p_X8_count (v_h_keptSize : Int32) (v_h_now_hour : Int32) (v_h_now_th_out : Int32) (v_h_now_th_size : Int32) (v_h_now_ta_whole : Int32) (v_h_now_ta_size : Int32) (v_h_now_se_size : Int32) (f_h_now_se_state : Nat → Int32) (a1 : Int32) : Option (Int32) :=
  if a1 = 0 then
    some v_h_now_th_size
  else
  if a1 = 1 then
    k_b1 (p_J6_bitCount_0f7a4 v_h_now_th_out) fun r3 =>
    some (v_h_now_th_size - r3)
  else
  if a1 = 2 then
    some v_h_now_ta_size
  else
  if a1 = 3 then
    k_b1 (p_J6_bitCount_0f7a4 v_h_now_ta_whole) fun r6 =>
    some r6
  else
  if a1 = 4 then
    some v_h_now_se_size
  else
  if a1 = 5 then
    k_b1 (p_X3_bitsOf v_h_now_se_size f_h_now_se_state 1) fun r9 =>
    k_b1 (p_J6_bitCount_0f7a4 r9) fun r10 =>
    some r10
  else
  if a1 = 6 then
    k_b1 (p_X3_bitsOf v_h_now_se_size f_h_now_se_state 2) fun r12 =>
    k_b1 (p_J6_bitCount_0f7a4 r12) fun r13 =>
    some r13
  else
  if a1 = 7 then
    some v_h_now_hour
  else
  if a1 = 8 then
    some v_h_keptSize
  else
    some (-1)
abbrev rm_X8_count : Room := { frames := 1, cells := 0, slots := 0, locals := 23 }
theorem hdS_X8_count : yX8_count.cls ≠ "java/lang/invoke/MethodHandle" ∧ yX8_count.cls ≠ "java/lang/invoke/VarHandle" ∧ (parseMethodDescriptor yX8_count.desc).map (fun d => d.parameters.length) = some 1 := by decide +kernel
theorem hdV_X8_count : yX8_count.cls = RX8 ∧ yX8_count.cls ≠ "java/lang/invoke/MethodHandle" ∧ yX8_count.cls ≠ "java/lang/invoke/VarHandle" ∧ (parseMethodDescriptor yX8_count.desc).map (fun d => d.parameters.length) = some 1 := by decide +kernel
set_option maxHeartbeats 4000000 in
set_option maxRecDepth 100000 in
theorem c_X8_count (l : Launch) (D : va_G) (cI cZ cJ cS : ClassId) (h sr h_now h_kept h_planner h_floating h_planks h_now_th h_now_ta h_now_se h_now_th_weight h_now_th_under h_now_ta_mast h_now_ta_parts h_now_ta_strength h_now_se_strake h_now_se_side h_now_se_hands h_now_se_hours h_now_se_pitch h_now_se_worth h_now_se_state h_now_se_done : Nat) (v_h_keptSize : Int32) (v_h_now_hour : Int32) (v_h_now_heel : Int32) (v_h_now_water : Int32) (v_h_now_pitch : Int32) (v_h_now_boatUsed : Int32) (v_h_now_heelWent : Int32) (v_h_now_pitchTaken : Int32) (v_h_now_hoursOfMen : Int32) (v_h_now_parted : Int32) (v_h_now_moved : Int32) (v_h_now_th_out : Int32) (v_h_now_th_size : Int32) (v_h_now_ta_whole : Int32) (v_h_now_ta_size : Int32) (v_h_now_se_size : Int32) (f_h_now_se_state : Nat → Int32) (a1 : Int32) (r : Int32) (hf : p_X8_count v_h_keptSize v_h_now_hour v_h_now_th_out v_h_now_th_size v_h_now_ta_whole v_h_now_ta_size v_h_now_se_size f_h_now_se_state a1 = some r) : k_MI l yX8_count wsX8_count rm_X8_count D (k_tys cI cZ cJ cS) [.ref h, .int a1] [(h, .inr (8, [.ref sr, .ref h_now, .ref h_kept, .ref h_planner, .ref h_floating, .ref h_planks, .int v_h_keptSize])), (h_now, .inr (4, [.ref sr, .ref h_now_th, .ref h_now_ta, .ref h_now_se, .int v_h_now_hour, .int v_h_now_heel, .int v_h_now_water, .int v_h_now_pitch, .int v_h_now_boatUsed, .int v_h_now_heelWent, .int v_h_now_pitchTaken, .int v_h_now_hoursOfMen, .int v_h_now_parted, .int v_h_now_moved])), (h_now_th, .inr (7, [.ref h_now_th_weight, .ref h_now_th_under, .int v_h_now_th_out, .int v_h_now_th_size])), (h_now_ta, .inr (6, [.ref h_now_ta_mast, .ref h_now_ta_parts, .ref h_now_ta_strength, .int v_h_now_ta_whole, .int v_h_now_ta_size])), (h_now_se, .inr (3, [.ref h_now_se_strake, .ref h_now_se_side, .ref h_now_se_hands, .ref h_now_se_hours, .ref h_now_se_pitch, .ref h_now_se_worth, .ref h_now_se_state, .ref h_now_se_done, .int v_h_now_se_size])), (h_now_se_state, .inl (cI, 12, .inl f_h_now_se_state))] [(h, .inr (8, [.ref sr, .ref h_now, .ref h_kept, .ref h_planner, .ref h_floating, .ref h_planks, .int v_h_keptSize])), (h_now, .inr (4, [.ref sr, .ref h_now_th, .ref h_now_ta, .ref h_now_se, .int v_h_now_hour, .int v_h_now_heel, .int v_h_now_water, .int v_h_now_pitch, .int v_h_now_boatUsed, .int v_h_now_heelWent, .int v_h_now_pitchTaken, .int v_h_now_hoursOfMen, .int v_h_now_parted, .int v_h_now_moved])), (h_now_th, .inr (7, [.ref h_now_th_weight, .ref h_now_th_under, .int v_h_now_th_out, .int v_h_now_th_size])), (h_now_ta, .inr (6, [.ref h_now_ta_mast, .ref h_now_ta_parts, .ref h_now_ta_strength, .int v_h_now_ta_whole, .int v_h_now_ta_size])), (h_now_se, .inr (3, [.ref h_now_se_strake, .ref h_now_se_side, .ref h_now_se_hands, .ref h_now_se_hours, .ref h_now_se_pitch, .ref h_now_se_worth, .ref h_now_se_state, .ref h_now_se_done, .int v_h_now_se_size])), (h_now_se_state, .inl (cI, 12, .inl f_h_now_se_state))] r := by
  refine k_enter (y := yX8_count) (wl := wsX8_count) (rm := rm_X8_count) (av := [.ref h, .int a1]) (D := D) (tys := k_tys cI cZ cJ cS) (ws := [(h, .inr (8, [.ref sr, .ref h_now, .ref h_kept, .ref h_planner, .ref h_floating, .ref h_planks, .int v_h_keptSize])), (h_now, .inr (4, [.ref sr, .ref h_now_th, .ref h_now_ta, .ref h_now_se, .int v_h_now_hour, .int v_h_now_heel, .int v_h_now_water, .int v_h_now_pitch, .int v_h_now_boatUsed, .int v_h_now_heelWent, .int v_h_now_pitchTaken, .int v_h_now_hoursOfMen, .int v_h_now_parted, .int v_h_now_moved])), (h_now_th, .inr (7, [.ref h_now_th_weight, .ref h_now_th_under, .int v_h_now_th_out, .int v_h_now_th_size])), (h_now_ta, .inr (6, [.ref h_now_ta_mast, .ref h_now_ta_parts, .ref h_now_ta_strength, .int v_h_now_ta_whole, .int v_h_now_ta_size])), (h_now_se, .inr (3, [.ref h_now_se_strake, .ref h_now_se_side, .ref h_now_se_hands, .ref h_now_se_hours, .ref h_now_se_pitch, .ref h_now_se_worth, .ref h_now_se_state, .ref h_now_se_done, .int v_h_now_se_size])), (h_now_se_state, .inl (cI, 12, .inl f_h_now_se_state))]) (cc := cX8_count) (maxL := 2) (ret := (some .int)) (Qc := fun A => k_Qi D (k_tys cI cZ cJ cS) [(h, .inr (8, [.ref sr, .ref h_now, .ref h_kept, .ref h_planner, .ref h_floating, .ref h_planks, .int v_h_keptSize])), (h_now, .inr (4, [.ref sr, .ref h_now_th, .ref h_now_ta, .ref h_now_se, .int v_h_now_hour, .int v_h_now_heel, .int v_h_now_water, .int v_h_now_pitch, .int v_h_now_boatUsed, .int v_h_now_heelWent, .int v_h_now_pitchTaken, .int v_h_now_hoursOfMen, .int v_h_now_parted, .int v_h_now_moved])), (h_now_th, .inr (7, [.ref h_now_th_weight, .ref h_now_th_under, .int v_h_now_th_out, .int v_h_now_th_size])), (h_now_ta, .inr (6, [.ref h_now_ta_mast, .ref h_now_ta_parts, .ref h_now_ta_strength, .int v_h_now_ta_whole, .int v_h_now_ta_size])), (h_now_se, .inr (3, [.ref h_now_se_strake, .ref h_now_se_side, .ref h_now_se_hands, .ref h_now_se_hours, .ref h_now_se_pitch, .ref h_now_se_worth, .ref h_now_se_state, .ref h_now_se_done, .int v_h_now_se_size])), (h_now_se_state, .inl (cI, 12, .inl f_h_now_se_state))] A r) (by decide) rfl (Nat.le_of_ble_eq_true rfl) [(0, .ref h), (1, .int a1)] rfl ?_
  intro p e s m below meth c A hx hb hml hr hlocks hnm hown hK hP hD hA hS hN ls args Q hts hl hQ
  replace hown : s.vm.findClass RX8 = some m.cls := hown
  have S0 : CallFix p m c cX8_count 2 s args wsX8_count RX8 := ⟨hx, hb, hml, hown, hts⟩
  have inX8 : ∀ w ∈ u_ws RX8 TX8 7, w ∈ wsX8_count := fun w h => List.mem_cons_of_mem _ (List.mem_append_left _ (List.mem_append_left _ (List.mem_append_left _ (List.mem_append_left _ (List.mem_append_right _ h)))))
  have inX4 : ∀ w ∈ u_ws RX4 TX4 14, w ∈ wsX8_count := fun w h => List.mem_cons_of_mem _ (List.mem_append_left _ (List.mem_append_left _ (List.mem_append_left _ (List.mem_append_right _ h))))
  have inX7 : ∀ w ∈ u_ws RX7 TX7 4, w ∈ wsX8_count := fun w h => List.mem_cons_of_mem _ (List.mem_append_left _ (List.mem_append_left _ (List.mem_append_right _ h)))
  have inX6 : ∀ w ∈ u_ws RX6 TX6 5, w ∈ wsX8_count := fun w h => List.mem_cons_of_mem _ (List.mem_append_left _ (List.mem_append_right _ h))
  have inX3 : ∀ w ∈ u_ws RX3 TX3 9, w ∈ wsX8_count := fun w h => List.mem_cons_of_mem _ (List.mem_append_right _ h)
  have wl1 : (Cond.fieldLink RX8 21 "BeachedShip" "now" "LBeachedShip$Ship;").before args s = true := hts _ (List.mem_of_getElem? (i := 1) rfl)
  have wl2 : (Cond.fieldLink RX8 92 "BeachedShip$Ship" "things" "LBeachedShip$Things;").before args s = true := hts _ (List.mem_of_getElem? (i := 2) rfl)
  have wl3 : (Cond.fieldLink RX8 96 "BeachedShip$Things" "size" "I").before args s = true := hts _ (List.mem_of_getElem? (i := 3) rfl)
  have wl4 : (Cond.fieldLink RX8 101 "BeachedShip$Things" "out" "I").before args s = true := hts _ (List.mem_of_getElem? (i := 4) rfl)
  have wl5 : (Cond.fieldLink RX8 112 "BeachedShip$Ship" "tackles" "LBeachedShip$Tackles;").before args s = true := hts _ (List.mem_of_getElem? (i := 5) rfl)
  have wl6 : (Cond.fieldLink RX8 116 "BeachedShip$Tackles" "size" "I").before args s = true := hts _ (List.mem_of_getElem? (i := 6) rfl)
  have wl7 : (Cond.fieldLink RX8 167 "BeachedShip$Tackles" "whole" "I").before args s = true := hts _ (List.mem_of_getElem? (i := 7) rfl)
  have wl8 : (Cond.fieldLink RX8 122 "BeachedShip$Ship" "seams" "LBeachedShip$Seams;").before args s = true := hts _ (List.mem_of_getElem? (i := 8) rfl)
  have wl9 : (Cond.fieldLink RX8 126 "BeachedShip$Seams" "size" "I").before args s = true := hts _ (List.mem_of_getElem? (i := 9) rfl)
  have wl10 : (Cond.fieldLink RX8 153 "BeachedShip$Ship" "hour" "I").before args s = true := hts _ (List.mem_of_getElem? (i := 10) rfl)
  have wl11 : (Cond.fieldLink RX8 52 "BeachedShip" "keptSize" "I").before args s = true := hts _ (List.mem_of_getElem? (i := 11) rfl)
  have hRet : ∀ (r_z : Int32), some r_z = some r → ∀ (H : Heap) (locs : List Loc) (ls : Array Slot) (pc : Nat), va_P D vwCl [(h, .inr (8, [.ref sr, .ref h_now, .ref h_kept, .ref h_planner, .ref h_floating, .ref h_planks, .int v_h_keptSize])), (h_now, .inr (4, [.ref sr, .ref h_now_th, .ref h_now_ta, .ref h_now_se, .int v_h_now_hour, .int v_h_now_heel, .int v_h_now_water, .int v_h_now_pitch, .int v_h_now_boatUsed, .int v_h_now_heelWent, .int v_h_now_pitchTaken, .int v_h_now_hoursOfMen, .int v_h_now_parted, .int v_h_now_moved])), (h_now_th, .inr (7, [.ref h_now_th_weight, .ref h_now_th_under, .int v_h_now_th_out, .int v_h_now_th_size])), (h_now_ta, .inr (6, [.ref h_now_ta_mast, .ref h_now_ta_parts, .ref h_now_ta_strength, .int v_h_now_ta_whole, .int v_h_now_ta_size])), (h_now_se, .inr (3, [.ref h_now_se_strake, .ref h_now_se_side, .ref h_now_se_hands, .ref h_now_se_hours, .ref h_now_se_pitch, .ref h_now_se_worth, .ref h_now_se_state, .ref h_now_se_done, .int v_h_now_se_size])), (h_now_se_state, .inl (cI, 12, .inl f_h_now_se_state))] H → va_D A [(h, .inr (8, [.ref sr, .ref h_now, .ref h_kept, .ref h_planner, .ref h_floating, .ref h_planks, .int v_h_keptSize])), (h_now, .inr (4, [.ref sr, .ref h_now_th, .ref h_now_ta, .ref h_now_se, .int v_h_now_hour, .int v_h_now_heel, .int v_h_now_water, .int v_h_now_pitch, .int v_h_now_boatUsed, .int v_h_now_heelWent, .int v_h_now_pitchTaken, .int v_h_now_hoursOfMen, .int v_h_now_parted, .int v_h_now_moved])), (h_now_th, .inr (7, [.ref h_now_th_weight, .ref h_now_th_under, .int v_h_now_th_out, .int v_h_now_th_size])), (h_now_ta, .inr (6, [.ref h_now_ta_mast, .ref h_now_ta_parts, .ref h_now_ta_strength, .int v_h_now_ta_whole, .int v_h_now_ta_size])), (h_now_se, .inr (3, [.ref h_now_se_strake, .ref h_now_se_side, .ref h_now_se_hands, .ref h_now_se_hours, .ref h_now_se_pitch, .ref h_now_se_worth, .ref h_now_se_state, .ref h_now_se_done, .int v_h_now_se_size])), (h_now_se_state, .inl (cI, 12, .inl f_h_now_se_state))] → va_S A s.heap H locs → narrow .int (.int r_z) = .int r_z → decode cX8_count pc = .ok (.ireturn, 1) → W p l e rm_X8_count s m args below meth c H locs 0 0 Q (F0 m pc ls [.int r_z]) := by
    intro r_z hz H locs ls pc hP hD hS hn hd
    cases hz
    exact k_iret hx hb hr hlocks hn hK hP hD hS hQ rfl hd
  unfold p_X8_count at hf
  refine lv_iload_n hx hb dX8_count_0 rfl (lv_at hl 1 rfl) ?_
  by_cases c1 : a1 = 0
  · replace hf := k_pos hf c1
    refine k_tsw (k := 0) (j := 0) (off := 51) (tgt := 52) hx hb dX8_count_1 c1 (by decide) (by decide) (by decide) rfl (by decide) ?_
    refine lv_aload_n hx hb dX8_count_52 rfl (lv_at hl 0 rfl) ?_
    refine k_get (C := RX8) (T := TX8) (N := 7) hx hb hts inX8 hown hK hP 0 rfl rfl 1 (by decide) rfl wl1 rfl dX8_count_53 ?_
    refine k_get (C := RX4) (T := TX4) (N := 14) hx hb hts inX4 hown hK hP 1 rfl rfl 1 (by decide) rfl wl2 rfl dX8_count_56 ?_
    refine k_get (C := RX7) (T := TX7) (N := 4) hx hb hts inX7 hown hK hP 2 rfl rfl 3 (by decide) rfl wl3 rfl dX8_count_59 ?_
    exact hRet _ hf _ _ _ _ hP hD hS rfl dX8_count_62
  · replace hf := k_neg hf c1
    by_cases c2 : a1 = 1
    · replace hf := k_pos hf c2
      refine k_tsw (k := 1) (j := 1) (off := 62) (tgt := 63) hx hb dX8_count_1 c2 (by decide) (by decide) (by decide) rfl (by decide) ?_
      refine lv_aload_n hx hb dX8_count_63 rfl (lv_at hl 0 rfl) ?_
      refine k_get (C := RX8) (T := TX8) (N := 7) hx hb hts inX8 hown hK hP 0 rfl rfl 1 (by decide) rfl wl1 rfl dX8_count_64 ?_
      refine k_get (C := RX4) (T := TX4) (N := 14) hx hb hts inX4 hown hK hP 1 rfl rfl 1 (by decide) rfl wl2 rfl dX8_count_67 ?_
      refine k_get (C := RX7) (T := TX7) (N := 4) hx hb hts inX7 hown hK hP 2 rfl rfl 3 (by decide) rfl wl3 rfl dX8_count_70 ?_
      refine lv_aload_n hx hb dX8_count_73 rfl (lv_at hl 0 rfl) ?_
      refine k_get (C := RX8) (T := TX8) (N := 7) hx hb hts inX8 hown hK hP 0 rfl rfl 1 (by decide) rfl wl1 rfl dX8_count_74 ?_
      refine k_get (C := RX4) (T := TX4) (N := 14) hx hb hts inX4 hown hK hP 1 rfl rfl 1 (by decide) rfl wl2 rfl dX8_count_77 ?_
      refine k_get (C := RX7) (T := TX7) (N := 4) hx hb hts inX7 hown hK hP 2 rfl rfl 2 (by decide) rfl wl4 rfl dX8_count_80 ?_
      obtain ⟨r3, hc3, hf⟩ := k_b1_some hf
      refine k_SiR (As := [.int v_h_now_th_out]) (rest := [.int v_h_now_th_size]) S0 (c_J6_bitCount_0f7a4 l D cI cZ cJ cS v_h_now_th_out r3 hc3) (va_cwS 1 hts gX8_count_J6_bitCount_0f7a4 rfl rfl rfl hdS_J6_bitCount_0f7a4 ⟨Nat.le_of_ble_eq_true rfl, Nat.le_of_ble_eq_true rfl⟩) hK hP hD hS hA hN [] rfl (by decide) rfl hl.1 rfl (Nat.le_of_ble_eq_true rfl) dX8_count_83 (fun H locs hP hS => ?_)
      refine lv_isub hx hb dX8_count_86 ?_
      exact hRet _ hf _ _ _ _ hP hD hS rfl dX8_count_87
    · replace hf := k_neg hf c2
      by_cases c4 : a1 = 2
      · replace hf := k_pos hf c4
        refine k_tsw (k := 2) (j := 2) (off := 87) (tgt := 88) hx hb dX8_count_1 c4 (by decide) (by decide) (by decide) rfl (by decide) ?_
        refine lv_aload_n hx hb dX8_count_88 rfl (lv_at hl 0 rfl) ?_
        refine k_get (C := RX8) (T := TX8) (N := 7) hx hb hts inX8 hown hK hP 0 rfl rfl 1 (by decide) rfl wl1 rfl dX8_count_89 ?_
        refine k_get (C := RX4) (T := TX4) (N := 14) hx hb hts inX4 hown hK hP 1 rfl rfl 2 (by decide) rfl wl5 rfl dX8_count_92 ?_
        refine k_get (C := RX6) (T := TX6) (N := 5) hx hb hts inX6 hown hK hP 3 rfl rfl 4 (by decide) rfl wl6 rfl dX8_count_95 ?_
        exact hRet _ hf _ _ _ _ hP hD hS rfl dX8_count_98
      · replace hf := k_neg hf c4
        by_cases c5 : a1 = 3
        · replace hf := k_pos hf c5
          refine k_tsw (k := 3) (j := 3) (off := 98) (tgt := 99) hx hb dX8_count_1 c5 (by decide) (by decide) (by decide) rfl (by decide) ?_
          refine lv_aload_n hx hb dX8_count_99 rfl (lv_at hl 0 rfl) ?_
          refine k_get (C := RX8) (T := TX8) (N := 7) hx hb hts inX8 hown hK hP 0 rfl rfl 1 (by decide) rfl wl1 rfl dX8_count_100 ?_
          refine k_get (C := RX4) (T := TX4) (N := 14) hx hb hts inX4 hown hK hP 1 rfl rfl 2 (by decide) rfl wl5 rfl dX8_count_103 ?_
          refine k_get (C := RX6) (T := TX6) (N := 5) hx hb hts inX6 hown hK hP 3 rfl rfl 3 (by decide) rfl wl7 rfl dX8_count_106 ?_
          obtain ⟨r6, hc6, hf⟩ := k_b1_some hf
          refine k_SiR (As := [.int v_h_now_ta_whole]) (rest := []) S0 (c_J6_bitCount_0f7a4 l D cI cZ cJ cS v_h_now_ta_whole r6 hc6) (va_cwS 1 hts gX8_count_J6_bitCount_0f7a4 rfl rfl rfl hdS_J6_bitCount_0f7a4 ⟨Nat.le_of_ble_eq_true rfl, Nat.le_of_ble_eq_true rfl⟩) hK hP hD hS hA hN [] rfl (by decide) rfl hl.1 rfl (Nat.le_of_ble_eq_true rfl) dX8_count_109 (fun H locs hP hS => ?_)
          exact hRet _ hf _ _ _ _ hP hD hS rfl dX8_count_112
        · replace hf := k_neg hf c5
          by_cases c7 : a1 = 4
          · replace hf := k_pos hf c7
            refine k_tsw (k := 4) (j := 4) (off := 112) (tgt := 113) hx hb dX8_count_1 c7 (by decide) (by decide) (by decide) rfl (by decide) ?_
            refine lv_aload_n hx hb dX8_count_113 rfl (lv_at hl 0 rfl) ?_
            refine k_get (C := RX8) (T := TX8) (N := 7) hx hb hts inX8 hown hK hP 0 rfl rfl 1 (by decide) rfl wl1 rfl dX8_count_114 ?_
            refine k_get (C := RX4) (T := TX4) (N := 14) hx hb hts inX4 hown hK hP 1 rfl rfl 3 (by decide) rfl wl8 rfl dX8_count_117 ?_
            refine k_get (C := RX3) (T := TX3) (N := 9) hx hb hts inX3 hown hK hP 4 rfl rfl 8 (by decide) rfl wl9 rfl dX8_count_120 ?_
            exact hRet _ hf _ _ _ _ hP hD hS rfl dX8_count_123
          · replace hf := k_neg hf c7
            by_cases c8 : a1 = 5
            · replace hf := k_pos hf c8
              refine k_tsw (k := 5) (j := 5) (off := 123) (tgt := 124) hx hb dX8_count_1 c8 (by decide) (by decide) (by decide) rfl (by decide) ?_
              refine lv_aload_n hx hb dX8_count_124 rfl (lv_at hl 0 rfl) ?_
              refine k_get (C := RX8) (T := TX8) (N := 7) hx hb hts inX8 hown hK hP 0 rfl rfl 1 (by decide) rfl wl1 rfl dX8_count_125 ?_
              refine k_get (C := RX4) (T := TX4) (N := 14) hx hb hts inX4 hown hK hP 1 rfl rfl 3 (by decide) rfl wl8 rfl dX8_count_128 ?_
              refine lv_iconst (v := 1) hx hb dX8_count_131 (by decide) ?_
              obtain ⟨r9, hc9, hf⟩ := k_b1_some hf
              refine k_ViR (q0 := 0) (As := [.int 1]) (rest := []) S0 (c_X3_bitsOf l D cI cZ cJ cS h_now_se h_now_se_strake h_now_se_side h_now_se_hands h_now_se_hours h_now_se_pitch h_now_se_worth h_now_se_state h_now_se_done v_h_now_se_size f_h_now_se_state 1 r9 hc9) (cwV 1 hts gX8_count_X3_bitsOf rfl rfl rfl hdV_X3_bitsOf ⟨Nat.le_of_ble_eq_true rfl, Nat.le_of_ble_eq_true rfl⟩) hK hP hD hS hA hN [4, 5] rfl (by decide) rfl rfl rfl rfl hl.1 rfl (Nat.le_of_ble_eq_true rfl) dX8_count_132 (fun H locs hP hS => ?_)
              obtain ⟨r10, hc10, hf⟩ := k_b1_some hf
              refine k_SiR (As := [.int r9]) (rest := []) S0 (c_J6_bitCount_0f7a4 l D cI cZ cJ cS r9 r10 hc10) (va_cwS 1 hts gX8_count_J6_bitCount_0f7a4 rfl rfl rfl hdS_J6_bitCount_0f7a4 ⟨Nat.le_of_ble_eq_true rfl, Nat.le_of_ble_eq_true rfl⟩) hK hP hD hS hA hN [] rfl (by decide) rfl hl.1 rfl (Nat.le_of_ble_eq_true rfl) dX8_count_135 (fun H locs hP hS => ?_)
              exact hRet _ hf _ _ _ _ hP hD hS rfl dX8_count_138
            · replace hf := k_neg hf c8
              by_cases c11 : a1 = 6
              · replace hf := k_pos hf c11
                refine k_tsw (k := 6) (j := 6) (off := 138) (tgt := 139) hx hb dX8_count_1 c11 (by decide) (by decide) (by decide) rfl (by decide) ?_
                refine lv_aload_n hx hb dX8_count_139 rfl (lv_at hl 0 rfl) ?_
                refine k_get (C := RX8) (T := TX8) (N := 7) hx hb hts inX8 hown hK hP 0 rfl rfl 1 (by decide) rfl wl1 rfl dX8_count_140 ?_
                refine k_get (C := RX4) (T := TX4) (N := 14) hx hb hts inX4 hown hK hP 1 rfl rfl 3 (by decide) rfl wl8 rfl dX8_count_143 ?_
                refine lv_iconst (v := 2) hx hb dX8_count_146 (by decide) ?_
                obtain ⟨r12, hc12, hf⟩ := k_b1_some hf
                refine k_ViR (q0 := 0) (As := [.int 2]) (rest := []) S0 (c_X3_bitsOf l D cI cZ cJ cS h_now_se h_now_se_strake h_now_se_side h_now_se_hands h_now_se_hours h_now_se_pitch h_now_se_worth h_now_se_state h_now_se_done v_h_now_se_size f_h_now_se_state 2 r12 hc12) (cwV 1 hts gX8_count_X3_bitsOf rfl rfl rfl hdV_X3_bitsOf ⟨Nat.le_of_ble_eq_true rfl, Nat.le_of_ble_eq_true rfl⟩) hK hP hD hS hA hN [4, 5] rfl (by decide) rfl rfl rfl rfl hl.1 rfl (Nat.le_of_ble_eq_true rfl) dX8_count_147 (fun H locs hP hS => ?_)
                obtain ⟨r13, hc13, hf⟩ := k_b1_some hf
                refine k_SiR (As := [.int r12]) (rest := []) S0 (c_J6_bitCount_0f7a4 l D cI cZ cJ cS r12 r13 hc13) (va_cwS 1 hts gX8_count_J6_bitCount_0f7a4 rfl rfl rfl hdS_J6_bitCount_0f7a4 ⟨Nat.le_of_ble_eq_true rfl, Nat.le_of_ble_eq_true rfl⟩) hK hP hD hS hA hN [] rfl (by decide) rfl hl.1 rfl (Nat.le_of_ble_eq_true rfl) dX8_count_150 (fun H locs hP hS => ?_)
                exact hRet _ hf _ _ _ _ hP hD hS rfl dX8_count_153
              · replace hf := k_neg hf c11
                by_cases c14 : a1 = 7
                · replace hf := k_pos hf c14
                  refine k_tsw (k := 7) (j := 7) (off := 153) (tgt := 154) hx hb dX8_count_1 c14 (by decide) (by decide) (by decide) rfl (by decide) ?_
                  refine lv_aload_n hx hb dX8_count_154 rfl (lv_at hl 0 rfl) ?_
                  refine k_get (C := RX8) (T := TX8) (N := 7) hx hb hts inX8 hown hK hP 0 rfl rfl 1 (by decide) rfl wl1 rfl dX8_count_155 ?_
                  refine k_get (C := RX4) (T := TX4) (N := 14) hx hb hts inX4 hown hK hP 1 rfl rfl 4 (by decide) rfl wl10 rfl dX8_count_158 ?_
                  exact hRet _ hf _ _ _ _ hP hD hS rfl dX8_count_161
                · replace hf := k_neg hf c14
                  by_cases c15 : a1 = 8
                  · replace hf := k_pos hf c15
                    refine k_tsw (k := 8) (j := 8) (off := 161) (tgt := 162) hx hb dX8_count_1 c15 (by decide) (by decide) (by decide) rfl (by decide) ?_
                    refine lv_aload_n hx hb dX8_count_162 rfl (lv_at hl 0 rfl) ?_
                    refine k_get (C := RX8) (T := TX8) (N := 7) hx hb hts inX8 hown hK hP 0 rfl rfl 6 (by decide) rfl wl11 rfl dX8_count_163 ?_
                    exact hRet _ hf _ _ _ _ hP hD hS rfl dX8_count_166
                  · replace hf := k_neg hf c15
                    refine lv_tableOut (tgt := 167) hx hb dX8_count_1 (by have := k_ne_toInt c1; have e0 : (0 : Int32).toInt = 0 := (by decide); have := k_ne_toInt c2; have e1 : (1 : Int32).toInt = 1 := (by decide); have := k_ne_toInt c4; have e2 : (2 : Int32).toInt = 2 := (by decide); have := k_ne_toInt c5; have e3 : (3 : Int32).toInt = 3 := (by decide); have := k_ne_toInt c7; have e4 : (4 : Int32).toInt = 4 := (by decide); have := k_ne_toInt c8; have e5 : (5 : Int32).toInt = 5 := (by decide); have := k_ne_toInt c11; have e6 : (6 : Int32).toInt = 6 := (by decide); have := k_ne_toInt c14; have e7 : (7 : Int32).toInt = 7 := (by decide); have := k_ne_toInt c15; have e8 : (8 : Int32).toInt = 8 := (by decide); omega) (by decide) ?_
                    refine lv_iconst (v := (-1)) hx hb dX8_count_167 (by decide) ?_
                    exact hRet _ hf _ _ _ _ hP hD hS rfl dX8_count_168

