def p_X8_tackleTold (v_h_now_hour : Int32) (v_h_now_heel : Int32) (v_h_now_ta_whole : Int32) (v_h_now_ta_size : Int32) (f_sr_rules : Nat → Int32) (v_h_now_th_out : Int32) (v_h_now_th_size : Int32) (f_h_now_th_weight : Nat → Int32) (f_h_now_ta_parts : Nat → Int32) (f_sr_rain : Nat → Int32) (f_h_now_ta_strength : Nat → Int32) (a1 : Int32) (a2 : Int32) : Option (Int32) :=
  k_b1 (p_X8_within a1 0 (v_h_now_ta_size - 1)) fun r1 =>
  if r1 = 0 then
    some (-1)
  else
    k_b1 (p_X8_within a2 0 3) fun r3 =>
    if r3 = 0 then
      some (-1)
    else
      k_b1 (p_X8_hasBit v_h_now_ta_whole a1) fun r5 =>
      if r5 = 0 then
        some 0
      else
        k_b1 (p_X4_force f_sr_rules v_h_now_th_out v_h_now_th_size f_h_now_th_weight v_h_now_heel) fun r7 =>
        k_b1 (p_X6_share v_h_now_ta_whole r7) fun r8 =>
        if a2 = 0 then
          some r8
        else
        if a2 = 1 then
          k_b1 (p_X6_ropeTakes f_h_now_ta_parts a1 r8) fun r11 =>
          some r11
        else
        if a2 = 2 then
          k_b1 (p_X5_rainsIn f_sr_rain v_h_now_hour) fun r13 =>
          k_b1 (p_X6_ropeMay f_h_now_ta_strength a1 r13) fun r14 =>
          some r14
        else
          some 1
abbrev rm_X8_tackleTold : Room := { frames := 4, cells := 0, slots := 0, locals := 85 }
theorem hdS_X8_tackleTold : yX8_tackleTold.cls ≠ "java/lang/invoke/MethodHandle" ∧ yX8_tackleTold.cls ≠ "java/lang/invoke/VarHandle" ∧ (parseMethodDescriptor yX8_tackleTold.desc).map (fun d => d.parameters.length) = some 2 := by decide +kernel
theorem hdV_X8_tackleTold : yX8_tackleTold.cls = RX8 ∧ yX8_tackleTold.cls ≠ "java/lang/invoke/MethodHandle" ∧ yX8_tackleTold.cls ≠ "java/lang/invoke/VarHandle" ∧ (parseMethodDescriptor yX8_tackleTold.desc).map (fun d => d.parameters.length) = some 2 := by decide +kernel
set_option maxHeartbeats 4000000 in
set_option maxRecDepth 100000 in
theorem c_X8_tackleTold (l : Launch) (D : va_G) (cI cZ cJ cS : ClassId) (h sr h_now h_kept h_planner h_floating h_planks h_now_th h_now_ta h_now_se h_now_ta_mast h_now_ta_parts h_now_ta_strength sr_tide sr_rain sr_rules h_now_th_weight h_now_th_under : Nat) (v_h_keptSize : Int32) (v_h_now_hour : Int32) (v_h_now_heel : Int32) (v_h_now_water : Int32) (v_h_now_pitch : Int32) (v_h_now_boatUsed : Int32) (v_h_now_heelWent : Int32) (v_h_now_pitchTaken : Int32) (v_h_now_hoursOfMen : Int32) (v_h_now_parted : Int32) (v_h_now_moved : Int32) (v_h_now_ta_whole : Int32) (v_h_now_ta_size : Int32) (f_sr_rules : Nat → Int32) (v_h_now_th_out : Int32) (v_h_now_th_size : Int32) (f_h_now_th_weight : Nat → Int32) (f_h_now_ta_parts : Nat → Int32) (f_sr_rain : Nat → Int32) (f_h_now_ta_strength : Nat → Int32) (a1 : Int32) (a2 : Int32) (r : Int32) (hf : p_X8_tackleTold v_h_now_hour v_h_now_heel v_h_now_ta_whole v_h_now_ta_size f_sr_rules v_h_now_th_out v_h_now_th_size f_h_now_th_weight f_h_now_ta_parts f_sr_rain f_h_now_ta_strength a1 a2 = some r) : k_MI l yX8_tackleTold wsX8_tackleTold rm_X8_tackleTold D (k_tys cI cZ cJ cS) [.ref h, .int a1, .int a2] [(h, .inr (8, [.ref sr, .ref h_now, .ref h_kept, .ref h_planner, .ref h_floating, .ref h_planks, .int v_h_keptSize])), (h_now, .inr (4, [.ref sr, .ref h_now_th, .ref h_now_ta, .ref h_now_se, .int v_h_now_hour, .int v_h_now_heel, .int v_h_now_water, .int v_h_now_pitch, .int v_h_now_boatUsed, .int v_h_now_heelWent, .int v_h_now_pitchTaken, .int v_h_now_hoursOfMen, .int v_h_now_parted, .int v_h_now_moved])), (h_now_ta, .inr (6, [.ref h_now_ta_mast, .ref h_now_ta_parts, .ref h_now_ta_strength, .int v_h_now_ta_whole, .int v_h_now_ta_size])), (sr, .inr (5, [.ref sr_tide, .ref sr_rain, .ref sr_rules])), (sr_rules, .inl (cI, 8, .inl f_sr_rules)), (h_now_th, .inr (7, [.ref h_now_th_weight, .ref h_now_th_under, .int v_h_now_th_out, .int v_h_now_th_size])), (h_now_th_weight, .inl (cI, 12, .inl f_h_now_th_weight)), (h_now_ta_parts, .inl (cI, 6, .inl f_h_now_ta_parts)), (sr_rain, .inl (cZ, 96, .inl f_sr_rain)), (h_now_ta_strength, .inl (cI, 6, .inl f_h_now_ta_strength))] [(h, .inr (8, [.ref sr, .ref h_now, .ref h_kept, .ref h_planner, .ref h_floating, .ref h_planks, .int v_h_keptSize])), (h_now, .inr (4, [.ref sr, .ref h_now_th, .ref h_now_ta, .ref h_now_se, .int v_h_now_hour, .int v_h_now_heel, .int v_h_now_water, .int v_h_now_pitch, .int v_h_now_boatUsed, .int v_h_now_heelWent, .int v_h_now_pitchTaken, .int v_h_now_hoursOfMen, .int v_h_now_parted, .int v_h_now_moved])), (h_now_ta, .inr (6, [.ref h_now_ta_mast, .ref h_now_ta_parts, .ref h_now_ta_strength, .int v_h_now_ta_whole, .int v_h_now_ta_size])), (sr, .inr (5, [.ref sr_tide, .ref sr_rain, .ref sr_rules])), (sr_rules, .inl (cI, 8, .inl f_sr_rules)), (h_now_th, .inr (7, [.ref h_now_th_weight, .ref h_now_th_under, .int v_h_now_th_out, .int v_h_now_th_size])), (h_now_th_weight, .inl (cI, 12, .inl f_h_now_th_weight)), (h_now_ta_parts, .inl (cI, 6, .inl f_h_now_ta_parts)), (sr_rain, .inl (cZ, 96, .inl f_sr_rain)), (h_now_ta_strength, .inl (cI, 6, .inl f_h_now_ta_strength))] r := by
  refine k_enter (y := yX8_tackleTold) (wl := wsX8_tackleTold) (rm := rm_X8_tackleTold) (av := [.ref h, .int a1, .int a2]) (D := D) (tys := k_tys cI cZ cJ cS) (ws := [(h, .inr (8, [.ref sr, .ref h_now, .ref h_kept, .ref h_planner, .ref h_floating, .ref h_planks, .int v_h_keptSize])), (h_now, .inr (4, [.ref sr, .ref h_now_th, .ref h_now_ta, .ref h_now_se, .int v_h_now_hour, .int v_h_now_heel, .int v_h_now_water, .int v_h_now_pitch, .int v_h_now_boatUsed, .int v_h_now_heelWent, .int v_h_now_pitchTaken, .int v_h_now_hoursOfMen, .int v_h_now_parted, .int v_h_now_moved])), (h_now_ta, .inr (6, [.ref h_now_ta_mast, .ref h_now_ta_parts, .ref h_now_ta_strength, .int v_h_now_ta_whole, .int v_h_now_ta_size])), (sr, .inr (5, [.ref sr_tide, .ref sr_rain, .ref sr_rules])), (sr_rules, .inl (cI, 8, .inl f_sr_rules)), (h_now_th, .inr (7, [.ref h_now_th_weight, .ref h_now_th_under, .int v_h_now_th_out, .int v_h_now_th_size])), (h_now_th_weight, .inl (cI, 12, .inl f_h_now_th_weight)), (h_now_ta_parts, .inl (cI, 6, .inl f_h_now_ta_parts)), (sr_rain, .inl (cZ, 96, .inl f_sr_rain)), (h_now_ta_strength, .inl (cI, 6, .inl f_h_now_ta_strength))]) (cc := cX8_tackleTold) (maxL := 4) (ret := (some .int)) (Qc := fun A => k_Qi D (k_tys cI cZ cJ cS) [(h, .inr (8, [.ref sr, .ref h_now, .ref h_kept, .ref h_planner, .ref h_floating, .ref h_planks, .int v_h_keptSize])), (h_now, .inr (4, [.ref sr, .ref h_now_th, .ref h_now_ta, .ref h_now_se, .int v_h_now_hour, .int v_h_now_heel, .int v_h_now_water, .int v_h_now_pitch, .int v_h_now_boatUsed, .int v_h_now_heelWent, .int v_h_now_pitchTaken, .int v_h_now_hoursOfMen, .int v_h_now_parted, .int v_h_now_moved])), (h_now_ta, .inr (6, [.ref h_now_ta_mast, .ref h_now_ta_parts, .ref h_now_ta_strength, .int v_h_now_ta_whole, .int v_h_now_ta_size])), (sr, .inr (5, [.ref sr_tide, .ref sr_rain, .ref sr_rules])), (sr_rules, .inl (cI, 8, .inl f_sr_rules)), (h_now_th, .inr (7, [.ref h_now_th_weight, .ref h_now_th_under, .int v_h_now_th_out, .int v_h_now_th_size])), (h_now_th_weight, .inl (cI, 12, .inl f_h_now_th_weight)), (h_now_ta_parts, .inl (cI, 6, .inl f_h_now_ta_parts)), (sr_rain, .inl (cZ, 96, .inl f_sr_rain)), (h_now_ta_strength, .inl (cI, 6, .inl f_h_now_ta_strength))] A r) (by decide) rfl (Nat.le_of_ble_eq_true rfl) [(0, .ref h), (1, .int a1), (2, .int a2)] rfl ?_
  intro p e s m below meth c A hx hb hml hr hlocks hnm hown hK hP hD hA hS hN ls args Q hts hl hQ
  replace hown : s.vm.findClass RX8 = some m.cls := hown
  have S0 : CallFix p m c cX8_tackleTold 4 s args wsX8_tackleTold RX8 := ⟨hx, hb, hml, hown, hts⟩
  have inX8 : ∀ w ∈ u_ws RX8 TX8 7, w ∈ wsX8_tackleTold := fun w h => List.mem_cons_of_mem _ (List.mem_append_left _ (List.mem_append_left _ (List.mem_append_left _ (List.mem_append_left _ (List.mem_append_right _ h)))))
  have inX4 : ∀ w ∈ u_ws RX4 TX4 14, w ∈ wsX8_tackleTold := fun w h => List.mem_cons_of_mem _ (List.mem_append_left _ (List.mem_append_left _ (List.mem_append_left _ (List.mem_append_right _ h))))
  have inX6 : ∀ w ∈ u_ws RX6 TX6 5, w ∈ wsX8_tackleTold := fun w h => List.mem_cons_of_mem _ (List.mem_append_left _ (List.mem_append_left _ (List.mem_append_right _ h)))
  have wl1 : (Cond.fieldLink RX8 21 "BeachedShip" "now" "LBeachedShip$Ship;").before args s = true := hts _ (List.mem_of_getElem? (i := 1) rfl)
  have wl2 : (Cond.fieldLink RX8 112 "BeachedShip$Ship" "tackles" "LBeachedShip$Tackles;").before args s = true := hts _ (List.mem_of_getElem? (i := 2) rfl)
  have wl3 : (Cond.fieldLink RX8 116 "BeachedShip$Tackles" "size" "I").before args s = true := hts _ (List.mem_of_getElem? (i := 3) rfl)
  have wl4 : (Cond.fieldLink RX8 167 "BeachedShip$Tackles" "whole" "I").before args s = true := hts _ (List.mem_of_getElem? (i := 4) rfl)
  have wl5 : (Cond.fieldLink RX8 140 "BeachedShip$Ship" "heel" "I").before args s = true := hts _ (List.mem_of_getElem? (i := 5) rfl)
  have wl6 : (Cond.fieldLink RX8 10 "BeachedShip" "shore" "LBeachedShip$Shore;").before args s = true := hts _ (List.mem_of_getElem? (i := 6) rfl)
  have wl7 : (Cond.fieldLink RX8 153 "BeachedShip$Ship" "hour" "I").before args s = true := hts _ (List.mem_of_getElem? (i := 7) rfl)
  have hRet : ∀ (r_z : Int32), some r_z = some r → ∀ (H : Heap) (locs : List Loc) (ls : Array Slot) (pc : Nat), va_P D vwCl [(h, .inr (8, [.ref sr, .ref h_now, .ref h_kept, .ref h_planner, .ref h_floating, .ref h_planks, .int v_h_keptSize])), (h_now, .inr (4, [.ref sr, .ref h_now_th, .ref h_now_ta, .ref h_now_se, .int v_h_now_hour, .int v_h_now_heel, .int v_h_now_water, .int v_h_now_pitch, .int v_h_now_boatUsed, .int v_h_now_heelWent, .int v_h_now_pitchTaken, .int v_h_now_hoursOfMen, .int v_h_now_parted, .int v_h_now_moved])), (h_now_ta, .inr (6, [.ref h_now_ta_mast, .ref h_now_ta_parts, .ref h_now_ta_strength, .int v_h_now_ta_whole, .int v_h_now_ta_size])), (sr, .inr (5, [.ref sr_tide, .ref sr_rain, .ref sr_rules])), (sr_rules, .inl (cI, 8, .inl f_sr_rules)), (h_now_th, .inr (7, [.ref h_now_th_weight, .ref h_now_th_under, .int v_h_now_th_out, .int v_h_now_th_size])), (h_now_th_weight, .inl (cI, 12, .inl f_h_now_th_weight)), (h_now_ta_parts, .inl (cI, 6, .inl f_h_now_ta_parts)), (sr_rain, .inl (cZ, 96, .inl f_sr_rain)), (h_now_ta_strength, .inl (cI, 6, .inl f_h_now_ta_strength))] H → va_D A [(h, .inr (8, [.ref sr, .ref h_now, .ref h_kept, .ref h_planner, .ref h_floating, .ref h_planks, .int v_h_keptSize])), (h_now, .inr (4, [.ref sr, .ref h_now_th, .ref h_now_ta, .ref h_now_se, .int v_h_now_hour, .int v_h_now_heel, .int v_h_now_water, .int v_h_now_pitch, .int v_h_now_boatUsed, .int v_h_now_heelWent, .int v_h_now_pitchTaken, .int v_h_now_hoursOfMen, .int v_h_now_parted, .int v_h_now_moved])), (h_now_ta, .inr (6, [.ref h_now_ta_mast, .ref h_now_ta_parts, .ref h_now_ta_strength, .int v_h_now_ta_whole, .int v_h_now_ta_size])), (sr, .inr (5, [.ref sr_tide, .ref sr_rain, .ref sr_rules])), (sr_rules, .inl (cI, 8, .inl f_sr_rules)), (h_now_th, .inr (7, [.ref h_now_th_weight, .ref h_now_th_under, .int v_h_now_th_out, .int v_h_now_th_size])), (h_now_th_weight, .inl (cI, 12, .inl f_h_now_th_weight)), (h_now_ta_parts, .inl (cI, 6, .inl f_h_now_ta_parts)), (sr_rain, .inl (cZ, 96, .inl f_sr_rain)), (h_now_ta_strength, .inl (cI, 6, .inl f_h_now_ta_strength))] → va_S A s.heap H locs → narrow .int (.int r_z) = .int r_z → decode cX8_tackleTold pc = .ok (.ireturn, 1) → W p l e rm_X8_tackleTold s m args below meth c H locs 0 0 Q (F0 m pc ls [.int r_z]) := by
    intro r_z hz H locs ls pc hP hD hS hn hd
    cases hz
    exact k_iret hx hb hr hlocks hn hK hP hD hS hQ rfl hd
  unfold p_X8_tackleTold at hf
  refine lv_iload_n hx hb dX8_tackleTold_0 rfl (lv_at hl 1 rfl) ?_
  refine lv_iconst (v := 0) hx hb dX8_tackleTold_1 (by decide) ?_
  refine lv_aload_n hx hb dX8_tackleTold_2 rfl (lv_at hl 0 rfl) ?_
  refine k_get (C := RX8) (T := TX8) (N := 7) hx hb hts inX8 hown hK hP 0 rfl rfl 1 (by decide) rfl wl1 rfl dX8_tackleTold_3 ?_
  refine k_get (C := RX4) (T := TX4) (N := 14) hx hb hts inX4 hown hK hP 1 rfl rfl 2 (by decide) rfl wl2 rfl dX8_tackleTold_6 ?_
  refine k_get (C := RX6) (T := TX6) (N := 5) hx hb hts inX6 hown hK hP 2 rfl rfl 4 (by decide) rfl wl3 rfl dX8_tackleTold_9 ?_
  refine lv_iconst (v := 1) hx hb dX8_tackleTold_12 (by decide) ?_
  refine lv_isub hx hb dX8_tackleTold_13 ?_
  obtain ⟨r1, hc1, hf⟩ := k_b1_some hf
  refine k_SiR (As := [.int a1, .int 0, .int (v_h_now_ta_size - 1)]) (rest := []) S0 (c_X8_within l D cI cZ cJ cS a1 0 (v_h_now_ta_size - 1) r1 hc1) (va_cwS 3 hts gX8_tackleTold_X8_within rfl rfl rfl hdS_X8_within ⟨Nat.le_of_ble_eq_true rfl, Nat.le_of_ble_eq_true rfl⟩) hK hP hD hS hA hN [] rfl (by decide) rfl hl.1 rfl (Nat.le_of_ble_eq_true rfl) dX8_tackleTold_14 (fun H locs hP hS => ?_)
  refine lv_if_eq (tgt := 29) hx hb dX8_tackleTold_17 (by decide) (fun c2 => ?_) (fun c2 => ?_)
  · replace hf := k_pos hf c2
    refine lv_iconst (v := (-1)) hx hb dX8_tackleTold_29 (by decide) ?_
    exact hRet _ hf _ _ _ _ hP hD hS rfl dX8_tackleTold_30
  · replace hf := k_neg hf c2
    refine lv_iload_n hx hb dX8_tackleTold_20 rfl (lv_at hl 2 rfl) ?_
    refine lv_iconst (v := 0) hx hb dX8_tackleTold_21 (by decide) ?_
    refine lv_iconst (v := 3) hx hb dX8_tackleTold_22 (by decide) ?_
    obtain ⟨r3, hc3, hf⟩ := k_b1_some hf
    refine k_SiR (As := [.int a2, .int 0, .int 3]) (rest := []) S0 (c_X8_within l D cI cZ cJ cS a2 0 3 r3 hc3) (va_cwS 3 hts gX8_tackleTold_X8_within rfl rfl rfl hdS_X8_within ⟨Nat.le_of_ble_eq_true rfl, Nat.le_of_ble_eq_true rfl⟩) hK hP hD hS hA hN [] rfl (by decide) rfl hl.1 rfl (Nat.le_of_ble_eq_true rfl) dX8_tackleTold_23 (fun H locs hP hS => ?_)
    refine lv_if_ne (tgt := 31) hx hb dX8_tackleTold_26 (by decide) (fun c4 => ?_) (fun c4 => ?_)
    · replace hf := k_neg hf c4
      refine lv_aload_n hx hb dX8_tackleTold_31 rfl (lv_at hl 0 rfl) ?_
      refine k_get (C := RX8) (T := TX8) (N := 7) hx hb hts inX8 hown hK hP 0 rfl rfl 1 (by decide) rfl wl1 rfl dX8_tackleTold_32 ?_
      refine k_get (C := RX4) (T := TX4) (N := 14) hx hb hts inX4 hown hK hP 1 rfl rfl 2 (by decide) rfl wl2 rfl dX8_tackleTold_35 ?_
      refine k_get (C := RX6) (T := TX6) (N := 5) hx hb hts inX6 hown hK hP 2 rfl rfl 3 (by decide) rfl wl4 rfl dX8_tackleTold_38 ?_
      refine lv_iload_n hx hb dX8_tackleTold_41 rfl (lv_at hl 1 rfl) ?_
      obtain ⟨r5, hc5, hf⟩ := k_b1_some hf
      refine k_SiR (As := [.int v_h_now_ta_whole, .int a1]) (rest := []) S0 (c_X8_hasBit l D cI cZ cJ cS v_h_now_ta_whole a1 r5 hc5) (va_cwS 2 hts gX8_tackleTold_X8_hasBit rfl rfl rfl hdS_X8_hasBit ⟨Nat.le_of_ble_eq_true rfl, Nat.le_of_ble_eq_true rfl⟩) hK hP hD hS hA hN [] rfl (by decide) rfl hl.1 rfl (Nat.le_of_ble_eq_true rfl) dX8_tackleTold_42 (fun H locs hP hS => ?_)
      refine lv_if_ne (tgt := 50) hx hb dX8_tackleTold_45 (by decide) (fun c6 => ?_) (fun c6 => ?_)
      · replace hf := k_neg hf c6
        refine lv_aload_n hx hb dX8_tackleTold_50 rfl (lv_at hl 0 rfl) ?_
        refine k_get (C := RX8) (T := TX8) (N := 7) hx hb hts inX8 hown hK hP 0 rfl rfl 1 (by decide) rfl wl1 rfl dX8_tackleTold_51 ?_
        refine k_get (C := RX4) (T := TX4) (N := 14) hx hb hts inX4 hown hK hP 1 rfl rfl 2 (by decide) rfl wl2 rfl dX8_tackleTold_54 ?_
        refine lv_aload_n hx hb dX8_tackleTold_57 rfl (lv_at hl 0 rfl) ?_
        refine k_get (C := RX8) (T := TX8) (N := 7) hx hb hts inX8 hown hK hP 0 rfl rfl 1 (by decide) rfl wl1 rfl dX8_tackleTold_58 ?_
        refine lv_aload_n hx hb dX8_tackleTold_61 rfl (lv_at hl 0 rfl) ?_
        refine k_get (C := RX8) (T := TX8) (N := 7) hx hb hts inX8 hown hK hP 0 rfl rfl 1 (by decide) rfl wl1 rfl dX8_tackleTold_62 ?_
        refine k_get (C := RX4) (T := TX4) (N := 14) hx hb hts inX4 hown hK hP 1 rfl rfl 5 (by decide) rfl wl5 rfl dX8_tackleTold_65 ?_
        obtain ⟨r7, hc7, hf⟩ := k_b1_some hf
        refine k_ViR (q0 := 0) (As := [.int v_h_now_heel]) (rest := [.ref h_now_ta]) S0 (c_X4_force l D cI cZ cJ cS h_now sr h_now_th h_now_ta h_now_se sr_tide sr_rain sr_rules h_now_th_weight h_now_th_under v_h_now_hour v_h_now_heel v_h_now_water v_h_now_pitch v_h_now_boatUsed v_h_now_heelWent v_h_now_pitchTaken v_h_now_hoursOfMen v_h_now_parted v_h_now_moved f_sr_rules v_h_now_th_out v_h_now_th_size f_h_now_th_weight v_h_now_heel r7 hc7) (cwV 1 hts gX8_tackleTold_X4_force rfl rfl rfl hdV_X4_force ⟨Nat.le_of_ble_eq_true rfl, Nat.le_of_ble_eq_true rfl⟩) hK hP hD hS hA hN [1, 3, 4, 5, 6] rfl (by decide) rfl rfl rfl rfl hl.1 rfl (Nat.le_of_ble_eq_true rfl) dX8_tackleTold_68 (fun H locs hP hS => ?_)
        obtain ⟨r8, hc8, hf⟩ := k_b1_some hf
        refine k_ViR (q0 := 0) (As := [.int r7]) (rest := []) S0 (c_X6_share l D cI cZ cJ cS h_now_ta h_now_ta_mast h_now_ta_parts h_now_ta_strength v_h_now_ta_whole v_h_now_ta_size r7 r8 hc8) (cwV 1 hts gX8_tackleTold_X6_share rfl rfl rfl hdV_X6_share ⟨Nat.le_of_ble_eq_true rfl, Nat.le_of_ble_eq_true rfl⟩) hK hP hD hS hA hN [2] rfl (by decide) rfl rfl rfl rfl hl.1 rfl (Nat.le_of_ble_eq_true rfl) dX8_tackleTold_71 (fun H locs hP hS => ?_)
        refine lv_istore_n (lv' := [(3, .int r8), (0, .ref h), (1, .int a1), (2, .int a2)]) hx hb dX8_tackleTold_74 rfl hl (by decide) rfl (fun ls hl => ?_)
        refine lv_iload_n hx hb dX8_tackleTold_75 rfl (lv_at hl 3 rfl) ?_
        by_cases c9 : a2 = 0
        · replace hf := k_pos hf c9
          refine k_tsw (k := 0) (j := 0) (off := 28) (tgt := 104) hx hb dX8_tackleTold_76 c9 (by decide) (by decide) (by decide) rfl (by decide) ?_
          refine lv_iload_n hx hb dX8_tackleTold_104 rfl (lv_at hl 0 rfl) ?_
          exact hRet _ hf _ _ _ _ hP hD hS rfl dX8_tackleTold_105
        · replace hf := k_neg hf c9
          by_cases c10 : a2 = 1
          · replace hf := k_pos hf c10
            refine k_tsw (k := 1) (j := 1) (off := 30) (tgt := 106) hx hb dX8_tackleTold_76 c10 (by decide) (by decide) (by decide) rfl (by decide) ?_
            refine lv_aload_n hx hb dX8_tackleTold_106 rfl (lv_at hl 1 rfl) ?_
            refine k_get (C := RX8) (T := TX8) (N := 7) hx hb hts inX8 hown hK hP 0 rfl rfl 1 (by decide) rfl wl1 rfl dX8_tackleTold_107 ?_
            refine k_get (C := RX4) (T := TX4) (N := 14) hx hb hts inX4 hown hK hP 1 rfl rfl 2 (by decide) rfl wl2 rfl dX8_tackleTold_110 ?_
            refine lv_iload_n hx hb dX8_tackleTold_113 rfl (lv_at hl 2 rfl) ?_
            refine lv_iload_n hx hb dX8_tackleTold_114 rfl (lv_at hl 0 rfl) ?_
            obtain ⟨r11, hc11, hf⟩ := k_b1_some hf
            refine k_ViR (q0 := 0) (As := [.int a1, .int r8]) (rest := []) S0 (c_X6_ropeTakes l D cI cZ cJ cS h_now_ta h_now_ta_mast h_now_ta_parts h_now_ta_strength v_h_now_ta_whole v_h_now_ta_size f_h_now_ta_parts a1 r8 r11 hc11) (cwV 2 hts gX8_tackleTold_X6_ropeTakes rfl rfl rfl hdV_X6_ropeTakes ⟨Nat.le_of_ble_eq_true rfl, Nat.le_of_ble_eq_true rfl⟩) hK hP hD hS hA hN [2, 7] rfl (by decide) rfl rfl rfl rfl hl.1 rfl (Nat.le_of_ble_eq_true rfl) dX8_tackleTold_115 (fun H locs hP hS => ?_)
            exact hRet _ hf _ _ _ _ hP hD hS rfl dX8_tackleTold_118
          · replace hf := k_neg hf c10
            by_cases c12 : a2 = 2
            · replace hf := k_pos hf c12
              refine k_tsw (k := 2) (j := 2) (off := 43) (tgt := 119) hx hb dX8_tackleTold_76 c12 (by decide) (by decide) (by decide) rfl (by decide) ?_
              refine lv_aload_n hx hb dX8_tackleTold_119 rfl (lv_at hl 1 rfl) ?_
              refine k_get (C := RX8) (T := TX8) (N := 7) hx hb hts inX8 hown hK hP 0 rfl rfl 1 (by decide) rfl wl1 rfl dX8_tackleTold_120 ?_
              refine k_get (C := RX4) (T := TX4) (N := 14) hx hb hts inX4 hown hK hP 1 rfl rfl 2 (by decide) rfl wl2 rfl dX8_tackleTold_123 ?_
              refine lv_iload_n hx hb dX8_tackleTold_126 rfl (lv_at hl 2 rfl) ?_
              refine lv_aload_n hx hb dX8_tackleTold_127 rfl (lv_at hl 1 rfl) ?_
              refine k_get (C := RX8) (T := TX8) (N := 7) hx hb hts inX8 hown hK hP 0 rfl rfl 0 (by decide) rfl wl6 rfl dX8_tackleTold_128 ?_
              refine lv_aload_n hx hb dX8_tackleTold_131 rfl (lv_at hl 1 rfl) ?_
              refine k_get (C := RX8) (T := TX8) (N := 7) hx hb hts inX8 hown hK hP 0 rfl rfl 1 (by decide) rfl wl1 rfl dX8_tackleTold_132 ?_
              refine k_get (C := RX4) (T := TX4) (N := 14) hx hb hts inX4 hown hK hP 1 rfl rfl 4 (by decide) rfl wl7 rfl dX8_tackleTold_135 ?_
              obtain ⟨r13, hc13, hf⟩ := k_b1_some hf
              refine k_ViR (q0 := 0) (As := [.int v_h_now_hour]) (rest := [.int a1, .ref h_now_ta]) S0 (c_X5_rainsIn l D cI cZ cJ cS sr sr_tide sr_rain sr_rules f_sr_rain v_h_now_hour r13 hc13) (cwV 1 hts gX8_tackleTold_X5_rainsIn rfl rfl rfl hdV_X5_rainsIn ⟨Nat.le_of_ble_eq_true rfl, Nat.le_of_ble_eq_true rfl⟩) hK hP hD hS hA hN [3, 8] rfl (by decide) rfl rfl rfl rfl hl.1 rfl (Nat.le_of_ble_eq_true rfl) dX8_tackleTold_138 (fun H locs hP hS => ?_)
              obtain ⟨r14, hc14, hf⟩ := k_b1_some hf
              refine k_ViR (q0 := 0) (As := [.int a1, .int r13]) (rest := []) S0 (c_X6_ropeMay l D cI cZ cJ cS h_now_ta h_now_ta_mast h_now_ta_parts h_now_ta_strength v_h_now_ta_whole v_h_now_ta_size f_h_now_ta_strength a1 r13 r14 hc14) (cwV 2 hts gX8_tackleTold_X6_ropeMay rfl rfl rfl hdV_X6_ropeMay ⟨Nat.le_of_ble_eq_true rfl, Nat.le_of_ble_eq_true rfl⟩) hK hP hD hS hA hN [2, 9] rfl (by decide) rfl rfl rfl rfl hl.1 rfl (Nat.le_of_ble_eq_true rfl) dX8_tackleTold_141 (fun H locs hP hS => ?_)
              exact hRet _ hf _ _ _ _ hP hD hS rfl dX8_tackleTold_144
            · replace hf := k_neg hf c12
              refine lv_tableOut (tgt := 145) hx hb dX8_tackleTold_76 (by have := k_ne_toInt c9; have e0 : (0 : Int32).toInt = 0 := (by decide); have := k_ne_toInt c10; have e1 : (1 : Int32).toInt = 1 := (by decide); have := k_ne_toInt c12; have e2 : (2 : Int32).toInt = 2 := (by decide); omega) (by decide) ?_
              refine lv_iconst (v := 1) hx hb dX8_tackleTold_145 (by decide) ?_
              exact hRet _ hf _ _ _ _ hP hD hS rfl dX8_tackleTold_146
      · replace hf := k_pos hf c6
        refine lv_iconst (v := 0) hx hb dX8_tackleTold_48 (by decide) ?_
        exact hRet _ hf _ _ _ _ hP hD hS rfl dX8_tackleTold_49
    · replace hf := k_pos hf c4
      refine lv_iconst (v := (-1)) hx hb dX8_tackleTold_29 (by decide) ?_
      exact hRet _ hf _ _ _ _ hP hD hS rfl dX8_tackleTold_30

def p_X8_move (v_h_now_water : Int32) (v_h_now_boatUsed : Int32) (v_h_now_moved : Int32) (v_h_now_th_out : Int32) (v_h_now_th_size : Int32) (f_h_now_th_under : Nat → Int32) (f_sr_rules : Nat → Int32) (f_h_now_th_weight : Nat → Int32) (a1 : Int32) : Option (Int32 × Int32 × Int32 × Int32) :=
  k_b1 (p_X8_within a1 0 (v_h_now_th_size - 1)) fun r1 =>
  if r1 = 0 then
    some ((-1), v_h_now_boatUsed, v_h_now_moved, v_h_now_th_out)
  else
    if v_h_now_boatUsed = 0 then
      k_b1 (p_X4_isLost v_h_now_water) fun r4 =>
      if r4 = 0 then
        k_b1 (p_X7_mayMove v_h_now_th_out v_h_now_th_size f_h_now_th_under a1) fun r6 =>
        if r6 = 0 then
          some ((-2), v_h_now_boatUsed, v_h_now_moved, v_h_now_th_out)
        else
          k_b3 (p_X4_moveByBoat v_h_now_moved v_h_now_th_out a1) fun w_h_now_boatUsed_8 w_h_now_moved_9 w_h_now_th_out_10 =>
          k_b1 (p_X4_total f_sr_rules w_h_now_th_out_10 v_h_now_th_size f_h_now_th_weight) fun r11 =>
          some (r11, w_h_now_boatUsed_8, w_h_now_moved_9, w_h_now_th_out_10)
      else
        some ((-2), v_h_now_boatUsed, v_h_now_moved, v_h_now_th_out)
    else
      some ((-2), v_h_now_boatUsed, v_h_now_moved, v_h_now_th_out)
abbrev rm_X8_move : Room := { frames := 3, cells := 0, slots := 0, locals := 65 }
theorem hdS_X8_move : yX8_move.cls ≠ "java/lang/invoke/MethodHandle" ∧ yX8_move.cls ≠ "java/lang/invoke/VarHandle" ∧ (parseMethodDescriptor yX8_move.desc).map (fun d => d.parameters.length) = some 1 := by decide +kernel
theorem hdV_X8_move : yX8_move.cls = RX8 ∧ yX8_move.cls ≠ "java/lang/invoke/MethodHandle" ∧ yX8_move.cls ≠ "java/lang/invoke/VarHandle" ∧ (parseMethodDescriptor yX8_move.desc).map (fun d => d.parameters.length) = some 1 := by decide +kernel
set_option maxHeartbeats 4000000 in
set_option maxRecDepth 100000 in
theorem c_X8_move (l : Launch) (D : va_G) (cI cZ cJ cS : ClassId) (h sr h_now h_kept h_planner h_floating h_planks h_now_th h_now_ta h_now_se h_now_th_weight h_now_th_under sr_tide sr_rain sr_rules : Nat) (v_h_keptSize : Int32) (v_h_now_hour : Int32) (v_h_now_heel : Int32) (v_h_now_water : Int32) (v_h_now_pitch : Int32) (v_h_now_boatUsed : Int32) (v_h_now_heelWent : Int32) (v_h_now_pitchTaken : Int32) (v_h_now_hoursOfMen : Int32) (v_h_now_parted : Int32) (v_h_now_moved : Int32) (v_h_now_th_out : Int32) (v_h_now_th_size : Int32) (f_h_now_th_under : Nat → Int32) (f_sr_rules : Nat → Int32) (f_h_now_th_weight : Nat → Int32) (a1 : Int32) (r : Int32) (v_h_now_boatUsed' : Int32) (v_h_now_moved' : Int32) (v_h_now_th_out' : Int32) (hf : p_X8_move v_h_now_water v_h_now_boatUsed v_h_now_moved v_h_now_th_out v_h_now_th_size f_h_now_th_under f_sr_rules f_h_now_th_weight a1 = some (r, v_h_now_boatUsed', v_h_now_moved', v_h_now_th_out')) : k_MI l yX8_move wsX8_move rm_X8_move D (k_tys cI cZ cJ cS) [.ref h, .int a1] [(h, .inr (8, [.ref sr, .ref h_now, .ref h_kept, .ref h_planner, .ref h_floating, .ref h_planks, .int v_h_keptSize])), (h_now, .inr (4, [.ref sr, .ref h_now_th, .ref h_now_ta, .ref h_now_se, .int v_h_now_hour, .int v_h_now_heel, .int v_h_now_water, .int v_h_now_pitch, .int v_h_now_boatUsed, .int v_h_now_heelWent, .int v_h_now_pitchTaken, .int v_h_now_hoursOfMen, .int v_h_now_parted, .int v_h_now_moved])), (h_now_th, .inr (7, [.ref h_now_th_weight, .ref h_now_th_under, .int v_h_now_th_out, .int v_h_now_th_size])), (h_now_th_under, .inl (cI, 12, .inl f_h_now_th_under)), (sr, .inr (5, [.ref sr_tide, .ref sr_rain, .ref sr_rules])), (sr_rules, .inl (cI, 8, .inl f_sr_rules)), (h_now_th_weight, .inl (cI, 12, .inl f_h_now_th_weight))] [(h, .inr (8, [.ref sr, .ref h_now, .ref h_kept, .ref h_planner, .ref h_floating, .ref h_planks, .int v_h_keptSize])), (h_now, .inr (4, [.ref sr, .ref h_now_th, .ref h_now_ta, .ref h_now_se, .int v_h_now_hour, .int v_h_now_heel, .int v_h_now_water, .int v_h_now_pitch, .int v_h_now_boatUsed', .int v_h_now_heelWent, .int v_h_now_pitchTaken, .int v_h_now_hoursOfMen, .int v_h_now_parted, .int v_h_now_moved'])), (h_now_th, .inr (7, [.ref h_now_th_weight, .ref h_now_th_under, .int v_h_now_th_out', .int v_h_now_th_size])), (h_now_th_under, .inl (cI, 12, .inl f_h_now_th_under)), (sr, .inr (5, [.ref sr_tide, .ref sr_rain, .ref sr_rules])), (sr_rules, .inl (cI, 8, .inl f_sr_rules)), (h_now_th_weight, .inl (cI, 12, .inl f_h_now_th_weight))] r := by
  refine k_enter (y := yX8_move) (wl := wsX8_move) (rm := rm_X8_move) (av := [.ref h, .int a1]) (D := D) (tys := k_tys cI cZ cJ cS) (ws := [(h, .inr (8, [.ref sr, .ref h_now, .ref h_kept, .ref h_planner, .ref h_floating, .ref h_planks, .int v_h_keptSize])), (h_now, .inr (4, [.ref sr, .ref h_now_th, .ref h_now_ta, .ref h_now_se, .int v_h_now_hour, .int v_h_now_heel, .int v_h_now_water, .int v_h_now_pitch, .int v_h_now_boatUsed, .int v_h_now_heelWent, .int v_h_now_pitchTaken, .int v_h_now_hoursOfMen, .int v_h_now_parted, .int v_h_now_moved])), (h_now_th, .inr (7, [.ref h_now_th_weight, .ref h_now_th_under, .int v_h_now_th_out, .int v_h_now_th_size])), (h_now_th_under, .inl (cI, 12, .inl f_h_now_th_under)), (sr, .inr (5, [.ref sr_tide, .ref sr_rain, .ref sr_rules])), (sr_rules, .inl (cI, 8, .inl f_sr_rules)), (h_now_th_weight, .inl (cI, 12, .inl f_h_now_th_weight))]) (cc := cX8_move) (maxL := 2) (ret := (some .int)) (Qc := fun A => k_Qi D (k_tys cI cZ cJ cS) [(h, .inr (8, [.ref sr, .ref h_now, .ref h_kept, .ref h_planner, .ref h_floating, .ref h_planks, .int v_h_keptSize])), (h_now, .inr (4, [.ref sr, .ref h_now_th, .ref h_now_ta, .ref h_now_se, .int v_h_now_hour, .int v_h_now_heel, .int v_h_now_water, .int v_h_now_pitch, .int v_h_now_boatUsed', .int v_h_now_heelWent, .int v_h_now_pitchTaken, .int v_h_now_hoursOfMen, .int v_h_now_parted, .int v_h_now_moved'])), (h_now_th, .inr (7, [.ref h_now_th_weight, .ref h_now_th_under, .int v_h_now_th_out', .int v_h_now_th_size])), (h_now_th_under, .inl (cI, 12, .inl f_h_now_th_under)), (sr, .inr (5, [.ref sr_tide, .ref sr_rain, .ref sr_rules])), (sr_rules, .inl (cI, 8, .inl f_sr_rules)), (h_now_th_weight, .inl (cI, 12, .inl f_h_now_th_weight))] A r) (by decide) rfl (Nat.le_of_ble_eq_true rfl) [(0, .ref h), (1, .int a1)] rfl ?_
  intro p e s m below meth c A hx hb hml hr hlocks hnm hown hK hP hD hA hS hN ls args Q hts hl hQ
  replace hown : s.vm.findClass RX8 = some m.cls := hown
  have S0 : CallFix p m c cX8_move 2 s args wsX8_move RX8 := ⟨hx, hb, hml, hown, hts⟩
  have inX8 : ∀ w ∈ u_ws RX8 TX8 7, w ∈ wsX8_move := fun w h => List.mem_cons_of_mem _ (List.mem_append_left _ (List.mem_append_left _ (List.mem_append_left _ (List.mem_append_right _ h))))
  have inX4 : ∀ w ∈ u_ws RX4 TX4 14, w ∈ wsX8_move := fun w h => List.mem_cons_of_mem _ (List.mem_append_left _ (List.mem_append_left _ (List.mem_append_right _ h)))
  have inX7 : ∀ w ∈ u_ws RX7 TX7 4, w ∈ wsX8_move := fun w h => List.mem_cons_of_mem _ (List.mem_append_left _ (List.mem_append_right _ h))
  have wl1 : (Cond.fieldLink RX8 21 "BeachedShip" "now" "LBeachedShip$Ship;").before args s = true := hts _ (List.mem_of_getElem? (i := 1) rfl)
  have wl2 : (Cond.fieldLink RX8 92 "BeachedShip$Ship" "things" "LBeachedShip$Things;").before args s = true := hts _ (List.mem_of_getElem? (i := 2) rfl)
  have wl3 : (Cond.fieldLink RX8 96 "BeachedShip$Things" "size" "I").before args s = true := hts _ (List.mem_of_getElem? (i := 3) rfl)
  have wl4 : (Cond.fieldLink RX8 192 "BeachedShip$Ship" "boatUsed" "Z").before args s = true := hts _ (List.mem_of_getElem? (i := 4) rfl)
  have hRet : ∀ (r_z : Int32) (v_h_now_boatUsed_z : Int32) (v_h_now_moved_z : Int32) (v_h_now_th_out_z : Int32), some (r_z, v_h_now_boatUsed_z, v_h_now_moved_z, v_h_now_th_out_z) = some (r, v_h_now_boatUsed', v_h_now_moved', v_h_now_th_out') → ∀ (H : Heap) (locs : List Loc) (ls : Array Slot) (pc : Nat), va_P D vwCl [(h, .inr (8, [.ref sr, .ref h_now, .ref h_kept, .ref h_planner, .ref h_floating, .ref h_planks, .int v_h_keptSize])), (h_now, .inr (4, [.ref sr, .ref h_now_th, .ref h_now_ta, .ref h_now_se, .int v_h_now_hour, .int v_h_now_heel, .int v_h_now_water, .int v_h_now_pitch, .int v_h_now_boatUsed_z, .int v_h_now_heelWent, .int v_h_now_pitchTaken, .int v_h_now_hoursOfMen, .int v_h_now_parted, .int v_h_now_moved_z])), (h_now_th, .inr (7, [.ref h_now_th_weight, .ref h_now_th_under, .int v_h_now_th_out_z, .int v_h_now_th_size])), (h_now_th_under, .inl (cI, 12, .inl f_h_now_th_under)), (sr, .inr (5, [.ref sr_tide, .ref sr_rain, .ref sr_rules])), (sr_rules, .inl (cI, 8, .inl f_sr_rules)), (h_now_th_weight, .inl (cI, 12, .inl f_h_now_th_weight))] H → va_D A [(h, .inr (8, [.ref sr, .ref h_now, .ref h_kept, .ref h_planner, .ref h_floating, .ref h_planks, .int v_h_keptSize])), (h_now, .inr (4, [.ref sr, .ref h_now_th, .ref h_now_ta, .ref h_now_se, .int v_h_now_hour, .int v_h_now_heel, .int v_h_now_water, .int v_h_now_pitch, .int v_h_now_boatUsed_z, .int v_h_now_heelWent, .int v_h_now_pitchTaken, .int v_h_now_hoursOfMen, .int v_h_now_parted, .int v_h_now_moved_z])), (h_now_th, .inr (7, [.ref h_now_th_weight, .ref h_now_th_under, .int v_h_now_th_out_z, .int v_h_now_th_size])), (h_now_th_under, .inl (cI, 12, .inl f_h_now_th_under)), (sr, .inr (5, [.ref sr_tide, .ref sr_rain, .ref sr_rules])), (sr_rules, .inl (cI, 8, .inl f_sr_rules)), (h_now_th_weight, .inl (cI, 12, .inl f_h_now_th_weight))] → va_S A s.heap H locs → narrow .int (.int r_z) = .int r_z → decode cX8_move pc = .ok (.ireturn, 1) → W p l e rm_X8_move s m args below meth c H locs 0 0 Q (F0 m pc ls [.int r_z]) := by
    intro r_z v_h_now_boatUsed_z v_h_now_moved_z v_h_now_th_out_z hz H locs ls pc hP hD hS hn hd
    cases hz
    exact k_iret hx hb hr hlocks hn hK hP hD hS hQ rfl hd
  unfold p_X8_move at hf
  refine lv_iload_n hx hb dX8_move_0 rfl (lv_at hl 1 rfl) ?_
  refine lv_iconst (v := 0) hx hb dX8_move_1 (by decide) ?_
  refine lv_aload_n hx hb dX8_move_2 rfl (lv_at hl 0 rfl) ?_
  refine k_get (C := RX8) (T := TX8) (N := 7) hx hb hts inX8 hown hK hP 0 rfl rfl 1 (by decide) rfl wl1 rfl dX8_move_3 ?_
  refine k_get (C := RX4) (T := TX4) (N := 14) hx hb hts inX4 hown hK hP 1 rfl rfl 1 (by decide) rfl wl2 rfl dX8_move_6 ?_
  refine k_get (C := RX7) (T := TX7) (N := 4) hx hb hts inX7 hown hK hP 2 rfl rfl 3 (by decide) rfl wl3 rfl dX8_move_9 ?_
  refine lv_iconst (v := 1) hx hb dX8_move_12 (by decide) ?_
  refine lv_isub hx hb dX8_move_13 ?_
  obtain ⟨r1, hc1, hf⟩ := k_b1_some hf
  refine k_SiR (As := [.int a1, .int 0, .int (v_h_now_th_size - 1)]) (rest := []) S0 (c_X8_within l D cI cZ cJ cS a1 0 (v_h_now_th_size - 1) r1 hc1) (va_cwS 3 hts gX8_move_X8_within rfl rfl rfl hdS_X8_within ⟨Nat.le_of_ble_eq_true rfl, Nat.le_of_ble_eq_true rfl⟩) hK hP hD hS hA hN [] rfl (by decide) rfl hl.1 rfl (Nat.le_of_ble_eq_true rfl) dX8_move_14 (fun H locs hP hS => ?_)
  refine lv_if_ne (tgt := 22) hx hb dX8_move_17 (by decide) (fun c2 => ?_) (fun c2 => ?_)
  · replace hf := k_neg hf c2
    refine lv_aload_n hx hb dX8_move_22 rfl (lv_at hl 0 rfl) ?_
    refine k_get (C := RX8) (T := TX8) (N := 7) hx hb hts inX8 hown hK hP 0 rfl rfl 1 (by decide) rfl wl1 rfl dX8_move_23 ?_
    refine k_get (C := RX4) (T := TX4) (N := 14) hx hb hts inX4 hown hK hP 1 rfl rfl 8 (by decide) rfl wl4 rfl dX8_move_26 ?_
    refine lv_if_ne (tgt := 56) hx hb dX8_move_29 (by decide) (fun c3 => ?_) (fun c3 => ?_)
    · replace hf := k_neg hf c3
      refine lv_bipush (v := (-2)) hx hb dX8_move_56 (by decide) ?_
      exact hRet _ _ _ _ hf _ _ _ _ hP hD hS rfl dX8_move_58
    · replace hf := k_pos hf c3
      refine lv_aload_n hx hb dX8_move_32 rfl (lv_at hl 0 rfl) ?_
      refine k_get (C := RX8) (T := TX8) (N := 7) hx hb hts inX8 hown hK hP 0 rfl rfl 1 (by decide) rfl wl1 rfl dX8_move_33 ?_
      obtain ⟨r4, hc4, hf⟩ := k_b1_some hf
      refine k_ViR (q0 := 0) (As := []) (rest := []) S0 (c_X4_isLost l D cI cZ cJ cS h_now sr h_now_th h_now_ta h_now_se v_h_now_hour v_h_now_heel v_h_now_water v_h_now_pitch v_h_now_boatUsed v_h_now_heelWent v_h_now_pitchTaken v_h_now_hoursOfMen v_h_now_parted v_h_now_moved r4 hc4) (cwV 0 hts gX8_move_X4_isLost rfl rfl rfl hdV_X4_isLost ⟨Nat.le_of_ble_eq_true rfl, Nat.le_of_ble_eq_true rfl⟩) hK hP hD hS hA hN [1] rfl (by decide) rfl rfl rfl rfl hl.1 rfl (Nat.le_of_ble_eq_true rfl) dX8_move_36 (fun H locs hP hS => ?_)
      refine lv_if_ne (tgt := 56) hx hb dX8_move_39 (by decide) (fun c5 => ?_) (fun c5 => ?_)
      · replace hf := k_neg hf c5
        refine lv_bipush (v := (-2)) hx hb dX8_move_56 (by decide) ?_
        exact hRet _ _ _ _ hf _ _ _ _ hP hD hS rfl dX8_move_58
      · replace hf := k_pos hf c5
        refine lv_aload_n hx hb dX8_move_42 rfl (lv_at hl 0 rfl) ?_
        refine k_get (C := RX8) (T := TX8) (N := 7) hx hb hts inX8 hown hK hP 0 rfl rfl 1 (by decide) rfl wl1 rfl dX8_move_43 ?_
        refine k_get (C := RX4) (T := TX4) (N := 14) hx hb hts inX4 hown hK hP 1 rfl rfl 1 (by decide) rfl wl2 rfl dX8_move_46 ?_
        refine lv_iload_n hx hb dX8_move_49 rfl (lv_at hl 1 rfl) ?_
        obtain ⟨r6, hc6, hf⟩ := k_b1_some hf
        refine k_ViR (q0 := 0) (As := [.int a1]) (rest := []) S0 (c_X7_mayMove l D cI cZ cJ cS h_now_th h_now_th_weight h_now_th_under v_h_now_th_out v_h_now_th_size f_h_now_th_under a1 r6 hc6) (cwV 1 hts gX8_move_X7_mayMove rfl rfl rfl hdV_X7_mayMove ⟨Nat.le_of_ble_eq_true rfl, Nat.le_of_ble_eq_true rfl⟩) hK hP hD hS hA hN [2, 3] rfl (by decide) rfl rfl rfl rfl hl.1 rfl (Nat.le_of_ble_eq_true rfl) dX8_move_50 (fun H locs hP hS => ?_)
        refine lv_if_ne (tgt := 59) hx hb dX8_move_53 (by decide) (fun c7 => ?_) (fun c7 => ?_)
        · replace hf := k_neg hf c7
          refine lv_aload_n hx hb dX8_move_59 rfl (lv_at hl 0 rfl) ?_
          refine k_get (C := RX8) (T := TX8) (N := 7) hx hb hts inX8 hown hK hP 0 rfl rfl 1 (by decide) rfl wl1 rfl dX8_move_60 ?_
          refine lv_iload_n hx hb dX8_move_63 rfl (lv_at hl 1 rfl) ?_
          obtain ⟨w_h_now_boatUsed_8, w_h_now_moved_9, w_h_now_th_out_10, hc10, hf⟩ := k_b3_some hf
          refine k_Vv (ws2 := [(h, .inr (8, [.ref sr, .ref h_now, .ref h_kept, .ref h_planner, .ref h_floating, .ref h_planks, .int v_h_keptSize])), (h_now, .inr (4, [.ref sr, .ref h_now_th, .ref h_now_ta, .ref h_now_se, .int v_h_now_hour, .int v_h_now_heel, .int v_h_now_water, .int v_h_now_pitch, .int w_h_now_boatUsed_8, .int v_h_now_heelWent, .int v_h_now_pitchTaken, .int v_h_now_hoursOfMen, .int v_h_now_parted, .int w_h_now_moved_9])), (h_now_th, .inr (7, [.ref h_now_th_weight, .ref h_now_th_under, .int w_h_now_th_out_10, .int v_h_now_th_size])), (h_now_th_under, .inl (cI, 12, .inl f_h_now_th_under)), (sr, .inr (5, [.ref sr_tide, .ref sr_rain, .ref sr_rules])), (sr_rules, .inl (cI, 8, .inl f_sr_rules)), (h_now_th_weight, .inl (cI, 12, .inl f_h_now_th_weight))]) (q0 := 0) (As := [.int a1]) (rest := []) S0 (c_X4_moveByBoat l D cI cZ cJ cS h_now sr h_now_th h_now_ta h_now_se h_now_th_weight h_now_th_under v_h_now_hour v_h_now_heel v_h_now_water v_h_now_pitch v_h_now_boatUsed v_h_now_heelWent v_h_now_pitchTaken v_h_now_hoursOfMen v_h_now_parted v_h_now_moved v_h_now_th_out v_h_now_th_size a1 w_h_now_boatUsed_8 w_h_now_moved_9 w_h_now_th_out_10 hc10) (cwV 1 hts gX8_move_X4_moveByBoat rfl rfl rfl hdV_X4_moveByBoat ⟨Nat.le_of_ble_eq_true rfl, Nat.le_of_ble_eq_true rfl⟩) hK hP hD hS hA hN [1, 2] rfl (by decide) rfl rfl rfl rfl hl.1 rfl (Nat.le_of_ble_eq_true rfl) rfl rfl rfl dX8_move_64 (fun H locs hP hD hS => ?_)
          refine lv_aload_n hx hb dX8_move_67 rfl (lv_at hl 0 rfl) ?_
          refine k_get (C := RX8) (T := TX8) (N := 7) hx hb hts inX8 hown hK hP 0 rfl rfl 1 (by decide) rfl wl1 rfl dX8_move_68 ?_
          obtain ⟨r11, hc11, hf⟩ := k_b1_some hf
          refine k_ViR (q0 := 0) (As := []) (rest := []) S0 (c_X4_total l D cI cZ cJ cS h_now sr h_now_th h_now_ta h_now_se sr_tide sr_rain sr_rules h_now_th_weight h_now_th_under v_h_now_hour v_h_now_heel v_h_now_water v_h_now_pitch w_h_now_boatUsed_8 v_h_now_heelWent v_h_now_pitchTaken v_h_now_hoursOfMen v_h_now_parted w_h_now_moved_9 f_sr_rules w_h_now_th_out_10 v_h_now_th_size f_h_now_th_weight r11 hc11) (cwV 0 hts gX8_move_X4_total rfl rfl rfl hdV_X4_total ⟨Nat.le_of_ble_eq_true rfl, Nat.le_of_ble_eq_true rfl⟩) hK hP hD hS hA hN [1, 4, 5, 2, 6] rfl (by decide) rfl rfl rfl rfl hl.1 rfl (Nat.le_of_ble_eq_true rfl) dX8_move_71 (fun H locs hP hS => ?_)
          exact hRet _ _ _ _ hf _ _ _ _ hP hD hS rfl dX8_move_74
        · replace hf := k_pos hf c7
          refine lv_bipush (v := (-2)) hx hb dX8_move_56 (by decide) ?_
          exact hRet _ _ _ _ hf _ _ _ _ hP hD hS rfl dX8_move_58
  · replace hf := k_pos hf c2
    refine lv_iconst (v := (-1)) hx hb dX8_move_20 (by decide) ?_
    exact hRet _ _ _ _ hf _ _ _ _ hP hD hS rfl dX8_move_21

def p_X8_heel (v_h_now_hour : Int32) (v_h_now_heel : Int32) (v_h_now_water : Int32) (v_h_now_heelWent : Int32) (f_sr_rain : Nat → Int32) (f_sr_rules : Nat → Int32) (v_h_now_th_out : Int32) (v_h_now_th_size : Int32) (f_h_now_th_weight : Nat → Int32) (v_h_now_ta_whole : Int32) (v_h_now_ta_size : Int32) (f_h_now_ta_parts : Nat → Int32) (f_h_now_ta_strength : Nat → Int32) (f_h_now_ta_mast : Nat → Int32) (a1 : Int32) : Option (Int32 × Int32 × Int32) :=
  if a1 = 1 then
    if v_h_now_heelWent = 0 then
      k_b1 (p_X4_isLost v_h_now_water) fun r3 =>
      if r3 = 0 then
        k_b1 (p_X8_within (v_h_now_heel + a1) (-9) 9) fun r5 =>
        if r5 = 0 then
          some ((-102), v_h_now_heel, v_h_now_heelWent)
        else
          k_b1 (p_X5_rainsIn f_sr_rain v_h_now_hour) fun r7 =>
          k_b1 (p_X4_holds f_sr_rules v_h_now_th_out v_h_now_th_size f_h_now_th_weight v_h_now_ta_whole v_h_now_ta_size f_h_now_ta_parts f_h_now_ta_strength f_h_now_ta_mast (v_h_now_heel + a1) r7) fun r8 =>
          if r8 = 0 then
            some ((-102), v_h_now_heel, v_h_now_heelWent)
          else
            some (v_h_now_heel + a1, v_h_now_heel + a1, 1)
      else
        some ((-102), v_h_now_heel, v_h_now_heelWent)
    else
      some ((-102), v_h_now_heel, v_h_now_heelWent)
  else
    if a1 = (-1) then
      if v_h_now_heelWent = 0 then
        k_b1 (p_X4_isLost v_h_now_water) fun r12 =>
        if r12 = 0 then
          k_b1 (p_X8_within (v_h_now_heel + a1) (-9) 9) fun r14 =>
          if r14 = 0 then
            some ((-102), v_h_now_heel, v_h_now_heelWent)
          else
            k_b1 (p_X5_rainsIn f_sr_rain v_h_now_hour) fun r16 =>
            k_b1 (p_X4_holds f_sr_rules v_h_now_th_out v_h_now_th_size f_h_now_th_weight v_h_now_ta_whole v_h_now_ta_size f_h_now_ta_parts f_h_now_ta_strength f_h_now_ta_mast (v_h_now_heel + a1) r16) fun r17 =>
            if r17 = 0 then
              some ((-102), v_h_now_heel, v_h_now_heelWent)
            else
              some (v_h_now_heel + a1, v_h_now_heel + a1, 1)
        else
          some ((-102), v_h_now_heel, v_h_now_heelWent)
      else
        some ((-102), v_h_now_heel, v_h_now_heelWent)
    else
      some ((-100), v_h_now_heel, v_h_now_heelWent)
abbrev rm_X8_heel : Room := { frames := 5, cells := 0, slots := 0, locals := 118 }
theorem hdS_X8_heel : yX8_heel.cls ≠ "java/lang/invoke/MethodHandle" ∧ yX8_heel.cls ≠ "java/lang/invoke/VarHandle" ∧ (parseMethodDescriptor yX8_heel.desc).map (fun d => d.parameters.length) = some 1 := by decide +kernel
theorem hdV_X8_heel : yX8_heel.cls = RX8 ∧ yX8_heel.cls ≠ "java/lang/invoke/MethodHandle" ∧ yX8_heel.cls ≠ "java/lang/invoke/VarHandle" ∧ (parseMethodDescriptor yX8_heel.desc).map (fun d => d.parameters.length) = some 1 := by decide +kernel
set_option maxHeartbeats 4000000 in
set_option maxRecDepth 100000 in
theorem c_X8_heel (l : Launch) (D : va_G) (cI cZ cJ cS : ClassId) (h sr h_now h_kept h_planner h_floating h_planks h_now_th h_now_ta h_now_se sr_tide sr_rain sr_rules h_now_th_weight h_now_th_under h_now_ta_mast h_now_ta_parts h_now_ta_strength : Nat) (v_h_keptSize : Int32) (v_h_now_hour : Int32) (v_h_now_heel : Int32) (v_h_now_water : Int32) (v_h_now_pitch : Int32) (v_h_now_boatUsed : Int32) (v_h_now_heelWent : Int32) (v_h_now_pitchTaken : Int32) (v_h_now_hoursOfMen : Int32) (v_h_now_parted : Int32) (v_h_now_moved : Int32) (f_sr_rain : Nat → Int32) (f_sr_rules : Nat → Int32) (v_h_now_th_out : Int32) (v_h_now_th_size : Int32) (f_h_now_th_weight : Nat → Int32) (v_h_now_ta_whole : Int32) (v_h_now_ta_size : Int32) (f_h_now_ta_parts : Nat → Int32) (f_h_now_ta_strength : Nat → Int32) (f_h_now_ta_mast : Nat → Int32) (a1 : Int32) (r : Int32) (v_h_now_heel' : Int32) (v_h_now_heelWent' : Int32) (hf : p_X8_heel v_h_now_hour v_h_now_heel v_h_now_water v_h_now_heelWent f_sr_rain f_sr_rules v_h_now_th_out v_h_now_th_size f_h_now_th_weight v_h_now_ta_whole v_h_now_ta_size f_h_now_ta_parts f_h_now_ta_strength f_h_now_ta_mast a1 = some (r, v_h_now_heel', v_h_now_heelWent')) : k_MI l yX8_heel wsX8_heel rm_X8_heel D (k_tys cI cZ cJ cS) [.ref h, .int a1] [(h, .inr (8, [.ref sr, .ref h_now, .ref h_kept, .ref h_planner, .ref h_floating, .ref h_planks, .int v_h_keptSize])), (h_now, .inr (4, [.ref sr, .ref h_now_th, .ref h_now_ta, .ref h_now_se, .int v_h_now_hour, .int v_h_now_heel, .int v_h_now_water, .int v_h_now_pitch, .int v_h_now_boatUsed, .int v_h_now_heelWent, .int v_h_now_pitchTaken, .int v_h_now_hoursOfMen, .int v_h_now_parted, .int v_h_now_moved])), (sr, .inr (5, [.ref sr_tide, .ref sr_rain, .ref sr_rules])), (sr_rain, .inl (cZ, 96, .inl f_sr_rain)), (sr_rules, .inl (cI, 8, .inl f_sr_rules)), (h_now_th, .inr (7, [.ref h_now_th_weight, .ref h_now_th_under, .int v_h_now_th_out, .int v_h_now_th_size])), (h_now_th_weight, .inl (cI, 12, .inl f_h_now_th_weight)), (h_now_ta, .inr (6, [.ref h_now_ta_mast, .ref h_now_ta_parts, .ref h_now_ta_strength, .int v_h_now_ta_whole, .int v_h_now_ta_size])), (h_now_ta_parts, .inl (cI, 6, .inl f_h_now_ta_parts)), (h_now_ta_strength, .inl (cI, 6, .inl f_h_now_ta_strength)), (h_now_ta_mast, .inl (cI, 6, .inl f_h_now_ta_mast))] [(h, .inr (8, [.ref sr, .ref h_now, .ref h_kept, .ref h_planner, .ref h_floating, .ref h_planks, .int v_h_keptSize])), (h_now, .inr (4, [.ref sr, .ref h_now_th, .ref h_now_ta, .ref h_now_se, .int v_h_now_hour, .int v_h_now_heel', .int v_h_now_water, .int v_h_now_pitch, .int v_h_now_boatUsed, .int v_h_now_heelWent', .int v_h_now_pitchTaken, .int v_h_now_hoursOfMen, .int v_h_now_parted, .int v_h_now_moved])), (sr, .inr (5, [.ref sr_tide, .ref sr_rain, .ref sr_rules])), (sr_rain, .inl (cZ, 96, .inl f_sr_rain)), (sr_rules, .inl (cI, 8, .inl f_sr_rules)), (h_now_th, .inr (7, [.ref h_now_th_weight, .ref h_now_th_under, .int v_h_now_th_out, .int v_h_now_th_size])), (h_now_th_weight, .inl (cI, 12, .inl f_h_now_th_weight)), (h_now_ta, .inr (6, [.ref h_now_ta_mast, .ref h_now_ta_parts, .ref h_now_ta_strength, .int v_h_now_ta_whole, .int v_h_now_ta_size])), (h_now_ta_parts, .inl (cI, 6, .inl f_h_now_ta_parts)), (h_now_ta_strength, .inl (cI, 6, .inl f_h_now_ta_strength)), (h_now_ta_mast, .inl (cI, 6, .inl f_h_now_ta_mast))] r := by
  refine k_enter (y := yX8_heel) (wl := wsX8_heel) (rm := rm_X8_heel) (av := [.ref h, .int a1]) (D := D) (tys := k_tys cI cZ cJ cS) (ws := [(h, .inr (8, [.ref sr, .ref h_now, .ref h_kept, .ref h_planner, .ref h_floating, .ref h_planks, .int v_h_keptSize])), (h_now, .inr (4, [.ref sr, .ref h_now_th, .ref h_now_ta, .ref h_now_se, .int v_h_now_hour, .int v_h_now_heel, .int v_h_now_water, .int v_h_now_pitch, .int v_h_now_boatUsed, .int v_h_now_heelWent, .int v_h_now_pitchTaken, .int v_h_now_hoursOfMen, .int v_h_now_parted, .int v_h_now_moved])), (sr, .inr (5, [.ref sr_tide, .ref sr_rain, .ref sr_rules])), (sr_rain, .inl (cZ, 96, .inl f_sr_rain)), (sr_rules, .inl (cI, 8, .inl f_sr_rules)), (h_now_th, .inr (7, [.ref h_now_th_weight, .ref h_now_th_under, .int v_h_now_th_out, .int v_h_now_th_size])), (h_now_th_weight, .inl (cI, 12, .inl f_h_now_th_weight)), (h_now_ta, .inr (6, [.ref h_now_ta_mast, .ref h_now_ta_parts, .ref h_now_ta_strength, .int v_h_now_ta_whole, .int v_h_now_ta_size])), (h_now_ta_parts, .inl (cI, 6, .inl f_h_now_ta_parts)), (h_now_ta_strength, .inl (cI, 6, .inl f_h_now_ta_strength)), (h_now_ta_mast, .inl (cI, 6, .inl f_h_now_ta_mast))]) (cc := cX8_heel) (maxL := 3) (ret := (some .int)) (Qc := fun A => k_Qi D (k_tys cI cZ cJ cS) [(h, .inr (8, [.ref sr, .ref h_now, .ref h_kept, .ref h_planner, .ref h_floating, .ref h_planks, .int v_h_keptSize])), (h_now, .inr (4, [.ref sr, .ref h_now_th, .ref h_now_ta, .ref h_now_se, .int v_h_now_hour, .int v_h_now_heel', .int v_h_now_water, .int v_h_now_pitch, .int v_h_now_boatUsed, .int v_h_now_heelWent', .int v_h_now_pitchTaken, .int v_h_now_hoursOfMen, .int v_h_now_parted, .int v_h_now_moved])), (sr, .inr (5, [.ref sr_tide, .ref sr_rain, .ref sr_rules])), (sr_rain, .inl (cZ, 96, .inl f_sr_rain)), (sr_rules, .inl (cI, 8, .inl f_sr_rules)), (h_now_th, .inr (7, [.ref h_now_th_weight, .ref h_now_th_under, .int v_h_now_th_out, .int v_h_now_th_size])), (h_now_th_weight, .inl (cI, 12, .inl f_h_now_th_weight)), (h_now_ta, .inr (6, [.ref h_now_ta_mast, .ref h_now_ta_parts, .ref h_now_ta_strength, .int v_h_now_ta_whole, .int v_h_now_ta_size])), (h_now_ta_parts, .inl (cI, 6, .inl f_h_now_ta_parts)), (h_now_ta_strength, .inl (cI, 6, .inl f_h_now_ta_strength)), (h_now_ta_mast, .inl (cI, 6, .inl f_h_now_ta_mast))] A r) (by decide) rfl (Nat.le_of_ble_eq_true rfl) [(0, .ref h), (1, .int a1)] rfl ?_
  intro p e s m below meth c A hx hb hml hr hlocks hnm hown hK hP hD hA hS hN ls args Q hts hl hQ
  replace hown : s.vm.findClass RX8 = some m.cls := hown
  have S0 : CallFix p m c cX8_heel 3 s args wsX8_heel RX8 := ⟨hx, hb, hml, hown, hts⟩
  have inX8 : ∀ w ∈ u_ws RX8 TX8 7, w ∈ wsX8_heel := fun w h => List.mem_cons_of_mem _ (List.mem_append_left _ (List.mem_append_left _ (List.mem_append_left _ (List.mem_append_left _ (List.mem_append_right _ h)))))
  have inX4 : ∀ w ∈ u_ws RX4 TX4 14, w ∈ wsX8_heel := fun w h => List.mem_cons_of_mem _ (List.mem_append_left _ (List.mem_append_left _ (List.mem_append_left _ (List.mem_append_right _ h))))
  have wl1 : (Cond.fieldLink RX8 21 "BeachedShip" "now" "LBeachedShip$Ship;").before args s = true := hts _ (List.mem_of_getElem? (i := 1) rfl)
  have wl2 : (Cond.fieldLink RX8 140 "BeachedShip$Ship" "heel" "I").before args s = true := hts _ (List.mem_of_getElem? (i := 2) rfl)
  have wl3 : (Cond.fieldLink RX8 203 "BeachedShip$Ship" "heelWent" "Z").before args s = true := hts _ (List.mem_of_getElem? (i := 3) rfl)
  have wl4 : (Cond.fieldLink RX8 10 "BeachedShip" "shore" "LBeachedShip$Shore;").before args s = true := hts _ (List.mem_of_getElem? (i := 4) rfl)
  have wl5 : (Cond.fieldLink RX8 153 "BeachedShip$Ship" "hour" "I").before args s = true := hts _ (List.mem_of_getElem? (i := 5) rfl)
  have hRet : ∀ (r_z : Int32) (v_h_now_heel_z : Int32) (v_h_now_heelWent_z : Int32), some (r_z, v_h_now_heel_z, v_h_now_heelWent_z) = some (r, v_h_now_heel', v_h_now_heelWent') → ∀ (H : Heap) (locs : List Loc) (ls : Array Slot) (pc : Nat), va_P D vwCl [(h, .inr (8, [.ref sr, .ref h_now, .ref h_kept, .ref h_planner, .ref h_floating, .ref h_planks, .int v_h_keptSize])), (h_now, .inr (4, [.ref sr, .ref h_now_th, .ref h_now_ta, .ref h_now_se, .int v_h_now_hour, .int v_h_now_heel_z, .int v_h_now_water, .int v_h_now_pitch, .int v_h_now_boatUsed, .int v_h_now_heelWent_z, .int v_h_now_pitchTaken, .int v_h_now_hoursOfMen, .int v_h_now_parted, .int v_h_now_moved])), (sr, .inr (5, [.ref sr_tide, .ref sr_rain, .ref sr_rules])), (sr_rain, .inl (cZ, 96, .inl f_sr_rain)), (sr_rules, .inl (cI, 8, .inl f_sr_rules)), (h_now_th, .inr (7, [.ref h_now_th_weight, .ref h_now_th_under, .int v_h_now_th_out, .int v_h_now_th_size])), (h_now_th_weight, .inl (cI, 12, .inl f_h_now_th_weight)), (h_now_ta, .inr (6, [.ref h_now_ta_mast, .ref h_now_ta_parts, .ref h_now_ta_strength, .int v_h_now_ta_whole, .int v_h_now_ta_size])), (h_now_ta_parts, .inl (cI, 6, .inl f_h_now_ta_parts)), (h_now_ta_strength, .inl (cI, 6, .inl f_h_now_ta_strength)), (h_now_ta_mast, .inl (cI, 6, .inl f_h_now_ta_mast))] H → va_D A [(h, .inr (8, [.ref sr, .ref h_now, .ref h_kept, .ref h_planner, .ref h_floating, .ref h_planks, .int v_h_keptSize])), (h_now, .inr (4, [.ref sr, .ref h_now_th, .ref h_now_ta, .ref h_now_se, .int v_h_now_hour, .int v_h_now_heel_z, .int v_h_now_water, .int v_h_now_pitch, .int v_h_now_boatUsed, .int v_h_now_heelWent_z, .int v_h_now_pitchTaken, .int v_h_now_hoursOfMen, .int v_h_now_parted, .int v_h_now_moved])), (sr, .inr (5, [.ref sr_tide, .ref sr_rain, .ref sr_rules])), (sr_rain, .inl (cZ, 96, .inl f_sr_rain)), (sr_rules, .inl (cI, 8, .inl f_sr_rules)), (h_now_th, .inr (7, [.ref h_now_th_weight, .ref h_now_th_under, .int v_h_now_th_out, .int v_h_now_th_size])), (h_now_th_weight, .inl (cI, 12, .inl f_h_now_th_weight)), (h_now_ta, .inr (6, [.ref h_now_ta_mast, .ref h_now_ta_parts, .ref h_now_ta_strength, .int v_h_now_ta_whole, .int v_h_now_ta_size])), (h_now_ta_parts, .inl (cI, 6, .inl f_h_now_ta_parts)), (h_now_ta_strength, .inl (cI, 6, .inl f_h_now_ta_strength)), (h_now_ta_mast, .inl (cI, 6, .inl f_h_now_ta_mast))] → va_S A s.heap H locs → narrow .int (.int r_z) = .int r_z → decode cX8_heel pc = .ok (.ireturn, 1) → W p l e rm_X8_heel s m args below meth c H locs 0 0 Q (F0 m pc ls [.int r_z]) := by
    intro r_z v_h_now_heel_z v_h_now_heelWent_z hz H locs ls pc hP hD hS hn hd
    cases hz
    exact k_iret hx hb hr hlocks hn hK hP hD hS hQ rfl hd
  unfold p_X8_heel at hf
  refine lv_iload_n hx hb dX8_heel_0 rfl (lv_at hl 1 rfl) ?_
  refine lv_iconst (v := 1) hx hb dX8_heel_1 (by decide) ?_
  refine lv_icmp_eq (tgt := 13) hx hb dX8_heel_2 (by decide) (fun c1 => ?_) (fun c1 => ?_)
  · replace hf := k_pos hf c1
    refine lv_aload_n hx hb dX8_heel_13 rfl (lv_at hl 0 rfl) ?_
    refine k_get (C := RX8) (T := TX8) (N := 7) hx hb hts inX8 hown hK hP 0 rfl rfl 1 (by decide) rfl wl1 rfl dX8_heel_14 ?_
    refine k_get (C := RX4) (T := TX4) (N := 14) hx hb hts inX4 hown hK hP 1 rfl rfl 5 (by decide) rfl wl2 rfl dX8_heel_17 ?_
    refine lv_iload_n hx hb dX8_heel_20 rfl (lv_at hl 1 rfl) ?_
    refine lv_iadd hx hb dX8_heel_21 ?_
    refine lv_istore_n (lv' := [(2, .int (v_h_now_heel + a1)), (0, .ref h), (1, .int a1)]) hx hb dX8_heel_22 rfl hl (by decide) rfl (fun ls hl => ?_)
    refine lv_aload_n hx hb dX8_heel_23 rfl (lv_at hl 1 rfl) ?_
    refine k_get (C := RX8) (T := TX8) (N := 7) hx hb hts inX8 hown hK hP 0 rfl rfl 1 (by decide) rfl wl1 rfl dX8_heel_24 ?_
    refine k_get (C := RX4) (T := TX4) (N := 14) hx hb hts inX4 hown hK hP 1 rfl rfl 9 (by decide) rfl wl3 rfl dX8_heel_27 ?_
    refine lv_if_ne (tgt := 54) hx hb dX8_heel_30 (by decide) (fun c2 => ?_) (fun c2 => ?_)
    · replace hf := k_neg hf c2
      refine lv_bipush (v := (-102)) hx hb dX8_heel_54 (by decide) ?_
      exact hRet _ _ _ hf _ _ _ _ hP hD hS rfl dX8_heel_56
    · replace hf := k_pos hf c2
      refine lv_aload_n hx hb dX8_heel_33 rfl (lv_at hl 1 rfl) ?_
      refine k_get (C := RX8) (T := TX8) (N := 7) hx hb hts inX8 hown hK hP 0 rfl rfl 1 (by decide) rfl wl1 rfl dX8_heel_34 ?_
      obtain ⟨r3, hc3, hf⟩ := k_b1_some hf
      refine k_ViR (q0 := 0) (As := []) (rest := []) S0 (c_X4_isLost l D cI cZ cJ cS h_now sr h_now_th h_now_ta h_now_se v_h_now_hour v_h_now_heel v_h_now_water v_h_now_pitch v_h_now_boatUsed v_h_now_heelWent v_h_now_pitchTaken v_h_now_hoursOfMen v_h_now_parted v_h_now_moved r3 hc3) (cwV 0 hts gX8_heel_X4_isLost rfl rfl rfl hdV_X4_isLost ⟨Nat.le_of_ble_eq_true rfl, Nat.le_of_ble_eq_true rfl⟩) hK hP hD hS hA hN [1] rfl (by decide) rfl rfl rfl rfl hl.1 rfl (Nat.le_of_ble_eq_true rfl) dX8_heel_37 (fun H locs hP hS => ?_)
      refine lv_if_ne (tgt := 54) hx hb dX8_heel_40 (by decide) (fun c4 => ?_) (fun c4 => ?_)
      · replace hf := k_neg hf c4
        refine lv_bipush (v := (-102)) hx hb dX8_heel_54 (by decide) ?_
        exact hRet _ _ _ hf _ _ _ _ hP hD hS rfl dX8_heel_56
      · replace hf := k_pos hf c4
        refine lv_iload_n hx hb dX8_heel_43 rfl (lv_at hl 0 rfl) ?_
        refine lv_bipush (v := (-9)) hx hb dX8_heel_44 (by decide) ?_
        refine lv_bipush (v := 9) hx hb dX8_heel_46 (by decide) ?_
        obtain ⟨r5, hc5, hf⟩ := k_b1_some hf
        refine k_SiR (As := [.int (v_h_now_heel + a1), .int (-9), .int 9]) (rest := []) S0 (c_X8_within l D cI cZ cJ cS (v_h_now_heel + a1) (-9) 9 r5 hc5) (va_cwS 3 hts gX8_heel_X8_within rfl rfl rfl hdS_X8_within ⟨Nat.le_of_ble_eq_true rfl, Nat.le_of_ble_eq_true rfl⟩) hK hP hD hS hA hN [] rfl (by decide) rfl hl.1 rfl (Nat.le_of_ble_eq_true rfl) dX8_heel_48 (fun H locs hP hS => ?_)
        refine lv_if_ne (tgt := 57) hx hb dX8_heel_51 (by decide) (fun c6 => ?_) (fun c6 => ?_)
        · replace hf := k_neg hf c6
          refine lv_aload_n hx hb dX8_heel_57 rfl (lv_at hl 1 rfl) ?_
          refine k_get (C := RX8) (T := TX8) (N := 7) hx hb hts inX8 hown hK hP 0 rfl rfl 1 (by decide) rfl wl1 rfl dX8_heel_58 ?_
          refine lv_iload_n hx hb dX8_heel_61 rfl (lv_at hl 0 rfl) ?_
          refine lv_aload_n hx hb dX8_heel_62 rfl (lv_at hl 1 rfl) ?_
          refine k_get (C := RX8) (T := TX8) (N := 7) hx hb hts inX8 hown hK hP 0 rfl rfl 0 (by decide) rfl wl4 rfl dX8_heel_63 ?_
          refine lv_aload_n hx hb dX8_heel_66 rfl (lv_at hl 1 rfl) ?_
          refine k_get (C := RX8) (T := TX8) (N := 7) hx hb hts inX8 hown hK hP 0 rfl rfl 1 (by decide) rfl wl1 rfl dX8_heel_67 ?_
          refine k_get (C := RX4) (T := TX4) (N := 14) hx hb hts inX4 hown hK hP 1 rfl rfl 4 (by decide) rfl wl5 rfl dX8_heel_70 ?_
          obtain ⟨r7, hc7, hf⟩ := k_b1_some hf
          refine k_ViR (q0 := 0) (As := [.int v_h_now_hour]) (rest := [.int (v_h_now_heel + a1), .ref h_now]) S0 (c_X5_rainsIn l D cI cZ cJ cS sr sr_tide sr_rain sr_rules f_sr_rain v_h_now_hour r7 hc7) (cwV 1 hts gX8_heel_X5_rainsIn rfl rfl rfl hdV_X5_rainsIn ⟨Nat.le_of_ble_eq_true rfl, Nat.le_of_ble_eq_true rfl⟩) hK hP hD hS hA hN [2, 3] rfl (by decide) rfl rfl rfl rfl hl.1 rfl (Nat.le_of_ble_eq_true rfl) dX8_heel_73 (fun H locs hP hS => ?_)
          obtain ⟨r8, hc8, hf⟩ := k_b1_some hf
          refine k_ViR (q0 := 0) (As := [.int (v_h_now_heel + a1), .int r7]) (rest := []) S0 (c_X4_holds l D cI cZ cJ cS h_now sr h_now_th h_now_ta h_now_se sr_tide sr_rain sr_rules h_now_th_weight h_now_th_under h_now_ta_mast h_now_ta_parts h_now_ta_strength v_h_now_hour v_h_now_heel v_h_now_water v_h_now_pitch v_h_now_boatUsed v_h_now_heelWent v_h_now_pitchTaken v_h_now_hoursOfMen v_h_now_parted v_h_now_moved f_sr_rules v_h_now_th_out v_h_now_th_size f_h_now_th_weight v_h_now_ta_whole v_h_now_ta_size f_h_now_ta_parts f_h_now_ta_strength f_h_now_ta_mast (v_h_now_heel + a1) r7 r8 hc8) (cwV 2 hts gX8_heel_X4_holds rfl rfl rfl hdV_X4_holds ⟨Nat.le_of_ble_eq_true rfl, Nat.le_of_ble_eq_true rfl⟩) hK hP hD hS hA hN [1, 2, 4, 5, 6, 7, 8, 9, 10] rfl (by decide) rfl rfl rfl rfl hl.1 rfl (Nat.le_of_ble_eq_true rfl) dX8_heel_76 (fun H locs hP hS => ?_)
          refine lv_if_ne (tgt := 85) hx hb dX8_heel_79 (by decide) (fun c9 => ?_) (fun c9 => ?_)
          · replace hf := k_neg hf c9
            refine lv_aload_n hx hb dX8_heel_85 rfl (lv_at hl 1 rfl) ?_
            refine k_get (C := RX8) (T := TX8) (N := 7) hx hb hts inX8 hown hK hP 0 rfl rfl 1 (by decide) rfl wl1 rfl dX8_heel_86 ?_
            refine lv_iload_n hx hb dX8_heel_89 rfl (lv_at hl 0 rfl) ?_
            refine k_putf (ws2 := [(h, .inr (8, [.ref sr, .ref h_now, .ref h_kept, .ref h_planner, .ref h_floating, .ref h_planks, .int v_h_keptSize])), (h_now, .inr (4, [.ref sr, .ref h_now_th, .ref h_now_ta, .ref h_now_se, .int v_h_now_hour, .int (v_h_now_heel + a1), .int v_h_now_water, .int v_h_now_pitch, .int v_h_now_boatUsed, .int v_h_now_heelWent, .int v_h_now_pitchTaken, .int v_h_now_hoursOfMen, .int v_h_now_parted, .int v_h_now_moved])), (sr, .inr (5, [.ref sr_tide, .ref sr_rain, .ref sr_rules])), (sr_rain, .inl (cZ, 96, .inl f_sr_rain)), (sr_rules, .inl (cI, 8, .inl f_sr_rules)), (h_now_th, .inr (7, [.ref h_now_th_weight, .ref h_now_th_under, .int v_h_now_th_out, .int v_h_now_th_size])), (h_now_th_weight, .inl (cI, 12, .inl f_h_now_th_weight)), (h_now_ta, .inr (6, [.ref h_now_ta_mast, .ref h_now_ta_parts, .ref h_now_ta_strength, .int v_h_now_ta_whole, .int v_h_now_ta_size])), (h_now_ta_parts, .inl (cI, 6, .inl f_h_now_ta_parts)), (h_now_ta_strength, .inl (cI, 6, .inl f_h_now_ta_strength)), (h_now_ta_mast, .inl (cI, 6, .inl f_h_now_ta_mast))]) (C := RX4) (T := TX4) (N := 14) hx hb hts inX4 tyX4 tyX4_ok nmX4 hown hK hP hD hS 1 rfl rfl 5 (by decide) rfl wl2 rfl rfl rfl (Nat.le_of_ble_eq_true rfl) rfl dX8_heel_90 (fun H locs hP hD hS => ?_)
            refine lv_aload_n hx hb dX8_heel_93 rfl (lv_at hl 1 rfl) ?_
            refine k_get (C := RX8) (T := TX8) (N := 7) hx hb hts inX8 hown hK hP 0 rfl rfl 1 (by decide) rfl wl1 rfl dX8_heel_94 ?_
            refine lv_iconst (v := 1) hx hb dX8_heel_97 (by decide) ?_
            refine k_putf (ws2 := [(h, .inr (8, [.ref sr, .ref h_now, .ref h_kept, .ref h_planner, .ref h_floating, .ref h_planks, .int v_h_keptSize])), (h_now, .inr (4, [.ref sr, .ref h_now_th, .ref h_now_ta, .ref h_now_se, .int v_h_now_hour, .int (v_h_now_heel + a1), .int v_h_now_water, .int v_h_now_pitch, .int v_h_now_boatUsed, .int 1, .int v_h_now_pitchTaken, .int v_h_now_hoursOfMen, .int v_h_now_parted, .int v_h_now_moved])), (sr, .inr (5, [.ref sr_tide, .ref sr_rain, .ref sr_rules])), (sr_rain, .inl (cZ, 96, .inl f_sr_rain)), (sr_rules, .inl (cI, 8, .inl f_sr_rules)), (h_now_th, .inr (7, [.ref h_now_th_weight, .ref h_now_th_under, .int v_h_now_th_out, .int v_h_now_th_size])), (h_now_th_weight, .inl (cI, 12, .inl f_h_now_th_weight)), (h_now_ta, .inr (6, [.ref h_now_ta_mast, .ref h_now_ta_parts, .ref h_now_ta_strength, .int v_h_now_ta_whole, .int v_h_now_ta_size])), (h_now_ta_parts, .inl (cI, 6, .inl f_h_now_ta_parts)), (h_now_ta_strength, .inl (cI, 6, .inl f_h_now_ta_strength)), (h_now_ta_mast, .inl (cI, 6, .inl f_h_now_ta_mast))]) (C := RX4) (T := TX4) (N := 14) hx hb hts inX4 tyX4 tyX4_ok nmX4 hown hK hP hD hS 1 rfl rfl 9 (by decide) rfl wl3 rfl rfl rfl (Nat.le_of_ble_eq_true rfl) rfl dX8_heel_98 (fun H locs hP hD hS => ?_)
            refine lv_iload_n hx hb dX8_heel_101 rfl (lv_at hl 0 rfl) ?_
            exact hRet _ _ _ hf _ _ _ _ hP hD hS rfl dX8_heel_102
          · replace hf := k_pos hf c9
            refine lv_bipush (v := (-102)) hx hb dX8_heel_82 (by decide) ?_
            exact hRet _ _ _ hf _ _ _ _ hP hD hS rfl dX8_heel_84
        · replace hf := k_pos hf c6
          refine lv_bipush (v := (-102)) hx hb dX8_heel_54 (by decide) ?_
          exact hRet _ _ _ hf _ _ _ _ hP hD hS rfl dX8_heel_56
  · replace hf := k_neg hf c1
    refine lv_iload_n hx hb dX8_heel_5 rfl (lv_at hl 1 rfl) ?_
    refine lv_iconst (v := (-1)) hx hb dX8_heel_6 (by decide) ?_
    refine lv_icmp_eq (tgt := 13) hx hb dX8_heel_7 (by decide) (fun c10 => ?_) (fun c10 => ?_)
    · replace hf := k_pos hf c10
      refine lv_aload_n hx hb dX8_heel_13 rfl (lv_at hl 0 rfl) ?_
      refine k_get (C := RX8) (T := TX8) (N := 7) hx hb hts inX8 hown hK hP 0 rfl rfl 1 (by decide) rfl wl1 rfl dX8_heel_14 ?_
      refine k_get (C := RX4) (T := TX4) (N := 14) hx hb hts inX4 hown hK hP 1 rfl rfl 5 (by decide) rfl wl2 rfl dX8_heel_17 ?_
      refine lv_iload_n hx hb dX8_heel_20 rfl (lv_at hl 1 rfl) ?_
      refine lv_iadd hx hb dX8_heel_21 ?_
      refine lv_istore_n (lv' := [(2, .int (v_h_now_heel + a1)), (0, .ref h), (1, .int a1)]) hx hb dX8_heel_22 rfl hl (by decide) rfl (fun ls hl => ?_)
      refine lv_aload_n hx hb dX8_heel_23 rfl (lv_at hl 1 rfl) ?_
      refine k_get (C := RX8) (T := TX8) (N := 7) hx hb hts inX8 hown hK hP 0 rfl rfl 1 (by decide) rfl wl1 rfl dX8_heel_24 ?_
      refine k_get (C := RX4) (T := TX4) (N := 14) hx hb hts inX4 hown hK hP 1 rfl rfl 9 (by decide) rfl wl3 rfl dX8_heel_27 ?_
      refine lv_if_ne (tgt := 54) hx hb dX8_heel_30 (by decide) (fun c11 => ?_) (fun c11 => ?_)
      · replace hf := k_neg hf c11
        refine lv_bipush (v := (-102)) hx hb dX8_heel_54 (by decide) ?_
        exact hRet _ _ _ hf _ _ _ _ hP hD hS rfl dX8_heel_56
      · replace hf := k_pos hf c11
        refine lv_aload_n hx hb dX8_heel_33 rfl (lv_at hl 1 rfl) ?_
        refine k_get (C := RX8) (T := TX8) (N := 7) hx hb hts inX8 hown hK hP 0 rfl rfl 1 (by decide) rfl wl1 rfl dX8_heel_34 ?_
        obtain ⟨r12, hc12, hf⟩ := k_b1_some hf
        refine k_ViR (q0 := 0) (As := []) (rest := []) S0 (c_X4_isLost l D cI cZ cJ cS h_now sr h_now_th h_now_ta h_now_se v_h_now_hour v_h_now_heel v_h_now_water v_h_now_pitch v_h_now_boatUsed v_h_now_heelWent v_h_now_pitchTaken v_h_now_hoursOfMen v_h_now_parted v_h_now_moved r12 hc12) (cwV 0 hts gX8_heel_X4_isLost rfl rfl rfl hdV_X4_isLost ⟨Nat.le_of_ble_eq_true rfl, Nat.le_of_ble_eq_true rfl⟩) hK hP hD hS hA hN [1] rfl (by decide) rfl rfl rfl rfl hl.1 rfl (Nat.le_of_ble_eq_true rfl) dX8_heel_37 (fun H locs hP hS => ?_)
        refine lv_if_ne (tgt := 54) hx hb dX8_heel_40 (by decide) (fun c13 => ?_) (fun c13 => ?_)
        · replace hf := k_neg hf c13
          refine lv_bipush (v := (-102)) hx hb dX8_heel_54 (by decide) ?_
          exact hRet _ _ _ hf _ _ _ _ hP hD hS rfl dX8_heel_56
        · replace hf := k_pos hf c13
          refine lv_iload_n hx hb dX8_heel_43 rfl (lv_at hl 0 rfl) ?_
          refine lv_bipush (v := (-9)) hx hb dX8_heel_44 (by decide) ?_
          refine lv_bipush (v := 9) hx hb dX8_heel_46 (by decide) ?_
          obtain ⟨r14, hc14, hf⟩ := k_b1_some hf
          refine k_SiR (As := [.int (v_h_now_heel + a1), .int (-9), .int 9]) (rest := []) S0 (c_X8_within l D cI cZ cJ cS (v_h_now_heel + a1) (-9) 9 r14 hc14) (va_cwS 3 hts gX8_heel_X8_within rfl rfl rfl hdS_X8_within ⟨Nat.le_of_ble_eq_true rfl, Nat.le_of_ble_eq_true rfl⟩) hK hP hD hS hA hN [] rfl (by decide) rfl hl.1 rfl (Nat.le_of_ble_eq_true rfl) dX8_heel_48 (fun H locs hP hS => ?_)
          refine lv_if_ne (tgt := 57) hx hb dX8_heel_51 (by decide) (fun c15 => ?_) (fun c15 => ?_)
          · replace hf := k_neg hf c15
            refine lv_aload_n hx hb dX8_heel_57 rfl (lv_at hl 1 rfl) ?_
            refine k_get (C := RX8) (T := TX8) (N := 7) hx hb hts inX8 hown hK hP 0 rfl rfl 1 (by decide) rfl wl1 rfl dX8_heel_58 ?_
            refine lv_iload_n hx hb dX8_heel_61 rfl (lv_at hl 0 rfl) ?_
            refine lv_aload_n hx hb dX8_heel_62 rfl (lv_at hl 1 rfl) ?_
            refine k_get (C := RX8) (T := TX8) (N := 7) hx hb hts inX8 hown hK hP 0 rfl rfl 0 (by decide) rfl wl4 rfl dX8_heel_63 ?_
            refine lv_aload_n hx hb dX8_heel_66 rfl (lv_at hl 1 rfl) ?_
            refine k_get (C := RX8) (T := TX8) (N := 7) hx hb hts inX8 hown hK hP 0 rfl rfl 1 (by decide) rfl wl1 rfl dX8_heel_67 ?_
            refine k_get (C := RX4) (T := TX4) (N := 14) hx hb hts inX4 hown hK hP 1 rfl rfl 4 (by decide) rfl wl5 rfl dX8_heel_70 ?_
            obtain ⟨r16, hc16, hf⟩ := k_b1_some hf
            refine k_ViR (q0 := 0) (As := [.int v_h_now_hour]) (rest := [.int (v_h_now_heel + a1), .ref h_now]) S0 (c_X5_rainsIn l D cI cZ cJ cS sr sr_tide sr_rain sr_rules f_sr_rain v_h_now_hour r16 hc16) (cwV 1 hts gX8_heel_X5_rainsIn rfl rfl rfl hdV_X5_rainsIn ⟨Nat.le_of_ble_eq_true rfl, Nat.le_of_ble_eq_true rfl⟩) hK hP hD hS hA hN [2, 3] rfl (by decide) rfl rfl rfl rfl hl.1 rfl (Nat.le_of_ble_eq_true rfl) dX8_heel_73 (fun H locs hP hS => ?_)
            obtain ⟨r17, hc17, hf⟩ := k_b1_some hf
            refine k_ViR (q0 := 0) (As := [.int (v_h_now_heel + a1), .int r16]) (rest := []) S0 (c_X4_holds l D cI cZ cJ cS h_now sr h_now_th h_now_ta h_now_se sr_tide sr_rain sr_rules h_now_th_weight h_now_th_under h_now_ta_mast h_now_ta_parts h_now_ta_strength v_h_now_hour v_h_now_heel v_h_now_water v_h_now_pitch v_h_now_boatUsed v_h_now_heelWent v_h_now_pitchTaken v_h_now_hoursOfMen v_h_now_parted v_h_now_moved f_sr_rules v_h_now_th_out v_h_now_th_size f_h_now_th_weight v_h_now_ta_whole v_h_now_ta_size f_h_now_ta_parts f_h_now_ta_strength f_h_now_ta_mast (v_h_now_heel + a1) r16 r17 hc17) (cwV 2 hts gX8_heel_X4_holds rfl rfl rfl hdV_X4_holds ⟨Nat.le_of_ble_eq_true rfl, Nat.le_of_ble_eq_true rfl⟩) hK hP hD hS hA hN [1, 2, 4, 5, 6, 7, 8, 9, 10] rfl (by decide) rfl rfl rfl rfl hl.1 rfl (Nat.le_of_ble_eq_true rfl) dX8_heel_76 (fun H locs hP hS => ?_)
            refine lv_if_ne (tgt := 85) hx hb dX8_heel_79 (by decide) (fun c18 => ?_) (fun c18 => ?_)
            · replace hf := k_neg hf c18
              refine lv_aload_n hx hb dX8_heel_85 rfl (lv_at hl 1 rfl) ?_
              refine k_get (C := RX8) (T := TX8) (N := 7) hx hb hts inX8 hown hK hP 0 rfl rfl 1 (by decide) rfl wl1 rfl dX8_heel_86 ?_
              refine lv_iload_n hx hb dX8_heel_89 rfl (lv_at hl 0 rfl) ?_
              refine k_putf (ws2 := [(h, .inr (8, [.ref sr, .ref h_now, .ref h_kept, .ref h_planner, .ref h_floating, .ref h_planks, .int v_h_keptSize])), (h_now, .inr (4, [.ref sr, .ref h_now_th, .ref h_now_ta, .ref h_now_se, .int v_h_now_hour, .int (v_h_now_heel + a1), .int v_h_now_water, .int v_h_now_pitch, .int v_h_now_boatUsed, .int v_h_now_heelWent, .int v_h_now_pitchTaken, .int v_h_now_hoursOfMen, .int v_h_now_parted, .int v_h_now_moved])), (sr, .inr (5, [.ref sr_tide, .ref sr_rain, .ref sr_rules])), (sr_rain, .inl (cZ, 96, .inl f_sr_rain)), (sr_rules, .inl (cI, 8, .inl f_sr_rules)), (h_now_th, .inr (7, [.ref h_now_th_weight, .ref h_now_th_under, .int v_h_now_th_out, .int v_h_now_th_size])), (h_now_th_weight, .inl (cI, 12, .inl f_h_now_th_weight)), (h_now_ta, .inr (6, [.ref h_now_ta_mast, .ref h_now_ta_parts, .ref h_now_ta_strength, .int v_h_now_ta_whole, .int v_h_now_ta_size])), (h_now_ta_parts, .inl (cI, 6, .inl f_h_now_ta_parts)), (h_now_ta_strength, .inl (cI, 6, .inl f_h_now_ta_strength)), (h_now_ta_mast, .inl (cI, 6, .inl f_h_now_ta_mast))]) (C := RX4) (T := TX4) (N := 14) hx hb hts inX4 tyX4 tyX4_ok nmX4 hown hK hP hD hS 1 rfl rfl 5 (by decide) rfl wl2 rfl rfl rfl (Nat.le_of_ble_eq_true rfl) rfl dX8_heel_90 (fun H locs hP hD hS => ?_)
              refine lv_aload_n hx hb dX8_heel_93 rfl (lv_at hl 1 rfl) ?_
              refine k_get (C := RX8) (T := TX8) (N := 7) hx hb hts inX8 hown hK hP 0 rfl rfl 1 (by decide) rfl wl1 rfl dX8_heel_94 ?_
              refine lv_iconst (v := 1) hx hb dX8_heel_97 (by decide) ?_
              refine k_putf (ws2 := [(h, .inr (8, [.ref sr, .ref h_now, .ref h_kept, .ref h_planner, .ref h_floating, .ref h_planks, .int v_h_keptSize])), (h_now, .inr (4, [.ref sr, .ref h_now_th, .ref h_now_ta, .ref h_now_se, .int v_h_now_hour, .int (v_h_now_heel + a1), .int v_h_now_water, .int v_h_now_pitch, .int v_h_now_boatUsed, .int 1, .int v_h_now_pitchTaken, .int v_h_now_hoursOfMen, .int v_h_now_parted, .int v_h_now_moved])), (sr, .inr (5, [.ref sr_tide, .ref sr_rain, .ref sr_rules])), (sr_rain, .inl (cZ, 96, .inl f_sr_rain)), (sr_rules, .inl (cI, 8, .inl f_sr_rules)), (h_now_th, .inr (7, [.ref h_now_th_weight, .ref h_now_th_under, .int v_h_now_th_out, .int v_h_now_th_size])), (h_now_th_weight, .inl (cI, 12, .inl f_h_now_th_weight)), (h_now_ta, .inr (6, [.ref h_now_ta_mast, .ref h_now_ta_parts, .ref h_now_ta_strength, .int v_h_now_ta_whole, .int v_h_now_ta_size])), (h_now_ta_parts, .inl (cI, 6, .inl f_h_now_ta_parts)), (h_now_ta_strength, .inl (cI, 6, .inl f_h_now_ta_strength)), (h_now_ta_mast, .inl (cI, 6, .inl f_h_now_ta_mast))]) (C := RX4) (T := TX4) (N := 14) hx hb hts inX4 tyX4 tyX4_ok nmX4 hown hK hP hD hS 1 rfl rfl 9 (by decide) rfl wl3 rfl rfl rfl (Nat.le_of_ble_eq_true rfl) rfl dX8_heel_98 (fun H locs hP hD hS => ?_)
              refine lv_iload_n hx hb dX8_heel_101 rfl (lv_at hl 0 rfl) ?_
              exact hRet _ _ _ hf _ _ _ _ hP hD hS rfl dX8_heel_102
            · replace hf := k_pos hf c18
              refine lv_bipush (v := (-102)) hx hb dX8_heel_82 (by decide) ?_
              exact hRet _ _ _ hf _ _ _ _ hP hD hS rfl dX8_heel_84
          · replace hf := k_pos hf c15
            refine lv_bipush (v := (-102)) hx hb dX8_heel_54 (by decide) ?_
            exact hRet _ _ _ hf _ _ _ _ hP hD hS rfl dX8_heel_56
    · replace hf := k_neg hf c10
      refine lv_bipush (v := (-100)) hx hb dX8_heel_10 (by decide) ?_
      exact hRet _ _ _ hf _ _ _ _ hP hD hS rfl dX8_heel_12

def p_X8_hour (v_h_now_hour : Int32) (v_h_now_heel : Int32) (v_h_now_water : Int32) (v_h_now_pitch : Int32) (v_h_now_boatUsed : Int32) (v_h_now_heelWent : Int32) (v_h_now_pitchTaken : Int32) (v_h_now_hoursOfMen : Int32) (v_h_now_parted : Int32) (v_h_now_se_size : Int32) (f_sr_rain : Nat → Int32) (f_h_now_se_state : Nat → Int32) (f_sr_tide : Nat → Int32) (f_h_now_se_strake : Nat → Int32) (f_h_now_se_side : Nat → Int32) (f_sr_rules : Nat → Int32) (v_h_now_th_out : Int32) (v_h_now_th_size : Int32) (f_h_now_th_weight : Nat → Int32) (v_h_now_ta_whole : Int32) (v_h_now_ta_size : Int32) (f_h_now_ta_parts : Nat → Int32) (f_h_now_ta_strength : Nat → Int32) (f_h_now_ta_mast : Nat → Int32) (f_h_now_se_hands : Nat → Int32) (f_h_now_se_done : Nat → Int32) (f_h_now_se_pitch : Nat → Int32) (f_h_now_se_hours : Nat → Int32) (a1 : Int32) : Option (Int32 × Int32 × Int32 × Int32 × Int32 × Int32 × Int32 × Int32 × Int32 × Int32 × (Nat → Int32) × Int32 × (Nat → Int32)) :=
  if (((a1).toUInt32 >>> ((v_h_now_se_size).toUInt32 &&& Int32.toUInt32 31)).toInt32) = 0 then
    k_b1 (p_X4_isLost v_h_now_water) fun r2 =>
    if r2 = 0 then
      if v_h_now_hour < 96 then
        k_b12 (p_X4_passHour v_h_now_hour v_h_now_heel v_h_now_water v_h_now_pitch v_h_now_pitchTaken v_h_now_hoursOfMen v_h_now_parted f_sr_rain v_h_now_se_size f_h_now_se_state f_sr_tide f_h_now_se_strake f_h_now_se_side f_sr_rules v_h_now_th_out v_h_now_th_size f_h_now_th_weight v_h_now_ta_whole v_h_now_ta_size f_h_now_ta_parts f_h_now_ta_strength f_h_now_ta_mast f_h_now_se_hands f_h_now_se_done f_h_now_se_pitch f_h_now_se_hours a1) fun w_h_now_hour_5 w_h_now_heel_6 w_h_now_water_7 w_h_now_pitch_8 w_h_now_boatUsed_9 w_h_now_heelWent_10 w_h_now_pitchTaken_11 w_h_now_hoursOfMen_12 w_h_now_parted_13 w_h_now_se_state_14 w_h_now_ta_whole_15 w_h_now_se_done_16 =>
        some (w_h_now_water_7, w_h_now_hour_5, w_h_now_heel_6, w_h_now_water_7, w_h_now_pitch_8, w_h_now_boatUsed_9, w_h_now_heelWent_10, w_h_now_pitchTaken_11, w_h_now_hoursOfMen_12, w_h_now_parted_13, w_h_now_se_state_14, w_h_now_ta_whole_15, w_h_now_se_done_16)
      else
        some ((-2), v_h_now_hour, v_h_now_heel, v_h_now_water, v_h_now_pitch, v_h_now_boatUsed, v_h_now_heelWent, v_h_now_pitchTaken, v_h_now_hoursOfMen, v_h_now_parted, f_h_now_se_state, v_h_now_ta_whole, f_h_now_se_done)
    else
      some ((-2), v_h_now_hour, v_h_now_heel, v_h_now_water, v_h_now_pitch, v_h_now_boatUsed, v_h_now_heelWent, v_h_now_pitchTaken, v_h_now_hoursOfMen, v_h_now_parted, f_h_now_se_state, v_h_now_ta_whole, f_h_now_se_done)
  else
    some ((-1), v_h_now_hour, v_h_now_heel, v_h_now_water, v_h_now_pitch, v_h_now_boatUsed, v_h_now_heelWent, v_h_now_pitchTaken, v_h_now_hoursOfMen, v_h_now_parted, f_h_now_se_state, v_h_now_ta_whole, f_h_now_se_done)
abbrev rm_X8_hour : Room := { frames := 6, cells := 0, slots := 0, locals := 139 }
theorem hdS_X8_hour : yX8_hour.cls ≠ "java/lang/invoke/MethodHandle" ∧ yX8_hour.cls ≠ "java/lang/invoke/VarHandle" ∧ (parseMethodDescriptor yX8_hour.desc).map (fun d => d.parameters.length) = some 1 := by decide +kernel
theorem hdV_X8_hour : yX8_hour.cls = RX8 ∧ yX8_hour.cls ≠ "java/lang/invoke/MethodHandle" ∧ yX8_hour.cls ≠ "java/lang/invoke/VarHandle" ∧ (parseMethodDescriptor yX8_hour.desc).map (fun d => d.parameters.length) = some 1 := by decide +kernel
set_option maxHeartbeats 4000000 in
set_option maxRecDepth 100000 in
theorem c_X8_hour (l : Launch) (D : va_G) (cI cZ cJ cS : ClassId) (h sr h_now h_kept h_planner h_floating h_planks h_now_th h_now_ta h_now_se h_now_se_strake h_now_se_side h_now_se_hands h_now_se_hours h_now_se_pitch h_now_se_worth h_now_se_state h_now_se_done sr_tide sr_rain sr_rules h_now_th_weight h_now_th_under h_now_ta_mast h_now_ta_parts h_now_ta_strength : Nat) (v_h_keptSize : Int32) (v_h_now_hour : Int32) (v_h_now_heel : Int32) (v_h_now_water : Int32) (v_h_now_pitch : Int32) (v_h_now_boatUsed : Int32) (v_h_now_heelWent : Int32) (v_h_now_pitchTaken : Int32) (v_h_now_hoursOfMen : Int32) (v_h_now_parted : Int32) (v_h_now_moved : Int32) (v_h_now_se_size : Int32) (f_sr_rain : Nat → Int32) (f_h_now_se_state : Nat → Int32) (f_sr_tide : Nat → Int32) (f_h_now_se_strake : Nat → Int32) (f_h_now_se_side : Nat → Int32) (f_sr_rules : Nat → Int32) (v_h_now_th_out : Int32) (v_h_now_th_size : Int32) (f_h_now_th_weight : Nat → Int32) (v_h_now_ta_whole : Int32) (v_h_now_ta_size : Int32) (f_h_now_ta_parts : Nat → Int32) (f_h_now_ta_strength : Nat → Int32) (f_h_now_ta_mast : Nat → Int32) (f_h_now_se_hands : Nat → Int32) (f_h_now_se_done : Nat → Int32) (f_h_now_se_pitch : Nat → Int32) (f_h_now_se_hours : Nat → Int32) (a1 : Int32) (r : Int32) (v_h_now_hour' : Int32) (v_h_now_heel' : Int32) (v_h_now_water' : Int32) (v_h_now_pitch' : Int32) (v_h_now_boatUsed' : Int32) (v_h_now_heelWent' : Int32) (v_h_now_pitchTaken' : Int32) (v_h_now_hoursOfMen' : Int32) (v_h_now_parted' : Int32) (f_h_now_se_state' : Nat → Int32) (v_h_now_ta_whole' : Int32) (f_h_now_se_done' : Nat → Int32) (hf : p_X8_hour v_h_now_hour v_h_now_heel v_h_now_water v_h_now_pitch v_h_now_boatUsed v_h_now_heelWent v_h_now_pitchTaken v_h_now_hoursOfMen v_h_now_parted v_h_now_se_size f_sr_rain f_h_now_se_state f_sr_tide f_h_now_se_strake f_h_now_se_side f_sr_rules v_h_now_th_out v_h_now_th_size f_h_now_th_weight v_h_now_ta_whole v_h_now_ta_size f_h_now_ta_parts f_h_now_ta_strength f_h_now_ta_mast f_h_now_se_hands f_h_now_se_done f_h_now_se_pitch f_h_now_se_hours a1 = some (r, v_h_now_hour', v_h_now_heel', v_h_now_water', v_h_now_pitch', v_h_now_boatUsed', v_h_now_heelWent', v_h_now_pitchTaken', v_h_now_hoursOfMen', v_h_now_parted', f_h_now_se_state', v_h_now_ta_whole', f_h_now_se_done')) : k_MI l yX8_hour wsX8_hour rm_X8_hour D (k_tys cI cZ cJ cS) [.ref h, .int a1] [(h, .inr (8, [.ref sr, .ref h_now, .ref h_kept, .ref h_planner, .ref h_floating, .ref h_planks, .int v_h_keptSize])), (h_now, .inr (4, [.ref sr, .ref h_now_th, .ref h_now_ta, .ref h_now_se, .int v_h_now_hour, .int v_h_now_heel, .int v_h_now_water, .int v_h_now_pitch, .int v_h_now_boatUsed, .int v_h_now_heelWent, .int v_h_now_pitchTaken, .int v_h_now_hoursOfMen, .int v_h_now_parted, .int v_h_now_moved])), (h_now_se, .inr (3, [.ref h_now_se_strake, .ref h_now_se_side, .ref h_now_se_hands, .ref h_now_se_hours, .ref h_now_se_pitch, .ref h_now_se_worth, .ref h_now_se_state, .ref h_now_se_done, .int v_h_now_se_size])), (sr, .inr (5, [.ref sr_tide, .ref sr_rain, .ref sr_rules])), (sr_rain, .inl (cZ, 96, .inl f_sr_rain)), (h_now_se_state, .inl (cI, 12, .inl f_h_now_se_state)), (sr_tide, .inl (cI, 96, .inl f_sr_tide)), (h_now_se_strake, .inl (cI, 12, .inl f_h_now_se_strake)), (h_now_se_side, .inl (cI, 12, .inl f_h_now_se_side)), (sr_rules, .inl (cI, 8, .inl f_sr_rules)), (h_now_th, .inr (7, [.ref h_now_th_weight, .ref h_now_th_under, .int v_h_now_th_out, .int v_h_now_th_size])), (h_now_th_weight, .inl (cI, 12, .inl f_h_now_th_weight)), (h_now_ta, .inr (6, [.ref h_now_ta_mast, .ref h_now_ta_parts, .ref h_now_ta_strength, .int v_h_now_ta_whole, .int v_h_now_ta_size])), (h_now_ta_parts, .inl (cI, 6, .inl f_h_now_ta_parts)), (h_now_ta_strength, .inl (cI, 6, .inl f_h_now_ta_strength)), (h_now_ta_mast, .inl (cI, 6, .inl f_h_now_ta_mast)), (h_now_se_hands, .inl (cI, 12, .inl f_h_now_se_hands)), (h_now_se_done, .inl (cI, 12, .inl f_h_now_se_done)), (h_now_se_pitch, .inl (cI, 12, .inl f_h_now_se_pitch)), (h_now_se_hours, .inl (cI, 12, .inl f_h_now_se_hours))] [(h, .inr (8, [.ref sr, .ref h_now, .ref h_kept, .ref h_planner, .ref h_floating, .ref h_planks, .int v_h_keptSize])), (h_now, .inr (4, [.ref sr, .ref h_now_th, .ref h_now_ta, .ref h_now_se, .int v_h_now_hour', .int v_h_now_heel', .int v_h_now_water', .int v_h_now_pitch', .int v_h_now_boatUsed', .int v_h_now_heelWent', .int v_h_now_pitchTaken', .int v_h_now_hoursOfMen', .int v_h_now_parted', .int v_h_now_moved])), (h_now_se, .inr (3, [.ref h_now_se_strake, .ref h_now_se_side, .ref h_now_se_hands, .ref h_now_se_hours, .ref h_now_se_pitch, .ref h_now_se_worth, .ref h_now_se_state, .ref h_now_se_done, .int v_h_now_se_size])), (sr, .inr (5, [.ref sr_tide, .ref sr_rain, .ref sr_rules])), (sr_rain, .inl (cZ, 96, .inl f_sr_rain)), (h_now_se_state, .inl (cI, 12, .inl f_h_now_se_state')), (sr_tide, .inl (cI, 96, .inl f_sr_tide)), (h_now_se_strake, .inl (cI, 12, .inl f_h_now_se_strake)), (h_now_se_side, .inl (cI, 12, .inl f_h_now_se_side)), (sr_rules, .inl (cI, 8, .inl f_sr_rules)), (h_now_th, .inr (7, [.ref h_now_th_weight, .ref h_now_th_under, .int v_h_now_th_out, .int v_h_now_th_size])), (h_now_th_weight, .inl (cI, 12, .inl f_h_now_th_weight)), (h_now_ta, .inr (6, [.ref h_now_ta_mast, .ref h_now_ta_parts, .ref h_now_ta_strength, .int v_h_now_ta_whole', .int v_h_now_ta_size])), (h_now_ta_parts, .inl (cI, 6, .inl f_h_now_ta_parts)), (h_now_ta_strength, .inl (cI, 6, .inl f_h_now_ta_strength)), (h_now_ta_mast, .inl (cI, 6, .inl f_h_now_ta_mast)), (h_now_se_hands, .inl (cI, 12, .inl f_h_now_se_hands)), (h_now_se_done, .inl (cI, 12, .inl f_h_now_se_done')), (h_now_se_pitch, .inl (cI, 12, .inl f_h_now_se_pitch)), (h_now_se_hours, .inl (cI, 12, .inl f_h_now_se_hours))] r := by
  refine k_enter (y := yX8_hour) (wl := wsX8_hour) (rm := rm_X8_hour) (av := [.ref h, .int a1]) (D := D) (tys := k_tys cI cZ cJ cS) (ws := [(h, .inr (8, [.ref sr, .ref h_now, .ref h_kept, .ref h_planner, .ref h_floating, .ref h_planks, .int v_h_keptSize])), (h_now, .inr (4, [.ref sr, .ref h_now_th, .ref h_now_ta, .ref h_now_se, .int v_h_now_hour, .int v_h_now_heel, .int v_h_now_water, .int v_h_now_pitch, .int v_h_now_boatUsed, .int v_h_now_heelWent, .int v_h_now_pitchTaken, .int v_h_now_hoursOfMen, .int v_h_now_parted, .int v_h_now_moved])), (h_now_se, .inr (3, [.ref h_now_se_strake, .ref h_now_se_side, .ref h_now_se_hands, .ref h_now_se_hours, .ref h_now_se_pitch, .ref h_now_se_worth, .ref h_now_se_state, .ref h_now_se_done, .int v_h_now_se_size])), (sr, .inr (5, [.ref sr_tide, .ref sr_rain, .ref sr_rules])), (sr_rain, .inl (cZ, 96, .inl f_sr_rain)), (h_now_se_state, .inl (cI, 12, .inl f_h_now_se_state)), (sr_tide, .inl (cI, 96, .inl f_sr_tide)), (h_now_se_strake, .inl (cI, 12, .inl f_h_now_se_strake)), (h_now_se_side, .inl (cI, 12, .inl f_h_now_se_side)), (sr_rules, .inl (cI, 8, .inl f_sr_rules)), (h_now_th, .inr (7, [.ref h_now_th_weight, .ref h_now_th_under, .int v_h_now_th_out, .int v_h_now_th_size])), (h_now_th_weight, .inl (cI, 12, .inl f_h_now_th_weight)), (h_now_ta, .inr (6, [.ref h_now_ta_mast, .ref h_now_ta_parts, .ref h_now_ta_strength, .int v_h_now_ta_whole, .int v_h_now_ta_size])), (h_now_ta_parts, .inl (cI, 6, .inl f_h_now_ta_parts)), (h_now_ta_strength, .inl (cI, 6, .inl f_h_now_ta_strength)), (h_now_ta_mast, .inl (cI, 6, .inl f_h_now_ta_mast)), (h_now_se_hands, .inl (cI, 12, .inl f_h_now_se_hands)), (h_now_se_done, .inl (cI, 12, .inl f_h_now_se_done)), (h_now_se_pitch, .inl (cI, 12, .inl f_h_now_se_pitch)), (h_now_se_hours, .inl (cI, 12, .inl f_h_now_se_hours))]) (cc := cX8_hour) (maxL := 2) (ret := (some .int)) (Qc := fun A => k_Qi D (k_tys cI cZ cJ cS) [(h, .inr (8, [.ref sr, .ref h_now, .ref h_kept, .ref h_planner, .ref h_floating, .ref h_planks, .int v_h_keptSize])), (h_now, .inr (4, [.ref sr, .ref h_now_th, .ref h_now_ta, .ref h_now_se, .int v_h_now_hour', .int v_h_now_heel', .int v_h_now_water', .int v_h_now_pitch', .int v_h_now_boatUsed', .int v_h_now_heelWent', .int v_h_now_pitchTaken', .int v_h_now_hoursOfMen', .int v_h_now_parted', .int v_h_now_moved])), (h_now_se, .inr (3, [.ref h_now_se_strake, .ref h_now_se_side, .ref h_now_se_hands, .ref h_now_se_hours, .ref h_now_se_pitch, .ref h_now_se_worth, .ref h_now_se_state, .ref h_now_se_done, .int v_h_now_se_size])), (sr, .inr (5, [.ref sr_tide, .ref sr_rain, .ref sr_rules])), (sr_rain, .inl (cZ, 96, .inl f_sr_rain)), (h_now_se_state, .inl (cI, 12, .inl f_h_now_se_state')), (sr_tide, .inl (cI, 96, .inl f_sr_tide)), (h_now_se_strake, .inl (cI, 12, .inl f_h_now_se_strake)), (h_now_se_side, .inl (cI, 12, .inl f_h_now_se_side)), (sr_rules, .inl (cI, 8, .inl f_sr_rules)), (h_now_th, .inr (7, [.ref h_now_th_weight, .ref h_now_th_under, .int v_h_now_th_out, .int v_h_now_th_size])), (h_now_th_weight, .inl (cI, 12, .inl f_h_now_th_weight)), (h_now_ta, .inr (6, [.ref h_now_ta_mast, .ref h_now_ta_parts, .ref h_now_ta_strength, .int v_h_now_ta_whole', .int v_h_now_ta_size])), (h_now_ta_parts, .inl (cI, 6, .inl f_h_now_ta_parts)), (h_now_ta_strength, .inl (cI, 6, .inl f_h_now_ta_strength)), (h_now_ta_mast, .inl (cI, 6, .inl f_h_now_ta_mast)), (h_now_se_hands, .inl (cI, 12, .inl f_h_now_se_hands)), (h_now_se_done, .inl (cI, 12, .inl f_h_now_se_done')), (h_now_se_pitch, .inl (cI, 12, .inl f_h_now_se_pitch)), (h_now_se_hours, .inl (cI, 12, .inl f_h_now_se_hours))] A r) (by decide) rfl (Nat.le_of_ble_eq_true rfl) [(0, .ref h), (1, .int a1)] rfl ?_
  intro p e s m below meth c A hx hb hml hr hlocks hnm hown hK hP hD hA hS hN ls args Q hts hl hQ
  replace hown : s.vm.findClass RX8 = some m.cls := hown
  have S0 : CallFix p m c cX8_hour 2 s args wsX8_hour RX8 := ⟨hx, hb, hml, hown, hts⟩
  have inX8 : ∀ w ∈ u_ws RX8 TX8 7, w ∈ wsX8_hour := fun w h => List.mem_cons_of_mem _ (List.mem_append_left _ (List.mem_append_left _ (List.mem_append_left _ (List.mem_append_left _ (List.mem_append_left _ (List.mem_append_right _ h))))))
  have inX4 : ∀ w ∈ u_ws RX4 TX4 14, w ∈ wsX8_hour := fun w h => List.mem_cons_of_mem _ (List.mem_append_left _ (List.mem_append_left _ (List.mem_append_left _ (List.mem_append_left _ (List.mem_append_right _ h)))))
  have inX3 : ∀ w ∈ u_ws RX3 TX3 9, w ∈ wsX8_hour := fun w h => List.mem_cons_of_mem _ (List.mem_append_left _ (List.mem_append_left _ (List.mem_append_left _ (List.mem_append_right _ h))))
  have wl1 : (Cond.fieldLink RX8 21 "BeachedShip" "now" "LBeachedShip$Ship;").before args s = true := hts _ (List.mem_of_getElem? (i := 1) rfl)
  have wl2 : (Cond.fieldLink RX8 122 "BeachedShip$Ship" "seams" "LBeachedShip$Seams;").before args s = true := hts _ (List.mem_of_getElem? (i := 2) rfl)
  have wl3 : (Cond.fieldLink RX8 126 "BeachedShip$Seams" "size" "I").before args s = true := hts _ (List.mem_of_getElem? (i := 3) rfl)
  have wl4 : (Cond.fieldLink RX8 153 "BeachedShip$Ship" "hour" "I").before args s = true := hts _ (List.mem_of_getElem? (i := 4) rfl)
  have wl5 : (Cond.fieldLink RX8 146 "BeachedShip$Ship" "water" "I").before args s = true := hts _ (List.mem_of_getElem? (i := 5) rfl)
  have hRet : ∀ (r_z : Int32) (v_h_now_hour_z : Int32) (v_h_now_heel_z : Int32) (v_h_now_water_z : Int32) (v_h_now_pitch_z : Int32) (v_h_now_boatUsed_z : Int32) (v_h_now_heelWent_z : Int32) (v_h_now_pitchTaken_z : Int32) (v_h_now_hoursOfMen_z : Int32) (v_h_now_parted_z : Int32) (f_h_now_se_state_z : Nat → Int32) (v_h_now_ta_whole_z : Int32) (f_h_now_se_done_z : Nat → Int32), some (r_z, v_h_now_hour_z, v_h_now_heel_z, v_h_now_water_z, v_h_now_pitch_z, v_h_now_boatUsed_z, v_h_now_heelWent_z, v_h_now_pitchTaken_z, v_h_now_hoursOfMen_z, v_h_now_parted_z, f_h_now_se_state_z, v_h_now_ta_whole_z, f_h_now_se_done_z) = some (r, v_h_now_hour', v_h_now_heel', v_h_now_water', v_h_now_pitch', v_h_now_boatUsed', v_h_now_heelWent', v_h_now_pitchTaken', v_h_now_hoursOfMen', v_h_now_parted', f_h_now_se_state', v_h_now_ta_whole', f_h_now_se_done') → ∀ (H : Heap) (locs : List Loc) (ls : Array Slot) (pc : Nat), va_P D vwCl [(h, .inr (8, [.ref sr, .ref h_now, .ref h_kept, .ref h_planner, .ref h_floating, .ref h_planks, .int v_h_keptSize])), (h_now, .inr (4, [.ref sr, .ref h_now_th, .ref h_now_ta, .ref h_now_se, .int v_h_now_hour_z, .int v_h_now_heel_z, .int v_h_now_water_z, .int v_h_now_pitch_z, .int v_h_now_boatUsed_z, .int v_h_now_heelWent_z, .int v_h_now_pitchTaken_z, .int v_h_now_hoursOfMen_z, .int v_h_now_parted_z, .int v_h_now_moved])), (h_now_se, .inr (3, [.ref h_now_se_strake, .ref h_now_se_side, .ref h_now_se_hands, .ref h_now_se_hours, .ref h_now_se_pitch, .ref h_now_se_worth, .ref h_now_se_state, .ref h_now_se_done, .int v_h_now_se_size])), (sr, .inr (5, [.ref sr_tide, .ref sr_rain, .ref sr_rules])), (sr_rain, .inl (cZ, 96, .inl f_sr_rain)), (h_now_se_state, .inl (cI, 12, .inl f_h_now_se_state_z)), (sr_tide, .inl (cI, 96, .inl f_sr_tide)), (h_now_se_strake, .inl (cI, 12, .inl f_h_now_se_strake)), (h_now_se_side, .inl (cI, 12, .inl f_h_now_se_side)), (sr_rules, .inl (cI, 8, .inl f_sr_rules)), (h_now_th, .inr (7, [.ref h_now_th_weight, .ref h_now_th_under, .int v_h_now_th_out, .int v_h_now_th_size])), (h_now_th_weight, .inl (cI, 12, .inl f_h_now_th_weight)), (h_now_ta, .inr (6, [.ref h_now_ta_mast, .ref h_now_ta_parts, .ref h_now_ta_strength, .int v_h_now_ta_whole_z, .int v_h_now_ta_size])), (h_now_ta_parts, .inl (cI, 6, .inl f_h_now_ta_parts)), (h_now_ta_strength, .inl (cI, 6, .inl f_h_now_ta_strength)), (h_now_ta_mast, .inl (cI, 6, .inl f_h_now_ta_mast)), (h_now_se_hands, .inl (cI, 12, .inl f_h_now_se_hands)), (h_now_se_done, .inl (cI, 12, .inl f_h_now_se_done_z)), (h_now_se_pitch, .inl (cI, 12, .inl f_h_now_se_pitch)), (h_now_se_hours, .inl (cI, 12, .inl f_h_now_se_hours))] H → va_D A [(h, .inr (8, [.ref sr, .ref h_now, .ref h_kept, .ref h_planner, .ref h_floating, .ref h_planks, .int v_h_keptSize])), (h_now, .inr (4, [.ref sr, .ref h_now_th, .ref h_now_ta, .ref h_now_se, .int v_h_now_hour_z, .int v_h_now_heel_z, .int v_h_now_water_z, .int v_h_now_pitch_z, .int v_h_now_boatUsed_z, .int v_h_now_heelWent_z, .int v_h_now_pitchTaken_z, .int v_h_now_hoursOfMen_z, .int v_h_now_parted_z, .int v_h_now_moved])), (h_now_se, .inr (3, [.ref h_now_se_strake, .ref h_now_se_side, .ref h_now_se_hands, .ref h_now_se_hours, .ref h_now_se_pitch, .ref h_now_se_worth, .ref h_now_se_state, .ref h_now_se_done, .int v_h_now_se_size])), (sr, .inr (5, [.ref sr_tide, .ref sr_rain, .ref sr_rules])), (sr_rain, .inl (cZ, 96, .inl f_sr_rain)), (h_now_se_state, .inl (cI, 12, .inl f_h_now_se_state_z)), (sr_tide, .inl (cI, 96, .inl f_sr_tide)), (h_now_se_strake, .inl (cI, 12, .inl f_h_now_se_strake)), (h_now_se_side, .inl (cI, 12, .inl f_h_now_se_side)), (sr_rules, .inl (cI, 8, .inl f_sr_rules)), (h_now_th, .inr (7, [.ref h_now_th_weight, .ref h_now_th_under, .int v_h_now_th_out, .int v_h_now_th_size])), (h_now_th_weight, .inl (cI, 12, .inl f_h_now_th_weight)), (h_now_ta, .inr (6, [.ref h_now_ta_mast, .ref h_now_ta_parts, .ref h_now_ta_strength, .int v_h_now_ta_whole_z, .int v_h_now_ta_size])), (h_now_ta_parts, .inl (cI, 6, .inl f_h_now_ta_parts)), (h_now_ta_strength, .inl (cI, 6, .inl f_h_now_ta_strength)), (h_now_ta_mast, .inl (cI, 6, .inl f_h_now_ta_mast)), (h_now_se_hands, .inl (cI, 12, .inl f_h_now_se_hands)), (h_now_se_done, .inl (cI, 12, .inl f_h_now_se_done_z)), (h_now_se_pitch, .inl (cI, 12, .inl f_h_now_se_pitch)), (h_now_se_hours, .inl (cI, 12, .inl f_h_now_se_hours))] → va_S A s.heap H locs → narrow .int (.int r_z) = .int r_z → decode cX8_hour pc = .ok (.ireturn, 1) → W p l e rm_X8_hour s m args below meth c H locs 0 0 Q (F0 m pc ls [.int r_z]) := by
    intro r_z v_h_now_hour_z v_h_now_heel_z v_h_now_water_z v_h_now_pitch_z v_h_now_boatUsed_z v_h_now_heelWent_z v_h_now_pitchTaken_z v_h_now_hoursOfMen_z v_h_now_parted_z f_h_now_se_state_z v_h_now_ta_whole_z f_h_now_se_done_z hz H locs ls pc hP hD hS hn hd
    cases hz
    exact k_iret hx hb hr hlocks hn hK hP hD hS hQ rfl hd
  unfold p_X8_hour at hf
  refine lv_iload_n hx hb dX8_hour_0 rfl (lv_at hl 1 rfl) ?_
  refine lv_aload_n hx hb dX8_hour_1 rfl (lv_at hl 0 rfl) ?_
  refine k_get (C := RX8) (T := TX8) (N := 7) hx hb hts inX8 hown hK hP 0 rfl rfl 1 (by decide) rfl wl1 rfl dX8_hour_2 ?_
  refine k_get (C := RX4) (T := TX4) (N := 14) hx hb hts inX4 hown hK hP 1 rfl rfl 3 (by decide) rfl wl2 rfl dX8_hour_5 ?_
  refine k_get (C := RX3) (T := TX3) (N := 9) hx hb hts inX3 hown hK hP 2 rfl rfl 8 (by decide) rfl wl3 rfl dX8_hour_8 ?_
  refine lv_iushr (v := ((a1).toUInt32 >>> ((v_h_now_se_size).toUInt32 &&& Int32.toUInt32 31)).toInt32) hx hb dX8_hour_11 rfl ?_
  refine lv_if_eq (tgt := 17) hx hb dX8_hour_12 (by decide) (fun c1 => ?_) (fun c1 => ?_)
  · replace hf := k_pos hf c1
    refine lv_aload_n hx hb dX8_hour_17 rfl (lv_at hl 0 rfl) ?_
    refine k_get (C := RX8) (T := TX8) (N := 7) hx hb hts inX8 hown hK hP 0 rfl rfl 1 (by decide) rfl wl1 rfl dX8_hour_18 ?_
    obtain ⟨r2, hc2, hf⟩ := k_b1_some hf
    refine k_ViR (q0 := 0) (As := []) (rest := []) S0 (c_X4_isLost l D cI cZ cJ cS h_now sr h_now_th h_now_ta h_now_se v_h_now_hour v_h_now_heel v_h_now_water v_h_now_pitch v_h_now_boatUsed v_h_now_heelWent v_h_now_pitchTaken v_h_now_hoursOfMen v_h_now_parted v_h_now_moved r2 hc2) (cwV 0 hts gX8_hour_X4_isLost rfl rfl rfl hdV_X4_isLost ⟨Nat.le_of_ble_eq_true rfl, Nat.le_of_ble_eq_true rfl⟩) hK hP hD hS hA hN [1] rfl (by decide) rfl rfl rfl rfl hl.1 rfl (Nat.le_of_ble_eq_true rfl) dX8_hour_21 (fun H locs hP hS => ?_)
    refine lv_if_ne (tgt := 39) hx hb dX8_hour_24 (by decide) (fun c3 => ?_) (fun c3 => ?_)
    · replace hf := k_neg hf c3
      refine lv_bipush (v := (-2)) hx hb dX8_hour_39 (by decide) ?_
      exact hRet _ _ _ _ _ _ _ _ _ _ _ _ _ hf _ _ _ _ hP hD hS rfl dX8_hour_41
    · replace hf := k_pos hf c3
      refine lv_aload_n hx hb dX8_hour_27 rfl (lv_at hl 0 rfl) ?_
      refine k_get (C := RX8) (T := TX8) (N := 7) hx hb hts inX8 hown hK hP 0 rfl rfl 1 (by decide) rfl wl1 rfl dX8_hour_28 ?_
      refine k_get (C := RX4) (T := TX4) (N := 14) hx hb hts inX4 hown hK hP 1 rfl rfl 4 (by decide) rfl wl4 rfl dX8_hour_31 ?_
      refine lv_bipush (v := 96) hx hb dX8_hour_34 (by decide) ?_
      refine lv_icmp_lt (tgt := 42) hx hb dX8_hour_36 (by decide) (fun c4 => ?_) (fun c4 => ?_)
      · replace hf := k_pos hf c4
        refine lv_aload_n hx hb dX8_hour_42 rfl (lv_at hl 0 rfl) ?_
        refine k_get (C := RX8) (T := TX8) (N := 7) hx hb hts inX8 hown hK hP 0 rfl rfl 1 (by decide) rfl wl1 rfl dX8_hour_43 ?_
        refine lv_iload_n hx hb dX8_hour_46 rfl (lv_at hl 1 rfl) ?_
        obtain ⟨w_h_now_hour_5, w_h_now_heel_6, w_h_now_water_7, w_h_now_pitch_8, w_h_now_boatUsed_9, w_h_now_heelWent_10, w_h_now_pitchTaken_11, w_h_now_hoursOfMen_12, w_h_now_parted_13, w_h_now_se_state_14, w_h_now_ta_whole_15, w_h_now_se_done_16, hc16, hf⟩ := k_b12_some hf
        refine k_Vv (ws2 := [(h, .inr (8, [.ref sr, .ref h_now, .ref h_kept, .ref h_planner, .ref h_floating, .ref h_planks, .int v_h_keptSize])), (h_now, .inr (4, [.ref sr, .ref h_now_th, .ref h_now_ta, .ref h_now_se, .int w_h_now_hour_5, .int w_h_now_heel_6, .int w_h_now_water_7, .int w_h_now_pitch_8, .int w_h_now_boatUsed_9, .int w_h_now_heelWent_10, .int w_h_now_pitchTaken_11, .int w_h_now_hoursOfMen_12, .int w_h_now_parted_13, .int v_h_now_moved])), (h_now_se, .inr (3, [.ref h_now_se_strake, .ref h_now_se_side, .ref h_now_se_hands, .ref h_now_se_hours, .ref h_now_se_pitch, .ref h_now_se_worth, .ref h_now_se_state, .ref h_now_se_done, .int v_h_now_se_size])), (sr, .inr (5, [.ref sr_tide, .ref sr_rain, .ref sr_rules])), (sr_rain, .inl (cZ, 96, .inl f_sr_rain)), (h_now_se_state, .inl (cI, 12, .inl w_h_now_se_state_14)), (sr_tide, .inl (cI, 96, .inl f_sr_tide)), (h_now_se_strake, .inl (cI, 12, .inl f_h_now_se_strake)), (h_now_se_side, .inl (cI, 12, .inl f_h_now_se_side)), (sr_rules, .inl (cI, 8, .inl f_sr_rules)), (h_now_th, .inr (7, [.ref h_now_th_weight, .ref h_now_th_under, .int v_h_now_th_out, .int v_h_now_th_size])), (h_now_th_weight, .inl (cI, 12, .inl f_h_now_th_weight)), (h_now_ta, .inr (6, [.ref h_now_ta_mast, .ref h_now_ta_parts, .ref h_now_ta_strength, .int w_h_now_ta_whole_15, .int v_h_now_ta_size])), (h_now_ta_parts, .inl (cI, 6, .inl f_h_now_ta_parts)), (h_now_ta_strength, .inl (cI, 6, .inl f_h_now_ta_strength)), (h_now_ta_mast, .inl (cI, 6, .inl f_h_now_ta_mast)), (h_now_se_hands, .inl (cI, 12, .inl f_h_now_se_hands)), (h_now_se_done, .inl (cI, 12, .inl w_h_now_se_done_16)), (h_now_se_pitch, .inl (cI, 12, .inl f_h_now_se_pitch)), (h_now_se_hours, .inl (cI, 12, .inl f_h_now_se_hours))]) (q0 := 0) (As := [.int a1]) (rest := []) S0 (c_X4_passHour l D cI cZ cJ cS h_now sr h_now_th h_now_ta h_now_se sr_tide sr_rain sr_rules h_now_se_strake h_now_se_side h_now_se_hands h_now_se_hours h_now_se_pitch h_now_se_worth h_now_se_state h_now_se_done h_now_th_weight h_now_th_under h_now_ta_mast h_now_ta_parts h_now_ta_strength v_h_now_hour v_h_now_heel v_h_now_water v_h_now_pitch v_h_now_boatUsed v_h_now_heelWent v_h_now_pitchTaken v_h_now_hoursOfMen v_h_now_parted v_h_now_moved f_sr_rain v_h_now_se_size f_h_now_se_state f_sr_tide f_h_now_se_strake f_h_now_se_side f_sr_rules v_h_now_th_out v_h_now_th_size f_h_now_th_weight v_h_now_ta_whole v_h_now_ta_size f_h_now_ta_parts f_h_now_ta_strength f_h_now_ta_mast f_h_now_se_hands f_h_now_se_done f_h_now_se_pitch f_h_now_se_hours a1 w_h_now_hour_5 w_h_now_heel_6 w_h_now_water_7 w_h_now_pitch_8 w_h_now_boatUsed_9 w_h_now_heelWent_10 w_h_now_pitchTaken_11 w_h_now_hoursOfMen_12 w_h_now_parted_13 w_h_now_se_state_14 w_h_now_ta_whole_15 w_h_now_se_done_16 hc16) (cwV 1 hts gX8_hour_X4_passHour rfl rfl rfl hdV_X4_passHour ⟨Nat.le_of_ble_eq_true rfl, Nat.le_of_ble_eq_true rfl⟩) hK hP hD hS hA hN [1, 3, 4, 2, 5, 6, 7, 8, 9, 10, 11, 12, 13, 14, 15, 16, 17, 18, 19] rfl (by decide) rfl rfl rfl rfl hl.1 rfl (Nat.le_of_ble_eq_true rfl) rfl (k_put_of [0] (by decide) rfl rfl rfl rfl rfl) rfl dX8_hour_47 (fun H locs hP hD hS => ?_)
        refine lv_aload_n hx hb dX8_hour_50 rfl (lv_at hl 0 rfl) ?_
        refine k_get (C := RX8) (T := TX8) (N := 7) hx hb hts inX8 hown hK hP 0 rfl rfl 1 (by decide) rfl wl1 rfl dX8_hour_51 ?_
        refine k_get (C := RX4) (T := TX4) (N := 14) hx hb hts inX4 hown hK hP 1 rfl rfl 6 (by decide) rfl wl5 rfl dX8_hour_54 ?_
        exact hRet _ _ _ _ _ _ _ _ _ _ _ _ _ hf _ _ _ _ hP hD hS rfl dX8_hour_57
      · replace hf := k_neg hf c4
        refine lv_bipush (v := (-2)) hx hb dX8_hour_39 (by decide) ?_
        exact hRet _ _ _ _ _ _ _ _ _ _ _ _ _ hf _ _ _ _ hP hD hS rfl dX8_hour_41
  · replace hf := k_neg hf c1
    refine lv_iconst (v := (-1)) hx hb dX8_hour_15 (by decide) ?_
    exact hRet _ _ _ _ _ _ _ _ _ _ _ _ _ hf _ _ _ _ hP hD hS rfl dX8_hour_16

def p_X8_rig (v_h_now_hour : Int32) (v_h_now_heel : Int32) (v_h_now_ta_whole : Int32) (v_h_now_ta_size : Int32) (f_sr_rain : Nat → Int32) (f_sr_rules : Nat → Int32) (v_h_now_th_out : Int32) (v_h_now_th_size : Int32) (f_h_now_th_weight : Nat → Int32) (f_h_now_ta_parts : Nat → Int32) (f_h_now_ta_strength : Nat → Int32) (f_h_now_ta_mast : Nat → Int32) (a1 : Int32) (a2 : Int32) : Option (Int32 × Int32) :=
  k_b1 (p_X8_within a1 0 (v_h_now_ta_size - 1)) fun r1 =>
  if r1 = 0 then
    some ((-1), v_h_now_ta_whole)
  else
    if a2 = 0 then
      k_b1 (p_X5_rainsIn f_sr_rain v_h_now_hour) fun r4 =>
      k_b1 (p_X4_holds f_sr_rules v_h_now_th_out v_h_now_th_size f_h_now_th_weight (v_h_now_ta_whole &&& ((1 <<< (a1 &&& 31)) ^^^ (-1))) v_h_now_ta_size f_h_now_ta_parts f_h_now_ta_strength f_h_now_ta_mast v_h_now_heel r4) fun r5 =>
      if r5 = 0 then
        some ((-2), v_h_now_ta_whole)
      else
        k_b1 (p_X8_hasBit v_h_now_ta_whole a1) fun r7 =>
        k_b1 (p_X8_asNumber r7) fun r8 =>
        some (r8, v_h_now_ta_whole &&& ((1 <<< (a1 &&& 31)) ^^^ (-1)))
    else
      k_b1 (p_X5_rainsIn f_sr_rain v_h_now_hour) fun r9 =>
      k_b1 (p_X4_holds f_sr_rules v_h_now_th_out v_h_now_th_size f_h_now_th_weight (v_h_now_ta_whole ||| (1 <<< (a1 &&& 31))) v_h_now_ta_size f_h_now_ta_parts f_h_now_ta_strength f_h_now_ta_mast v_h_now_heel r9) fun r10 =>
      if r10 = 0 then
        some ((-2), v_h_now_ta_whole)
      else
        k_b1 (p_X8_hasBit v_h_now_ta_whole a1) fun r12 =>
        k_b1 (p_X8_asNumber r12) fun r13 =>
        some (r13, v_h_now_ta_whole ||| (1 <<< (a1 &&& 31)))
abbrev rm_X8_rig : Room := { frames := 5, cells := 0, slots := 0, locals := 118 }
theorem hdS_X8_rig : yX8_rig.cls ≠ "java/lang/invoke/MethodHandle" ∧ yX8_rig.cls ≠ "java/lang/invoke/VarHandle" ∧ (parseMethodDescriptor yX8_rig.desc).map (fun d => d.parameters.length) = some 2 := by decide +kernel
theorem hdV_X8_rig : yX8_rig.cls = RX8 ∧ yX8_rig.cls ≠ "java/lang/invoke/MethodHandle" ∧ yX8_rig.cls ≠ "java/lang/invoke/VarHandle" ∧ (parseMethodDescriptor yX8_rig.desc).map (fun d => d.parameters.length) = some 2 := by decide +kernel
set_option maxHeartbeats 4000000 in
set_option maxRecDepth 100000 in
theorem c_X8_rig (l : Launch) (D : va_G) (cI cZ cJ cS : ClassId) (h sr h_now h_kept h_planner h_floating h_planks h_now_th h_now_ta h_now_se h_now_ta_mast h_now_ta_parts h_now_ta_strength sr_tide sr_rain sr_rules h_now_th_weight h_now_th_under : Nat) (v_h_keptSize : Int32) (v_h_now_hour : Int32) (v_h_now_heel : Int32) (v_h_now_water : Int32) (v_h_now_pitch : Int32) (v_h_now_boatUsed : Int32) (v_h_now_heelWent : Int32) (v_h_now_pitchTaken : Int32) (v_h_now_hoursOfMen : Int32) (v_h_now_parted : Int32) (v_h_now_moved : Int32) (v_h_now_ta_whole : Int32) (v_h_now_ta_size : Int32) (f_sr_rain : Nat → Int32) (f_sr_rules : Nat → Int32) (v_h_now_th_out : Int32) (v_h_now_th_size : Int32) (f_h_now_th_weight : Nat → Int32) (f_h_now_ta_parts : Nat → Int32) (f_h_now_ta_strength : Nat → Int32) (f_h_now_ta_mast : Nat → Int32) (a1 : Int32) (a2 : Int32) (r : Int32) (v_h_now_ta_whole' : Int32) (hf : p_X8_rig v_h_now_hour v_h_now_heel v_h_now_ta_whole v_h_now_ta_size f_sr_rain f_sr_rules v_h_now_th_out v_h_now_th_size f_h_now_th_weight f_h_now_ta_parts f_h_now_ta_strength f_h_now_ta_mast a1 a2 = some (r, v_h_now_ta_whole')) : k_MI l yX8_rig wsX8_rig rm_X8_rig D (k_tys cI cZ cJ cS) [.ref h, .int a1, .int a2] [(h, .inr (8, [.ref sr, .ref h_now, .ref h_kept, .ref h_planner, .ref h_floating, .ref h_planks, .int v_h_keptSize])), (h_now, .inr (4, [.ref sr, .ref h_now_th, .ref h_now_ta, .ref h_now_se, .int v_h_now_hour, .int v_h_now_heel, .int v_h_now_water, .int v_h_now_pitch, .int v_h_now_boatUsed, .int v_h_now_heelWent, .int v_h_now_pitchTaken, .int v_h_now_hoursOfMen, .int v_h_now_parted, .int v_h_now_moved])), (h_now_ta, .inr (6, [.ref h_now_ta_mast, .ref h_now_ta_parts, .ref h_now_ta_strength, .int v_h_now_ta_whole, .int v_h_now_ta_size])), (sr, .inr (5, [.ref sr_tide, .ref sr_rain, .ref sr_rules])), (sr_rain, .inl (cZ, 96, .inl f_sr_rain)), (sr_rules, .inl (cI, 8, .inl f_sr_rules)), (h_now_th, .inr (7, [.ref h_now_th_weight, .ref h_now_th_under, .int v_h_now_th_out, .int v_h_now_th_size])), (h_now_th_weight, .inl (cI, 12, .inl f_h_now_th_weight)), (h_now_ta_parts, .inl (cI, 6, .inl f_h_now_ta_parts)), (h_now_ta_strength, .inl (cI, 6, .inl f_h_now_ta_strength)), (h_now_ta_mast, .inl (cI, 6, .inl f_h_now_ta_mast))] [(h, .inr (8, [.ref sr, .ref h_now, .ref h_kept, .ref h_planner, .ref h_floating, .ref h_planks, .int v_h_keptSize])), (h_now, .inr (4, [.ref sr, .ref h_now_th, .ref h_now_ta, .ref h_now_se, .int v_h_now_hour, .int v_h_now_heel, .int v_h_now_water, .int v_h_now_pitch, .int v_h_now_boatUsed, .int v_h_now_heelWent, .int v_h_now_pitchTaken, .int v_h_now_hoursOfMen, .int v_h_now_parted, .int v_h_now_moved])), (h_now_ta, .inr (6, [.ref h_now_ta_mast, .ref h_now_ta_parts, .ref h_now_ta_strength, .int v_h_now_ta_whole', .int v_h_now_ta_size])), (sr, .inr (5, [.ref sr_tide, .ref sr_rain, .ref sr_rules])), (sr_rain, .inl (cZ, 96, .inl f_sr_rain)), (sr_rules, .inl (cI, 8, .inl f_sr_rules)), (h_now_th, .inr (7, [.ref h_now_th_weight, .ref h_now_th_under, .int v_h_now_th_out, .int v_h_now_th_size])), (h_now_th_weight, .inl (cI, 12, .inl f_h_now_th_weight)), (h_now_ta_parts, .inl (cI, 6, .inl f_h_now_ta_parts)), (h_now_ta_strength, .inl (cI, 6, .inl f_h_now_ta_strength)), (h_now_ta_mast, .inl (cI, 6, .inl f_h_now_ta_mast))] r := by
  refine k_enter (y := yX8_rig) (wl := wsX8_rig) (rm := rm_X8_rig) (av := [.ref h, .int a1, .int a2]) (D := D) (tys := k_tys cI cZ cJ cS) (ws := [(h, .inr (8, [.ref sr, .ref h_now, .ref h_kept, .ref h_planner, .ref h_floating, .ref h_planks, .int v_h_keptSize])), (h_now, .inr (4, [.ref sr, .ref h_now_th, .ref h_now_ta, .ref h_now_se, .int v_h_now_hour, .int v_h_now_heel, .int v_h_now_water, .int v_h_now_pitch, .int v_h_now_boatUsed, .int v_h_now_heelWent, .int v_h_now_pitchTaken, .int v_h_now_hoursOfMen, .int v_h_now_parted, .int v_h_now_moved])), (h_now_ta, .inr (6, [.ref h_now_ta_mast, .ref h_now_ta_parts, .ref h_now_ta_strength, .int v_h_now_ta_whole, .int v_h_now_ta_size])), (sr, .inr (5, [.ref sr_tide, .ref sr_rain, .ref sr_rules])), (sr_rain, .inl (cZ, 96, .inl f_sr_rain)), (sr_rules, .inl (cI, 8, .inl f_sr_rules)), (h_now_th, .inr (7, [.ref h_now_th_weight, .ref h_now_th_under, .int v_h_now_th_out, .int v_h_now_th_size])), (h_now_th_weight, .inl (cI, 12, .inl f_h_now_th_weight)), (h_now_ta_parts, .inl (cI, 6, .inl f_h_now_ta_parts)), (h_now_ta_strength, .inl (cI, 6, .inl f_h_now_ta_strength)), (h_now_ta_mast, .inl (cI, 6, .inl f_h_now_ta_mast))]) (cc := cX8_rig) (maxL := 4) (ret := (some .int)) (Qc := fun A => k_Qi D (k_tys cI cZ cJ cS) [(h, .inr (8, [.ref sr, .ref h_now, .ref h_kept, .ref h_planner, .ref h_floating, .ref h_planks, .int v_h_keptSize])), (h_now, .inr (4, [.ref sr, .ref h_now_th, .ref h_now_ta, .ref h_now_se, .int v_h_now_hour, .int v_h_now_heel, .int v_h_now_water, .int v_h_now_pitch, .int v_h_now_boatUsed, .int v_h_now_heelWent, .int v_h_now_pitchTaken, .int v_h_now_hoursOfMen, .int v_h_now_parted, .int v_h_now_moved])), (h_now_ta, .inr (6, [.ref h_now_ta_mast, .ref h_now_ta_parts, .ref h_now_ta_strength, .int v_h_now_ta_whole', .int v_h_now_ta_size])), (sr, .inr (5, [.ref sr_tide, .ref sr_rain, .ref sr_rules])), (sr_rain, .inl (cZ, 96, .inl f_sr_rain)), (sr_rules, .inl (cI, 8, .inl f_sr_rules)), (h_now_th, .inr (7, [.ref h_now_th_weight, .ref h_now_th_under, .int v_h_now_th_out, .int v_h_now_th_size])), (h_now_th_weight, .inl (cI, 12, .inl f_h_now_th_weight)), (h_now_ta_parts, .inl (cI, 6, .inl f_h_now_ta_parts)), (h_now_ta_strength, .inl (cI, 6, .inl f_h_now_ta_strength)), (h_now_ta_mast, .inl (cI, 6, .inl f_h_now_ta_mast))] A r) (by decide) rfl (Nat.le_of_ble_eq_true rfl) [(0, .ref h), (1, .int a1), (2, .int a2)] rfl ?_
  intro p e s m below meth c A hx hb hml hr hlocks hnm hown hK hP hD hA hS hN ls args Q hts hl hQ
  replace hown : s.vm.findClass RX8 = some m.cls := hown
  have S0 : CallFix p m c cX8_rig 4 s args wsX8_rig RX8 := ⟨hx, hb, hml, hown, hts⟩
  have inX8 : ∀ w ∈ u_ws RX8 TX8 7, w ∈ wsX8_rig := fun w h => List.mem_cons_of_mem _ (List.mem_append_left _ (List.mem_append_left _ (List.mem_append_left _ (List.mem_append_left _ (List.mem_append_right _ h)))))
  have inX4 : ∀ w ∈ u_ws RX4 TX4 14, w ∈ wsX8_rig := fun w h => List.mem_cons_of_mem _ (List.mem_append_left _ (List.mem_append_left _ (List.mem_append_left _ (List.mem_append_right _ h))))
  have inX6 : ∀ w ∈ u_ws RX6 TX6 5, w ∈ wsX8_rig := fun w h => List.mem_cons_of_mem _ (List.mem_append_left _ (List.mem_append_left _ (List.mem_append_right _ h)))
  have wl1 : (Cond.fieldLink RX8 21 "BeachedShip" "now" "LBeachedShip$Ship;").before args s = true := hts _ (List.mem_of_getElem? (i := 1) rfl)
  have wl2 : (Cond.fieldLink RX8 112 "BeachedShip$Ship" "tackles" "LBeachedShip$Tackles;").before args s = true := hts _ (List.mem_of_getElem? (i := 2) rfl)
  have wl3 : (Cond.fieldLink RX8 116 "BeachedShip$Tackles" "size" "I").before args s = true := hts _ (List.mem_of_getElem? (i := 3) rfl)
  have wl4 : (Cond.fieldLink RX8 167 "BeachedShip$Tackles" "whole" "I").before args s = true := hts _ (List.mem_of_getElem? (i := 4) rfl)
  have wl5 : (Cond.fieldLink RX8 140 "BeachedShip$Ship" "heel" "I").before args s = true := hts _ (List.mem_of_getElem? (i := 5) rfl)
  have wl6 : (Cond.fieldLink RX8 10 "BeachedShip" "shore" "LBeachedShip$Shore;").before args s = true := hts _ (List.mem_of_getElem? (i := 6) rfl)
  have wl7 : (Cond.fieldLink RX8 153 "BeachedShip$Ship" "hour" "I").before args s = true := hts _ (List.mem_of_getElem? (i := 7) rfl)
  have hRet : ∀ (r_z : Int32) (v_h_now_ta_whole_z : Int32), some (r_z, v_h_now_ta_whole_z) = some (r, v_h_now_ta_whole') → ∀ (H : Heap) (locs : List Loc) (ls : Array Slot) (pc : Nat), va_P D vwCl [(h, .inr (8, [.ref sr, .ref h_now, .ref h_kept, .ref h_planner, .ref h_floating, .ref h_planks, .int v_h_keptSize])), (h_now, .inr (4, [.ref sr, .ref h_now_th, .ref h_now_ta, .ref h_now_se, .int v_h_now_hour, .int v_h_now_heel, .int v_h_now_water, .int v_h_now_pitch, .int v_h_now_boatUsed, .int v_h_now_heelWent, .int v_h_now_pitchTaken, .int v_h_now_hoursOfMen, .int v_h_now_parted, .int v_h_now_moved])), (h_now_ta, .inr (6, [.ref h_now_ta_mast, .ref h_now_ta_parts, .ref h_now_ta_strength, .int v_h_now_ta_whole_z, .int v_h_now_ta_size])), (sr, .inr (5, [.ref sr_tide, .ref sr_rain, .ref sr_rules])), (sr_rain, .inl (cZ, 96, .inl f_sr_rain)), (sr_rules, .inl (cI, 8, .inl f_sr_rules)), (h_now_th, .inr (7, [.ref h_now_th_weight, .ref h_now_th_under, .int v_h_now_th_out, .int v_h_now_th_size])), (h_now_th_weight, .inl (cI, 12, .inl f_h_now_th_weight)), (h_now_ta_parts, .inl (cI, 6, .inl f_h_now_ta_parts)), (h_now_ta_strength, .inl (cI, 6, .inl f_h_now_ta_strength)), (h_now_ta_mast, .inl (cI, 6, .inl f_h_now_ta_mast))] H → va_D A [(h, .inr (8, [.ref sr, .ref h_now, .ref h_kept, .ref h_planner, .ref h_floating, .ref h_planks, .int v_h_keptSize])), (h_now, .inr (4, [.ref sr, .ref h_now_th, .ref h_now_ta, .ref h_now_se, .int v_h_now_hour, .int v_h_now_heel, .int v_h_now_water, .int v_h_now_pitch, .int v_h_now_boatUsed, .int v_h_now_heelWent, .int v_h_now_pitchTaken, .int v_h_now_hoursOfMen, .int v_h_now_parted, .int v_h_now_moved])), (h_now_ta, .inr (6, [.ref h_now_ta_mast, .ref h_now_ta_parts, .ref h_now_ta_strength, .int v_h_now_ta_whole_z, .int v_h_now_ta_size])), (sr, .inr (5, [.ref sr_tide, .ref sr_rain, .ref sr_rules])), (sr_rain, .inl (cZ, 96, .inl f_sr_rain)), (sr_rules, .inl (cI, 8, .inl f_sr_rules)), (h_now_th, .inr (7, [.ref h_now_th_weight, .ref h_now_th_under, .int v_h_now_th_out, .int v_h_now_th_size])), (h_now_th_weight, .inl (cI, 12, .inl f_h_now_th_weight)), (h_now_ta_parts, .inl (cI, 6, .inl f_h_now_ta_parts)), (h_now_ta_strength, .inl (cI, 6, .inl f_h_now_ta_strength)), (h_now_ta_mast, .inl (cI, 6, .inl f_h_now_ta_mast))] → va_S A s.heap H locs → narrow .int (.int r_z) = .int r_z → decode cX8_rig pc = .ok (.ireturn, 1) → W p l e rm_X8_rig s m args below meth c H locs 0 0 Q (F0 m pc ls [.int r_z]) := by
    intro r_z v_h_now_ta_whole_z hz H locs ls pc hP hD hS hn hd
    cases hz
    exact k_iret hx hb hr hlocks hn hK hP hD hS hQ rfl hd
  unfold p_X8_rig at hf
  refine lv_iload_n hx hb dX8_rig_0 rfl (lv_at hl 1 rfl) ?_
  refine lv_iconst (v := 0) hx hb dX8_rig_1 (by decide) ?_
  refine lv_aload_n hx hb dX8_rig_2 rfl (lv_at hl 0 rfl) ?_
  refine k_get (C := RX8) (T := TX8) (N := 7) hx hb hts inX8 hown hK hP 0 rfl rfl 1 (by decide) rfl wl1 rfl dX8_rig_3 ?_
  refine k_get (C := RX4) (T := TX4) (N := 14) hx hb hts inX4 hown hK hP 1 rfl rfl 2 (by decide) rfl wl2 rfl dX8_rig_6 ?_
  refine k_get (C := RX6) (T := TX6) (N := 5) hx hb hts inX6 hown hK hP 2 rfl rfl 4 (by decide) rfl wl3 rfl dX8_rig_9 ?_
  refine lv_iconst (v := 1) hx hb dX8_rig_12 (by decide) ?_
  refine lv_isub hx hb dX8_rig_13 ?_
  obtain ⟨r1, hc1, hf⟩ := k_b1_some hf
  refine k_SiR (As := [.int a1, .int 0, .int (v_h_now_ta_size - 1)]) (rest := []) S0 (c_X8_within l D cI cZ cJ cS a1 0 (v_h_now_ta_size - 1) r1 hc1) (va_cwS 3 hts gX8_rig_X8_within rfl rfl rfl hdS_X8_within ⟨Nat.le_of_ble_eq_true rfl, Nat.le_of_ble_eq_true rfl⟩) hK hP hD hS hA hN [] rfl (by decide) rfl hl.1 rfl (Nat.le_of_ble_eq_true rfl) dX8_rig_14 (fun H locs hP hS => ?_)
  refine lv_if_ne (tgt := 22) hx hb dX8_rig_17 (by decide) (fun c2 => ?_) (fun c2 => ?_)
  · replace hf := k_neg hf c2
    refine lv_aload_n hx hb dX8_rig_22 rfl (lv_at hl 0 rfl) ?_
    refine k_get (C := RX8) (T := TX8) (N := 7) hx hb hts inX8 hown hK hP 0 rfl rfl 1 (by decide) rfl wl1 rfl dX8_rig_23 ?_
    refine k_get (C := RX4) (T := TX4) (N := 14) hx hb hts inX4 hown hK hP 1 rfl rfl 2 (by decide) rfl wl2 rfl dX8_rig_26 ?_
    refine k_get (C := RX6) (T := TX6) (N := 5) hx hb hts inX6 hown hK hP 2 rfl rfl 3 (by decide) rfl wl4 rfl dX8_rig_29 ?_
    refine lv_istore_n (lv' := [(3, .int v_h_now_ta_whole), (0, .ref h), (1, .int a1), (2, .int a2)]) hx hb dX8_rig_32 rfl hl (by decide) rfl (fun ls hl => ?_)
    refine lv_aload_n hx hb dX8_rig_33 rfl (lv_at hl 1 rfl) ?_
    refine k_get (C := RX8) (T := TX8) (N := 7) hx hb hts inX8 hown hK hP 0 rfl rfl 1 (by decide) rfl wl1 rfl dX8_rig_34 ?_
    refine k_get (C := RX4) (T := TX4) (N := 14) hx hb hts inX4 hown hK hP 1 rfl rfl 2 (by decide) rfl wl2 rfl dX8_rig_37 ?_
    refine lv_iload_n hx hb dX8_rig_40 rfl (lv_at hl 3 rfl) ?_
    refine lv_if_eq (tgt := 52) hx hb dX8_rig_41 (by decide) (fun c3 => ?_) (fun c3 => ?_)
    · replace hf := k_pos hf c3
      refine lv_iload_n hx hb dX8_rig_52 rfl (lv_at hl 0 rfl) ?_
      refine lv_iconst (v := 1) hx hb dX8_rig_53 (by decide) ?_
      refine lv_iload_n hx hb dX8_rig_54 rfl (lv_at hl 2 rfl) ?_
      refine lv_ishl hx hb dX8_rig_55 ?_
      refine lv_iconst (v := (-1)) hx hb dX8_rig_56 (by decide) ?_
      refine lv_ixor hx hb dX8_rig_57 ?_
      refine lv_iand hx hb dX8_rig_58 ?_
      refine k_putf (ws2 := [(h, .inr (8, [.ref sr, .ref h_now, .ref h_kept, .ref h_planner, .ref h_floating, .ref h_planks, .int v_h_keptSize])), (h_now, .inr (4, [.ref sr, .ref h_now_th, .ref h_now_ta, .ref h_now_se, .int v_h_now_hour, .int v_h_now_heel, .int v_h_now_water, .int v_h_now_pitch, .int v_h_now_boatUsed, .int v_h_now_heelWent, .int v_h_now_pitchTaken, .int v_h_now_hoursOfMen, .int v_h_now_parted, .int v_h_now_moved])), (h_now_ta, .inr (6, [.ref h_now_ta_mast, .ref h_now_ta_parts, .ref h_now_ta_strength, .int (v_h_now_ta_whole &&& ((1 <<< (a1 &&& 31)) ^^^ (-1))), .int v_h_now_ta_size])), (sr, .inr (5, [.ref sr_tide, .ref sr_rain, .ref sr_rules])), (sr_rain, .inl (cZ, 96, .inl f_sr_rain)), (sr_rules, .inl (cI, 8, .inl f_sr_rules)), (h_now_th, .inr (7, [.ref h_now_th_weight, .ref h_now_th_under, .int v_h_now_th_out, .int v_h_now_th_size])), (h_now_th_weight, .inl (cI, 12, .inl f_h_now_th_weight)), (h_now_ta_parts, .inl (cI, 6, .inl f_h_now_ta_parts)), (h_now_ta_strength, .inl (cI, 6, .inl f_h_now_ta_strength)), (h_now_ta_mast, .inl (cI, 6, .inl f_h_now_ta_mast))]) (C := RX6) (T := TX6) (N := 5) hx hb hts inX6 tyX6 tyX6_ok nmX6 hown hK hP hD hS 2 rfl rfl 3 (by decide) rfl wl4 rfl rfl rfl (Nat.le_of_ble_eq_true rfl) rfl dX8_rig_59 (fun H locs hP hD hS => ?_)
      refine lv_aload_n hx hb dX8_rig_62 rfl (lv_at hl 1 rfl) ?_
      refine k_get (C := RX8) (T := TX8) (N := 7) hx hb hts inX8 hown hK hP 0 rfl rfl 1 (by decide) rfl wl1 rfl dX8_rig_63 ?_
      refine lv_aload_n hx hb dX8_rig_66 rfl (lv_at hl 1 rfl) ?_
      refine k_get (C := RX8) (T := TX8) (N := 7) hx hb hts inX8 hown hK hP 0 rfl rfl 1 (by decide) rfl wl1 rfl dX8_rig_67 ?_
      refine k_get (C := RX4) (T := TX4) (N := 14) hx hb hts inX4 hown hK hP 1 rfl rfl 5 (by decide) rfl wl5 rfl dX8_rig_70 ?_
      refine lv_aload_n hx hb dX8_rig_73 rfl (lv_at hl 1 rfl) ?_
      refine k_get (C := RX8) (T := TX8) (N := 7) hx hb hts inX8 hown hK hP 0 rfl rfl 0 (by decide) rfl wl6 rfl dX8_rig_74 ?_
      refine lv_aload_n hx hb dX8_rig_77 rfl (lv_at hl 1 rfl) ?_
      refine k_get (C := RX8) (T := TX8) (N := 7) hx hb hts inX8 hown hK hP 0 rfl rfl 1 (by decide) rfl wl1 rfl dX8_rig_78 ?_
      refine k_get (C := RX4) (T := TX4) (N := 14) hx hb hts inX4 hown hK hP 1 rfl rfl 4 (by decide) rfl wl7 rfl dX8_rig_81 ?_
      obtain ⟨r4, hc4, hf⟩ := k_b1_some hf
      refine k_ViR (q0 := 0) (As := [.int v_h_now_hour]) (rest := [.int v_h_now_heel, .ref h_now]) S0 (c_X5_rainsIn l D cI cZ cJ cS sr sr_tide sr_rain sr_rules f_sr_rain v_h_now_hour r4 hc4) (cwV 1 hts gX8_rig_X5_rainsIn rfl rfl rfl hdV_X5_rainsIn ⟨Nat.le_of_ble_eq_true rfl, Nat.le_of_ble_eq_true rfl⟩) hK hP hD hS hA hN [3, 4] rfl (by decide) rfl rfl rfl rfl hl.1 rfl (Nat.le_of_ble_eq_true rfl) dX8_rig_84 (fun H locs hP hS => ?_)
      obtain ⟨r5, hc5, hf⟩ := k_b1_some hf
      refine k_ViR (q0 := 0) (As := [.int v_h_now_heel, .int r4]) (rest := []) S0 (c_X4_holds l D cI cZ cJ cS h_now sr h_now_th h_now_ta h_now_se sr_tide sr_rain sr_rules h_now_th_weight h_now_th_under h_now_ta_mast h_now_ta_parts h_now_ta_strength v_h_now_hour v_h_now_heel v_h_now_water v_h_now_pitch v_h_now_boatUsed v_h_now_heelWent v_h_now_pitchTaken v_h_now_hoursOfMen v_h_now_parted v_h_now_moved f_sr_rules v_h_now_th_out v_h_now_th_size f_h_now_th_weight (v_h_now_ta_whole &&& ((1 <<< (a1 &&& 31)) ^^^ (-1))) v_h_now_ta_size f_h_now_ta_parts f_h_now_ta_strength f_h_now_ta_mast v_h_now_heel r4 r5 hc5) (cwV 2 hts gX8_rig_X4_holds rfl rfl rfl hdV_X4_holds ⟨Nat.le_of_ble_eq_true rfl, Nat.le_of_ble_eq_true rfl⟩) hK hP hD hS hA hN [1, 3, 5, 6, 7, 2, 8, 9, 10] rfl (by decide) rfl rfl rfl rfl hl.1 rfl (Nat.le_of_ble_eq_true rfl) dX8_rig_87 (fun H locs hP hS => ?_)
      refine lv_if_ne (tgt := 107) hx hb dX8_rig_90 (by decide) (fun c6 => ?_) (fun c6 => ?_)
      · replace hf := k_neg hf c6
        refine lv_iload_n hx hb dX8_rig_107 rfl (lv_at hl 0 rfl) ?_
        refine lv_iload_n hx hb dX8_rig_108 rfl (lv_at hl 2 rfl) ?_
        obtain ⟨r7, hc7, hf⟩ := k_b1_some hf
        refine k_SiR (As := [.int v_h_now_ta_whole, .int a1]) (rest := []) S0 (c_X8_hasBit l D cI cZ cJ cS v_h_now_ta_whole a1 r7 hc7) (va_cwS 2 hts gX8_rig_X8_hasBit rfl rfl rfl hdS_X8_hasBit ⟨Nat.le_of_ble_eq_true rfl, Nat.le_of_ble_eq_true rfl⟩) hK hP hD hS hA hN [] rfl (by decide) rfl hl.1 rfl (Nat.le_of_ble_eq_true rfl) dX8_rig_109 (fun H locs hP hS => ?_)
        obtain ⟨r8, hc8, hf⟩ := k_b1_some hf
        refine k_SiR (As := [.int r7]) (rest := []) S0 (c_X8_asNumber l D cI cZ cJ cS r7 r8 hc8) (va_cwS 1 hts gX8_rig_X8_asNumber rfl rfl rfl hdS_X8_asNumber ⟨Nat.le_of_ble_eq_true rfl, Nat.le_of_ble_eq_true rfl⟩) hK hP hD hS hA hN [] rfl (by decide) rfl hl.1 rfl (Nat.le_of_ble_eq_true rfl) dX8_rig_112 (fun H locs hP hS => ?_)
        exact hRet _ _ hf _ _ _ _ hP hD hS rfl dX8_rig_115
      · replace hf := k_pos hf c6
        refine lv_aload_n hx hb dX8_rig_93 rfl (lv_at hl 1 rfl) ?_
        refine k_get (C := RX8) (T := TX8) (N := 7) hx hb hts inX8 hown hK hP 0 rfl rfl 1 (by decide) rfl wl1 rfl dX8_rig_94 ?_
        refine k_get (C := RX4) (T := TX4) (N := 14) hx hb hts inX4 hown hK hP 1 rfl rfl 2 (by decide) rfl wl2 rfl dX8_rig_97 ?_
        refine lv_iload_n hx hb dX8_rig_100 rfl (lv_at hl 0 rfl) ?_
        refine k_putf (ws2 := [(h, .inr (8, [.ref sr, .ref h_now, .ref h_kept, .ref h_planner, .ref h_floating, .ref h_planks, .int v_h_keptSize])), (h_now, .inr (4, [.ref sr, .ref h_now_th, .ref h_now_ta, .ref h_now_se, .int v_h_now_hour, .int v_h_now_heel, .int v_h_now_water, .int v_h_now_pitch, .int v_h_now_boatUsed, .int v_h_now_heelWent, .int v_h_now_pitchTaken, .int v_h_now_hoursOfMen, .int v_h_now_parted, .int v_h_now_moved])), (h_now_ta, .inr (6, [.ref h_now_ta_mast, .ref h_now_ta_parts, .ref h_now_ta_strength, .int v_h_now_ta_whole, .int v_h_now_ta_size])), (sr, .inr (5, [.ref sr_tide, .ref sr_rain, .ref sr_rules])), (sr_rain, .inl (cZ, 96, .inl f_sr_rain)), (sr_rules, .inl (cI, 8, .inl f_sr_rules)), (h_now_th, .inr (7, [.ref h_now_th_weight, .ref h_now_th_under, .int v_h_now_th_out, .int v_h_now_th_size])), (h_now_th_weight, .inl (cI, 12, .inl f_h_now_th_weight)), (h_now_ta_parts, .inl (cI, 6, .inl f_h_now_ta_parts)), (h_now_ta_strength, .inl (cI, 6, .inl f_h_now_ta_strength)), (h_now_ta_mast, .inl (cI, 6, .inl f_h_now_ta_mast))]) (C := RX6) (T := TX6) (N := 5) hx hb hts inX6 tyX6 tyX6_ok nmX6 hown hK hP hD hS 2 rfl rfl 3 (by decide) rfl wl4 rfl rfl rfl (Nat.le_of_ble_eq_true rfl) rfl dX8_rig_101 (fun H locs hP hD hS => ?_)
        refine lv_bipush (v := (-2)) hx hb dX8_rig_104 (by decide) ?_
        exact hRet _ _ hf _ _ _ _ hP hD hS rfl dX8_rig_106
    · replace hf := k_neg hf c3
      refine lv_iload_n hx hb dX8_rig_44 rfl (lv_at hl 0 rfl) ?_
      refine lv_iconst (v := 1) hx hb dX8_rig_45 (by decide) ?_
      refine lv_iload_n hx hb dX8_rig_46 rfl (lv_at hl 2 rfl) ?_
      refine lv_ishl hx hb dX8_rig_47 ?_
      refine lv_ior hx hb dX8_rig_48 ?_
      refine lv_goto (tgt := 59) hx hb dX8_rig_49 (by decide) ?_
      refine k_putf (ws2 := [(h, .inr (8, [.ref sr, .ref h_now, .ref h_kept, .ref h_planner, .ref h_floating, .ref h_planks, .int v_h_keptSize])), (h_now, .inr (4, [.ref sr, .ref h_now_th, .ref h_now_ta, .ref h_now_se, .int v_h_now_hour, .int v_h_now_heel, .int v_h_now_water, .int v_h_now_pitch, .int v_h_now_boatUsed, .int v_h_now_heelWent, .int v_h_now_pitchTaken, .int v_h_now_hoursOfMen, .int v_h_now_parted, .int v_h_now_moved])), (h_now_ta, .inr (6, [.ref h_now_ta_mast, .ref h_now_ta_parts, .ref h_now_ta_strength, .int (v_h_now_ta_whole ||| (1 <<< (a1 &&& 31))), .int v_h_now_ta_size])), (sr, .inr (5, [.ref sr_tide, .ref sr_rain, .ref sr_rules])), (sr_rain, .inl (cZ, 96, .inl f_sr_rain)), (sr_rules, .inl (cI, 8, .inl f_sr_rules)), (h_now_th, .inr (7, [.ref h_now_th_weight, .ref h_now_th_under, .int v_h_now_th_out, .int v_h_now_th_size])), (h_now_th_weight, .inl (cI, 12, .inl f_h_now_th_weight)), (h_now_ta_parts, .inl (cI, 6, .inl f_h_now_ta_parts)), (h_now_ta_strength, .inl (cI, 6, .inl f_h_now_ta_strength)), (h_now_ta_mast, .inl (cI, 6, .inl f_h_now_ta_mast))]) (C := RX6) (T := TX6) (N := 5) hx hb hts inX6 tyX6 tyX6_ok nmX6 hown hK hP hD hS 2 rfl rfl 3 (by decide) rfl wl4 rfl rfl rfl (Nat.le_of_ble_eq_true rfl) rfl dX8_rig_59 (fun H locs hP hD hS => ?_)
      refine lv_aload_n hx hb dX8_rig_62 rfl (lv_at hl 1 rfl) ?_
      refine k_get (C := RX8) (T := TX8) (N := 7) hx hb hts inX8 hown hK hP 0 rfl rfl 1 (by decide) rfl wl1 rfl dX8_rig_63 ?_
      refine lv_aload_n hx hb dX8_rig_66 rfl (lv_at hl 1 rfl) ?_
      refine k_get (C := RX8) (T := TX8) (N := 7) hx hb hts inX8 hown hK hP 0 rfl rfl 1 (by decide) rfl wl1 rfl dX8_rig_67 ?_
      refine k_get (C := RX4) (T := TX4) (N := 14) hx hb hts inX4 hown hK hP 1 rfl rfl 5 (by decide) rfl wl5 rfl dX8_rig_70 ?_
      refine lv_aload_n hx hb dX8_rig_73 rfl (lv_at hl 1 rfl) ?_
      refine k_get (C := RX8) (T := TX8) (N := 7) hx hb hts inX8 hown hK hP 0 rfl rfl 0 (by decide) rfl wl6 rfl dX8_rig_74 ?_
      refine lv_aload_n hx hb dX8_rig_77 rfl (lv_at hl 1 rfl) ?_
      refine k_get (C := RX8) (T := TX8) (N := 7) hx hb hts inX8 hown hK hP 0 rfl rfl 1 (by decide) rfl wl1 rfl dX8_rig_78 ?_
      refine k_get (C := RX4) (T := TX4) (N := 14) hx hb hts inX4 hown hK hP 1 rfl rfl 4 (by decide) rfl wl7 rfl dX8_rig_81 ?_
      obtain ⟨r9, hc9, hf⟩ := k_b1_some hf
      refine k_ViR (q0 := 0) (As := [.int v_h_now_hour]) (rest := [.int v_h_now_heel, .ref h_now]) S0 (c_X5_rainsIn l D cI cZ cJ cS sr sr_tide sr_rain sr_rules f_sr_rain v_h_now_hour r9 hc9) (cwV 1 hts gX8_rig_X5_rainsIn rfl rfl rfl hdV_X5_rainsIn ⟨Nat.le_of_ble_eq_true rfl, Nat.le_of_ble_eq_true rfl⟩) hK hP hD hS hA hN [3, 4] rfl (by decide) rfl rfl rfl rfl hl.1 rfl (Nat.le_of_ble_eq_true rfl) dX8_rig_84 (fun H locs hP hS => ?_)
      obtain ⟨r10, hc10, hf⟩ := k_b1_some hf
      refine k_ViR (q0 := 0) (As := [.int v_h_now_heel, .int r9]) (rest := []) S0 (c_X4_holds l D cI cZ cJ cS h_now sr h_now_th h_now_ta h_now_se sr_tide sr_rain sr_rules h_now_th_weight h_now_th_under h_now_ta_mast h_now_ta_parts h_now_ta_strength v_h_now_hour v_h_now_heel v_h_now_water v_h_now_pitch v_h_now_boatUsed v_h_now_heelWent v_h_now_pitchTaken v_h_now_hoursOfMen v_h_now_parted v_h_now_moved f_sr_rules v_h_now_th_out v_h_now_th_size f_h_now_th_weight (v_h_now_ta_whole ||| (1 <<< (a1 &&& 31))) v_h_now_ta_size f_h_now_ta_parts f_h_now_ta_strength f_h_now_ta_mast v_h_now_heel r9 r10 hc10) (cwV 2 hts gX8_rig_X4_holds rfl rfl rfl hdV_X4_holds ⟨Nat.le_of_ble_eq_true rfl, Nat.le_of_ble_eq_true rfl⟩) hK hP hD hS hA hN [1, 3, 5, 6, 7, 2, 8, 9, 10] rfl (by decide) rfl rfl rfl rfl hl.1 rfl (Nat.le_of_ble_eq_true rfl) dX8_rig_87 (fun H locs hP hS => ?_)
      refine lv_if_ne (tgt := 107) hx hb dX8_rig_90 (by decide) (fun c11 => ?_) (fun c11 => ?_)
      · replace hf := k_neg hf c11
        refine lv_iload_n hx hb dX8_rig_107 rfl (lv_at hl 0 rfl) ?_
        refine lv_iload_n hx hb dX8_rig_108 rfl (lv_at hl 2 rfl) ?_
        obtain ⟨r12, hc12, hf⟩ := k_b1_some hf
        refine k_SiR (As := [.int v_h_now_ta_whole, .int a1]) (rest := []) S0 (c_X8_hasBit l D cI cZ cJ cS v_h_now_ta_whole a1 r12 hc12) (va_cwS 2 hts gX8_rig_X8_hasBit rfl rfl rfl hdS_X8_hasBit ⟨Nat.le_of_ble_eq_true rfl, Nat.le_of_ble_eq_true rfl⟩) hK hP hD hS hA hN [] rfl (by decide) rfl hl.1 rfl (Nat.le_of_ble_eq_true rfl) dX8_rig_109 (fun H locs hP hS => ?_)
        obtain ⟨r13, hc13, hf⟩ := k_b1_some hf
        refine k_SiR (As := [.int r12]) (rest := []) S0 (c_X8_asNumber l D cI cZ cJ cS r12 r13 hc13) (va_cwS 1 hts gX8_rig_X8_asNumber rfl rfl rfl hdS_X8_asNumber ⟨Nat.le_of_ble_eq_true rfl, Nat.le_of_ble_eq_true rfl⟩) hK hP hD hS hA hN [] rfl (by decide) rfl hl.1 rfl (Nat.le_of_ble_eq_true rfl) dX8_rig_112 (fun H locs hP hS => ?_)
        exact hRet _ _ hf _ _ _ _ hP hD hS rfl dX8_rig_115
      · replace hf := k_pos hf c11
        refine lv_aload_n hx hb dX8_rig_93 rfl (lv_at hl 1 rfl) ?_
        refine k_get (C := RX8) (T := TX8) (N := 7) hx hb hts inX8 hown hK hP 0 rfl rfl 1 (by decide) rfl wl1 rfl dX8_rig_94 ?_
        refine k_get (C := RX4) (T := TX4) (N := 14) hx hb hts inX4 hown hK hP 1 rfl rfl 2 (by decide) rfl wl2 rfl dX8_rig_97 ?_
        refine lv_iload_n hx hb dX8_rig_100 rfl (lv_at hl 0 rfl) ?_
        refine k_putf (ws2 := [(h, .inr (8, [.ref sr, .ref h_now, .ref h_kept, .ref h_planner, .ref h_floating, .ref h_planks, .int v_h_keptSize])), (h_now, .inr (4, [.ref sr, .ref h_now_th, .ref h_now_ta, .ref h_now_se, .int v_h_now_hour, .int v_h_now_heel, .int v_h_now_water, .int v_h_now_pitch, .int v_h_now_boatUsed, .int v_h_now_heelWent, .int v_h_now_pitchTaken, .int v_h_now_hoursOfMen, .int v_h_now_parted, .int v_h_now_moved])), (h_now_ta, .inr (6, [.ref h_now_ta_mast, .ref h_now_ta_parts, .ref h_now_ta_strength, .int v_h_now_ta_whole, .int v_h_now_ta_size])), (sr, .inr (5, [.ref sr_tide, .ref sr_rain, .ref sr_rules])), (sr_rain, .inl (cZ, 96, .inl f_sr_rain)), (sr_rules, .inl (cI, 8, .inl f_sr_rules)), (h_now_th, .inr (7, [.ref h_now_th_weight, .ref h_now_th_under, .int v_h_now_th_out, .int v_h_now_th_size])), (h_now_th_weight, .inl (cI, 12, .inl f_h_now_th_weight)), (h_now_ta_parts, .inl (cI, 6, .inl f_h_now_ta_parts)), (h_now_ta_strength, .inl (cI, 6, .inl f_h_now_ta_strength)), (h_now_ta_mast, .inl (cI, 6, .inl f_h_now_ta_mast))]) (C := RX6) (T := TX6) (N := 5) hx hb hts inX6 tyX6 tyX6_ok nmX6 hown hK hP hD hS 2 rfl rfl 3 (by decide) rfl wl4 rfl rfl rfl (Nat.le_of_ble_eq_true rfl) rfl dX8_rig_101 (fun H locs hP hD hS => ?_)
        refine lv_bipush (v := (-2)) hx hb dX8_rig_104 (by decide) ?_
        exact hRet _ _ hf _ _ _ _ hP hD hS rfl dX8_rig_106
  · replace hf := k_pos hf c2
    refine lv_iconst (v := (-1)) hx hb dX8_rig_20 (by decide) ?_
    exact hRet _ _ hf _ _ _ _ hP hD hS rfl dX8_rig_21

