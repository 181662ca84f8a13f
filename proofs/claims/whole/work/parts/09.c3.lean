def lb_X0_firstHour_23 (v_h_hour : Int32) (f_sr_tide : Nat → Int32) (r2 : Int32) (x5_12 : Int32) : Option ((Int32) ⊕ (Int32)) :=
  if v_h_hour ≤ x5_12 then
    some (.inr x5_12)
  else
    k_b1 (p_X5_tideIn f_sr_tide x5_12) fun r14 =>
    if r2 ≤ r14 then
      some (.inr x5_12)
    else
      some (.inl (x5_12 + 1))
def p_X0_firstHour (v_h_hour : Int32) (f_sr_rules : Nat → Int32) (f_sr_tide : Nat → Int32) (a2 : Int32) (a3 : Int32) : Option (Int32) :=
  if (f_sr_rules 2) ≤ a2 then
    k_b1 (p_X5_tideNeeded f_sr_rules a2) fun r2 =>
    k_b1 (k_lp (fun s => lb_X0_firstHour_23 v_h_hour f_sr_tide r2 s) k_fuel a3) fun x5_11 =>
    some x5_11
  else
    some 96
abbrev rm_X0_firstHour : Room := { frames := 2, cells := 0, slots := 0, locals := 45 }
theorem hdS_X0_firstHour : yX0_firstHour.cls ≠ "java/lang/invoke/MethodHandle" ∧ yX0_firstHour.cls ≠ "java/lang/invoke/VarHandle" ∧ (parseMethodDescriptor yX0_firstHour.desc).map (fun d => d.parameters.length) = some 3 := by decide +kernel
theorem hdV_X0_firstHour : yX0_firstHour.cls = RX0 ∧ yX0_firstHour.cls ≠ "java/lang/invoke/MethodHandle" ∧ yX0_firstHour.cls ≠ "java/lang/invoke/VarHandle" ∧ (parseMethodDescriptor yX0_firstHour.desc).map (fun d => d.parameters.length) = some 3 := by decide +kernel
set_option maxHeartbeats 4000000 in
set_option maxRecDepth 100000 in
theorem c_X0_firstHour (l : Launch) (D : va_G) (cI cZ cJ cS : ClassId) (h h_trial sr sr_tide sr_rain sr_rules : Nat) (v_h_hour : Int32) (v_h_things : Int32) (v_h_shut : Int32) (f_sr_rules : Nat → Int32) (f_sr_tide : Nat → Int32) (a2 : Int32) (a3 : Int32) (r : Int32) (hf : p_X0_firstHour v_h_hour f_sr_rules f_sr_tide a2 a3 = some r) : k_MI l yX0_firstHour wsX0_firstHour rm_X0_firstHour D (k_tys cI cZ cJ cS) [.ref h, .ref sr, .int a2, .int a3] [(h, .inr (0, [.ref h_trial, .int v_h_hour, .int v_h_things, .int v_h_shut])), (sr, .inr (5, [.ref sr_tide, .ref sr_rain, .ref sr_rules])), (sr_rules, .inl (cI, 8, .inl f_sr_rules)), (sr_tide, .inl (cI, 96, .inl f_sr_tide))] [(h, .inr (0, [.ref h_trial, .int v_h_hour, .int v_h_things, .int v_h_shut])), (sr, .inr (5, [.ref sr_tide, .ref sr_rain, .ref sr_rules])), (sr_rules, .inl (cI, 8, .inl f_sr_rules)), (sr_tide, .inl (cI, 96, .inl f_sr_tide))] r := by
  refine k_enter (y := yX0_firstHour) (wl := wsX0_firstHour) (rm := rm_X0_firstHour) (av := [.ref h, .ref sr, .int a2, .int a3]) (D := D) (tys := k_tys cI cZ cJ cS) (ws := [(h, .inr (0, [.ref h_trial, .int v_h_hour, .int v_h_things, .int v_h_shut])), (sr, .inr (5, [.ref sr_tide, .ref sr_rain, .ref sr_rules])), (sr_rules, .inl (cI, 8, .inl f_sr_rules)), (sr_tide, .inl (cI, 96, .inl f_sr_tide))]) (cc := cX0_firstHour) (maxL := 6) (ret := (some .int)) (Qc := fun A => k_Qi D (k_tys cI cZ cJ cS) [(h, .inr (0, [.ref h_trial, .int v_h_hour, .int v_h_things, .int v_h_shut])), (sr, .inr (5, [.ref sr_tide, .ref sr_rain, .ref sr_rules])), (sr_rules, .inl (cI, 8, .inl f_sr_rules)), (sr_tide, .inl (cI, 96, .inl f_sr_tide))] A r) (by decide) rfl (Nat.le_of_ble_eq_true rfl) [(0, .ref h), (1, .ref sr), (2, .int a2), (3, .int a3)] rfl ?_
  intro p e s m below meth c A hx hb hml hr hlocks hnm hown hK hP hD hA hS hN ls args Q hts hl hQ
  replace hown : s.vm.findClass RX0 = some m.cls := hown
  have S0 : CallFix p m c cX0_firstHour 6 s args wsX0_firstHour RX0 := ⟨hx, hb, hml, hown, hts⟩
  have inX5 : ∀ w ∈ u_ws RX5 TX5 3, w ∈ wsX0_firstHour := fun w h => List.mem_cons_of_mem _ (List.mem_append_left _ (List.mem_append_right _ h))
  have inX0 : ∀ w ∈ u_ws RX0 TX0 4, w ∈ wsX0_firstHour := fun w h => List.mem_cons_of_mem _ (List.mem_append_right _ h)
  have wl1 : (Cond.fieldLink RX0 105 "BeachedShip$Shore" "rules" "[I").before args s = true := hts _ (List.mem_of_getElem? (i := 1) rfl)
  have wl2 : (Cond.fieldLink RX0 58 "BeachedShip$Floating" "hour" "I").before args s = true := hts _ (List.mem_of_getElem? (i := 2) rfl)
  have hRet : ∀ (r_z : Int32), some r_z = some r → ∀ (H : Heap) (locs : List Loc) (ls : Array Slot) (pc : Nat), va_P D vwCl [(h, .inr (0, [.ref h_trial, .int v_h_hour, .int v_h_things, .int v_h_shut])), (sr, .inr (5, [.ref sr_tide, .ref sr_rain, .ref sr_rules])), (sr_rules, .inl (cI, 8, .inl f_sr_rules)), (sr_tide, .inl (cI, 96, .inl f_sr_tide))] H → va_D A [(h, .inr (0, [.ref h_trial, .int v_h_hour, .int v_h_things, .int v_h_shut])), (sr, .inr (5, [.ref sr_tide, .ref sr_rain, .ref sr_rules])), (sr_rules, .inl (cI, 8, .inl f_sr_rules)), (sr_tide, .inl (cI, 96, .inl f_sr_tide))] → va_S A s.heap H locs → narrow .int (.int r_z) = .int r_z → decode cX0_firstHour pc = .ok (.ireturn, 1) → W p l e rm_X0_firstHour s m args below meth c H locs 0 0 Q (F0 m pc ls [.int r_z]) := by
    intro r_z hz H locs ls pc hP hD hS hn hd
    cases hz
    exact k_iret hx hb hr hlocks hn hK hP hD hS hQ rfl hd
  unfold p_X0_firstHour at hf
  refine lv_iload_n hx hb dX0_firstHour_0 rfl (lv_at hl 2 rfl) ?_
  refine lv_aload_n hx hb dX0_firstHour_1 rfl (lv_at hl 1 rfl) ?_
  refine k_get (C := RX5) (T := TX5) (N := 3) hx hb hts inX5 hown hK hP 1 rfl rfl 2 (by decide) rfl wl1 rfl dX0_firstHour_2 ?_
  refine lv_iconst (v := 2) hx hb dX0_firstHour_5 (by decide) ?_
  refine k_iald (k := 2) hx hb hK hP 2 0 rfl rfl (by unfold vp_in; decide) (by decide) dX0_firstHour_6 ?_
  refine lv_icmp_ge (tgt := 13) hx hb dX0_firstHour_7 (by decide) (fun c1 => ?_) (fun c1 => ?_)
  · replace hf := k_pos hf c1
    refine lv_aload_n hx hb dX0_firstHour_13 rfl (lv_at hl 1 rfl) ?_
    refine lv_iload_n hx hb dX0_firstHour_14 rfl (lv_at hl 2 rfl) ?_
    obtain ⟨r2, hc2, hf⟩ := k_b1_some hf
    refine k_ViR (q0 := 0) (As := [.int a2]) (rest := []) S0 (c_X5_tideNeeded l D cI cZ cJ cS sr sr_tide sr_rain sr_rules f_sr_rules a2 r2 hc2) (cwV 1 hts gX0_firstHour_X5_tideNeeded rfl rfl rfl hdV_X5_tideNeeded ⟨Nat.le_of_ble_eq_true rfl, Nat.le_of_ble_eq_true rfl⟩) hK hP hD hS hA hN [1, 2] rfl (by decide) rfl rfl rfl rfl hl.1 rfl (Nat.le_of_ble_eq_true rfl) dX0_firstHour_15 (fun H locs hP hS => ?_)
    refine lv_istore (lv' := [(4, .int r2), (0, .ref h), (1, .ref sr), (2, .int a2), (3, .int a3)]) hx hb dX0_firstHour_18 hl (by decide) rfl (fun ls hl => ?_)
    refine lv_iload_n hx hb dX0_firstHour_20 rfl (lv_at hl 4 rfl) ?_
    refine lv_istore (lv' := [(5, .int a3), (4, .int r2), (0, .ref h), (1, .ref sr), (2, .int a2), (3, .int a3)]) hx hb dX0_firstHour_21 hl (by decide) rfl (fun ls hl => ?_)
    obtain ⟨ee10, hlp10, hfr10⟩ := k_b1_ee hf
    have hE10 : ∀ (x5_11 : Int32), ee10 = x5_11 → ∀ (H : Heap) (locs : List Loc) (ls : Array Slot), va_P D vwCl [(h, .inr (0, [.ref h_trial, .int v_h_hour, .int v_h_things, .int v_h_shut])), (sr, .inr (5, [.ref sr_tide, .ref sr_rain, .ref sr_rules])), (sr_rules, .inl (cI, 8, .inl f_sr_rules)), (sr_tide, .inl (cI, 96, .inl f_sr_tide))] H → va_D A [(h, .inr (0, [.ref h_trial, .int v_h_hour, .int v_h_things, .int v_h_shut])), (sr, .inr (5, [.ref sr_tide, .ref sr_rain, .ref sr_rules])), (sr_rules, .inl (cI, 8, .inl f_sr_rules)), (sr_tide, .inl (cI, 96, .inl f_sr_tide))] → va_S A s.heap H locs → lv_has ls 6 [(5, .int x5_11)] → W p l e rm_X0_firstHour s m args below meth c H locs 0 0 Q (F0 m 49 ls []) := by
      intro x5_11 he H locs ls hP hD hS hl
      replace hf := hfr10 x5_11 he
      refine lv_iload hx hb dX0_firstHour_49 (lv_at hl 0 rfl) ?_
      exact hRet _ hf _ _ _ _ hP hD hS rfl dX0_firstHour_51
    refine (k_lp_ind (fun sx10 => ∀ (H : Heap) (locs : List Loc) (ls : Array Slot), va_P D vwCl [(h, .inr (0, [.ref h_trial, .int v_h_hour, .int v_h_things, .int v_h_shut])), (sr, .inr (5, [.ref sr_tide, .ref sr_rain, .ref sr_rules])), (sr_rules, .inl (cI, 8, .inl f_sr_rules)), (sr_tide, .inl (cI, 96, .inl f_sr_tide))] H → va_D A [(h, .inr (0, [.ref h_trial, .int v_h_hour, .int v_h_things, .int v_h_shut])), (sr, .inr (5, [.ref sr_tide, .ref sr_rain, .ref sr_rules])), (sr_rules, .inl (cI, 8, .inl f_sr_rules)), (sr_tide, .inl (cI, 96, .inl f_sr_tide))] → va_S A s.heap H locs → lv_has ls 6 [(5, .int sx10), (4, .int r2), (0, .ref h), (1, .ref sr)] → W p l e rm_X0_firstHour s m args below meth c H locs 0 0 Q (F0 m 23 ls [])) (fun sx10 X10 hX10 hin10 hout10 => ?_) _ _ hlp10) _ _ _ hP hD hS (lv_sub hl [0, 1, 2, 3] rfl)
    obtain ⟨x5_12, rfl⟩ : ∃ z, z = sx10 := ⟨_, rfl⟩
    intro H locs ls hP hD hS hl
    replace hP : va_P D vwCl [(h, .inr (0, [.ref h_trial, .int v_h_hour, .int v_h_things, .int v_h_shut])), (sr, .inr (5, [.ref sr_tide, .ref sr_rain, .ref sr_rules])), (sr_rules, .inl (cI, 8, .inl f_sr_rules)), (sr_tide, .inl (cI, 96, .inl f_sr_tide))] H := hP
    replace hD : va_D A [(h, .inr (0, [.ref h_trial, .int v_h_hour, .int v_h_things, .int v_h_shut])), (sr, .inr (5, [.ref sr_tide, .ref sr_rain, .ref sr_rules])), (sr_rules, .inl (cI, 8, .inl f_sr_rules)), (sr_tide, .inl (cI, 96, .inl f_sr_tide))] := hD
    replace hl : lv_has ls 6 [(5, .int x5_12), (4, .int r2), (0, .ref h), (1, .ref sr)] := hl
    replace hX10 : lb_X0_firstHour_23 v_h_hour f_sr_tide r2 x5_12 = some X10 := hX10
    unfold lb_X0_firstHour_23 at hX10
    refine lv_iload hx hb dX0_firstHour_23 (lv_at hl 0 rfl) ?_
    refine lv_aload_n hx hb dX0_firstHour_25 rfl (lv_at hl 2 rfl) ?_
    refine k_get (C := RX0) (T := TX0) (N := 4) hx hb hts inX0 hown hK hP 0 rfl rfl 1 (by decide) rfl wl2 rfl dX0_firstHour_26 ?_
    refine lv_icmp_ge (tgt := 49) hx hb dX0_firstHour_29 (by decide) (fun c13 => ?_) (fun c13 => ?_)
    · replace hX10 := k_pos hX10 c13
      exact hE10 _ (hout10 _ (Option.some.inj hX10).symm).symm _ _ _ hP hD hS (lv_sub hl [0] rfl)
    · replace hX10 := k_neg hX10 c13
      refine lv_aload_n hx hb dX0_firstHour_32 rfl (lv_at hl 3 rfl) ?_
      refine lv_iload hx hb dX0_firstHour_33 (lv_at hl 0 rfl) ?_
      obtain ⟨r14, hc14, hX10⟩ := k_b1_some hX10
      refine k_ViR (q0 := 0) (As := [.int x5_12]) (rest := []) S0 (c_X5_tideIn l D cI cZ cJ cS sr sr_tide sr_rain sr_rules f_sr_tide x5_12 r14 hc14) (cwV 1 hts gX0_firstHour_X5_tideIn rfl rfl rfl hdV_X5_tideIn ⟨Nat.le_of_ble_eq_true rfl, Nat.le_of_ble_eq_true rfl⟩) hK hP hD hS hA hN [1, 3] rfl (by decide) rfl rfl rfl rfl hl.1 rfl (Nat.le_of_ble_eq_true rfl) dX0_firstHour_35 (fun H locs hP hS => ?_)
      refine lv_iload hx hb dX0_firstHour_38 (lv_at hl 1 rfl) ?_
      refine lv_icmp_ge (tgt := 49) hx hb dX0_firstHour_40 (by decide) (fun c15 => ?_) (fun c15 => ?_)
      · replace hX10 := k_pos hX10 c15
        exact hE10 _ (hout10 _ (Option.some.inj hX10).symm).symm _ _ _ hP hD hS (lv_sub hl [0] rfl)
      · replace hX10 := k_neg hX10 c15
        refine lv_iinc (v := x5_12 + 1) (lv' := [(5, .int (x5_12 + 1)), (4, .int r2), (0, .ref h), (1, .ref sr)]) hx hb dX0_firstHour_43 hl (k := 0) rfl rfl (by decide) rfl (fun ls hl => ?_)
        refine lv_goto (tgt := 23) hx hb dX0_firstHour_46 (by decide) ?_
        exact hin10 (x5_12 + 1) (Option.some.inj hX10).symm _ _ _ hP hD hS (lv_sub hl [0, 1, 2, 3] rfl)
  · replace hf := k_neg hf c1
    refine lv_bipush (v := 96) hx hb dX0_firstHour_10 (by decide) ?_
    exact hRet _ hf _ _ _ _ hP hD hS rfl dX0_firstHour_12

def p_X0_takeIfSooner (v_h_hour : Int32) (v_h_things : Int32) (a1 : Int32) (a2 : Int32) : Option (Int32 × Int32) :=
  if v_h_hour ≤ a2 then
    some (v_h_hour, v_h_things)
  else
    some (a2, a1)
abbrev rm_X0_takeIfSooner : Room := { frames := 0, cells := 0, slots := 0, locals := 0 }
theorem hdS_X0_takeIfSooner : yX0_takeIfSooner.cls ≠ "java/lang/invoke/MethodHandle" ∧ yX0_takeIfSooner.cls ≠ "java/lang/invoke/VarHandle" ∧ (parseMethodDescriptor yX0_takeIfSooner.desc).map (fun d => d.parameters.length) = some 2 := by decide +kernel
theorem hdV_X0_takeIfSooner : yX0_takeIfSooner.cls = RX0 ∧ yX0_takeIfSooner.cls ≠ "java/lang/invoke/MethodHandle" ∧ yX0_takeIfSooner.cls ≠ "java/lang/invoke/VarHandle" ∧ (parseMethodDescriptor yX0_takeIfSooner.desc).map (fun d => d.parameters.length) = some 2 := by decide +kernel
set_option maxHeartbeats 4000000 in
set_option maxRecDepth 100000 in
theorem c_X0_takeIfSooner (l : Launch) (D : va_G) (cI cZ cJ cS : ClassId) (h h_trial : Nat) (v_h_hour : Int32) (v_h_things : Int32) (v_h_shut : Int32) (a1 : Int32) (a2 : Int32) (v_h_hour' : Int32) (v_h_things' : Int32) (hf : p_X0_takeIfSooner v_h_hour v_h_things a1 a2 = some (v_h_hour', v_h_things')) : k_MV l yX0_takeIfSooner wsX0_takeIfSooner rm_X0_takeIfSooner D (k_tys cI cZ cJ cS) [.ref h, .int a1, .int a2] [(h, .inr (0, [.ref h_trial, .int v_h_hour, .int v_h_things, .int v_h_shut]))] [(h, .inr (0, [.ref h_trial, .int v_h_hour', .int v_h_things', .int v_h_shut]))] := by
  refine k_enter (y := yX0_takeIfSooner) (wl := wsX0_takeIfSooner) (rm := rm_X0_takeIfSooner) (av := [.ref h, .int a1, .int a2]) (D := D) (tys := k_tys cI cZ cJ cS) (ws := [(h, .inr (0, [.ref h_trial, .int v_h_hour, .int v_h_things, .int v_h_shut]))]) (cc := cX0_takeIfSooner) (maxL := 3) (ret := none) (Qc := fun A => k_Qv D (k_tys cI cZ cJ cS) [(h, .inr (0, [.ref h_trial, .int v_h_hour', .int v_h_things', .int v_h_shut]))] A) (by decide) rfl (Nat.le_of_ble_eq_true rfl) [(0, .ref h), (1, .int a1), (2, .int a2)] rfl ?_
  intro p e s m below meth c A hx hb hml hr hlocks hnm hown hK hP hD hA hS hN ls args Q hts hl hQ
  replace hown : s.vm.findClass RX0 = some m.cls := hown
  have inX0 : ∀ w ∈ u_ws RX0 TX0 4, w ∈ wsX0_takeIfSooner := fun w h => List.mem_cons_of_mem _ (List.mem_append_right _ h)
  have wl1 : (Cond.fieldLink RX0 58 "BeachedShip$Floating" "hour" "I").before args s = true := hts _ (List.mem_of_getElem? (i := 1) rfl)
  have wl2 : (Cond.fieldLink RX0 103 "BeachedShip$Floating" "things" "I").before args s = true := hts _ (List.mem_of_getElem? (i := 2) rfl)
  have hRet : ∀ (v_h_hour_z : Int32) (v_h_things_z : Int32), some (v_h_hour_z, v_h_things_z) = some (v_h_hour', v_h_things') → ∀ (H : Heap) (locs : List Loc) (ls : Array Slot) (pc : Nat), va_P D vwCl [(h, .inr (0, [.ref h_trial, .int v_h_hour_z, .int v_h_things_z, .int v_h_shut]))] H → va_D A [(h, .inr (0, [.ref h_trial, .int v_h_hour_z, .int v_h_things_z, .int v_h_shut]))] → va_S A s.heap H locs → decode cX0_takeIfSooner pc = .ok (.return_, 1) → W p l e rm_X0_takeIfSooner s m args below meth c H locs 0 0 Q (F0 m pc ls []) := by
    intro v_h_hour_z v_h_things_z hz H locs ls pc hP hD hS hd
    cases hz
    exact k_vret hx hb hr hlocks hK hP hD hS hQ hd
  unfold p_X0_takeIfSooner at hf
  refine lv_iload_n hx hb dX0_takeIfSooner_0 rfl (lv_at hl 2 rfl) ?_
  refine lv_aload_n hx hb dX0_takeIfSooner_1 rfl (lv_at hl 0 rfl) ?_
  refine k_get (C := RX0) (T := TX0) (N := 4) hx hb hts inX0 hown hK hP 0 rfl rfl 1 (by decide) rfl wl1 rfl dX0_takeIfSooner_2 ?_
  refine lv_icmp_ge (tgt := 18) hx hb dX0_takeIfSooner_5 (by decide) (fun c1 => ?_) (fun c1 => ?_)
  · replace hf := k_pos hf c1
    exact hRet _ _ hf _ _ _ _ hP hD hS dX0_takeIfSooner_18
  · replace hf := k_neg hf c1
    refine lv_aload_n hx hb dX0_takeIfSooner_8 rfl (lv_at hl 0 rfl) ?_
    refine lv_iload_n hx hb dX0_takeIfSooner_9 rfl (lv_at hl 2 rfl) ?_
    refine k_putf (ws2 := [(h, .inr (0, [.ref h_trial, .int a2, .int v_h_things, .int v_h_shut]))]) (C := RX0) (T := TX0) (N := 4) hx hb hts inX0 tyX0 tyX0_ok nmX0 hown hK hP hD hS 0 rfl rfl 1 (by decide) rfl wl1 rfl rfl rfl (Nat.le_of_ble_eq_true rfl) rfl dX0_takeIfSooner_10 (fun H locs hP hD hS => ?_)
    refine lv_aload_n hx hb dX0_takeIfSooner_13 rfl (lv_at hl 0 rfl) ?_
    refine lv_iload_n hx hb dX0_takeIfSooner_14 rfl (lv_at hl 1 rfl) ?_
    refine k_putf (ws2 := [(h, .inr (0, [.ref h_trial, .int a2, .int a1, .int v_h_shut]))]) (C := RX0) (T := TX0) (N := 4) hx hb hts inX0 tyX0 tyX0_ok nmX0 hown hK hP hD hS 0 rfl rfl 2 (by decide) rfl wl2 rfl rfl rfl (Nat.le_of_ble_eq_true rfl) rfl dX0_takeIfSooner_15 (fun H locs hP hD hS => ?_)
    exact hRet _ _ hf _ _ _ _ hP hD hS dX0_takeIfSooner_18

def lb_X0_findLeast_40 (r2 : Int32) (v_o1_th_out : Int32) (v_o1_th_size : Int32) (f_o1_th_under : Nat → Int32) (f_o1_th_weight : Nat → Int32) (f_sr_rules : Nat → Int32) (f_sr_tide : Nat → Int32) (r1 : Int32) (a2 : Int32) (v_o1_hour : Int32) (x6_26 : Int32) (x7_27 : Int32) (c_h_hour_28 : Int32) (c_h_things_29 : Int32) : Option ((Int32 × Int32 × Int32 × Int32) ⊕ (Int32 × Int32)) :=
  if (1 <<< ((if 8 < r2 then 8 else r2) &&& 31)) ≤ x7_27 then
    some (.inr (c_h_hour_28, c_h_things_29))
  else
    k_b1 (p_X7_mayComeIn v_o1_th_out v_o1_th_size f_o1_th_under x6_26) fun r31 =>
    if r31 = 0 then
      some (.inl ((x6_26 - v_o1_th_out) &&& v_o1_th_out, x7_27 + 1, c_h_hour_28, c_h_things_29))
    else
      k_b1 (p_J6_bitCount_0f7a4 x6_26) fun r33 =>
      k_b1 (p_X7_weightOf v_o1_th_size f_o1_th_weight x6_26) fun r34 =>
      k_b1 (p_X0_firstHour c_h_hour_28 f_sr_rules f_sr_tide (r1 + r34) (if a2 < (v_o1_hour + r33) then (v_o1_hour + r33) else a2)) fun r35 =>
      k_b2 (p_X0_takeIfSooner c_h_hour_28 c_h_things_29 x6_26 r35) fun w_h_hour_36 w_h_things_37 =>
      some (.inl ((x6_26 - v_o1_th_out) &&& v_o1_th_out, x7_27 + 1, w_h_hour_36, w_h_things_37))
def p_X0_findLeast (v_h_things : Int32) (v_o1_hour : Int32) (f_sr_rules : Nat → Int32) (v_o1_th_out : Int32) (v_o1_th_size : Int32) (f_o1_th_weight : Nat → Int32) (f_o1_th_under : Nat → Int32) (f_sr_tide : Nat → Int32) (a2 : Int32) : Option (Int32 × Int32) :=
  k_b1 (p_X4_total f_sr_rules v_o1_th_out v_o1_th_size f_o1_th_weight) fun r1 =>
  k_b1 (p_J6_bitCount_0f7a4 v_o1_th_out) fun r2 =>
  k_b2 (k_lp (fun s => lb_X0_findLeast_40 r2 v_o1_th_out v_o1_th_size f_o1_th_under f_o1_th_weight f_sr_rules f_sr_tide r1 a2 v_o1_hour s.1 s.2.1 s.2.2.1 s.2.2.2) k_fuel (0, 0, 96, v_h_things)) fun c_h_hour_24 c_h_things_25 =>
  some (c_h_hour_24, c_h_things_25)
abbrev rm_X0_findLeast : Room := { frames := 3, cells := 0, slots := 0, locals := 70 }
theorem hdS_X0_findLeast : yX0_findLeast.cls ≠ "java/lang/invoke/MethodHandle" ∧ yX0_findLeast.cls ≠ "java/lang/invoke/VarHandle" ∧ (parseMethodDescriptor yX0_findLeast.desc).map (fun d => d.parameters.length) = some 2 := by decide +kernel
theorem hdV_X0_findLeast : yX0_findLeast.cls = RX0 ∧ yX0_findLeast.cls ≠ "java/lang/invoke/MethodHandle" ∧ yX0_findLeast.cls ≠ "java/lang/invoke/VarHandle" ∧ (parseMethodDescriptor yX0_findLeast.desc).map (fun d => d.parameters.length) = some 2 := by decide +kernel
set_option maxHeartbeats 4000000 in
set_option maxRecDepth 100000 in
theorem c_X0_findLeast (l : Launch) (D : va_G) (cI cZ cJ cS : ClassId) (h h_trial o1 sr o1_th o1_ta o1_se sr_tide sr_rain sr_rules o1_th_weight o1_th_under : Nat) (v_h_hour : Int32) (v_h_things : Int32) (v_h_shut : Int32) (v_o1_hour : Int32) (v_o1_heel : Int32) (v_o1_water : Int32) (v_o1_pitch : Int32) (v_o1_boatUsed : Int32) (v_o1_heelWent : Int32) (v_o1_pitchTaken : Int32) (v_o1_hoursOfMen : Int32) (v_o1_parted : Int32) (v_o1_moved : Int32) (f_sr_rules : Nat → Int32) (v_o1_th_out : Int32) (v_o1_th_size : Int32) (f_o1_th_weight : Nat → Int32) (f_o1_th_under : Nat → Int32) (f_sr_tide : Nat → Int32) (a2 : Int32) (v_h_hour' : Int32) (v_h_things' : Int32) (hf : p_X0_findLeast v_h_things v_o1_hour f_sr_rules v_o1_th_out v_o1_th_size f_o1_th_weight f_o1_th_under f_sr_tide a2 = some (v_h_hour', v_h_things')) : k_MV l yX0_findLeast wsX0_findLeast rm_X0_findLeast D (k_tys cI cZ cJ cS) [.ref h, .ref o1, .int a2] [(h, .inr (0, [.ref h_trial, .int v_h_hour, .int v_h_things, .int v_h_shut])), (o1, .inr (4, [.ref sr, .ref o1_th, .ref o1_ta, .ref o1_se, .int v_o1_hour, .int v_o1_heel, .int v_o1_water, .int v_o1_pitch, .int v_o1_boatUsed, .int v_o1_heelWent, .int v_o1_pitchTaken, .int v_o1_hoursOfMen, .int v_o1_parted, .int v_o1_moved])), (sr, .inr (5, [.ref sr_tide, .ref sr_rain, .ref sr_rules])), (sr_rules, .inl (cI, 8, .inl f_sr_rules)), (o1_th, .inr (7, [.ref o1_th_weight, .ref o1_th_under, .int v_o1_th_out, .int v_o1_th_size])), (o1_th_weight, .inl (cI, 12, .inl f_o1_th_weight)), (o1_th_under, .inl (cI, 12, .inl f_o1_th_under)), (sr_tide, .inl (cI, 96, .inl f_sr_tide))] [(h, .inr (0, [.ref h_trial, .int v_h_hour', .int v_h_things', .int v_h_shut])), (o1, .inr (4, [.ref sr, .ref o1_th, .ref o1_ta, .ref o1_se, .int v_o1_hour, .int v_o1_heel, .int v_o1_water, .int v_o1_pitch, .int v_o1_boatUsed, .int v_o1_heelWent, .int v_o1_pitchTaken, .int v_o1_hoursOfMen, .int v_o1_parted, .int v_o1_moved])), (sr, .inr (5, [.ref sr_tide, .ref sr_rain, .ref sr_rules])), (sr_rules, .inl (cI, 8, .inl f_sr_rules)), (o1_th, .inr (7, [.ref o1_th_weight, .ref o1_th_under, .int v_o1_th_out, .int v_o1_th_size])), (o1_th_weight, .inl (cI, 12, .inl f_o1_th_weight)), (o1_th_under, .inl (cI, 12, .inl f_o1_th_under)), (sr_tide, .inl (cI, 96, .inl f_sr_tide))] := by
  refine k_enter (y := yX0_findLeast) (wl := wsX0_findLeast) (rm := rm_X0_findLeast) (av := [.ref h, .ref o1, .int a2]) (D := D) (tys := k_tys cI cZ cJ cS) (ws := [(h, .inr (0, [.ref h_trial, .int v_h_hour, .int v_h_things, .int v_h_shut])), (o1, .inr (4, [.ref sr, .ref o1_th, .ref o1_ta, .ref o1_se, .int v_o1_hour, .int v_o1_heel, .int v_o1_water, .int v_o1_pitch, .int v_o1_boatUsed, .int v_o1_heelWent, .int v_o1_pitchTaken, .int v_o1_hoursOfMen, .int v_o1_parted, .int v_o1_moved])), (sr, .inr (5, [.ref sr_tide, .ref sr_rain, .ref sr_rules])), (sr_rules, .inl (cI, 8, .inl f_sr_rules)), (o1_th, .inr (7, [.ref o1_th_weight, .ref o1_th_under, .int v_o1_th_out, .int v_o1_th_size])), (o1_th_weight, .inl (cI, 12, .inl f_o1_th_weight)), (o1_th_under, .inl (cI, 12, .inl f_o1_th_under)), (sr_tide, .inl (cI, 96, .inl f_sr_tide))]) (cc := cX0_findLeast) (maxL := 9) (ret := none) (Qc := fun A => k_Qv D (k_tys cI cZ cJ cS) [(h, .inr (0, [.ref h_trial, .int v_h_hour', .int v_h_things', .int v_h_shut])), (o1, .inr (4, [.ref sr, .ref o1_th, .ref o1_ta, .ref o1_se, .int v_o1_hour, .int v_o1_heel, .int v_o1_water, .int v_o1_pitch, .int v_o1_boatUsed, .int v_o1_heelWent, .int v_o1_pitchTaken, .int v_o1_hoursOfMen, .int v_o1_parted, .int v_o1_moved])), (sr, .inr (5, [.ref sr_tide, .ref sr_rain, .ref sr_rules])), (sr_rules, .inl (cI, 8, .inl f_sr_rules)), (o1_th, .inr (7, [.ref o1_th_weight, .ref o1_th_under, .int v_o1_th_out, .int v_o1_th_size])), (o1_th_weight, .inl (cI, 12, .inl f_o1_th_weight)), (o1_th_under, .inl (cI, 12, .inl f_o1_th_under)), (sr_tide, .inl (cI, 96, .inl f_sr_tide))] A) (by decide) rfl (Nat.le_of_ble_eq_true rfl) [(0, .ref h), (1, .ref o1), (2, .int a2)] rfl ?_
  intro p e s m below meth c A hx hb hml hr hlocks hnm hown hK hP hD hA hS hN ls args Q hts hl hQ
  replace hown : s.vm.findClass RX0 = some m.cls := hown
  have S0 : CallFix p m c cX0_findLeast 9 s args wsX0_findLeast RX0 := ⟨hx, hb, hml, hown, hts⟩
  have inX4 : ∀ w ∈ u_ws RX4 TX4 14, w ∈ wsX0_findLeast := fun w h => List.mem_cons_of_mem _ (List.mem_append_left _ (List.mem_append_left _ (List.mem_append_left _ (List.mem_append_right _ h))))
  have inX7 : ∀ w ∈ u_ws RX7 TX7 4, w ∈ wsX0_findLeast := fun w h => List.mem_cons_of_mem _ (List.mem_append_left _ (List.mem_append_left _ (List.mem_append_right _ h)))
  have inX0 : ∀ w ∈ u_ws RX0 TX0 4, w ∈ wsX0_findLeast := fun w h => List.mem_cons_of_mem _ (List.mem_append_left _ (List.mem_append_right _ h))
  have wl1 : (Cond.fieldLink RX0 63 "BeachedShip$Ship" "things" "LBeachedShip$Things;").before args s = true := hts _ (List.mem_of_getElem? (i := 1) rfl)
  have wl2 : (Cond.fieldLink RX0 67 "BeachedShip$Things" "out" "I").before args s = true := hts _ (List.mem_of_getElem? (i := 2) rfl)
  have wl3 : (Cond.methodLink RX0 77 Lib.Math.min.name).before args s = true := hts _ (List.mem_of_getElem? (i := 3) rfl)
  have wl4 : (Cond.static Lib.Math.min.name).before args s = true := hts _ (List.mem_of_getElem? (i := 4) rfl)
  have wl5 : (Cond.initialized "java/lang/Math").before args s = true := hts _ (List.mem_of_getElem? (i := 5) rfl)
  have wl6 : (Cond.code Lib.Math.min.name Lib.Math.min.code 2 (some .int)).before args s = true := hts _ (List.mem_of_getElem? (i := 6) rfl)
  have wl7 : (Cond.fieldLink RX0 58 "BeachedShip$Floating" "hour" "I").before args s = true := hts _ (List.mem_of_getElem? (i := 7) rfl)
  have wl8 : (Cond.fieldLink RX0 21 "BeachedShip$Ship" "hour" "I").before args s = true := hts _ (List.mem_of_getElem? (i := 8) rfl)
  have wl9 : (Cond.methodLink RX0 85 Lib.Math.max.name).before args s = true := hts _ (List.mem_of_getElem? (i := 9) rfl)
  have wl10 : (Cond.static Lib.Math.max.name).before args s = true := hts _ (List.mem_of_getElem? (i := 10) rfl)
  have wl11 : (Cond.code Lib.Math.max.name Lib.Math.max.code 2 (some .int)).before args s = true := hts _ (List.mem_of_getElem? (i := 11) rfl)
  have wl12 : (Cond.fieldLink RX0 88 "BeachedShip$Ship" "shore" "LBeachedShip$Shore;").before args s = true := hts _ (List.mem_of_getElem? (i := 12) rfl)
  have hRet : ∀ (v_h_hour_z : Int32) (v_h_things_z : Int32), some (v_h_hour_z, v_h_things_z) = some (v_h_hour', v_h_things') → ∀ (H : Heap) (locs : List Loc) (ls : Array Slot) (pc : Nat), va_P D vwCl [(h, .inr (0, [.ref h_trial, .int v_h_hour_z, .int v_h_things_z, .int v_h_shut])), (o1, .inr (4, [.ref sr, .ref o1_th, .ref o1_ta, .ref o1_se, .int v_o1_hour, .int v_o1_heel, .int v_o1_water, .int v_o1_pitch, .int v_o1_boatUsed, .int v_o1_heelWent, .int v_o1_pitchTaken, .int v_o1_hoursOfMen, .int v_o1_parted, .int v_o1_moved])), (sr, .inr (5, [.ref sr_tide, .ref sr_rain, .ref sr_rules])), (sr_rules, .inl (cI, 8, .inl f_sr_rules)), (o1_th, .inr (7, [.ref o1_th_weight, .ref o1_th_under, .int v_o1_th_out, .int v_o1_th_size])), (o1_th_weight, .inl (cI, 12, .inl f_o1_th_weight)), (o1_th_under, .inl (cI, 12, .inl f_o1_th_under)), (sr_tide, .inl (cI, 96, .inl f_sr_tide))] H → va_D A [(h, .inr (0, [.ref h_trial, .int v_h_hour_z, .int v_h_things_z, .int v_h_shut])), (o1, .inr (4, [.ref sr, .ref o1_th, .ref o1_ta, .ref o1_se, .int v_o1_hour, .int v_o1_heel, .int v_o1_water, .int v_o1_pitch, .int v_o1_boatUsed, .int v_o1_heelWent, .int v_o1_pitchTaken, .int v_o1_hoursOfMen, .int v_o1_parted, .int v_o1_moved])), (sr, .inr (5, [.ref sr_tide, .ref sr_rain, .ref sr_rules])), (sr_rules, .inl (cI, 8, .inl f_sr_rules)), (o1_th, .inr (7, [.ref o1_th_weight, .ref o1_th_under, .int v_o1_th_out, .int v_o1_th_size])), (o1_th_weight, .inl (cI, 12, .inl f_o1_th_weight)), (o1_th_under, .inl (cI, 12, .inl f_o1_th_under)), (sr_tide, .inl (cI, 96, .inl f_sr_tide))] → va_S A s.heap H locs → decode cX0_findLeast pc = .ok (.return_, 1) → W p l e rm_X0_findLeast s m args below meth c H locs 0 0 Q (F0 m pc ls []) := by
    intro v_h_hour_z v_h_things_z hz H locs ls pc hP hD hS hd
    cases hz
    exact k_vret hx hb hr hlocks hK hP hD hS hQ hd
  unfold p_X0_findLeast at hf
  refine lv_aload_n hx hb dX0_findLeast_0 rfl (lv_at hl 1 rfl) ?_
  obtain ⟨r1, hc1, hf⟩ := k_b1_some hf
  refine k_ViR (q0 := 0) (As := []) (rest := []) S0 (c_X4_total l D cI cZ cJ cS o1 sr o1_th o1_ta o1_se sr_tide sr_rain sr_rules o1_th_weight o1_th_under v_o1_hour v_o1_heel v_o1_water v_o1_pitch v_o1_boatUsed v_o1_heelWent v_o1_pitchTaken v_o1_hoursOfMen v_o1_parted v_o1_moved f_sr_rules v_o1_th_out v_o1_th_size f_o1_th_weight r1 hc1) (cwV 0 hts gX0_findLeast_X4_total rfl rfl rfl hdV_X4_total ⟨Nat.le_of_ble_eq_true rfl, Nat.le_of_ble_eq_true rfl⟩) hK hP hD hS hA hN [1, 2, 3, 4, 5] rfl (by decide) rfl rfl rfl rfl hl.1 rfl (Nat.le_of_ble_eq_true rfl) dX0_findLeast_1 (fun H locs hP hS => ?_)
  refine lv_istore_n (lv' := [(3, .int r1), (0, .ref h), (1, .ref o1), (2, .int a2)]) hx hb dX0_findLeast_4 rfl hl (by decide) rfl (fun ls hl => ?_)
  refine lv_aload_n hx hb dX0_findLeast_5 rfl (lv_at hl 2 rfl) ?_
  refine k_get (C := RX4) (T := TX4) (N := 14) hx hb hts inX4 hown hK hP 1 rfl rfl 1 (by decide) rfl wl1 rfl dX0_findLeast_6 ?_
  refine k_get (C := RX7) (T := TX7) (N := 4) hx hb hts inX7 hown hK hP 4 rfl rfl 2 (by decide) rfl wl2 rfl dX0_findLeast_9 ?_
  refine lv_istore (lv' := [(4, .int v_o1_th_out), (3, .int r1), (0, .ref h), (1, .ref o1), (2, .int a2)]) hx hb dX0_findLeast_12 hl (by decide) rfl (fun ls hl => ?_)
  refine lv_iconst (v := 1) hx hb dX0_findLeast_14 (by decide) ?_
  refine lv_iload hx hb dX0_findLeast_15 (lv_at hl 0 rfl) ?_
  obtain ⟨r2, hc2, hf⟩ := k_b1_some hf
  refine k_SiR (As := [.int v_o1_th_out]) (rest := [.int 1]) S0 (c_J6_bitCount_0f7a4 l D cI cZ cJ cS v_o1_th_out r2 hc2) (va_cwS 1 hts gX0_findLeast_J6_bitCount_0f7a4 rfl rfl rfl hdS_J6_bitCount_0f7a4 ⟨Nat.le_of_ble_eq_true rfl, Nat.le_of_ble_eq_true rfl⟩) hK hP hD hS hA hN [] rfl (by decide) rfl hl.1 rfl (Nat.le_of_ble_eq_true rfl) dX0_findLeast_17 (fun H locs hP hS => ?_)
  refine lv_bipush (v := 8) hx hb dX0_findLeast_20 (by decide) ?_
  refine va_mmin hx hb (hml.trans hl.1.symm) hown wl3 wl4 wl5 wl6 (Nat.le_of_ble_eq_true rfl) (Nat.le_of_ble_eq_true rfl) (Nat.zero_le _) (Nat.zero_le _) dX0_findLeast_22 ?_
  refine lv_ishl hx hb dX0_findLeast_25 ?_
  refine lv_istore (lv' := [(5, .int (1 <<< ((if 8 < r2 then 8 else r2) &&& 31))), (4, .int v_o1_th_out), (3, .int r1), (0, .ref h), (1, .ref o1), (2, .int a2)]) hx hb dX0_findLeast_26 hl (by decide) rfl (fun ls hl => ?_)
  refine lv_iconst (v := 0) hx hb dX0_findLeast_28 (by decide) ?_
  refine lv_istore (lv' := [(6, .int 0), (5, .int (1 <<< ((if 8 < r2 then 8 else r2) &&& 31))), (4, .int v_o1_th_out), (3, .int r1), (0, .ref h), (1, .ref o1), (2, .int a2)]) hx hb dX0_findLeast_29 hl (by decide) rfl (fun ls hl => ?_)
  refine lv_aload_n hx hb dX0_findLeast_31 rfl (lv_at hl 4 rfl) ?_
  refine lv_bipush (v := 96) hx hb dX0_findLeast_32 (by decide) ?_
  refine k_putf (ws2 := [(h, .inr (0, [.ref h_trial, .int 96, .int v_h_things, .int v_h_shut])), (o1, .inr (4, [.ref sr, .ref o1_th, .ref o1_ta, .ref o1_se, .int v_o1_hour, .int v_o1_heel, .int v_o1_water, .int v_o1_pitch, .int v_o1_boatUsed, .int v_o1_heelWent, .int v_o1_pitchTaken, .int v_o1_hoursOfMen, .int v_o1_parted, .int v_o1_moved])), (sr, .inr (5, [.ref sr_tide, .ref sr_rain, .ref sr_rules])), (sr_rules, .inl (cI, 8, .inl f_sr_rules)), (o1_th, .inr (7, [.ref o1_th_weight, .ref o1_th_under, .int v_o1_th_out, .int v_o1_th_size])), (o1_th_weight, .inl (cI, 12, .inl f_o1_th_weight)), (o1_th_under, .inl (cI, 12, .inl f_o1_th_under)), (sr_tide, .inl (cI, 96, .inl f_sr_tide))]) (C := RX0) (T := TX0) (N := 4) hx hb hts inX0 tyX0 tyX0_ok nmX0 hown hK hP hD hS 0 rfl rfl 1 (by decide) rfl wl7 rfl rfl rfl (Nat.le_of_ble_eq_true rfl) rfl dX0_findLeast_34 (fun H locs hP hD hS => ?_)
  refine lv_iconst (v := 0) hx hb dX0_findLeast_37 (by decide) ?_
  refine lv_istore (lv' := [(7, .int 0), (6, .int 0), (5, .int (1 <<< ((if 8 < r2 then 8 else r2) &&& 31))), (4, .int v_o1_th_out), (3, .int r1), (0, .ref h), (1, .ref o1), (2, .int a2)]) hx hb dX0_findLeast_38 hl (by decide) rfl (fun ls hl => ?_)
  obtain ⟨ee23, hlp23, hfr23⟩ := k_b2_ee hf
  have hE23 : ∀ (c_h_hour_24 : Int32) (c_h_things_25 : Int32), ee23 = (c_h_hour_24, c_h_things_25) → ∀ (H : Heap) (locs : List Loc) (ls : Array Slot), va_P D vwCl [(h, .inr (0, [.ref h_trial, .int c_h_hour_24, .int c_h_things_25, .int v_h_shut])), (o1, .inr (4, [.ref sr, .ref o1_th, .ref o1_ta, .ref o1_se, .int v_o1_hour, .int v_o1_heel, .int v_o1_water, .int v_o1_pitch, .int v_o1_boatUsed, .int v_o1_heelWent, .int v_o1_pitchTaken, .int v_o1_hoursOfMen, .int v_o1_parted, .int v_o1_moved])), (sr, .inr (5, [.ref sr_tide, .ref sr_rain, .ref sr_rules])), (sr_rules, .inl (cI, 8, .inl f_sr_rules)), (o1_th, .inr (7, [.ref o1_th_weight, .ref o1_th_under, .int v_o1_th_out, .int v_o1_th_size])), (o1_th_weight, .inl (cI, 12, .inl f_o1_th_weight)), (o1_th_under, .inl (cI, 12, .inl f_o1_th_under)), (sr_tide, .inl (cI, 96, .inl f_sr_tide))] H → va_D A [(h, .inr (0, [.ref h_trial, .int c_h_hour_24, .int c_h_things_25, .int v_h_shut])), (o1, .inr (4, [.ref sr, .ref o1_th, .ref o1_ta, .ref o1_se, .int v_o1_hour, .int v_o1_heel, .int v_o1_water, .int v_o1_pitch, .int v_o1_boatUsed, .int v_o1_heelWent, .int v_o1_pitchTaken, .int v_o1_hoursOfMen, .int v_o1_parted, .int v_o1_moved])), (sr, .inr (5, [.ref sr_tide, .ref sr_rain, .ref sr_rules])), (sr_rules, .inl (cI, 8, .inl f_sr_rules)), (o1_th, .inr (7, [.ref o1_th_weight, .ref o1_th_under, .int v_o1_th_out, .int v_o1_th_size])), (o1_th_weight, .inl (cI, 12, .inl f_o1_th_weight)), (o1_th_under, .inl (cI, 12, .inl f_o1_th_under)), (sr_tide, .inl (cI, 96, .inl f_sr_tide))] → va_S A s.heap H locs → lv_has ls 9 [] → W p l e rm_X0_findLeast s m args below meth c H locs 0 0 Q (F0 m 118 ls []) := by
    intro c_h_hour_24 c_h_things_25 he H locs ls hP hD hS hl
    replace hf := hfr23 c_h_hour_24 c_h_things_25 he
    exact hRet _ _ hf _ _ _ _ hP hD hS dX0_findLeast_118
  refine (k_lp_ind (fun sx23 => ∀ (H : Heap) (locs : List Loc) (ls : Array Slot), va_P D vwCl [(h, .inr (0, [.ref h_trial, .int sx23.2.2.1, .int sx23.2.2.2, .int v_h_shut])), (o1, .inr (4, [.ref sr, .ref o1_th, .ref o1_ta, .ref o1_se, .int v_o1_hour, .int v_o1_heel, .int v_o1_water, .int v_o1_pitch, .int v_o1_boatUsed, .int v_o1_heelWent, .int v_o1_pitchTaken, .int v_o1_hoursOfMen, .int v_o1_parted, .int v_o1_moved])), (sr, .inr (5, [.ref sr_tide, .ref sr_rain, .ref sr_rules])), (sr_rules, .inl (cI, 8, .inl f_sr_rules)), (o1_th, .inr (7, [.ref o1_th_weight, .ref o1_th_under, .int v_o1_th_out, .int v_o1_th_size])), (o1_th_weight, .inl (cI, 12, .inl f_o1_th_weight)), (o1_th_under, .inl (cI, 12, .inl f_o1_th_under)), (sr_tide, .inl (cI, 96, .inl f_sr_tide))] H → va_D A [(h, .inr (0, [.ref h_trial, .int sx23.2.2.1, .int sx23.2.2.2, .int v_h_shut])), (o1, .inr (4, [.ref sr, .ref o1_th, .ref o1_ta, .ref o1_se, .int v_o1_hour, .int v_o1_heel, .int v_o1_water, .int v_o1_pitch, .int v_o1_boatUsed, .int v_o1_heelWent, .int v_o1_pitchTaken, .int v_o1_hoursOfMen, .int v_o1_parted, .int v_o1_moved])), (sr, .inr (5, [.ref sr_tide, .ref sr_rain, .ref sr_rules])), (sr_rules, .inl (cI, 8, .inl f_sr_rules)), (o1_th, .inr (7, [.ref o1_th_weight, .ref o1_th_under, .int v_o1_th_out, .int v_o1_th_size])), (o1_th_weight, .inl (cI, 12, .inl f_o1_th_weight)), (o1_th_under, .inl (cI, 12, .inl f_o1_th_under)), (sr_tide, .inl (cI, 96, .inl f_sr_tide))] → va_S A s.heap H locs → lv_has ls 9 [(7, .int sx23.2.1), (6, .int sx23.1), (5, .int (1 <<< ((if 8 < r2 then 8 else r2) &&& 31))), (4, .int v_o1_th_out), (3, .int r1), (0, .ref h), (1, .ref o1), (2, .int a2)] → W p l e rm_X0_findLeast s m args below meth c H locs 0 0 Q (F0 m 40 ls [])) (fun sx23 X23 hX23 hin23 hout23 => ?_) _ _ hlp23) _ _ _ hP hD hS (lv_sub hl [0, 1, 2, 3, 4, 5, 6, 7] rfl)
  obtain ⟨x6_26, x7_27, c_h_hour_28, c_h_things_29⟩ := sx23
  intro H locs ls hP hD hS hl
  replace hP : va_P D vwCl [(h, .inr (0, [.ref h_trial, .int c_h_hour_28, .int c_h_things_29, .int v_h_shut])), (o1, .inr (4, [.ref sr, .ref o1_th, .ref o1_ta, .ref o1_se, .int v_o1_hour, .int v_o1_heel, .int v_o1_water, .int v_o1_pitch, .int v_o1_boatUsed, .int v_o1_heelWent, .int v_o1_pitchTaken, .int v_o1_hoursOfMen, .int v_o1_parted, .int v_o1_moved])), (sr, .inr (5, [.ref sr_tide, .ref sr_rain, .ref sr_rules])), (sr_rules, .inl (cI, 8, .inl f_sr_rules)), (o1_th, .inr (7, [.ref o1_th_weight, .ref o1_th_under, .int v_o1_th_out, .int v_o1_th_size])), (o1_th_weight, .inl (cI, 12, .inl f_o1_th_weight)), (o1_th_under, .inl (cI, 12, .inl f_o1_th_under)), (sr_tide, .inl (cI, 96, .inl f_sr_tide))] H := hP
  replace hD : va_D A [(h, .inr (0, [.ref h_trial, .int c_h_hour_28, .int c_h_things_29, .int v_h_shut])), (o1, .inr (4, [.ref sr, .ref o1_th, .ref o1_ta, .ref o1_se, .int v_o1_hour, .int v_o1_heel, .int v_o1_water, .int v_o1_pitch, .int v_o1_boatUsed, .int v_o1_heelWent, .int v_o1_pitchTaken, .int v_o1_hoursOfMen, .int v_o1_parted, .int v_o1_moved])), (sr, .inr (5, [.ref sr_tide, .ref sr_rain, .ref sr_rules])), (sr_rules, .inl (cI, 8, .inl f_sr_rules)), (o1_th, .inr (7, [.ref o1_th_weight, .ref o1_th_under, .int v_o1_th_out, .int v_o1_th_size])), (o1_th_weight, .inl (cI, 12, .inl f_o1_th_weight)), (o1_th_under, .inl (cI, 12, .inl f_o1_th_under)), (sr_tide, .inl (cI, 96, .inl f_sr_tide))] := hD
  replace hl : lv_has ls 9 [(7, .int x7_27), (6, .int x6_26), (5, .int (1 <<< ((if 8 < r2 then 8 else r2) &&& 31))), (4, .int v_o1_th_out), (3, .int r1), (0, .ref h), (1, .ref o1), (2, .int a2)] := hl
  replace hX23 : lb_X0_findLeast_40 r2 v_o1_th_out v_o1_th_size f_o1_th_under f_o1_th_weight f_sr_rules f_sr_tide r1 a2 v_o1_hour x6_26 x7_27 c_h_hour_28 c_h_things_29 = some X23 := hX23
  unfold lb_X0_findLeast_40 at hX23
  refine lv_iload hx hb dX0_findLeast_40 (lv_at hl 0 rfl) ?_
  refine lv_iload hx hb dX0_findLeast_42 (lv_at hl 2 rfl) ?_
  refine lv_icmp_ge (tgt := 118) hx hb dX0_findLeast_44 (by decide) (fun c30 => ?_) (fun c30 => ?_)
  · replace hX23 := k_pos hX23 c30
    exact hE23 _ _ (hout23 _ (Option.some.inj hX23).symm).symm _ _ _ hP hD hS (lv_sub hl [] rfl)
  · replace hX23 := k_neg hX23 c30
    refine lv_aload_n hx hb dX0_findLeast_47 rfl (lv_at hl 6 rfl) ?_
    refine k_get (C := RX4) (T := TX4) (N := 14) hx hb hts inX4 hown hK hP 1 rfl rfl 1 (by decide) rfl wl1 rfl dX0_findLeast_48 ?_
    refine lv_iload hx hb dX0_findLeast_51 (lv_at hl 1 rfl) ?_
    obtain ⟨r31, hc31, hX23⟩ := k_b1_some hX23
    refine k_ViR (q0 := 0) (As := [.int x6_26]) (rest := []) S0 (c_X7_mayComeIn l D cI cZ cJ cS o1_th o1_th_weight o1_th_under v_o1_th_out v_o1_th_size f_o1_th_under x6_26 r31 hc31) (cwV 1 hts gX0_findLeast_X7_mayComeIn rfl rfl rfl hdV_X7_mayComeIn ⟨Nat.le_of_ble_eq_true rfl, Nat.le_of_ble_eq_true rfl⟩) hK hP hD hS hA hN [4, 6] rfl (by decide) rfl rfl rfl rfl hl.1 rfl (Nat.le_of_ble_eq_true rfl) dX0_findLeast_53 (fun H locs hP hS => ?_)
    refine lv_if_eq (tgt := 102) hx hb dX0_findLeast_56 (by decide) (fun c32 => ?_) (fun c32 => ?_)
    · replace hX23 := k_pos hX23 c32
      refine lv_iload hx hb dX0_findLeast_102 (lv_at hl 1 rfl) ?_
      refine lv_iload hx hb dX0_findLeast_104 (lv_at hl 3 rfl) ?_
      refine lv_isub hx hb dX0_findLeast_106 ?_
      refine lv_iload hx hb dX0_findLeast_107 (lv_at hl 3 rfl) ?_
      refine lv_iand hx hb dX0_findLeast_109 ?_
      refine lv_istore (lv' := [(6, .int ((x6_26 - v_o1_th_out) &&& v_o1_th_out)), (7, .int x7_27), (5, .int (1 <<< ((if 8 < r2 then 8 else r2) &&& 31))), (4, .int v_o1_th_out), (3, .int r1), (0, .ref h), (1, .ref o1), (2, .int a2)]) hx hb dX0_findLeast_110 hl (by decide) rfl (fun ls hl => ?_)
      refine lv_iinc (v := x7_27 + 1) (lv' := [(7, .int (x7_27 + 1)), (6, .int ((x6_26 - v_o1_th_out) &&& v_o1_th_out)), (5, .int (1 <<< ((if 8 < r2 then 8 else r2) &&& 31))), (4, .int v_o1_th_out), (3, .int r1), (0, .ref h), (1, .ref o1), (2, .int a2)]) hx hb dX0_findLeast_112 hl (k := 1) rfl rfl (by decide) rfl (fun ls hl => ?_)
      refine lv_goto (tgt := 40) hx hb dX0_findLeast_115 (by decide) ?_
      exact hin23 ((x6_26 - v_o1_th_out) &&& v_o1_th_out, x7_27 + 1, c_h_hour_28, c_h_things_29) (Option.some.inj hX23).symm _ _ _ hP hD hS (lv_sub hl [0, 1, 2, 3, 4, 5, 6, 7] rfl)
    · replace hX23 := k_neg hX23 c32
      refine lv_iload_n hx hb dX0_findLeast_59 rfl (lv_at hl 7 rfl) ?_
      refine lv_aload_n hx hb dX0_findLeast_60 rfl (lv_at hl 6 rfl) ?_
      refine k_get (C := RX4) (T := TX4) (N := 14) hx hb hts inX4 hown hK hP 1 rfl rfl 4 (by decide) rfl wl8 rfl dX0_findLeast_61 ?_
      refine lv_iload hx hb dX0_findLeast_64 (lv_at hl 1 rfl) ?_
      obtain ⟨r33, hc33, hX23⟩ := k_b1_some hX23
      refine k_SiR (As := [.int x6_26]) (rest := [.int v_o1_hour, .int a2]) S0 (c_J6_bitCount_0f7a4 l D cI cZ cJ cS x6_26 r33 hc33) (va_cwS 1 hts gX0_findLeast_J6_bitCount_0f7a4 rfl rfl rfl hdS_J6_bitCount_0f7a4 ⟨Nat.le_of_ble_eq_true rfl, Nat.le_of_ble_eq_true rfl⟩) hK hP hD hS hA hN [] rfl (by decide) rfl hl.1 rfl (Nat.le_of_ble_eq_true rfl) dX0_findLeast_66 (fun H locs hP hS => ?_)
      refine lv_iadd hx hb dX0_findLeast_69 ?_
      refine va_mmax hx hb (hml.trans hl.1.symm) hown wl9 wl10 wl5 wl11 (Nat.le_of_ble_eq_true rfl) (Nat.le_of_ble_eq_true rfl) (Nat.zero_le _) (Nat.zero_le _) dX0_findLeast_70 ?_
      refine lv_istore (lv' := [(8, .int (if a2 < (v_o1_hour + r33) then (v_o1_hour + r33) else a2)), (7, .int x7_27), (6, .int x6_26), (5, .int (1 <<< ((if 8 < r2 then 8 else r2) &&& 31))), (4, .int v_o1_th_out), (3, .int r1), (0, .ref h), (1, .ref o1), (2, .int a2)]) hx hb dX0_findLeast_73 hl (by decide) rfl (fun ls hl => ?_)
      refine lv_aload_n hx hb dX0_findLeast_75 rfl (lv_at hl 6 rfl) ?_
      refine lv_iload hx hb dX0_findLeast_76 (lv_at hl 2 rfl) ?_
      refine lv_aload_n hx hb dX0_findLeast_78 rfl (lv_at hl 6 rfl) ?_
      refine lv_aload_n hx hb dX0_findLeast_79 rfl (lv_at hl 7 rfl) ?_
      refine k_get (C := RX4) (T := TX4) (N := 14) hx hb hts inX4 hown hK hP 1 rfl rfl 0 (by decide) rfl wl12 rfl dX0_findLeast_80 ?_
      refine lv_iload_n hx hb dX0_findLeast_83 rfl (lv_at hl 5 rfl) ?_
      refine lv_aload_n hx hb dX0_findLeast_84 rfl (lv_at hl 7 rfl) ?_
      refine k_get (C := RX4) (T := TX4) (N := 14) hx hb hts inX4 hown hK hP 1 rfl rfl 1 (by decide) rfl wl1 rfl dX0_findLeast_85 ?_
      refine lv_iload hx hb dX0_findLeast_88 (lv_at hl 2 rfl) ?_
      obtain ⟨r34, hc34, hX23⟩ := k_b1_some hX23
      refine k_ViR (q0 := 0) (As := [.int x6_26]) (rest := [.int r1, .ref sr, .ref h, .int x6_26, .ref h]) S0 (c_X7_weightOf l D cI cZ cJ cS o1_th o1_th_weight o1_th_under v_o1_th_out v_o1_th_size f_o1_th_weight x6_26 r34 hc34) (cwV 1 hts gX0_findLeast_X7_weightOf rfl rfl rfl hdV_X7_weightOf ⟨Nat.le_of_ble_eq_true rfl, Nat.le_of_ble_eq_true rfl⟩) hK hP hD hS hA hN [4, 5] rfl (by decide) rfl rfl rfl rfl hl.1 rfl (Nat.le_of_ble_eq_true rfl) dX0_findLeast_90 (fun H locs hP hS => ?_)
      refine lv_iadd hx hb dX0_findLeast_93 ?_
      refine lv_iload hx hb dX0_findLeast_94 (lv_at hl 0 rfl) ?_
      obtain ⟨r35, hc35, hX23⟩ := k_b1_some hX23
      refine k_ViR (q0 := 0) (As := [.ref sr, .int (r1 + r34), .int (if a2 < (v_o1_hour + r33) then (v_o1_hour + r33) else a2)]) (rest := [.int x6_26, .ref h]) S0 (c_X0_firstHour l D cI cZ cJ cS h h_trial sr sr_tide sr_rain sr_rules c_h_hour_28 c_h_things_29 v_h_shut f_sr_rules f_sr_tide (r1 + r34) (if a2 < (v_o1_hour + r33) then (v_o1_hour + r33) else a2) r35 hc35) (cwV 3 hts gX0_findLeast_X0_firstHour rfl rfl rfl hdV_X0_firstHour ⟨Nat.le_of_ble_eq_true rfl, Nat.le_of_ble_eq_true rfl⟩) hK hP hD hS hA hN [0, 2, 3, 7] rfl (by decide) rfl rfl rfl rfl hl.1 rfl (Nat.le_of_ble_eq_true rfl) dX0_findLeast_96 (fun H locs hP hS => ?_)
      obtain ⟨w_h_hour_36, w_h_things_37, hc37, hX23⟩ := k_b2_some hX23
      refine k_Vv (ws2 := [(h, .inr (0, [.ref h_trial, .int w_h_hour_36, .int w_h_things_37, .int v_h_shut])), (o1, .inr (4, [.ref sr, .ref o1_th, .ref o1_ta, .ref o1_se, .int v_o1_hour, .int v_o1_heel, .int v_o1_water, .int v_o1_pitch, .int v_o1_boatUsed, .int v_o1_heelWent, .int v_o1_pitchTaken, .int v_o1_hoursOfMen, .int v_o1_parted, .int v_o1_moved])), (sr, .inr (5, [.ref sr_tide, .ref sr_rain, .ref sr_rules])), (sr_rules, .inl (cI, 8, .inl f_sr_rules)), (o1_th, .inr (7, [.ref o1_th_weight, .ref o1_th_under, .int v_o1_th_out, .int v_o1_th_size])), (o1_th_weight, .inl (cI, 12, .inl f_o1_th_weight)), (o1_th_under, .inl (cI, 12, .inl f_o1_th_under)), (sr_tide, .inl (cI, 96, .inl f_sr_tide))]) (q0 := 0) (As := [.int x6_26, .int r35]) (rest := []) S0 (c_X0_takeIfSooner l D cI cZ cJ cS h h_trial c_h_hour_28 c_h_things_29 v_h_shut x6_26 r35 w_h_hour_36 w_h_things_37 hc37) (cwV 2 hts gX0_findLeast_X0_takeIfSooner rfl rfl rfl hdV_X0_takeIfSooner ⟨Nat.le_of_ble_eq_true rfl, Nat.le_of_ble_eq_true rfl⟩) hK hP hD hS hA hN [0] rfl (by decide) rfl rfl rfl rfl hl.1 rfl (Nat.le_of_ble_eq_true rfl) rfl rfl rfl dX0_findLeast_99 (fun H locs hP hD hS => ?_)
      refine lv_iload hx hb dX0_findLeast_102 (lv_at hl 2 rfl) ?_
      refine lv_iload hx hb dX0_findLeast_104 (lv_at hl 4 rfl) ?_
      refine lv_isub hx hb dX0_findLeast_106 ?_
      refine lv_iload hx hb dX0_findLeast_107 (lv_at hl 4 rfl) ?_
      refine lv_iand hx hb dX0_findLeast_109 ?_
      refine lv_istore (lv' := [(6, .int ((x6_26 - v_o1_th_out) &&& v_o1_th_out)), (8, .int (if a2 < (v_o1_hour + r33) then (v_o1_hour + r33) else a2)), (7, .int x7_27), (5, .int (1 <<< ((if 8 < r2 then 8 else r2) &&& 31))), (4, .int v_o1_th_out), (3, .int r1), (0, .ref h), (1, .ref o1), (2, .int a2)]) hx hb dX0_findLeast_110 hl (by decide) rfl (fun ls hl => ?_)
      refine lv_iinc (v := x7_27 + 1) (lv' := [(7, .int (x7_27 + 1)), (6, .int ((x6_26 - v_o1_th_out) &&& v_o1_th_out)), (8, .int (if a2 < (v_o1_hour + r33) then (v_o1_hour + r33) else a2)), (5, .int (1 <<< ((if 8 < r2 then 8 else r2) &&& 31))), (4, .int v_o1_th_out), (3, .int r1), (0, .ref h), (1, .ref o1), (2, .int a2)]) hx hb dX0_findLeast_112 hl (k := 2) rfl rfl (by decide) rfl (fun ls hl => ?_)
      refine lv_goto (tgt := 40) hx hb dX0_findLeast_115 (by decide) ?_
      exact hin23 ((x6_26 - v_o1_th_out) &&& v_o1_th_out, x7_27 + 1, w_h_hour_36, w_h_things_37) (Option.some.inj hX23).symm _ _ _ hP hD hS (lv_sub hl [0, 1, 3, 4, 5, 6, 7, 8] rfl)

def lb_X1_least_4 (a1 : Int32) (f_h_tapped : Nat → Int32) (x2_10 : Int32) (x3_11 : Int32) : Option ((Int32 × Int32) ⊕ (Int32)) :=
  if a1 ≤ x3_11 then
    some (.inr x2_10)
  else
    k_ix x3_11 30 (
      if (f_h_tapped x3_11.toNatClampNeg) = 1 then
        some (.inl (x2_10 + 1, x3_11 + 1))
      else
        some (.inl (x2_10 + 0, x3_11 + 1)))
def p_X1_least (f_h_tapped : Nat → Int32) (a1 : Int32) : Option (Int32) :=
  k_b1 (k_lp (fun s => lb_X1_least_4 a1 f_h_tapped s.1 s.2) k_fuel (0, 0)) fun x2_9 =>
  some x2_9
abbrev rm_X1_least : Room := { frames := 0, cells := 0, slots := 0, locals := 0 }
theorem hdS_X1_least : yX1_least.cls ≠ "java/lang/invoke/MethodHandle" ∧ yX1_least.cls ≠ "java/lang/invoke/VarHandle" ∧ (parseMethodDescriptor yX1_least.desc).map (fun d => d.parameters.length) = some 1 := by decide +kernel
theorem hdV_X1_least : yX1_least.cls = RX1 ∧ yX1_least.cls ≠ "java/lang/invoke/MethodHandle" ∧ yX1_least.cls ≠ "java/lang/invoke/VarHandle" ∧ (parseMethodDescriptor yX1_least.desc).map (fun d => d.parameters.length) = some 1 := by decide +kernel
set_option maxHeartbeats 4000000 in
set_option maxRecDepth 100000 in
theorem c_X1_least (l : Launch) (D : va_G) (cI cZ cJ cS : ClassId) (h h_tapped : Nat) (f_h_tapped : Nat → Int32) (a1 : Int32) (r : Int32) (hf : p_X1_least f_h_tapped a1 = some r) : k_MI l yX1_least wsX1_least rm_X1_least D (k_tys cI cZ cJ cS) [.ref h, .int a1] [(h, .inr (1, [.ref h_tapped])), (h_tapped, .inl (cI, 30, .inl f_h_tapped))] [(h, .inr (1, [.ref h_tapped])), (h_tapped, .inl (cI, 30, .inl f_h_tapped))] r := by
  refine k_enter (y := yX1_least) (wl := wsX1_least) (rm := rm_X1_least) (av := [.ref h, .int a1]) (D := D) (tys := k_tys cI cZ cJ cS) (ws := [(h, .inr (1, [.ref h_tapped])), (h_tapped, .inl (cI, 30, .inl f_h_tapped))]) (cc := cX1_least) (maxL := 4) (ret := (some .int)) (Qc := fun A => k_Qi D (k_tys cI cZ cJ cS) [(h, .inr (1, [.ref h_tapped])), (h_tapped, .inl (cI, 30, .inl f_h_tapped))] A r) (by decide) rfl (Nat.le_of_ble_eq_true rfl) [(0, .ref h), (1, .int a1)] rfl ?_
  intro p e s m below meth c A hx hb hml hr hlocks hnm hown hK hP hD hA hS hN ls args Q hts hl hQ
  replace hown : s.vm.findClass RX1 = some m.cls := hown
  have inX1 : ∀ w ∈ u_ws RX1 TX1 1, w ∈ wsX1_least := fun w h => List.mem_cons_of_mem _ (List.mem_append_right _ h)
  have wl1 : (Cond.fieldLink RX1 9 "BeachedShip$Planks" "tapped" "[I").before args s = true := hts _ (List.mem_of_getElem? (i := 1) rfl)
  have hRet : ∀ (r_z : Int32), some r_z = some r → ∀ (H : Heap) (locs : List Loc) (ls : Array Slot) (pc : Nat), va_P D vwCl [(h, .inr (1, [.ref h_tapped])), (h_tapped, .inl (cI, 30, .inl f_h_tapped))] H → va_D A [(h, .inr (1, [.ref h_tapped])), (h_tapped, .inl (cI, 30, .inl f_h_tapped))] → va_S A s.heap H locs → narrow .int (.int r_z) = .int r_z → decode cX1_least pc = .ok (.ireturn, 1) → W p l e rm_X1_least s m args below meth c H locs 0 0 Q (F0 m pc ls [.int r_z]) := by
    intro r_z hz H locs ls pc hP hD hS hn hd
    cases hz
    exact k_iret hx hb hr hlocks hn hK hP hD hS hQ rfl hd
  unfold p_X1_least at hf
  refine lv_iconst (v := 0) hx hb dX1_least_0 (by decide) ?_
  refine lv_istore_n (lv' := [(2, .int 0), (0, .ref h), (1, .int a1)]) hx hb dX1_least_1 rfl hl (by decide) rfl (fun ls hl => ?_)
  refine lv_iconst (v := 0) hx hb dX1_least_2 (by decide) ?_
  refine lv_istore_n (lv' := [(3, .int 0), (2, .int 0), (0, .ref h), (1, .int a1)]) hx hb dX1_least_3 rfl hl (by decide) rfl (fun ls hl => ?_)
  obtain ⟨ee8, hlp8, hfr8⟩ := k_b1_ee hf
  have hE8 : ∀ (x2_9 : Int32), ee8 = x2_9 → ∀ (H : Heap) (locs : List Loc) (ls : Array Slot), va_P D vwCl [(h, .inr (1, [.ref h_tapped])), (h_tapped, .inl (cI, 30, .inl f_h_tapped))] H → va_D A [(h, .inr (1, [.ref h_tapped])), (h_tapped, .inl (cI, 30, .inl f_h_tapped))] → va_S A s.heap H locs → lv_has ls 4 [(2, .int x2_9)] → W p l e rm_X1_least s m args below meth c H locs 0 0 Q (F0 m 33 ls []) := by
    intro x2_9 he H locs ls hP hD hS hl
    replace hf := hfr8 x2_9 he
    refine lv_iload_n hx hb dX1_least_33 rfl (lv_at hl 0 rfl) ?_
    exact hRet _ hf _ _ _ _ hP hD hS rfl dX1_least_34
  refine (k_lp_ind (fun sx8 => ∀ (H : Heap) (locs : List Loc) (ls : Array Slot), va_P D vwCl [(h, .inr (1, [.ref h_tapped])), (h_tapped, .inl (cI, 30, .inl f_h_tapped))] H → va_D A [(h, .inr (1, [.ref h_tapped])), (h_tapped, .inl (cI, 30, .inl f_h_tapped))] → va_S A s.heap H locs → lv_has ls 4 [(3, .int sx8.2), (2, .int sx8.1), (0, .ref h), (1, .int a1)] → W p l e rm_X1_least s m args below meth c H locs 0 0 Q (F0 m 4 ls [])) (fun sx8 X8 hX8 hin8 hout8 => ?_) _ _ hlp8) _ _ _ hP hD hS (lv_sub hl [0, 1, 2, 3] rfl)
  obtain ⟨x2_10, x3_11⟩ := sx8
  intro H locs ls hP hD hS hl
  replace hP : va_P D vwCl [(h, .inr (1, [.ref h_tapped])), (h_tapped, .inl (cI, 30, .inl f_h_tapped))] H := hP
  replace hD : va_D A [(h, .inr (1, [.ref h_tapped])), (h_tapped, .inl (cI, 30, .inl f_h_tapped))] := hD
  replace hl : lv_has ls 4 [(3, .int x3_11), (2, .int x2_10), (0, .ref h), (1, .int a1)] := hl
  replace hX8 : lb_X1_least_4 a1 f_h_tapped x2_10 x3_11 = some X8 := hX8
  unfold lb_X1_least_4 at hX8
  refine lv_iload_n hx hb dX1_least_4 rfl (lv_at hl 0 rfl) ?_
  refine lv_iload_n hx hb dX1_least_5 rfl (lv_at hl 3 rfl) ?_
  refine lv_icmp_ge (tgt := 33) hx hb dX1_least_6 (by decide) (fun c12 => ?_) (fun c12 => ?_)
  · replace hX8 := k_pos hX8 c12
    exact hE8 _ (hout8 _ (Option.some.inj hX8).symm).symm _ _ _ hP hD hS (lv_sub hl [1] rfl)
  · replace hX8 := k_neg hX8 c12
    refine lv_iload_n hx hb dX1_least_9 rfl (lv_at hl 1 rfl) ?_
    refine lv_aload_n hx hb dX1_least_10 rfl (lv_at hl 2 rfl) ?_
    refine k_get (C := RX1) (T := TX1) (N := 1) hx hb hts inX1 hown hK hP 0 rfl rfl 0 (by decide) rfl wl1 rfl dX1_least_11 ?_
    refine lv_iload_n hx hb dX1_least_14 rfl (lv_at hl 0 rfl) ?_
    obtain ⟨hi13, hX8⟩ := k_ix_some hX8
    refine k_iald (k := x3_11.toNatClampNeg) hx hb hK hP 1 0 rfl rfl hi13 rfl dX1_least_15 ?_
    refine lv_iconst (v := 1) hx hb dX1_least_16 (by decide) ?_
    refine lv_icmp_ne (tgt := 24) hx hb dX1_least_17 (by decide) (fun c14 => ?_) (fun c14 => ?_)
    · replace hX8 := k_neg hX8 c14
      refine lv_iconst (v := 0) hx hb dX1_least_24 (by decide) ?_
      refine lv_iadd hx hb dX1_least_25 ?_
      refine lv_istore_n (lv' := [(2, .int (x2_10 + 0)), (3, .int x3_11), (0, .ref h), (1, .int a1)]) hx hb dX1_least_26 rfl hl (by decide) rfl (fun ls hl => ?_)
      refine lv_iinc (v := x3_11 + 1) (lv' := [(3, .int (x3_11 + 1)), (2, .int (x2_10 + 0)), (0, .ref h), (1, .int a1)]) hx hb dX1_least_27 hl (k := 1) rfl rfl (by decide) rfl (fun ls hl => ?_)
      refine lv_goto (tgt := 4) hx hb dX1_least_30 (by decide) ?_
      exact hin8 (x2_10 + 0, x3_11 + 1) (Option.some.inj hX8).symm _ _ _ hP hD hS (lv_sub hl [0, 1, 2, 3] rfl)
    · replace hX8 := k_pos hX8 c14
      refine lv_iconst (v := 1) hx hb dX1_least_20 (by decide) ?_
      refine lv_goto (tgt := 25) hx hb dX1_least_21 (by decide) ?_
      refine lv_iadd hx hb dX1_least_25 ?_
      refine lv_istore_n (lv' := [(2, .int (x2_10 + 1)), (3, .int x3_11), (0, .ref h), (1, .int a1)]) hx hb dX1_least_26 rfl hl (by decide) rfl (fun ls hl => ?_)
      refine lv_iinc (v := x3_11 + 1) (lv' := [(3, .int (x3_11 + 1)), (2, .int (x2_10 + 1)), (0, .ref h), (1, .int a1)]) hx hb dX1_least_27 hl (k := 1) rfl rfl (by decide) rfl (fun ls hl => ?_)
      refine lv_goto (tgt := 4) hx hb dX1_least_30 (by decide) ?_
      exact hin8 (x2_10 + 1, x3_11 + 1) (Option.some.inj hX8).symm _ _ _ hP hD hS (lv_sub hl [0, 1, 2, 3] rfl)

def lb_X1_most_4 (a1 : Int32) (f_h_tapped : Nat → Int32) (x2_10 : Int32) (x3_11 : Int32) : Option ((Int32 × Int32) ⊕ (Int32)) :=
  if a1 ≤ x3_11 then
    some (.inr x2_10)
  else
    k_ix x3_11 30 (
      if (f_h_tapped x3_11.toNatClampNeg) = 0 then
        some (.inl (x2_10 + 0, x3_11 + 1))
      else
        some (.inl (x2_10 + 1, x3_11 + 1)))
def p_X1_most (f_h_tapped : Nat → Int32) (a1 : Int32) : Option (Int32) :=
  k_b1 (k_lp (fun s => lb_X1_most_4 a1 f_h_tapped s.1 s.2) k_fuel (0, 0)) fun x2_9 =>
  some x2_9
abbrev rm_X1_most : Room := { frames := 0, cells := 0, slots := 0, locals := 0 }
theorem hdS_X1_most : yX1_most.cls ≠ "java/lang/invoke/MethodHandle" ∧ yX1_most.cls ≠ "java/lang/invoke/VarHandle" ∧ (parseMethodDescriptor yX1_most.desc).map (fun d => d.parameters.length) = some 1 := by decide +kernel
theorem hdV_X1_most : yX1_most.cls = RX1 ∧ yX1_most.cls ≠ "java/lang/invoke/MethodHandle" ∧ yX1_most.cls ≠ "java/lang/invoke/VarHandle" ∧ (parseMethodDescriptor yX1_most.desc).map (fun d => d.parameters.length) = some 1 := by decide +kernel
set_option maxHeartbeats 4000000 in
set_option maxRecDepth 100000 in
theorem c_X1_most (l : Launch) (D : va_G) (cI cZ cJ cS : ClassId) (h h_tapped : Nat) (f_h_tapped : Nat → Int32) (a1 : Int32) (r : Int32) (hf : p_X1_most f_h_tapped a1 = some r) : k_MI l yX1_most wsX1_most rm_X1_most D (k_tys cI cZ cJ cS) [.ref h, .int a1] [(h, .inr (1, [.ref h_tapped])), (h_tapped, .inl (cI, 30, .inl f_h_tapped))] [(h, .inr (1, [.ref h_tapped])), (h_tapped, .inl (cI, 30, .inl f_h_tapped))] r := by
  refine k_enter (y := yX1_most) (wl := wsX1_most) (rm := rm_X1_most) (av := [.ref h, .int a1]) (D := D) (tys := k_tys cI cZ cJ cS) (ws := [(h, .inr (1, [.ref h_tapped])), (h_tapped, .inl (cI, 30, .inl f_h_tapped))]) (cc := cX1_most) (maxL := 4) (ret := (some .int)) (Qc := fun A => k_Qi D (k_tys cI cZ cJ cS) [(h, .inr (1, [.ref h_tapped])), (h_tapped, .inl (cI, 30, .inl f_h_tapped))] A r) (by decide) rfl (Nat.le_of_ble_eq_true rfl) [(0, .ref h), (1, .int a1)] rfl ?_
  intro p e s m below meth c A hx hb hml hr hlocks hnm hown hK hP hD hA hS hN ls args Q hts hl hQ
  replace hown : s.vm.findClass RX1 = some m.cls := hown
  have inX1 : ∀ w ∈ u_ws RX1 TX1 1, w ∈ wsX1_most := fun w h => List.mem_cons_of_mem _ (List.mem_append_right _ h)
  have wl1 : (Cond.fieldLink RX1 9 "BeachedShip$Planks" "tapped" "[I").before args s = true := hts _ (List.mem_of_getElem? (i := 1) rfl)
  have hRet : ∀ (r_z : Int32), some r_z = some r → ∀ (H : Heap) (locs : List Loc) (ls : Array Slot) (pc : Nat), va_P D vwCl [(h, .inr (1, [.ref h_tapped])), (h_tapped, .inl (cI, 30, .inl f_h_tapped))] H → va_D A [(h, .inr (1, [.ref h_tapped])), (h_tapped, .inl (cI, 30, .inl f_h_tapped))] → va_S A s.heap H locs → narrow .int (.int r_z) = .int r_z → decode cX1_most pc = .ok (.ireturn, 1) → W p l e rm_X1_most s m args below meth c H locs 0 0 Q (F0 m pc ls [.int r_z]) := by
    intro r_z hz H locs ls pc hP hD hS hn hd
    cases hz
    exact k_iret hx hb hr hlocks hn hK hP hD hS hQ rfl hd
  unfold p_X1_most at hf
  refine lv_iconst (v := 0) hx hb dX1_most_0 (by decide) ?_
  refine lv_istore_n (lv' := [(2, .int 0), (0, .ref h), (1, .int a1)]) hx hb dX1_most_1 rfl hl (by decide) rfl (fun ls hl => ?_)
  refine lv_iconst (v := 0) hx hb dX1_most_2 (by decide) ?_
  refine lv_istore_n (lv' := [(3, .int 0), (2, .int 0), (0, .ref h), (1, .int a1)]) hx hb dX1_most_3 rfl hl (by decide) rfl (fun ls hl => ?_)
  obtain ⟨ee8, hlp8, hfr8⟩ := k_b1_ee hf
  have hE8 : ∀ (x2_9 : Int32), ee8 = x2_9 → ∀ (H : Heap) (locs : List Loc) (ls : Array Slot), va_P D vwCl [(h, .inr (1, [.ref h_tapped])), (h_tapped, .inl (cI, 30, .inl f_h_tapped))] H → va_D A [(h, .inr (1, [.ref h_tapped])), (h_tapped, .inl (cI, 30, .inl f_h_tapped))] → va_S A s.heap H locs → lv_has ls 4 [(2, .int x2_9)] → W p l e rm_X1_most s m args below meth c H locs 0 0 Q (F0 m 32 ls []) := by
    intro x2_9 he H locs ls hP hD hS hl
    replace hf := hfr8 x2_9 he
    refine lv_iload_n hx hb dX1_most_32 rfl (lv_at hl 0 rfl) ?_
    exact hRet _ hf _ _ _ _ hP hD hS rfl dX1_most_33
  refine (k_lp_ind (fun sx8 => ∀ (H : Heap) (locs : List Loc) (ls : Array Slot), va_P D vwCl [(h, .inr (1, [.ref h_tapped])), (h_tapped, .inl (cI, 30, .inl f_h_tapped))] H → va_D A [(h, .inr (1, [.ref h_tapped])), (h_tapped, .inl (cI, 30, .inl f_h_tapped))] → va_S A s.heap H locs → lv_has ls 4 [(3, .int sx8.2), (2, .int sx8.1), (0, .ref h), (1, .int a1)] → W p l e rm_X1_most s m args below meth c H locs 0 0 Q (F0 m 4 ls [])) (fun sx8 X8 hX8 hin8 hout8 => ?_) _ _ hlp8) _ _ _ hP hD hS (lv_sub hl [0, 1, 2, 3] rfl)
  obtain ⟨x2_10, x3_11⟩ := sx8
  intro H locs ls hP hD hS hl
  replace hP : va_P D vwCl [(h, .inr (1, [.ref h_tapped])), (h_tapped, .inl (cI, 30, .inl f_h_tapped))] H := hP
  replace hD : va_D A [(h, .inr (1, [.ref h_tapped])), (h_tapped, .inl (cI, 30, .inl f_h_tapped))] := hD
  replace hl : lv_has ls 4 [(3, .int x3_11), (2, .int x2_10), (0, .ref h), (1, .int a1)] := hl
  replace hX8 : lb_X1_most_4 a1 f_h_tapped x2_10 x3_11 = some X8 := hX8
  unfold lb_X1_most_4 at hX8
  refine lv_iload_n hx hb dX1_most_4 rfl (lv_at hl 0 rfl) ?_
  refine lv_iload_n hx hb dX1_most_5 rfl (lv_at hl 3 rfl) ?_
  refine lv_icmp_ge (tgt := 32) hx hb dX1_most_6 (by decide) (fun c12 => ?_) (fun c12 => ?_)
  · replace hX8 := k_pos hX8 c12
    exact hE8 _ (hout8 _ (Option.some.inj hX8).symm).symm _ _ _ hP hD hS (lv_sub hl [1] rfl)
  · replace hX8 := k_neg hX8 c12
    refine lv_iload_n hx hb dX1_most_9 rfl (lv_at hl 1 rfl) ?_
    refine lv_aload_n hx hb dX1_most_10 rfl (lv_at hl 2 rfl) ?_
    refine k_get (C := RX1) (T := TX1) (N := 1) hx hb hts inX1 hown hK hP 0 rfl rfl 0 (by decide) rfl wl1 rfl dX1_most_11 ?_
    refine lv_iload_n hx hb dX1_most_14 rfl (lv_at hl 0 rfl) ?_
    obtain ⟨hi13, hX8⟩ := k_ix_some hX8
    refine k_iald (k := x3_11.toNatClampNeg) hx hb hK hP 1 0 rfl rfl hi13 rfl dX1_most_15 ?_
    refine lv_if_ne (tgt := 23) hx hb dX1_most_16 (by decide) (fun c14 => ?_) (fun c14 => ?_)
    · replace hX8 := k_neg hX8 c14
      refine lv_iconst (v := 1) hx hb dX1_most_23 (by decide) ?_
      refine lv_iadd hx hb dX1_most_24 ?_
      refine lv_istore_n (lv' := [(2, .int (x2_10 + 1)), (3, .int x3_11), (0, .ref h), (1, .int a1)]) hx hb dX1_most_25 rfl hl (by decide) rfl (fun ls hl => ?_)
      refine lv_iinc (v := x3_11 + 1) (lv' := [(3, .int (x3_11 + 1)), (2, .int (x2_10 + 1)), (0, .ref h), (1, .int a1)]) hx hb dX1_most_26 hl (k := 1) rfl rfl (by decide) rfl (fun ls hl => ?_)
      refine lv_goto (tgt := 4) hx hb dX1_most_29 (by decide) ?_
      exact hin8 (x2_10 + 1, x3_11 + 1) (Option.some.inj hX8).symm _ _ _ hP hD hS (lv_sub hl [0, 1, 2, 3] rfl)
    · replace hX8 := k_pos hX8 c14
      refine lv_iconst (v := 0) hx hb dX1_most_19 (by decide) ?_
      refine lv_goto (tgt := 24) hx hb dX1_most_20 (by decide) ?_
      refine lv_iadd hx hb dX1_most_24 ?_
      refine lv_istore_n (lv' := [(2, .int (x2_10 + 0)), (3, .int x3_11), (0, .ref h), (1, .int a1)]) hx hb dX1_most_25 rfl hl (by decide) rfl (fun ls hl => ?_)
      refine lv_iinc (v := x3_11 + 1) (lv' := [(3, .int (x3_11 + 1)), (2, .int (x2_10 + 0)), (0, .ref h), (1, .int a1)]) hx hb dX1_most_26 hl (k := 1) rfl rfl (by decide) rfl (fun ls hl => ?_)
      refine lv_goto (tgt := 4) hx hb dX1_most_29 (by decide) ?_
      exact hin8 (x2_10 + 0, x3_11 + 1) (Option.some.inj hX8).symm _ _ _ hP hD hS (lv_sub hl [0, 1, 2, 3] rfl)

def lb_X1_leastRuns_7 (a1 : Int32) (f_h_tapped : Nat → Int32) (x2_31 : Int32) (x3_32 : Int32) (x4_33 : Int32) : Option ((Int32 × Int32 × Int32) ⊕ (Int32)) :=
  if a1 ≤ x4_33 then
    some (.inr x2_31)
  else
    k_ix x4_33 30 (
      if (f_h_tapped x4_33.toNatClampNeg) = 1 then
        if x3_32 = 0 then
          k_ix x4_33 30 (
            if (f_h_tapped x4_33.toNatClampNeg) = 1 then
              some (.inl (x2_31 + 1, 1, x4_33 + 1))
            else
              k_ix x4_33 30 (
                if (f_h_tapped x4_33.toNatClampNeg) = 0 then
                  some (.inl (x2_31 + 1, 0, x4_33 + 1))
                else
                  if x3_32 = 0 then
                    some (.inl (x2_31 + 1, 0, x4_33 + 1))
                  else
                    some (.inl (x2_31 + 1, 1, x4_33 + 1))))
        else
          k_ix x4_33 30 (
            if (f_h_tapped x4_33.toNatClampNeg) = 1 then
              some (.inl (x2_31, 1, x4_33 + 1))
            else
              k_ix x4_33 30 (
                if (f_h_tapped x4_33.toNatClampNeg) = 0 then
                  some (.inl (x2_31, 0, x4_33 + 1))
                else
                  if x3_32 = 0 then
                    some (.inl (x2_31, 0, x4_33 + 1))
                  else
                    some (.inl (x2_31, 1, x4_33 + 1))))
      else
        k_ix x4_33 30 (
          if (f_h_tapped x4_33.toNatClampNeg) = 1 then
            some (.inl (x2_31, 1, x4_33 + 1))
          else
            k_ix x4_33 30 (
              if (f_h_tapped x4_33.toNatClampNeg) = 0 then
                some (.inl (x2_31, 0, x4_33 + 1))
              else
                if x3_32 = 0 then
                  some (.inl (x2_31, 0, x4_33 + 1))
                else
                  some (.inl (x2_31, 1, x4_33 + 1)))))
def p_X1_leastRuns (f_h_tapped : Nat → Int32) (a1 : Int32) : Option (Int32) :=
  k_b1 (k_lp (fun s => lb_X1_leastRuns_7 a1 f_h_tapped s.1 s.2.1 s.2.2) k_fuel (0, 0, 0)) fun x2_30 =>
  some x2_30
abbrev rm_X1_leastRuns : Room := { frames := 0, cells := 0, slots := 0, locals := 0 }
theorem hdS_X1_leastRuns : yX1_leastRuns.cls ≠ "java/lang/invoke/MethodHandle" ∧ yX1_leastRuns.cls ≠ "java/lang/invoke/VarHandle" ∧ (parseMethodDescriptor yX1_leastRuns.desc).map (fun d => d.parameters.length) = some 1 := by decide +kernel
theorem hdV_X1_leastRuns : yX1_leastRuns.cls = RX1 ∧ yX1_leastRuns.cls ≠ "java/lang/invoke/MethodHandle" ∧ yX1_leastRuns.cls ≠ "java/lang/invoke/VarHandle" ∧ (parseMethodDescriptor yX1_leastRuns.desc).map (fun d => d.parameters.length) = some 1 := by decide +kernel
set_option maxHeartbeats 4000000 in
set_option maxRecDepth 100000 in
theorem c_X1_leastRuns (l : Launch) (D : va_G) (cI cZ cJ cS : ClassId) (h h_tapped : Nat) (f_h_tapped : Nat → Int32) (a1 : Int32) (r : Int32) (hf : p_X1_leastRuns f_h_tapped a1 = some r) : k_MI l yX1_leastRuns wsX1_leastRuns rm_X1_leastRuns D (k_tys cI cZ cJ cS) [.ref h, .int a1] [(h, .inr (1, [.ref h_tapped])), (h_tapped, .inl (cI, 30, .inl f_h_tapped))] [(h, .inr (1, [.ref h_tapped])), (h_tapped, .inl (cI, 30, .inl f_h_tapped))] r := by
  refine k_enter (y := yX1_leastRuns) (wl := wsX1_leastRuns) (rm := rm_X1_leastRuns) (av := [.ref h, .int a1]) (D := D) (tys := k_tys cI cZ cJ cS) (ws := [(h, .inr (1, [.ref h_tapped])), (h_tapped, .inl (cI, 30, .inl f_h_tapped))]) (cc := cX1_leastRuns) (maxL := 5) (ret := (some .int)) (Qc := fun A => k_Qi D (k_tys cI cZ cJ cS) [(h, .inr (1, [.ref h_tapped])), (h_tapped, .inl (cI, 30, .inl f_h_tapped))] A r) (by decide) rfl (Nat.le_of_ble_eq_true rfl) [(0, .ref h), (1, .int a1)] rfl ?_
  intro p e s m below meth c A hx hb hml hr hlocks hnm hown hK hP hD hA hS hN ls args Q hts hl hQ
  replace hown : s.vm.findClass RX1 = some m.cls := hown
  have inX1 : ∀ w ∈ u_ws RX1 TX1 1, w ∈ wsX1_leastRuns := fun w h => List.mem_cons_of_mem _ (List.mem_append_right _ h)
  have wl1 : (Cond.fieldLink RX1 9 "BeachedShip$Planks" "tapped" "[I").before args s = true := hts _ (List.mem_of_getElem? (i := 1) rfl)
  have hRet : ∀ (r_z : Int32), some r_z = some r → ∀ (H : Heap) (locs : List Loc) (ls : Array Slot) (pc : Nat), va_P D vwCl [(h, .inr (1, [.ref h_tapped])), (h_tapped, .inl (cI, 30, .inl f_h_tapped))] H → va_D A [(h, .inr (1, [.ref h_tapped])), (h_tapped, .inl (cI, 30, .inl f_h_tapped))] → va_S A s.heap H locs → narrow .int (.int r_z) = .int r_z → decode cX1_leastRuns pc = .ok (.ireturn, 1) → W p l e rm_X1_leastRuns s m args below meth c H locs 0 0 Q (F0 m pc ls [.int r_z]) := by
    intro r_z hz H locs ls pc hP hD hS hn hd
    cases hz
    exact k_iret hx hb hr hlocks hn hK hP hD hS hQ rfl hd
  unfold p_X1_leastRuns at hf
  refine lv_iconst (v := 0) hx hb dX1_leastRuns_0 (by decide) ?_
  refine lv_istore_n (lv' := [(2, .int 0), (0, .ref h), (1, .int a1)]) hx hb dX1_leastRuns_1 rfl hl (by decide) rfl (fun ls hl => ?_)
  refine lv_iconst (v := 0) hx hb dX1_leastRuns_2 (by decide) ?_
  refine lv_istore_n (lv' := [(3, .int 0), (2, .int 0), (0, .ref h), (1, .int a1)]) hx hb dX1_leastRuns_3 rfl hl (by decide) rfl (fun ls hl => ?_)
  refine lv_iconst (v := 0) hx hb dX1_leastRuns_4 (by decide) ?_
  refine lv_istore (lv' := [(4, .int 0), (3, .int 0), (2, .int 0), (0, .ref h), (1, .int a1)]) hx hb dX1_leastRuns_5 hl (by decide) rfl (fun ls hl => ?_)
  obtain ⟨ee29, hlp29, hfr29⟩ := k_b1_ee hf
  have hE29 : ∀ (x2_30 : Int32), ee29 = x2_30 → ∀ (H : Heap) (locs : List Loc) (ls : Array Slot), va_P D vwCl [(h, .inr (1, [.ref h_tapped])), (h_tapped, .inl (cI, 30, .inl f_h_tapped))] H → va_D A [(h, .inr (1, [.ref h_tapped])), (h_tapped, .inl (cI, 30, .inl f_h_tapped))] → va_S A s.heap H locs → lv_has ls 5 [(2, .int x2_30)] → W p l e rm_X1_leastRuns s m args below meth c H locs 0 0 Q (F0 m 68 ls []) := by
    intro x2_30 he H locs ls hP hD hS hl
    replace hf := hfr29 x2_30 he
    refine lv_iload_n hx hb dX1_leastRuns_68 rfl (lv_at hl 0 rfl) ?_
    exact hRet _ hf _ _ _ _ hP hD hS rfl dX1_leastRuns_69
  refine (k_lp_ind (fun sx29 => ∀ (H : Heap) (locs : List Loc) (ls : Array Slot), va_P D vwCl [(h, .inr (1, [.ref h_tapped])), (h_tapped, .inl (cI, 30, .inl f_h_tapped))] H → va_D A [(h, .inr (1, [.ref h_tapped])), (h_tapped, .inl (cI, 30, .inl f_h_tapped))] → va_S A s.heap H locs → lv_has ls 5 [(4, .int sx29.2.2), (3, .int sx29.2.1), (2, .int sx29.1), (0, .ref h), (1, .int a1)] → W p l e rm_X1_leastRuns s m args below meth c H locs 0 0 Q (F0 m 7 ls [])) (fun sx29 X29 hX29 hin29 hout29 => ?_) _ _ hlp29) _ _ _ hP hD hS (lv_sub hl [0, 1, 2, 3, 4] rfl)
  obtain ⟨x2_31, x3_32, x4_33⟩ := sx29
  intro H locs ls hP hD hS hl
  replace hP : va_P D vwCl [(h, .inr (1, [.ref h_tapped])), (h_tapped, .inl (cI, 30, .inl f_h_tapped))] H := hP
  replace hD : va_D A [(h, .inr (1, [.ref h_tapped])), (h_tapped, .inl (cI, 30, .inl f_h_tapped))] := hD
  replace hl : lv_has ls 5 [(4, .int x4_33), (3, .int x3_32), (2, .int x2_31), (0, .ref h), (1, .int a1)] := hl
  replace hX29 : lb_X1_leastRuns_7 a1 f_h_tapped x2_31 x3_32 x4_33 = some X29 := hX29
  unfold lb_X1_leastRuns_7 at hX29
  refine lv_iload hx hb dX1_leastRuns_7 (lv_at hl 0 rfl) ?_
  refine lv_iload_n hx hb dX1_leastRuns_9 rfl (lv_at hl 4 rfl) ?_
  refine lv_icmp_ge (tgt := 68) hx hb dX1_leastRuns_10 (by decide) (fun c34 => ?_) (fun c34 => ?_)
  · replace hX29 := k_pos hX29 c34
    exact hE29 _ (hout29 _ (Option.some.inj hX29).symm).symm _ _ _ hP hD hS (lv_sub hl [2] rfl)
  · replace hX29 := k_neg hX29 c34
    refine lv_aload_n hx hb dX1_leastRuns_13 rfl (lv_at hl 3 rfl) ?_
    refine k_get (C := RX1) (T := TX1) (N := 1) hx hb hts inX1 hown hK hP 0 rfl rfl 0 (by decide) rfl wl1 rfl dX1_leastRuns_14 ?_
    refine lv_iload hx hb dX1_leastRuns_17 (lv_at hl 0 rfl) ?_
    obtain ⟨hi35, hX29⟩ := k_ix_some hX29
    refine k_iald (k := x4_33.toNatClampNeg) hx hb hK hP 1 0 rfl rfl hi35 rfl dX1_leastRuns_19 ?_
    refine lv_iconst (v := 1) hx hb dX1_leastRuns_20 (by decide) ?_
    refine lv_icmp_ne (tgt := 31) hx hb dX1_leastRuns_21 (by decide) (fun c36 => ?_) (fun c36 => ?_)
    · replace hX29 := k_neg hX29 c36
      refine lv_aload_n hx hb dX1_leastRuns_31 rfl (lv_at hl 3 rfl) ?_
      refine k_get (C := RX1) (T := TX1) (N := 1) hx hb hts inX1 hown hK hP 0 rfl rfl 0 (by decide) rfl wl1 rfl dX1_leastRuns_32 ?_
      refine lv_iload hx hb dX1_leastRuns_35 (lv_at hl 0 rfl) ?_
      obtain ⟨hi37, hX29⟩ := k_ix_some hX29
      refine k_iald (k := x4_33.toNatClampNeg) hx hb hK hP 1 0 rfl rfl hi37 rfl dX1_leastRuns_37 ?_
      refine lv_iconst (v := 1) hx hb dX1_leastRuns_38 (by decide) ?_
      refine lv_icmp_eq (tgt := 56) hx hb dX1_leastRuns_39 (by decide) (fun c38 => ?_) (fun c38 => ?_)
      · replace hX29 := k_pos hX29 c38
        refine lv_iconst (v := 1) hx hb dX1_leastRuns_56 (by decide) ?_
        refine lv_goto (tgt := 61) hx hb dX1_leastRuns_57 (by decide) ?_
        refine lv_istore_n (lv' := [(3, .int 1), (4, .int x4_33), (2, .int x2_31), (0, .ref h), (1, .int a1)]) hx hb dX1_leastRuns_61 rfl hl (by decide) rfl (fun ls hl => ?_)
        refine lv_iinc (v := x4_33 + 1) (lv' := [(4, .int (x4_33 + 1)), (3, .int 1), (2, .int x2_31), (0, .ref h), (1, .int a1)]) hx hb dX1_leastRuns_62 hl (k := 1) rfl rfl (by decide) rfl (fun ls hl => ?_)
        refine lv_goto (tgt := 7) hx hb dX1_leastRuns_65 (by decide) ?_
        exact hin29 (x2_31, 1, x4_33 + 1) (Option.some.inj hX29).symm _ _ _ hP hD hS (lv_sub hl [0, 1, 2, 3, 4] rfl)
      · replace hX29 := k_neg hX29 c38
        refine lv_aload_n hx hb dX1_leastRuns_42 rfl (lv_at hl 3 rfl) ?_
        refine k_get (C := RX1) (T := TX1) (N := 1) hx hb hts inX1 hown hK hP 0 rfl rfl 0 (by decide) rfl wl1 rfl dX1_leastRuns_43 ?_
        refine lv_iload hx hb dX1_leastRuns_46 (lv_at hl 0 rfl) ?_
        obtain ⟨hi39, hX29⟩ := k_ix_some hX29
        refine k_iald (k := x4_33.toNatClampNeg) hx hb hK hP 1 0 rfl rfl hi39 rfl dX1_leastRuns_48 ?_
        refine lv_if_eq (tgt := 60) hx hb dX1_leastRuns_49 (by decide) (fun c40 => ?_) (fun c40 => ?_)
        · replace hX29 := k_pos hX29 c40
          refine lv_iconst (v := 0) hx hb dX1_leastRuns_60 (by decide) ?_
          refine lv_istore_n (lv' := [(3, .int 0), (4, .int x4_33), (2, .int x2_31), (0, .ref h), (1, .int a1)]) hx hb dX1_leastRuns_61 rfl hl (by decide) rfl (fun ls hl => ?_)
          refine lv_iinc (v := x4_33 + 1) (lv' := [(4, .int (x4_33 + 1)), (3, .int 0), (2, .int x2_31), (0, .ref h), (1, .int a1)]) hx hb dX1_leastRuns_62 hl (k := 1) rfl rfl (by decide) rfl (fun ls hl => ?_)
          refine lv_goto (tgt := 7) hx hb dX1_leastRuns_65 (by decide) ?_
          exact hin29 (x2_31, 0, x4_33 + 1) (Option.some.inj hX29).symm _ _ _ hP hD hS (lv_sub hl [0, 1, 2, 3, 4] rfl)
        · replace hX29 := k_neg hX29 c40
          refine lv_iload_n hx hb dX1_leastRuns_52 rfl (lv_at hl 1 rfl) ?_
          refine lv_if_eq (tgt := 60) hx hb dX1_leastRuns_53 (by decide) (fun c41 => ?_) (fun c41 => ?_)
          · replace hX29 := k_pos hX29 c41
            refine lv_iconst (v := 0) hx hb dX1_leastRuns_60 (by decide) ?_
            refine lv_istore_n (lv' := [(3, .int 0), (4, .int x4_33), (2, .int x2_31), (0, .ref h), (1, .int a1)]) hx hb dX1_leastRuns_61 rfl hl (by decide) rfl (fun ls hl => ?_)
            refine lv_iinc (v := x4_33 + 1) (lv' := [(4, .int (x4_33 + 1)), (3, .int 0), (2, .int x2_31), (0, .ref h), (1, .int a1)]) hx hb dX1_leastRuns_62 hl (k := 1) rfl rfl (by decide) rfl (fun ls hl => ?_)
            refine lv_goto (tgt := 7) hx hb dX1_leastRuns_65 (by decide) ?_
            exact hin29 (x2_31, 0, x4_33 + 1) (Option.some.inj hX29).symm _ _ _ hP hD hS (lv_sub hl [0, 1, 2, 3, 4] rfl)
          · replace hX29 := k_neg hX29 c41
            refine lv_iconst (v := 1) hx hb dX1_leastRuns_56 (by decide) ?_
            refine lv_goto (tgt := 61) hx hb dX1_leastRuns_57 (by decide) ?_
            refine lv_istore_n (lv' := [(3, .int 1), (4, .int x4_33), (2, .int x2_31), (0, .ref h), (1, .int a1)]) hx hb dX1_leastRuns_61 rfl hl (by decide) rfl (fun ls hl => ?_)
            refine lv_iinc (v := x4_33 + 1) (lv' := [(4, .int (x4_33 + 1)), (3, .int 1), (2, .int x2_31), (0, .ref h), (1, .int a1)]) hx hb dX1_leastRuns_62 hl (k := 1) rfl rfl (by decide) rfl (fun ls hl => ?_)
            refine lv_goto (tgt := 7) hx hb dX1_leastRuns_65 (by decide) ?_
            exact hin29 (x2_31, 1, x4_33 + 1) (Option.some.inj hX29).symm _ _ _ hP hD hS (lv_sub hl [0, 1, 2, 3, 4] rfl)
    · replace hX29 := k_pos hX29 c36
      refine lv_iload_n hx hb dX1_leastRuns_24 rfl (lv_at hl 1 rfl) ?_
      refine lv_if_ne (tgt := 31) hx hb dX1_leastRuns_25 (by decide) (fun c42 => ?_) (fun c42 => ?_)
      · replace hX29 := k_neg hX29 c42
        refine lv_aload_n hx hb dX1_leastRuns_31 rfl (lv_at hl 3 rfl) ?_
        refine k_get (C := RX1) (T := TX1) (N := 1) hx hb hts inX1 hown hK hP 0 rfl rfl 0 (by decide) rfl wl1 rfl dX1_leastRuns_32 ?_
        refine lv_iload hx hb dX1_leastRuns_35 (lv_at hl 0 rfl) ?_
        obtain ⟨hi43, hX29⟩ := k_ix_some hX29
        refine k_iald (k := x4_33.toNatClampNeg) hx hb hK hP 1 0 rfl rfl hi43 rfl dX1_leastRuns_37 ?_
        refine lv_iconst (v := 1) hx hb dX1_leastRuns_38 (by decide) ?_
        refine lv_icmp_eq (tgt := 56) hx hb dX1_leastRuns_39 (by decide) (fun c44 => ?_) (fun c44 => ?_)
        · replace hX29 := k_pos hX29 c44
          refine lv_iconst (v := 1) hx hb dX1_leastRuns_56 (by decide) ?_
          refine lv_goto (tgt := 61) hx hb dX1_leastRuns_57 (by decide) ?_
          refine lv_istore_n (lv' := [(3, .int 1), (4, .int x4_33), (2, .int x2_31), (0, .ref h), (1, .int a1)]) hx hb dX1_leastRuns_61 rfl hl (by decide) rfl (fun ls hl => ?_)
          refine lv_iinc (v := x4_33 + 1) (lv' := [(4, .int (x4_33 + 1)), (3, .int 1), (2, .int x2_31), (0, .ref h), (1, .int a1)]) hx hb dX1_leastRuns_62 hl (k := 1) rfl rfl (by decide) rfl (fun ls hl => ?_)
          refine lv_goto (tgt := 7) hx hb dX1_leastRuns_65 (by decide) ?_
          exact hin29 (x2_31, 1, x4_33 + 1) (Option.some.inj hX29).symm _ _ _ hP hD hS (lv_sub hl [0, 1, 2, 3, 4] rfl)
        · replace hX29 := k_neg hX29 c44
          refine lv_aload_n hx hb dX1_leastRuns_42 rfl (lv_at hl 3 rfl) ?_
          refine k_get (C := RX1) (T := TX1) (N := 1) hx hb hts inX1 hown hK hP 0 rfl rfl 0 (by decide) rfl wl1 rfl dX1_leastRuns_43 ?_
          refine lv_iload hx hb dX1_leastRuns_46 (lv_at hl 0 rfl) ?_
          obtain ⟨hi45, hX29⟩ := k_ix_some hX29
          refine k_iald (k := x4_33.toNatClampNeg) hx hb hK hP 1 0 rfl rfl hi45 rfl dX1_leastRuns_48 ?_
          refine lv_if_eq (tgt := 60) hx hb dX1_leastRuns_49 (by decide) (fun c46 => ?_) (fun c46 => ?_)
          · replace hX29 := k_pos hX29 c46
            refine lv_iconst (v := 0) hx hb dX1_leastRuns_60 (by decide) ?_
            refine lv_istore_n (lv' := [(3, .int 0), (4, .int x4_33), (2, .int x2_31), (0, .ref h), (1, .int a1)]) hx hb dX1_leastRuns_61 rfl hl (by decide) rfl (fun ls hl => ?_)
            refine lv_iinc (v := x4_33 + 1) (lv' := [(4, .int (x4_33 + 1)), (3, .int 0), (2, .int x2_31), (0, .ref h), (1, .int a1)]) hx hb dX1_leastRuns_62 hl (k := 1) rfl rfl (by decide) rfl (fun ls hl => ?_)
            refine lv_goto (tgt := 7) hx hb dX1_leastRuns_65 (by decide) ?_
            exact hin29 (x2_31, 0, x4_33 + 1) (Option.some.inj hX29).symm _ _ _ hP hD hS (lv_sub hl [0, 1, 2, 3, 4] rfl)
          · replace hX29 := k_neg hX29 c46
            refine lv_iload_n hx hb dX1_leastRuns_52 rfl (lv_at hl 1 rfl) ?_
            refine lv_if_eq (tgt := 60) hx hb dX1_leastRuns_53 (by decide) (fun c47 => ?_) (fun c47 => ?_)
            · replace hX29 := k_pos hX29 c47
              refine lv_iconst (v := 0) hx hb dX1_leastRuns_60 (by decide) ?_
              refine lv_istore_n (lv' := [(3, .int 0), (4, .int x4_33), (2, .int x2_31), (0, .ref h), (1, .int a1)]) hx hb dX1_leastRuns_61 rfl hl (by decide) rfl (fun ls hl => ?_)
              refine lv_iinc (v := x4_33 + 1) (lv' := [(4, .int (x4_33 + 1)), (3, .int 0), (2, .int x2_31), (0, .ref h), (1, .int a1)]) hx hb dX1_leastRuns_62 hl (k := 1) rfl rfl (by decide) rfl (fun ls hl => ?_)
              refine lv_goto (tgt := 7) hx hb dX1_leastRuns_65 (by decide) ?_
              exact hin29 (x2_31, 0, x4_33 + 1) (Option.some.inj hX29).symm _ _ _ hP hD hS (lv_sub hl [0, 1, 2, 3, 4] rfl)
            · replace hX29 := k_neg hX29 c47
              refine lv_iconst (v := 1) hx hb dX1_leastRuns_56 (by decide) ?_
              refine lv_goto (tgt := 61) hx hb dX1_leastRuns_57 (by decide) ?_
              refine lv_istore_n (lv' := [(3, .int 1), (4, .int x4_33), (2, .int x2_31), (0, .ref h), (1, .int a1)]) hx hb dX1_leastRuns_61 rfl hl (by decide) rfl (fun ls hl => ?_)
              refine lv_iinc (v := x4_33 + 1) (lv' := [(4, .int (x4_33 + 1)), (3, .int 1), (2, .int x2_31), (0, .ref h), (1, .int a1)]) hx hb dX1_leastRuns_62 hl (k := 1) rfl rfl (by decide) rfl (fun ls hl => ?_)
              refine lv_goto (tgt := 7) hx hb dX1_leastRuns_65 (by decide) ?_
              exact hin29 (x2_31, 1, x4_33 + 1) (Option.some.inj hX29).symm _ _ _ hP hD hS (lv_sub hl [0, 1, 2, 3, 4] rfl)
      · replace hX29 := k_pos hX29 c42
        refine lv_iinc (v := x2_31 + 1) (lv' := [(2, .int (x2_31 + 1)), (4, .int x4_33), (3, .int x3_32), (0, .ref h), (1, .int a1)]) hx hb dX1_leastRuns_28 hl (k := 2) rfl rfl (by decide) rfl (fun ls hl => ?_)
        refine lv_aload_n hx hb dX1_leastRuns_31 rfl (lv_at hl 3 rfl) ?_
        refine k_get (C := RX1) (T := TX1) (N := 1) hx hb hts inX1 hown hK hP 0 rfl rfl 0 (by decide) rfl wl1 rfl dX1_leastRuns_32 ?_
        refine lv_iload hx hb dX1_leastRuns_35 (lv_at hl 1 rfl) ?_
        obtain ⟨hi48, hX29⟩ := k_ix_some hX29
        refine k_iald (k := x4_33.toNatClampNeg) hx hb hK hP 1 0 rfl rfl hi48 rfl dX1_leastRuns_37 ?_
        refine lv_iconst (v := 1) hx hb dX1_leastRuns_38 (by decide) ?_
        refine lv_icmp_eq (tgt := 56) hx hb dX1_leastRuns_39 (by decide) (fun c49 => ?_) (fun c49 => ?_)
        · replace hX29 := k_pos hX29 c49
          refine lv_iconst (v := 1) hx hb dX1_leastRuns_56 (by decide) ?_
          refine lv_goto (tgt := 61) hx hb dX1_leastRuns_57 (by decide) ?_
          refine lv_istore_n (lv' := [(3, .int 1), (2, .int (x2_31 + 1)), (4, .int x4_33), (0, .ref h), (1, .int a1)]) hx hb dX1_leastRuns_61 rfl hl (by decide) rfl (fun ls hl => ?_)
          refine lv_iinc (v := x4_33 + 1) (lv' := [(4, .int (x4_33 + 1)), (3, .int 1), (2, .int (x2_31 + 1)), (0, .ref h), (1, .int a1)]) hx hb dX1_leastRuns_62 hl (k := 2) rfl rfl (by decide) rfl (fun ls hl => ?_)
          refine lv_goto (tgt := 7) hx hb dX1_leastRuns_65 (by decide) ?_
          exact hin29 (x2_31 + 1, 1, x4_33 + 1) (Option.some.inj hX29).symm _ _ _ hP hD hS (lv_sub hl [0, 1, 2, 3, 4] rfl)
        · replace hX29 := k_neg hX29 c49
          refine lv_aload_n hx hb dX1_leastRuns_42 rfl (lv_at hl 3 rfl) ?_
          refine k_get (C := RX1) (T := TX1) (N := 1) hx hb hts inX1 hown hK hP 0 rfl rfl 0 (by decide) rfl wl1 rfl dX1_leastRuns_43 ?_
          refine lv_iload hx hb dX1_leastRuns_46 (lv_at hl 1 rfl) ?_
          obtain ⟨hi50, hX29⟩ := k_ix_some hX29
          refine k_iald (k := x4_33.toNatClampNeg) hx hb hK hP 1 0 rfl rfl hi50 rfl dX1_leastRuns_48 ?_
          refine lv_if_eq (tgt := 60) hx hb dX1_leastRuns_49 (by decide) (fun c51 => ?_) (fun c51 => ?_)
          · replace hX29 := k_pos hX29 c51
            refine lv_iconst (v := 0) hx hb dX1_leastRuns_60 (by decide) ?_
            refine lv_istore_n (lv' := [(3, .int 0), (2, .int (x2_31 + 1)), (4, .int x4_33), (0, .ref h), (1, .int a1)]) hx hb dX1_leastRuns_61 rfl hl (by decide) rfl (fun ls hl => ?_)
            refine lv_iinc (v := x4_33 + 1) (lv' := [(4, .int (x4_33 + 1)), (3, .int 0), (2, .int (x2_31 + 1)), (0, .ref h), (1, .int a1)]) hx hb dX1_leastRuns_62 hl (k := 2) rfl rfl (by decide) rfl (fun ls hl => ?_)
            refine lv_goto (tgt := 7) hx hb dX1_leastRuns_65 (by decide) ?_
            exact hin29 (x2_31 + 1, 0, x4_33 + 1) (Option.some.inj hX29).symm _ _ _ hP hD hS (lv_sub hl [0, 1, 2, 3, 4] rfl)
          · replace hX29 := k_neg hX29 c51
            refine lv_iload_n hx hb dX1_leastRuns_52 rfl (lv_at hl 2 rfl) ?_
            refine lv_if_eq (tgt := 60) hx hb dX1_leastRuns_53 (by decide) (fun c52 => ?_) (fun c52 => ?_)
            · replace hX29 := k_pos hX29 c52
              refine lv_iconst (v := 0) hx hb dX1_leastRuns_60 (by decide) ?_
              refine lv_istore_n (lv' := [(3, .int 0), (2, .int (x2_31 + 1)), (4, .int x4_33), (0, .ref h), (1, .int a1)]) hx hb dX1_leastRuns_61 rfl hl (by decide) rfl (fun ls hl => ?_)
              refine lv_iinc (v := x4_33 + 1) (lv' := [(4, .int (x4_33 + 1)), (3, .int 0), (2, .int (x2_31 + 1)), (0, .ref h), (1, .int a1)]) hx hb dX1_leastRuns_62 hl (k := 2) rfl rfl (by decide) rfl (fun ls hl => ?_)
              refine lv_goto (tgt := 7) hx hb dX1_leastRuns_65 (by decide) ?_
              exact hin29 (x2_31 + 1, 0, x4_33 + 1) (Option.some.inj hX29).symm _ _ _ hP hD hS (lv_sub hl [0, 1, 2, 3, 4] rfl)
            · replace hX29 := k_neg hX29 c52
              refine lv_iconst (v := 1) hx hb dX1_leastRuns_56 (by decide) ?_
              refine lv_goto (tgt := 61) hx hb dX1_leastRuns_57 (by decide) ?_
              refine lv_istore_n (lv' := [(3, .int 1), (2, .int (x2_31 + 1)), (4, .int x4_33), (0, .ref h), (1, .int a1)]) hx hb dX1_leastRuns_61 rfl hl (by decide) rfl (fun ls hl => ?_)
              refine lv_iinc (v := x4_33 + 1) (lv' := [(4, .int (x4_33 + 1)), (3, .int 1), (2, .int (x2_31 + 1)), (0, .ref h), (1, .int a1)]) hx hb dX1_leastRuns_62 hl (k := 2) rfl rfl (by decide) rfl (fun ls hl => ?_)
              refine lv_goto (tgt := 7) hx hb dX1_leastRuns_65 (by decide) ?_
              exact hin29 (x2_31 + 1, 1, x4_33 + 1) (Option.some.inj hX29).symm _ _ _ hP hD hS (lv_sub hl [0, 1, 2, 3, 4] rfl)

def lb_X1_mostRuns_11 (a1 : Int32) (f_h_tapped : Nat → Int32) (x3_18 : Int32) (x4_19 : Int32) (x5_20 : Int32) : Option ((Int32 × Int32 × Int32) ⊕ (Int32 × Int32)) :=
  if a1 ≤ x5_20 then
    some (.inr (x3_18, x4_19))
  else
    k_ix x5_20 30 (
      if (f_h_tapped x5_20.toNatClampNeg) = 0 then
        k_ix x5_20 30 (
          if (f_h_tapped x5_20.toNatClampNeg) = 1 then
            some (.inl ((-31), (-31), x5_20 + 1))
          else
            some (.inl ((-31), if x3_18 < x4_19 then x4_19 else x3_18, x5_20 + 1)))
      else
        k_ix x5_20 30 (
          if (f_h_tapped x5_20.toNatClampNeg) = 1 then
            some (.inl (if x3_18 < (x4_19 + 1) then (x4_19 + 1) else x3_18, (-31), x5_20 + 1))
          else
            some (.inl (if x3_18 < (x4_19 + 1) then (x4_19 + 1) else x3_18, if x3_18 < x4_19 then x4_19 else x3_18, x5_20 + 1))))
def p_X1_mostRuns (f_h_tapped : Nat → Int32) (a1 : Int32) : Option (Int32) :=
  k_b2 (k_lp (fun s => lb_X1_mostRuns_11 a1 f_h_tapped s.1 s.2.1 s.2.2) k_fuel ((-31), 0, 0)) fun x3_16 x4_17 =>
  some (if x3_16 < x4_17 then x4_17 else x3_16)
abbrev rm_X1_mostRuns : Room := { frames := 1, cells := 0, slots := 0, locals := 24 }
theorem hdS_X1_mostRuns : yX1_mostRuns.cls ≠ "java/lang/invoke/MethodHandle" ∧ yX1_mostRuns.cls ≠ "java/lang/invoke/VarHandle" ∧ (parseMethodDescriptor yX1_mostRuns.desc).map (fun d => d.parameters.length) = some 1 := by decide +kernel
theorem hdV_X1_mostRuns : yX1_mostRuns.cls = RX1 ∧ yX1_mostRuns.cls ≠ "java/lang/invoke/MethodHandle" ∧ yX1_mostRuns.cls ≠ "java/lang/invoke/VarHandle" ∧ (parseMethodDescriptor yX1_mostRuns.desc).map (fun d => d.parameters.length) = some 1 := by decide +kernel
set_option maxHeartbeats 4000000 in
set_option maxRecDepth 100000 in
theorem c_X1_mostRuns (l : Launch) (D : va_G) (cI cZ cJ cS : ClassId) (h h_tapped : Nat) (f_h_tapped : Nat → Int32) (a1 : Int32) (r : Int32) (hf : p_X1_mostRuns f_h_tapped a1 = some r) : k_MI l yX1_mostRuns wsX1_mostRuns rm_X1_mostRuns D (k_tys cI cZ cJ cS) [.ref h, .int a1] [(h, .inr (1, [.ref h_tapped])), (h_tapped, .inl (cI, 30, .inl f_h_tapped))] [(h, .inr (1, [.ref h_tapped])), (h_tapped, .inl (cI, 30, .inl f_h_tapped))] r := by
  refine k_enter (y := yX1_mostRuns) (wl := wsX1_mostRuns) (rm := rm_X1_mostRuns) (av := [.ref h, .int a1]) (D := D) (tys := k_tys cI cZ cJ cS) (ws := [(h, .inr (1, [.ref h_tapped])), (h_tapped, .inl (cI, 30, .inl f_h_tapped))]) (cc := cX1_mostRuns) (maxL := 8) (ret := (some .int)) (Qc := fun A => k_Qi D (k_tys cI cZ cJ cS) [(h, .inr (1, [.ref h_tapped])), (h_tapped, .inl (cI, 30, .inl f_h_tapped))] A r) (by decide) rfl (Nat.le_of_ble_eq_true rfl) [(0, .ref h), (1, .int a1)] rfl ?_
  intro p e s m below meth c A hx hb hml hr hlocks hnm hown hK hP hD hA hS hN ls args Q hts hl hQ
  replace hown : s.vm.findClass RX1 = some m.cls := hown
  have inX1 : ∀ w ∈ u_ws RX1 TX1 1, w ∈ wsX1_mostRuns := fun w h => List.mem_cons_of_mem _ (List.mem_append_right _ h)
  have wl1 : (Cond.methodLink RX1 15 Lib.Math.max.name).before args s = true := hts _ (List.mem_of_getElem? (i := 1) rfl)
  have wl2 : (Cond.static Lib.Math.max.name).before args s = true := hts _ (List.mem_of_getElem? (i := 2) rfl)
  have wl3 : (Cond.initialized "java/lang/Math").before args s = true := hts _ (List.mem_of_getElem? (i := 3) rfl)
  have wl4 : (Cond.code Lib.Math.max.name Lib.Math.max.code 2 (some .int)).before args s = true := hts _ (List.mem_of_getElem? (i := 4) rfl)
  have wl5 : (Cond.fieldLink RX1 9 "BeachedShip$Planks" "tapped" "[I").before args s = true := hts _ (List.mem_of_getElem? (i := 5) rfl)
  have hRet : ∀ (r_z : Int32), some r_z = some r → ∀ (H : Heap) (locs : List Loc) (ls : Array Slot) (pc : Nat), va_P D vwCl [(h, .inr (1, [.ref h_tapped])), (h_tapped, .inl (cI, 30, .inl f_h_tapped))] H → va_D A [(h, .inr (1, [.ref h_tapped])), (h_tapped, .inl (cI, 30, .inl f_h_tapped))] → va_S A s.heap H locs → narrow .int (.int r_z) = .int r_z → decode cX1_mostRuns pc = .ok (.ireturn, 1) → W p l e rm_X1_mostRuns s m args below meth c H locs 0 0 Q (F0 m pc ls [.int r_z]) := by
    intro r_z hz H locs ls pc hP hD hS hn hd
    cases hz
    exact k_iret hx hb hr hlocks hn hK hP hD hS hQ rfl hd
  unfold p_X1_mostRuns at hf
  refine lv_bipush (v := (-31)) hx hb dX1_mostRuns_0 (by decide) ?_
  refine lv_istore_n (lv' := [(2, .int (-31)), (0, .ref h), (1, .int a1)]) hx hb dX1_mostRuns_2 rfl hl (by decide) rfl (fun ls hl => ?_)
  refine lv_iload_n hx hb dX1_mostRuns_3 rfl (lv_at hl 0 rfl) ?_
  refine lv_istore_n (lv' := [(3, .int (-31)), (2, .int (-31)), (0, .ref h), (1, .int a1)]) hx hb dX1_mostRuns_4 rfl hl (by decide) rfl (fun ls hl => ?_)
  refine lv_iconst (v := 0) hx hb dX1_mostRuns_5 (by decide) ?_
  refine lv_istore (lv' := [(4, .int 0), (3, .int (-31)), (2, .int (-31)), (0, .ref h), (1, .int a1)]) hx hb dX1_mostRuns_6 hl (by decide) rfl (fun ls hl => ?_)
  refine lv_iconst (v := 0) hx hb dX1_mostRuns_8 (by decide) ?_
  refine lv_istore (lv' := [(5, .int 0), (4, .int 0), (3, .int (-31)), (2, .int (-31)), (0, .ref h), (1, .int a1)]) hx hb dX1_mostRuns_9 hl (by decide) rfl (fun ls hl => ?_)
  obtain ⟨ee15, hlp15, hfr15⟩ := k_b2_ee hf
  have hE15 : ∀ (x3_16 : Int32) (x4_17 : Int32), ee15 = (x3_16, x4_17) → ∀ (H : Heap) (locs : List Loc) (ls : Array Slot), va_P D vwCl [(h, .inr (1, [.ref h_tapped])), (h_tapped, .inl (cI, 30, .inl f_h_tapped))] H → va_D A [(h, .inr (1, [.ref h_tapped])), (h_tapped, .inl (cI, 30, .inl f_h_tapped))] → va_S A s.heap H locs → lv_has ls 8 [(4, .int x4_17), (3, .int x3_16)] → W p l e rm_X1_mostRuns s m args below meth c H locs 0 0 Q (F0 m 77 ls []) := by
    intro x3_16 x4_17 he H locs ls hP hD hS hl
    replace hf := hfr15 x3_16 x4_17 he
    refine lv_iload_n hx hb dX1_mostRuns_77 rfl (lv_at hl 1 rfl) ?_
    refine lv_iload hx hb dX1_mostRuns_78 (lv_at hl 0 rfl) ?_
    refine va_mmax hx hb (hml.trans hl.1.symm) hown wl1 wl2 wl3 wl4 (Nat.le_of_ble_eq_true rfl) (Nat.le_of_ble_eq_true rfl) (Nat.zero_le _) (Nat.zero_le _) dX1_mostRuns_80 ?_
    exact hRet _ hf _ _ _ _ hP hD hS rfl dX1_mostRuns_83
  refine (k_lp_ind (fun sx15 => ∀ (H : Heap) (locs : List Loc) (ls : Array Slot), va_P D vwCl [(h, .inr (1, [.ref h_tapped])), (h_tapped, .inl (cI, 30, .inl f_h_tapped))] H → va_D A [(h, .inr (1, [.ref h_tapped])), (h_tapped, .inl (cI, 30, .inl f_h_tapped))] → va_S A s.heap H locs → lv_has ls 8 [(5, .int sx15.2.2), (4, .int sx15.2.1), (3, .int sx15.1), (2, .int (-31)), (0, .ref h), (1, .int a1)] → W p l e rm_X1_mostRuns s m args below meth c H locs 0 0 Q (F0 m 11 ls [])) (fun sx15 X15 hX15 hin15 hout15 => ?_) _ _ hlp15) _ _ _ hP hD hS (lv_sub hl [0, 1, 2, 3, 4, 5] rfl)
  obtain ⟨x3_18, x4_19, x5_20⟩ := sx15
  intro H locs ls hP hD hS hl
  replace hP : va_P D vwCl [(h, .inr (1, [.ref h_tapped])), (h_tapped, .inl (cI, 30, .inl f_h_tapped))] H := hP
  replace hD : va_D A [(h, .inr (1, [.ref h_tapped])), (h_tapped, .inl (cI, 30, .inl f_h_tapped))] := hD
  replace hl : lv_has ls 8 [(5, .int x5_20), (4, .int x4_19), (3, .int x3_18), (2, .int (-31)), (0, .ref h), (1, .int a1)] := hl
  replace hX15 : lb_X1_mostRuns_11 a1 f_h_tapped x3_18 x4_19 x5_20 = some X15 := hX15
  unfold lb_X1_mostRuns_11 at hX15
  refine lv_iload hx hb dX1_mostRuns_11 (lv_at hl 0 rfl) ?_
  refine lv_iload_n hx hb dX1_mostRuns_13 rfl (lv_at hl 5 rfl) ?_
  refine lv_icmp_ge (tgt := 77) hx hb dX1_mostRuns_14 (by decide) (fun c21 => ?_) (fun c21 => ?_)
  · replace hX15 := k_pos hX15 c21
    exact hE15 _ _ (hout15 _ (Option.some.inj hX15).symm).symm _ _ _ hP hD hS (lv_sub hl [1, 2] rfl)
  · replace hX15 := k_neg hX15 c21
    refine lv_iload_n hx hb dX1_mostRuns_17 rfl (lv_at hl 2 rfl) ?_
    refine lv_iload hx hb dX1_mostRuns_18 (lv_at hl 1 rfl) ?_
    refine lv_iconst (v := 1) hx hb dX1_mostRuns_20 (by decide) ?_
    refine lv_iadd hx hb dX1_mostRuns_21 ?_
    refine va_mmax hx hb (hml.trans hl.1.symm) hown wl1 wl2 wl3 wl4 (Nat.le_of_ble_eq_true rfl) (Nat.le_of_ble_eq_true rfl) (Nat.zero_le _) (Nat.zero_le _) dX1_mostRuns_22 ?_
    refine lv_istore (lv' := [(6, .int (if x3_18 < (x4_19 + 1) then (x4_19 + 1) else x3_18)), (5, .int x5_20), (4, .int x4_19), (3, .int x3_18), (2, .int (-31)), (0, .ref h), (1, .int a1)]) hx hb dX1_mostRuns_25 hl (by decide) rfl (fun ls hl => ?_)
    refine lv_iload_n hx hb dX1_mostRuns_27 rfl (lv_at hl 3 rfl) ?_
    refine lv_iload hx hb dX1_mostRuns_28 (lv_at hl 2 rfl) ?_
    refine va_mmax hx hb (hml.trans hl.1.symm) hown wl1 wl2 wl3 wl4 (Nat.le_of_ble_eq_true rfl) (Nat.le_of_ble_eq_true rfl) (Nat.zero_le _) (Nat.zero_le _) dX1_mostRuns_30 ?_
    refine lv_istore (lv' := [(7, .int (if x3_18 < x4_19 then x4_19 else x3_18)), (6, .int (if x3_18 < (x4_19 + 1) then (x4_19 + 1) else x3_18)), (5, .int x5_20), (4, .int x4_19), (3, .int x3_18), (2, .int (-31)), (0, .ref h), (1, .int a1)]) hx hb dX1_mostRuns_33 hl (by decide) rfl (fun ls hl => ?_)
    refine lv_aload_n hx hb dX1_mostRuns_35 rfl (lv_at hl 6 rfl) ?_
    refine k_get (C := RX1) (T := TX1) (N := 1) hx hb hts inX1 hown hK hP 0 rfl rfl 0 (by decide) rfl wl5 rfl dX1_mostRuns_36 ?_
    refine lv_iload hx hb dX1_mostRuns_39 (lv_at hl 2 rfl) ?_
    obtain ⟨hi22, hX15⟩ := k_ix_some hX15
    refine k_iald (k := x5_20.toNatClampNeg) hx hb hK hP 1 0 rfl rfl hi22 rfl dX1_mostRuns_41 ?_
    refine lv_if_ne (tgt := 49) hx hb dX1_mostRuns_42 (by decide) (fun c23 => ?_) (fun c23 => ?_)
    · replace hX15 := k_neg hX15 c23
      refine lv_iload hx hb dX1_mostRuns_49 (lv_at hl 1 rfl) ?_
      refine lv_istore_n (lv' := [(3, .int (if x3_18 < (x4_19 + 1) then (x4_19 + 1) else x3_18)), (7, .int (if x3_18 < x4_19 then x4_19 else x3_18)), (6, .int (if x3_18 < (x4_19 + 1) then (x4_19 + 1) else x3_18)), (5, .int x5_20), (4, .int x4_19), (2, .int (-31)), (0, .ref h), (1, .int a1)]) hx hb dX1_mostRuns_51 rfl hl (by decide) rfl (fun ls hl => ?_)
      refine lv_aload_n hx hb dX1_mostRuns_52 rfl (lv_at hl 6 rfl) ?_
      refine k_get (C := RX1) (T := TX1) (N := 1) hx hb hts inX1 hown hK hP 0 rfl rfl 0 (by decide) rfl wl5 rfl dX1_mostRuns_53 ?_
      refine lv_iload hx hb dX1_mostRuns_56 (lv_at hl 3 rfl) ?_
      obtain ⟨hi24, hX15⟩ := k_ix_some hX15
      refine k_iald (k := x5_20.toNatClampNeg) hx hb hK hP 1 0 rfl rfl hi24 rfl dX1_mostRuns_58 ?_
      refine lv_iconst (v := 1) hx hb dX1_mostRuns_59 (by decide) ?_
      refine lv_icmp_ne (tgt := 67) hx hb dX1_mostRuns_60 (by decide) (fun c25 => ?_) (fun c25 => ?_)
      · replace hX15 := k_neg hX15 c25
        refine lv_iload hx hb dX1_mostRuns_67 (lv_at hl 1 rfl) ?_
        refine lv_istore (lv' := [(4, .int (if x3_18 < x4_19 then x4_19 else x3_18)), (3, .int (if x3_18 < (x4_19 + 1) then (x4_19 + 1) else x3_18)), (7, .int (if x3_18 < x4_19 then x4_19 else x3_18)), (6, .int (if x3_18 < (x4_19 + 1) then (x4_19 + 1) else x3_18)), (5, .int x5_20), (2, .int (-31)), (0, .ref h), (1, .int a1)]) hx hb dX1_mostRuns_69 hl (by decide) rfl (fun ls hl => ?_)
        refine lv_iinc (v := x5_20 + 1) (lv' := [(5, .int (x5_20 + 1)), (4, .int (if x3_18 < x4_19 then x4_19 else x3_18)), (3, .int (if x3_18 < (x4_19 + 1) then (x4_19 + 1) else x3_18)), (7, .int (if x3_18 < x4_19 then x4_19 else x3_18)), (6, .int (if x3_18 < (x4_19 + 1) then (x4_19 + 1) else x3_18)), (2, .int (-31)), (0, .ref h), (1, .int a1)]) hx hb dX1_mostRuns_71 hl (k := 4) rfl rfl (by decide) rfl (fun ls hl => ?_)
        refine lv_goto (tgt := 11) hx hb dX1_mostRuns_74 (by decide) ?_
        exact hin15 (if x3_18 < (x4_19 + 1) then (x4_19 + 1) else x3_18, if x3_18 < x4_19 then x4_19 else x3_18, x5_20 + 1) (Option.some.inj hX15).symm _ _ _ hP hD hS (lv_sub hl [0, 1, 2, 5, 6, 7] rfl)
      · replace hX15 := k_pos hX15 c25
        refine lv_iload_n hx hb dX1_mostRuns_63 rfl (lv_at hl 5 rfl) ?_
        refine lv_goto (tgt := 69) hx hb dX1_mostRuns_64 (by decide) ?_
        refine lv_istore (lv' := [(4, .int (-31)), (3, .int (if x3_18 < (x4_19 + 1) then (x4_19 + 1) else x3_18)), (7, .int (if x3_18 < x4_19 then x4_19 else x3_18)), (6, .int (if x3_18 < (x4_19 + 1) then (x4_19 + 1) else x3_18)), (5, .int x5_20), (2, .int (-31)), (0, .ref h), (1, .int a1)]) hx hb dX1_mostRuns_69 hl (by decide) rfl (fun ls hl => ?_)
        refine lv_iinc (v := x5_20 + 1) (lv' := [(5, .int (x5_20 + 1)), (4, .int (-31)), (3, .int (if x3_18 < (x4_19 + 1) then (x4_19 + 1) else x3_18)), (7, .int (if x3_18 < x4_19 then x4_19 else x3_18)), (6, .int (if x3_18 < (x4_19 + 1) then (x4_19 + 1) else x3_18)), (2, .int (-31)), (0, .ref h), (1, .int a1)]) hx hb dX1_mostRuns_71 hl (k := 4) rfl rfl (by decide) rfl (fun ls hl => ?_)
        refine lv_goto (tgt := 11) hx hb dX1_mostRuns_74 (by decide) ?_
        exact hin15 (if x3_18 < (x4_19 + 1) then (x4_19 + 1) else x3_18, (-31), x5_20 + 1) (Option.some.inj hX15).symm _ _ _ hP hD hS (lv_sub hl [0, 1, 2, 5, 6, 7] rfl)
    · replace hX15 := k_pos hX15 c23
      refine lv_iload_n hx hb dX1_mostRuns_45 rfl (lv_at hl 5 rfl) ?_
      refine lv_goto (tgt := 51) hx hb dX1_mostRuns_46 (by decide) ?_
      refine lv_istore_n (lv' := [(3, .int (-31)), (7, .int (if x3_18 < x4_19 then x4_19 else x3_18)), (6, .int (if x3_18 < (x4_19 + 1) then (x4_19 + 1) else x3_18)), (5, .int x5_20), (4, .int x4_19), (2, .int (-31)), (0, .ref h), (1, .int a1)]) hx hb dX1_mostRuns_51 rfl hl (by decide) rfl (fun ls hl => ?_)
      refine lv_aload_n hx hb dX1_mostRuns_52 rfl (lv_at hl 6 rfl) ?_
      refine k_get (C := RX1) (T := TX1) (N := 1) hx hb hts inX1 hown hK hP 0 rfl rfl 0 (by decide) rfl wl5 rfl dX1_mostRuns_53 ?_
      refine lv_iload hx hb dX1_mostRuns_56 (lv_at hl 3 rfl) ?_
      obtain ⟨hi26, hX15⟩ := k_ix_some hX15
      refine k_iald (k := x5_20.toNatClampNeg) hx hb hK hP 1 0 rfl rfl hi26 rfl dX1_mostRuns_58 ?_
      refine lv_iconst (v := 1) hx hb dX1_mostRuns_59 (by decide) ?_
      refine lv_icmp_ne (tgt := 67) hx hb dX1_mostRuns_60 (by decide) (fun c27 => ?_) (fun c27 => ?_)
      · replace hX15 := k_neg hX15 c27
        refine lv_iload hx hb dX1_mostRuns_67 (lv_at hl 1 rfl) ?_
        refine lv_istore (lv' := [(4, .int (if x3_18 < x4_19 then x4_19 else x3_18)), (3, .int (-31)), (7, .int (if x3_18 < x4_19 then x4_19 else x3_18)), (6, .int (if x3_18 < (x4_19 + 1) then (x4_19 + 1) else x3_18)), (5, .int x5_20), (2, .int (-31)), (0, .ref h), (1, .int a1)]) hx hb dX1_mostRuns_69 hl (by decide) rfl (fun ls hl => ?_)
        refine lv_iinc (v := x5_20 + 1) (lv' := [(5, .int (x5_20 + 1)), (4, .int (if x3_18 < x4_19 then x4_19 else x3_18)), (3, .int (-31)), (7, .int (if x3_18 < x4_19 then x4_19 else x3_18)), (6, .int (if x3_18 < (x4_19 + 1) then (x4_19 + 1) else x3_18)), (2, .int (-31)), (0, .ref h), (1, .int a1)]) hx hb dX1_mostRuns_71 hl (k := 4) rfl rfl (by decide) rfl (fun ls hl => ?_)
        refine lv_goto (tgt := 11) hx hb dX1_mostRuns_74 (by decide) ?_
        exact hin15 ((-31), if x3_18 < x4_19 then x4_19 else x3_18, x5_20 + 1) (Option.some.inj hX15).symm _ _ _ hP hD hS (lv_sub hl [0, 1, 2, 5, 6, 7] rfl)
      · replace hX15 := k_pos hX15 c27
        refine lv_iload_n hx hb dX1_mostRuns_63 rfl (lv_at hl 5 rfl) ?_
        refine lv_goto (tgt := 69) hx hb dX1_mostRuns_64 (by decide) ?_
        refine lv_istore (lv' := [(4, .int (-31)), (3, .int (-31)), (7, .int (if x3_18 < x4_19 then x4_19 else x3_18)), (6, .int (if x3_18 < (x4_19 + 1) then (x4_19 + 1) else x3_18)), (5, .int x5_20), (2, .int (-31)), (0, .ref h), (1, .int a1)]) hx hb dX1_mostRuns_69 hl (by decide) rfl (fun ls hl => ?_)
        refine lv_iinc (v := x5_20 + 1) (lv' := [(5, .int (x5_20 + 1)), (4, .int (-31)), (3, .int (-31)), (7, .int (if x3_18 < x4_19 then x4_19 else x3_18)), (6, .int (if x3_18 < (x4_19 + 1) then (x4_19 + 1) else x3_18)), (2, .int (-31)), (0, .ref h), (1, .int a1)]) hx hb dX1_mostRuns_71 hl (k := 4) rfl rfl (by decide) rfl (fun ls hl => ?_)
        refine lv_goto (tgt := 11) hx hb dX1_mostRuns_74 (by decide) ?_
        exact hin15 ((-31), (-31), x5_20 + 1) (Option.some.inj hX15).symm _ _ _ hP hD hS (lv_sub hl [0, 1, 2, 5, 6, 7] rfl)

def lb_X2_beginnings_18 (a2 : Int32) (f_sr_rain : Nat → Int32) (v_o0_hour : Int32) (v_o0_heel : Int32) (f_sr_tide : Nat → Int32) (f_o0_se_strake : Nat → Int32) (f_o0_se_side : Nat → Int32) (a1 : Int32) (r1 : Int32) (x4_23 : Int32) (x5_24 : Int32) (x6_25 : Int32) : Option ((Int32 × Int32 × Int32) ⊕ (Int32)) :=
  if a2 ≤ x6_25 then
    some (.inr x4_23)
  else
    k_b1 (p_X5_rainsIn f_sr_rain (v_o0_hour + x6_25)) fun r27 =>
    if r27 = 0 then
      k_b1 (p_X4_isBare v_o0_heel f_sr_tide f_o0_se_strake f_o0_se_side a1 (v_o0_hour + x6_25)) fun r30 =>
      if r30 = 0 then
        if 0 < r1 then
          some (.inl (x4_23, 0, x6_25 + 1))
        else
          some (.inl (x4_23 ||| (1 <<< (((x6_25 - r1) + 1) &&& 31)), 0, x6_25 + 1))
      else
        if (x5_24 + 1) < r1 then
          some (.inl (x4_23, x5_24 + 1, x6_25 + 1))
        else
          some (.inl (x4_23 ||| (1 <<< (((x6_25 - r1) + 1) &&& 31)), x5_24 + 1, x6_25 + 1))
    else
      if 0 < r1 then
        some (.inl (x4_23, 0, x6_25 + 1))
      else
        some (.inl (x4_23 ||| (1 <<< (((x6_25 - r1) + 1) &&& 31)), 0, x6_25 + 1))
def p_X2_beginnings (v_o0_hour : Int32) (v_o0_heel : Int32) (f_o0_se_state : Nat → Int32) (f_o0_se_hours : Nat → Int32) (f_o0_se_done : Nat → Int32) (f_sr_rain : Nat → Int32) (f_sr_tide : Nat → Int32) (f_o0_se_strake : Nat → Int32) (f_o0_se_side : Nat → Int32) (a1 : Int32) (a2 : Int32) : Option (Int32) :=
  k_b1 (p_X3_hoursLacking f_o0_se_state f_o0_se_hours f_o0_se_done a1) fun r1 =>
  k_b1 (k_lp (fun s => lb_X2_beginnings_18 a2 f_sr_rain v_o0_hour v_o0_heel f_sr_tide f_o0_se_strake f_o0_se_side a1 r1 s.1 s.2.1 s.2.2) k_fuel (0, 0, 0)) fun x4_22 =>
  some x4_22
abbrev rm_X2_beginnings : Room := { frames := 3, cells := 0, slots := 0, locals := 67 }
theorem hdS_X2_beginnings : yX2_beginnings.cls ≠ "java/lang/invoke/MethodHandle" ∧ yX2_beginnings.cls ≠ "java/lang/invoke/VarHandle" ∧ (parseMethodDescriptor yX2_beginnings.desc).map (fun d => d.parameters.length) = some 3 := by decide +kernel
theorem hdV_X2_beginnings : yX2_beginnings.cls = RX2 ∧ yX2_beginnings.cls ≠ "java/lang/invoke/MethodHandle" ∧ yX2_beginnings.cls ≠ "java/lang/invoke/VarHandle" ∧ (parseMethodDescriptor yX2_beginnings.desc).map (fun d => d.parameters.length) = some 3 := by decide +kernel
set_option maxHeartbeats 4000000 in
set_option maxRecDepth 100000 in
theorem c_X2_beginnings (l : Launch) (D : va_G) (cI cZ cJ cS : ClassId) (o0 sr o0_th o0_ta o0_se o0_se_strake o0_se_side o0_se_hands o0_se_hours o0_se_pitch o0_se_worth o0_se_state o0_se_done sr_tide sr_rain sr_rules : Nat) (v_o0_hour : Int32) (v_o0_heel : Int32) (v_o0_water : Int32) (v_o0_pitch : Int32) (v_o0_boatUsed : Int32) (v_o0_heelWent : Int32) (v_o0_pitchTaken : Int32) (v_o0_hoursOfMen : Int32) (v_o0_parted : Int32) (v_o0_moved : Int32) (v_o0_se_size : Int32) (f_o0_se_state : Nat → Int32) (f_o0_se_hours : Nat → Int32) (f_o0_se_done : Nat → Int32) (f_sr_rain : Nat → Int32) (f_sr_tide : Nat → Int32) (f_o0_se_strake : Nat → Int32) (f_o0_se_side : Nat → Int32) (a1 : Int32) (a2 : Int32) (r : Int32) (hf : p_X2_beginnings v_o0_hour v_o0_heel f_o0_se_state f_o0_se_hours f_o0_se_done f_sr_rain f_sr_tide f_o0_se_strake f_o0_se_side a1 a2 = some r) : k_MI l yX2_beginnings wsX2_beginnings rm_X2_beginnings D (k_tys cI cZ cJ cS) [.ref o0, .int a1, .int a2] [(o0, .inr (4, [.ref sr, .ref o0_th, .ref o0_ta, .ref o0_se, .int v_o0_hour, .int v_o0_heel, .int v_o0_water, .int v_o0_pitch, .int v_o0_boatUsed, .int v_o0_heelWent, .int v_o0_pitchTaken, .int v_o0_hoursOfMen, .int v_o0_parted, .int v_o0_moved])), (o0_se, .inr (3, [.ref o0_se_strake, .ref o0_se_side, .ref o0_se_hands, .ref o0_se_hours, .ref o0_se_pitch, .ref o0_se_worth, .ref o0_se_state, .ref o0_se_done, .int v_o0_se_size])), (o0_se_state, .inl (cI, 12, .inl f_o0_se_state)), (o0_se_hours, .inl (cI, 12, .inl f_o0_se_hours)), (o0_se_done, .inl (cI, 12, .inl f_o0_se_done)), (sr, .inr (5, [.ref sr_tide, .ref sr_rain, .ref sr_rules])), (sr_rain, .inl (cZ, 96, .inl f_sr_rain)), (sr_tide, .inl (cI, 96, .inl f_sr_tide)), (o0_se_strake, .inl (cI, 12, .inl f_o0_se_strake)), (o0_se_side, .inl (cI, 12, .inl f_o0_se_side))] [(o0, .inr (4, [.ref sr, .ref o0_th, .ref o0_ta, .ref o0_se, .int v_o0_hour, .int v_o0_heel, .int v_o0_water, .int v_o0_pitch, .int v_o0_boatUsed, .int v_o0_heelWent, .int v_o0_pitchTaken, .int v_o0_hoursOfMen, .int v_o0_parted, .int v_o0_moved])), (o0_se, .inr (3, [.ref o0_se_strake, .ref o0_se_side, .ref o0_se_hands, .ref o0_se_hours, .ref o0_se_pitch, .ref o0_se_worth, .ref o0_se_state, .ref o0_se_done, .int v_o0_se_size])), (o0_se_state, .inl (cI, 12, .inl f_o0_se_state)), (o0_se_hours, .inl (cI, 12, .inl f_o0_se_hours)), (o0_se_done, .inl (cI, 12, .inl f_o0_se_done)), (sr, .inr (5, [.ref sr_tide, .ref sr_rain, .ref sr_rules])), (sr_rain, .inl (cZ, 96, .inl f_sr_rain)), (sr_tide, .inl (cI, 96, .inl f_sr_tide)), (o0_se_strake, .inl (cI, 12, .inl f_o0_se_strake)), (o0_se_side, .inl (cI, 12, .inl f_o0_se_side))] r := by
  refine k_enter (y := yX2_beginnings) (wl := wsX2_beginnings) (rm := rm_X2_beginnings) (av := [.ref o0, .int a1, .int a2]) (D := D) (tys := k_tys cI cZ cJ cS) (ws := [(o0, .inr (4, [.ref sr, .ref o0_th, .ref o0_ta, .ref o0_se, .int v_o0_hour, .int v_o0_heel, .int v_o0_water, .int v_o0_pitch, .int v_o0_boatUsed, .int v_o0_heelWent, .int v_o0_pitchTaken, .int v_o0_hoursOfMen, .int v_o0_parted, .int v_o0_moved])), (o0_se, .inr (3, [.ref o0_se_strake, .ref o0_se_side, .ref o0_se_hands, .ref o0_se_hours, .ref o0_se_pitch, .ref o0_se_worth, .ref o0_se_state, .ref o0_se_done, .int v_o0_se_size])), (o0_se_state, .inl (cI, 12, .inl f_o0_se_state)), (o0_se_hours, .inl (cI, 12, .inl f_o0_se_hours)), (o0_se_done, .inl (cI, 12, .inl f_o0_se_done)), (sr, .inr (5, [.ref sr_tide, .ref sr_rain, .ref sr_rules])), (sr_rain, .inl (cZ, 96, .inl f_sr_rain)), (sr_tide, .inl (cI, 96, .inl f_sr_tide)), (o0_se_strake, .inl (cI, 12, .inl f_o0_se_strake)), (o0_se_side, .inl (cI, 12, .inl f_o0_se_side))]) (cc := cX2_beginnings) (maxL := 8) (ret := (some .int)) (Qc := fun A => k_Qi D (k_tys cI cZ cJ cS) [(o0, .inr (4, [.ref sr, .ref o0_th, .ref o0_ta, .ref o0_se, .int v_o0_hour, .int v_o0_heel, .int v_o0_water, .int v_o0_pitch, .int v_o0_boatUsed, .int v_o0_heelWent, .int v_o0_pitchTaken, .int v_o0_hoursOfMen, .int v_o0_parted, .int v_o0_moved])), (o0_se, .inr (3, [.ref o0_se_strake, .ref o0_se_side, .ref o0_se_hands, .ref o0_se_hours, .ref o0_se_pitch, .ref o0_se_worth, .ref o0_se_state, .ref o0_se_done, .int v_o0_se_size])), (o0_se_state, .inl (cI, 12, .inl f_o0_se_state)), (o0_se_hours, .inl (cI, 12, .inl f_o0_se_hours)), (o0_se_done, .inl (cI, 12, .inl f_o0_se_done)), (sr, .inr (5, [.ref sr_tide, .ref sr_rain, .ref sr_rules])), (sr_rain, .inl (cZ, 96, .inl f_sr_rain)), (sr_tide, .inl (cI, 96, .inl f_sr_tide)), (o0_se_strake, .inl (cI, 12, .inl f_o0_se_strake)), (o0_se_side, .inl (cI, 12, .inl f_o0_se_side))] A r) (by decide) rfl (Nat.le_of_ble_eq_true rfl) [(0, .ref o0), (1, .int a1), (2, .int a2)] rfl ?_
  intro p e s m below meth c A hx hb hml hr hlocks hnm hown hK hP hD hA hS hN ls args Q hts hl hQ
  replace hown : s.vm.findClass RX2 = some m.cls := hown
  have S0 : CallFix p m c cX2_beginnings 8 s args wsX2_beginnings RX2 := ⟨hx, hb, hml, hown, hts⟩
  have inX4 : ∀ w ∈ u_ws RX4 TX4 14, w ∈ wsX2_beginnings := fun w h => List.mem_cons_of_mem _ (List.mem_append_left _ (List.mem_append_left _ (List.mem_append_right _ h)))
  have wl1 : (Cond.fieldLink RX2 69 "BeachedShip$Ship" "seams" "LBeachedShip$Seams;").before args s = true := hts _ (List.mem_of_getElem? (i := 1) rfl)
  have wl2 : (Cond.fieldLink RX2 35 "BeachedShip$Ship" "shore" "LBeachedShip$Shore;").before args s = true := hts _ (List.mem_of_getElem? (i := 2) rfl)
  have wl3 : (Cond.fieldLink RX2 89 "BeachedShip$Ship" "hour" "I").before args s = true := hts _ (List.mem_of_getElem? (i := 3) rfl)
  have hRet : ∀ (r_z : Int32), some r_z = some r → ∀ (H : Heap) (locs : List Loc) (ls : Array Slot) (pc : Nat), va_P D vwCl [(o0, .inr (4, [.ref sr, .ref o0_th, .ref o0_ta, .ref o0_se, .int v_o0_hour, .int v_o0_heel, .int v_o0_water, .int v_o0_pitch, .int v_o0_boatUsed, .int v_o0_heelWent, .int v_o0_pitchTaken, .int v_o0_hoursOfMen, .int v_o0_parted, .int v_o0_moved])), (o0_se, .inr (3, [.ref o0_se_strake, .ref o0_se_side, .ref o0_se_hands, .ref o0_se_hours, .ref o0_se_pitch, .ref o0_se_worth, .ref o0_se_state, .ref o0_se_done, .int v_o0_se_size])), (o0_se_state, .inl (cI, 12, .inl f_o0_se_state)), (o0_se_hours, .inl (cI, 12, .inl f_o0_se_hours)), (o0_se_done, .inl (cI, 12, .inl f_o0_se_done)), (sr, .inr (5, [.ref sr_tide, .ref sr_rain, .ref sr_rules])), (sr_rain, .inl (cZ, 96, .inl f_sr_rain)), (sr_tide, .inl (cI, 96, .inl f_sr_tide)), (o0_se_strake, .inl (cI, 12, .inl f_o0_se_strake)), (o0_se_side, .inl (cI, 12, .inl f_o0_se_side))] H → va_D A [(o0, .inr (4, [.ref sr, .ref o0_th, .ref o0_ta, .ref o0_se, .int v_o0_hour, .int v_o0_heel, .int v_o0_water, .int v_o0_pitch, .int v_o0_boatUsed, .int v_o0_heelWent, .int v_o0_pitchTaken, .int v_o0_hoursOfMen, .int v_o0_parted, .int v_o0_moved])), (o0_se, .inr (3, [.ref o0_se_strake, .ref o0_se_side, .ref o0_se_hands, .ref o0_se_hours, .ref o0_se_pitch, .ref o0_se_worth, .ref o0_se_state, .ref o0_se_done, .int v_o0_se_size])), (o0_se_state, .inl (cI, 12, .inl f_o0_se_state)), (o0_se_hours, .inl (cI, 12, .inl f_o0_se_hours)), (o0_se_done, .inl (cI, 12, .inl f_o0_se_done)), (sr, .inr (5, [.ref sr_tide, .ref sr_rain, .ref sr_rules])), (sr_rain, .inl (cZ, 96, .inl f_sr_rain)), (sr_tide, .inl (cI, 96, .inl f_sr_tide)), (o0_se_strake, .inl (cI, 12, .inl f_o0_se_strake)), (o0_se_side, .inl (cI, 12, .inl f_o0_se_side))] → va_S A s.heap H locs → narrow .int (.int r_z) = .int r_z → decode cX2_beginnings pc = .ok (.ireturn, 1) → W p l e rm_X2_beginnings s m args below meth c H locs 0 0 Q (F0 m pc ls [.int r_z]) := by
    intro r_z hz H locs ls pc hP hD hS hn hd
    cases hz
    exact k_iret hx hb hr hlocks hn hK hP hD hS hQ rfl hd
  unfold p_X2_beginnings at hf
  refine lv_aload_n hx hb dX2_beginnings_0 rfl (lv_at hl 0 rfl) ?_
  refine k_get (C := RX4) (T := TX4) (N := 14) hx hb hts inX4 hown hK hP 0 rfl rfl 3 (by decide) rfl wl1 rfl dX2_beginnings_1 ?_
  refine lv_iload_n hx hb dX2_beginnings_4 rfl (lv_at hl 1 rfl) ?_
  obtain ⟨r1, hc1, hf⟩ := k_b1_some hf
  refine k_ViR (q0 := 0) (As := [.int a1]) (rest := []) S0 (c_X3_hoursLacking l D cI cZ cJ cS o0_se o0_se_strake o0_se_side o0_se_hands o0_se_hours o0_se_pitch o0_se_worth o0_se_state o0_se_done v_o0_se_size f_o0_se_state f_o0_se_hours f_o0_se_done a1 r1 hc1) (cwV 1 hts gX2_beginnings_X3_hoursLacking rfl rfl rfl hdV_X3_hoursLacking ⟨Nat.le_of_ble_eq_true rfl, Nat.le_of_ble_eq_true rfl⟩) hK hP hD hS hA hN [1, 2, 3, 4] rfl (by decide) rfl rfl rfl rfl hl.1 rfl (Nat.le_of_ble_eq_true rfl) dX2_beginnings_5 (fun H locs hP hS => ?_)
  refine lv_istore_n (lv' := [(3, .int r1), (0, .ref o0), (1, .int a1), (2, .int a2)]) hx hb dX2_beginnings_8 rfl hl (by decide) rfl (fun ls hl => ?_)
  refine lv_iconst (v := 0) hx hb dX2_beginnings_9 (by decide) ?_
  refine lv_istore (lv' := [(4, .int 0), (3, .int r1), (0, .ref o0), (1, .int a1), (2, .int a2)]) hx hb dX2_beginnings_10 hl (by decide) rfl (fun ls hl => ?_)
  refine lv_iconst (v := 0) hx hb dX2_beginnings_12 (by decide) ?_
  refine lv_istore (lv' := [(5, .int 0), (4, .int 0), (3, .int r1), (0, .ref o0), (1, .int a1), (2, .int a2)]) hx hb dX2_beginnings_13 hl (by decide) rfl (fun ls hl => ?_)
  refine lv_iconst (v := 0) hx hb dX2_beginnings_15 (by decide) ?_
  refine lv_istore (lv' := [(6, .int 0), (5, .int 0), (4, .int 0), (3, .int r1), (0, .ref o0), (1, .int a1), (2, .int a2)]) hx hb dX2_beginnings_16 hl (by decide) rfl (fun ls hl => ?_)
  obtain ⟨ee21, hlp21, hfr21⟩ := k_b1_ee hf
  have hE21 : ∀ (x4_22 : Int32), ee21 = x4_22 → ∀ (H : Heap) (locs : List Loc) (ls : Array Slot), va_P D vwCl [(o0, .inr (4, [.ref sr, .ref o0_th, .ref o0_ta, .ref o0_se, .int v_o0_hour, .int v_o0_heel, .int v_o0_water, .int v_o0_pitch, .int v_o0_boatUsed, .int v_o0_heelWent, .int v_o0_pitchTaken, .int v_o0_hoursOfMen, .int v_o0_parted, .int v_o0_moved])), (o0_se, .inr (3, [.ref o0_se_strake, .ref o0_se_side, .ref o0_se_hands, .ref o0_se_hours, .ref o0_se_pitch, .ref o0_se_worth, .ref o0_se_state, .ref o0_se_done, .int v_o0_se_size])), (o0_se_state, .inl (cI, 12, .inl f_o0_se_state)), (o0_se_hours, .inl (cI, 12, .inl f_o0_se_hours)), (o0_se_done, .inl (cI, 12, .inl f_o0_se_done)), (sr, .inr (5, [.ref sr_tide, .ref sr_rain, .ref sr_rules])), (sr_rain, .inl (cZ, 96, .inl f_sr_rain)), (sr_tide, .inl (cI, 96, .inl f_sr_tide)), (o0_se_strake, .inl (cI, 12, .inl f_o0_se_strake)), (o0_se_side, .inl (cI, 12, .inl f_o0_se_side))] H → va_D A [(o0, .inr (4, [.ref sr, .ref o0_th, .ref o0_ta, .ref o0_se, .int v_o0_hour, .int v_o0_heel, .int v_o0_water, .int v_o0_pitch, .int v_o0_boatUsed, .int v_o0_heelWent, .int v_o0_pitchTaken, .int v_o0_hoursOfMen, .int v_o0_parted, .int v_o0_moved])), (o0_se, .inr (3, [.ref o0_se_strake, .ref o0_se_side, .ref o0_se_hands, .ref o0_se_hours, .ref o0_se_pitch, .ref o0_se_worth, .ref o0_se_state, .ref o0_se_done, .int v_o0_se_size])), (o0_se_state, .inl (cI, 12, .inl f_o0_se_state)), (o0_se_hours, .inl (cI, 12, .inl f_o0_se_hours)), (o0_se_done, .inl (cI, 12, .inl f_o0_se_done)), (sr, .inr (5, [.ref sr_tide, .ref sr_rain, .ref sr_rules])), (sr_rain, .inl (cZ, 96, .inl f_sr_rain)), (sr_tide, .inl (cI, 96, .inl f_sr_tide)), (o0_se_strake, .inl (cI, 12, .inl f_o0_se_strake)), (o0_se_side, .inl (cI, 12, .inl f_o0_se_side))] → va_S A s.heap H locs → lv_has ls 8 [(4, .int x4_22)] → W p l e rm_X2_beginnings s m args below meth c H locs 0 0 Q (F0 m 103 ls []) := by
    intro x4_22 he H locs ls hP hD hS hl
    replace hf := hfr21 x4_22 he
    refine lv_iload hx hb dX2_beginnings_103 (lv_at hl 0 rfl) ?_
    exact hRet _ hf _ _ _ _ hP hD hS rfl dX2_beginnings_105
  refine (k_lp_ind (fun sx21 => ∀ (H : Heap) (locs : List Loc) (ls : Array Slot), va_P D vwCl [(o0, .inr (4, [.ref sr, .ref o0_th, .ref o0_ta, .ref o0_se, .int v_o0_hour, .int v_o0_heel, .int v_o0_water, .int v_o0_pitch, .int v_o0_boatUsed, .int v_o0_heelWent, .int v_o0_pitchTaken, .int v_o0_hoursOfMen, .int v_o0_parted, .int v_o0_moved])), (o0_se, .inr (3, [.ref o0_se_strake, .ref o0_se_side, .ref o0_se_hands, .ref o0_se_hours, .ref o0_se_pitch, .ref o0_se_worth, .ref o0_se_state, .ref o0_se_done, .int v_o0_se_size])), (o0_se_state, .inl (cI, 12, .inl f_o0_se_state)), (o0_se_hours, .inl (cI, 12, .inl f_o0_se_hours)), (o0_se_done, .inl (cI, 12, .inl f_o0_se_done)), (sr, .inr (5, [.ref sr_tide, .ref sr_rain, .ref sr_rules])), (sr_rain, .inl (cZ, 96, .inl f_sr_rain)), (sr_tide, .inl (cI, 96, .inl f_sr_tide)), (o0_se_strake, .inl (cI, 12, .inl f_o0_se_strake)), (o0_se_side, .inl (cI, 12, .inl f_o0_se_side))] H → va_D A [(o0, .inr (4, [.ref sr, .ref o0_th, .ref o0_ta, .ref o0_se, .int v_o0_hour, .int v_o0_heel, .int v_o0_water, .int v_o0_pitch, .int v_o0_boatUsed, .int v_o0_heelWent, .int v_o0_pitchTaken, .int v_o0_hoursOfMen, .int v_o0_parted, .int v_o0_moved])), (o0_se, .inr (3, [.ref o0_se_strake, .ref o0_se_side, .ref o0_se_hands, .ref o0_se_hours, .ref o0_se_pitch, .ref o0_se_worth, .ref o0_se_state, .ref o0_se_done, .int v_o0_se_size])), (o0_se_state, .inl (cI, 12, .inl f_o0_se_state)), (o0_se_hours, .inl (cI, 12, .inl f_o0_se_hours)), (o0_se_done, .inl (cI, 12, .inl f_o0_se_done)), (sr, .inr (5, [.ref sr_tide, .ref sr_rain, .ref sr_rules])), (sr_rain, .inl (cZ, 96, .inl f_sr_rain)), (sr_tide, .inl (cI, 96, .inl f_sr_tide)), (o0_se_strake, .inl (cI, 12, .inl f_o0_se_strake)), (o0_se_side, .inl (cI, 12, .inl f_o0_se_side))] → va_S A s.heap H locs → lv_has ls 8 [(6, .int sx21.2.2), (5, .int sx21.2.1), (4, .int sx21.1), (3, .int r1), (0, .ref o0), (1, .int a1), (2, .int a2)] → W p l e rm_X2_beginnings s m args below meth c H locs 0 0 Q (F0 m 18 ls [])) (fun sx21 X21 hX21 hin21 hout21 => ?_) _ _ hlp21) _ _ _ hP hD hS (lv_sub hl [0, 1, 2, 3, 4, 5, 6] rfl)
  obtain ⟨x4_23, x5_24, x6_25⟩ := sx21
  intro H locs ls hP hD hS hl
  replace hP : va_P D vwCl [(o0, .inr (4, [.ref sr, .ref o0_th, .ref o0_ta, .ref o0_se, .int v_o0_hour, .int v_o0_heel, .int v_o0_water, .int v_o0_pitch, .int v_o0_boatUsed, .int v_o0_heelWent, .int v_o0_pitchTaken, .int v_o0_hoursOfMen, .int v_o0_parted, .int v_o0_moved])), (o0_se, .inr (3, [.ref o0_se_strake, .ref o0_se_side, .ref o0_se_hands, .ref o0_se_hours, .ref o0_se_pitch, .ref o0_se_worth, .ref o0_se_state, .ref o0_se_done, .int v_o0_se_size])), (o0_se_state, .inl (cI, 12, .inl f_o0_se_state)), (o0_se_hours, .inl (cI, 12, .inl f_o0_se_hours)), (o0_se_done, .inl (cI, 12, .inl f_o0_se_done)), (sr, .inr (5, [.ref sr_tide, .ref sr_rain, .ref sr_rules])), (sr_rain, .inl (cZ, 96, .inl f_sr_rain)), (sr_tide, .inl (cI, 96, .inl f_sr_tide)), (o0_se_strake, .inl (cI, 12, .inl f_o0_se_strake)), (o0_se_side, .inl (cI, 12, .inl f_o0_se_side))] H := hP
  replace hD : va_D A [(o0, .inr (4, [.ref sr, .ref o0_th, .ref o0_ta, .ref o0_se, .int v_o0_hour, .int v_o0_heel, .int v_o0_water, .int v_o0_pitch, .int v_o0_boatUsed, .int v_o0_heelWent, .int v_o0_pitchTaken, .int v_o0_hoursOfMen, .int v_o0_parted, .int v_o0_moved])), (o0_se, .inr (3, [.ref o0_se_strake, .ref o0_se_side, .ref o0_se_hands, .ref o0_se_hours, .ref o0_se_pitch, .ref o0_se_worth, .ref o0_se_state, .ref o0_se_done, .int v_o0_se_size])), (o0_se_state, .inl (cI, 12, .inl f_o0_se_state)), (o0_se_hours, .inl (cI, 12, .inl f_o0_se_hours)), (o0_se_done, .inl (cI, 12, .inl f_o0_se_done)), (sr, .inr (5, [.ref sr_tide, .ref sr_rain, .ref sr_rules])), (sr_rain, .inl (cZ, 96, .inl f_sr_rain)), (sr_tide, .inl (cI, 96, .inl f_sr_tide)), (o0_se_strake, .inl (cI, 12, .inl f_o0_se_strake)), (o0_se_side, .inl (cI, 12, .inl f_o0_se_side))] := hD
  replace hl : lv_has ls 8 [(6, .int x6_25), (5, .int x5_24), (4, .int x4_23), (3, .int r1), (0, .ref o0), (1, .int a1), (2, .int a2)] := hl
  replace hX21 : lb_X2_beginnings_18 a2 f_sr_rain v_o0_hour v_o0_heel f_sr_tide f_o0_se_strake f_o0_se_side a1 r1 x4_23 x5_24 x6_25 = some X21 := hX21
  unfold lb_X2_beginnings_18 at hX21
  refine lv_iload hx hb dX2_beginnings_18 (lv_at hl 0 rfl) ?_
  refine lv_iload_n hx hb dX2_beginnings_20 rfl (lv_at hl 6 rfl) ?_
  refine lv_icmp_ge (tgt := 103) hx hb dX2_beginnings_21 (by decide) (fun c26 => ?_) (fun c26 => ?_)
  · replace hX21 := k_pos hX21 c26
    exact hE21 _ (hout21 _ (Option.some.inj hX21).symm).symm _ _ _ hP hD hS (lv_sub hl [2] rfl)
  · replace hX21 := k_neg hX21 c26
    refine lv_aload_n hx hb dX2_beginnings_24 rfl (lv_at hl 4 rfl) ?_
    refine k_get (C := RX4) (T := TX4) (N := 14) hx hb hts inX4 hown hK hP 0 rfl rfl 0 (by decide) rfl wl2 rfl dX2_beginnings_25 ?_
    refine lv_aload_n hx hb dX2_beginnings_28 rfl (lv_at hl 4 rfl) ?_
    refine k_get (C := RX4) (T := TX4) (N := 14) hx hb hts inX4 hown hK hP 0 rfl rfl 4 (by decide) rfl wl3 rfl dX2_beginnings_29 ?_
    refine lv_iload hx hb dX2_beginnings_32 (lv_at hl 0 rfl) ?_
    refine lv_iadd hx hb dX2_beginnings_34 ?_
    obtain ⟨r27, hc27, hX21⟩ := k_b1_some hX21
    refine k_ViR (q0 := 0) (As := [.int (v_o0_hour + x6_25)]) (rest := []) S0 (c_X5_rainsIn l D cI cZ cJ cS sr sr_tide sr_rain sr_rules f_sr_rain (v_o0_hour + x6_25) r27 hc27) (cwV 1 hts gX2_beginnings_X5_rainsIn rfl rfl rfl hdV_X5_rainsIn ⟨Nat.le_of_ble_eq_true rfl, Nat.le_of_ble_eq_true rfl⟩) hK hP hD hS hA hN [5, 6] rfl (by decide) rfl rfl rfl rfl hl.1 rfl (Nat.le_of_ble_eq_true rfl) dX2_beginnings_35 (fun H locs hP hS => ?_)
    refine lv_if_ne (tgt := 60) hx hb dX2_beginnings_38 (by decide) (fun c28 => ?_) (fun c28 => ?_)
    · replace hX21 := k_neg hX21 c28
      refine lv_iconst (v := 0) hx hb dX2_beginnings_60 (by decide) ?_
      refine lv_istore (lv' := [(7, .int 0), (6, .int x6_25), (5, .int x5_24), (4, .int x4_23), (3, .int r1), (0, .ref o0), (1, .int a1), (2, .int a2)]) hx hb dX2_beginnings_61 hl (by decide) rfl (fun ls hl => ?_)
      refine lv_iload hx hb dX2_beginnings_63 (lv_at hl 0 rfl) ?_
      refine lv_if_eq (tgt := 75) hx hb dX2_beginnings_65 (by decide) (fun _ => ?_) (fun c => absurd (by decide) c)
      refine lv_iconst (v := 0) hx hb dX2_beginnings_75 (by decide) ?_
      refine lv_istore (lv' := [(5, .int 0), (7, .int 0), (6, .int x6_25), (4, .int x4_23), (3, .int r1), (0, .ref o0), (1, .int a1), (2, .int a2)]) hx hb dX2_beginnings_76 hl (by decide) rfl (fun ls hl => ?_)
      refine lv_iload hx hb dX2_beginnings_78 (lv_at hl 0 rfl) ?_
      refine lv_iload_n hx hb dX2_beginnings_80 rfl (lv_at hl 4 rfl) ?_
      refine lv_icmp_lt (tgt := 97) hx hb dX2_beginnings_81 (by decide) (fun c29 => ?_) (fun c29 => ?_)
      · replace hX21 := k_pos hX21 c29
        refine lv_iinc (v := x6_25 + 1) (lv' := [(6, .int (x6_25 + 1)), (5, .int 0), (7, .int 0), (4, .int x4_23), (3, .int r1), (0, .ref o0), (1, .int a1), (2, .int a2)]) hx hb dX2_beginnings_97 hl (k := 2) rfl rfl (by decide) rfl (fun ls hl => ?_)
        refine lv_goto (tgt := 18) hx hb dX2_beginnings_100 (by decide) ?_
        exact hin21 (x4_23, 0, x6_25 + 1) (Option.some.inj hX21).symm _ _ _ hP hD hS (lv_sub hl [0, 1, 3, 4, 5, 6, 7] rfl)
      · replace hX21 := k_neg hX21 c29
        refine lv_iload hx hb dX2_beginnings_84 (lv_at hl 3 rfl) ?_
        refine lv_iconst (v := 1) hx hb dX2_beginnings_86 (by decide) ?_
        refine lv_iload hx hb dX2_beginnings_87 (lv_at hl 2 rfl) ?_
        refine lv_iload_n hx hb dX2_beginnings_89 rfl (lv_at hl 4 rfl) ?_
        refine lv_isub hx hb dX2_beginnings_90 ?_
        refine lv_iconst (v := 1) hx hb dX2_beginnings_91 (by decide) ?_
        refine lv_iadd hx hb dX2_beginnings_92 ?_
        refine lv_ishl hx hb dX2_beginnings_93 ?_
        refine lv_ior hx hb dX2_beginnings_94 ?_
        refine lv_istore (lv' := [(4, .int (x4_23 ||| (1 <<< (((x6_25 - r1) + 1) &&& 31)))), (5, .int 0), (7, .int 0), (6, .int x6_25), (3, .int r1), (0, .ref o0), (1, .int a1), (2, .int a2)]) hx hb dX2_beginnings_95 hl (by decide) rfl (fun ls hl => ?_)
        refine lv_iinc (v := x6_25 + 1) (lv' := [(6, .int (x6_25 + 1)), (4, .int (x4_23 ||| (1 <<< (((x6_25 - r1) + 1) &&& 31)))), (5, .int 0), (7, .int 0), (3, .int r1), (0, .ref o0), (1, .int a1), (2, .int a2)]) hx hb dX2_beginnings_97 hl (k := 3) rfl rfl (by decide) rfl (fun ls hl => ?_)
        refine lv_goto (tgt := 18) hx hb dX2_beginnings_100 (by decide) ?_
        exact hin21 (x4_23 ||| (1 <<< (((x6_25 - r1) + 1) &&& 31)), 0, x6_25 + 1) (Option.some.inj hX21).symm _ _ _ hP hD hS (lv_sub hl [0, 2, 1, 4, 5, 6, 7] rfl)
    · replace hX21 := k_pos hX21 c28
      refine lv_aload_n hx hb dX2_beginnings_41 rfl (lv_at hl 4 rfl) ?_
      refine lv_iload_n hx hb dX2_beginnings_42 rfl (lv_at hl 5 rfl) ?_
      refine lv_aload_n hx hb dX2_beginnings_43 rfl (lv_at hl 4 rfl) ?_
      refine k_get (C := RX4) (T := TX4) (N := 14) hx hb hts inX4 hown hK hP 0 rfl rfl 4 (by decide) rfl wl3 rfl dX2_beginnings_44 ?_
      refine lv_iload hx hb dX2_beginnings_47 (lv_at hl 0 rfl) ?_
      refine lv_iadd hx hb dX2_beginnings_49 ?_
      obtain ⟨r30, hc30, hX21⟩ := k_b1_some hX21
      refine k_ViR (q0 := 0) (As := [.int a1, .int (v_o0_hour + x6_25)]) (rest := []) S0 (c_X4_isBare l D cI cZ cJ cS o0 sr o0_th o0_ta o0_se sr_tide sr_rain sr_rules o0_se_strake o0_se_side o0_se_hands o0_se_hours o0_se_pitch o0_se_worth o0_se_state o0_se_done v_o0_hour v_o0_heel v_o0_water v_o0_pitch v_o0_boatUsed v_o0_heelWent v_o0_pitchTaken v_o0_hoursOfMen v_o0_parted v_o0_moved f_sr_tide v_o0_se_size f_o0_se_strake f_o0_se_side a1 (v_o0_hour + x6_25) r30 hc30) (cwV 2 hts gX2_beginnings_X4_isBare rfl rfl rfl hdV_X4_isBare ⟨Nat.le_of_ble_eq_true rfl, Nat.le_of_ble_eq_true rfl⟩) hK hP hD hS hA hN [0, 5, 7, 1, 8, 9] rfl (by decide) rfl rfl rfl rfl hl.1 rfl (Nat.le_of_ble_eq_true rfl) dX2_beginnings_50 (fun H locs hP hS => ?_)
      refine lv_if_eq (tgt := 60) hx hb dX2_beginnings_53 (by decide) (fun c31 => ?_) (fun c31 => ?_)
      · replace hX21 := k_pos hX21 c31
        refine lv_iconst (v := 0) hx hb dX2_beginnings_60 (by decide) ?_
        refine lv_istore (lv' := [(7, .int 0), (6, .int x6_25), (5, .int x5_24), (4, .int x4_23), (3, .int r1), (0, .ref o0), (1, .int a1), (2, .int a2)]) hx hb dX2_beginnings_61 hl (by decide) rfl (fun ls hl => ?_)
        refine lv_iload hx hb dX2_beginnings_63 (lv_at hl 0 rfl) ?_
        refine lv_if_eq (tgt := 75) hx hb dX2_beginnings_65 (by decide) (fun _ => ?_) (fun c => absurd (by decide) c)
        refine lv_iconst (v := 0) hx hb dX2_beginnings_75 (by decide) ?_
        refine lv_istore (lv' := [(5, .int 0), (7, .int 0), (6, .int x6_25), (4, .int x4_23), (3, .int r1), (0, .ref o0), (1, .int a1), (2, .int a2)]) hx hb dX2_beginnings_76 hl (by decide) rfl (fun ls hl => ?_)
        refine lv_iload hx hb dX2_beginnings_78 (lv_at hl 0 rfl) ?_
        refine lv_iload_n hx hb dX2_beginnings_80 rfl (lv_at hl 4 rfl) ?_
        refine lv_icmp_lt (tgt := 97) hx hb dX2_beginnings_81 (by decide) (fun c32 => ?_) (fun c32 => ?_)
        · replace hX21 := k_pos hX21 c32
          refine lv_iinc (v := x6_25 + 1) (lv' := [(6, .int (x6_25 + 1)), (5, .int 0), (7, .int 0), (4, .int x4_23), (3, .int r1), (0, .ref o0), (1, .int a1), (2, .int a2)]) hx hb dX2_beginnings_97 hl (k := 2) rfl rfl (by decide) rfl (fun ls hl => ?_)
          refine lv_goto (tgt := 18) hx hb dX2_beginnings_100 (by decide) ?_
          exact hin21 (x4_23, 0, x6_25 + 1) (Option.some.inj hX21).symm _ _ _ hP hD hS (lv_sub hl [0, 1, 3, 4, 5, 6, 7] rfl)
        · replace hX21 := k_neg hX21 c32
          refine lv_iload hx hb dX2_beginnings_84 (lv_at hl 3 rfl) ?_
          refine lv_iconst (v := 1) hx hb dX2_beginnings_86 (by decide) ?_
          refine lv_iload hx hb dX2_beginnings_87 (lv_at hl 2 rfl) ?_
          refine lv_iload_n hx hb dX2_beginnings_89 rfl (lv_at hl 4 rfl) ?_
          refine lv_isub hx hb dX2_beginnings_90 ?_
          refine lv_iconst (v := 1) hx hb dX2_beginnings_91 (by decide) ?_
          refine lv_iadd hx hb dX2_beginnings_92 ?_
          refine lv_ishl hx hb dX2_beginnings_93 ?_
          refine lv_ior hx hb dX2_beginnings_94 ?_
          refine lv_istore (lv' := [(4, .int (x4_23 ||| (1 <<< (((x6_25 - r1) + 1) &&& 31)))), (5, .int 0), (7, .int 0), (6, .int x6_25), (3, .int r1), (0, .ref o0), (1, .int a1), (2, .int a2)]) hx hb dX2_beginnings_95 hl (by decide) rfl (fun ls hl => ?_)
          refine lv_iinc (v := x6_25 + 1) (lv' := [(6, .int (x6_25 + 1)), (4, .int (x4_23 ||| (1 <<< (((x6_25 - r1) + 1) &&& 31)))), (5, .int 0), (7, .int 0), (3, .int r1), (0, .ref o0), (1, .int a1), (2, .int a2)]) hx hb dX2_beginnings_97 hl (k := 3) rfl rfl (by decide) rfl (fun ls hl => ?_)
          refine lv_goto (tgt := 18) hx hb dX2_beginnings_100 (by decide) ?_
          exact hin21 (x4_23 ||| (1 <<< (((x6_25 - r1) + 1) &&& 31)), 0, x6_25 + 1) (Option.some.inj hX21).symm _ _ _ hP hD hS (lv_sub hl [0, 2, 1, 4, 5, 6, 7] rfl)
      · replace hX21 := k_neg hX21 c31
        refine lv_iconst (v := 1) hx hb dX2_beginnings_56 (by decide) ?_
        refine lv_goto (tgt := 61) hx hb dX2_beginnings_57 (by decide) ?_
        refine lv_istore (lv' := [(7, .int 1), (6, .int x6_25), (5, .int x5_24), (4, .int x4_23), (3, .int r1), (0, .ref o0), (1, .int a1), (2, .int a2)]) hx hb dX2_beginnings_61 hl (by decide) rfl (fun ls hl => ?_)
        refine lv_iload hx hb dX2_beginnings_63 (lv_at hl 0 rfl) ?_
        refine lv_if_eq (tgt := 75) hx hb dX2_beginnings_65 (by decide) (fun c => absurd c (by decide)) (fun _ => ?_)
        refine lv_iload hx hb dX2_beginnings_68 (lv_at hl 2 rfl) ?_
        refine lv_iconst (v := 1) hx hb dX2_beginnings_70 (by decide) ?_
        refine lv_iadd hx hb dX2_beginnings_71 ?_
        refine lv_goto (tgt := 76) hx hb dX2_beginnings_72 (by decide) ?_
        refine lv_istore (lv' := [(5, .int (x5_24 + 1)), (7, .int 1), (6, .int x6_25), (4, .int x4_23), (3, .int r1), (0, .ref o0), (1, .int a1), (2, .int a2)]) hx hb dX2_beginnings_76 hl (by decide) rfl (fun ls hl => ?_)
        refine lv_iload hx hb dX2_beginnings_78 (lv_at hl 0 rfl) ?_
        refine lv_iload_n hx hb dX2_beginnings_80 rfl (lv_at hl 4 rfl) ?_
        refine lv_icmp_lt (tgt := 97) hx hb dX2_beginnings_81 (by decide) (fun c33 => ?_) (fun c33 => ?_)
        · replace hX21 := k_pos hX21 c33
          refine lv_iinc (v := x6_25 + 1) (lv' := [(6, .int (x6_25 + 1)), (5, .int (x5_24 + 1)), (7, .int 1), (4, .int x4_23), (3, .int r1), (0, .ref o0), (1, .int a1), (2, .int a2)]) hx hb dX2_beginnings_97 hl (k := 2) rfl rfl (by decide) rfl (fun ls hl => ?_)
          refine lv_goto (tgt := 18) hx hb dX2_beginnings_100 (by decide) ?_
          exact hin21 (x4_23, x5_24 + 1, x6_25 + 1) (Option.some.inj hX21).symm _ _ _ hP hD hS (lv_sub hl [0, 1, 3, 4, 5, 6, 7] rfl)
        · replace hX21 := k_neg hX21 c33
          refine lv_iload hx hb dX2_beginnings_84 (lv_at hl 3 rfl) ?_
          refine lv_iconst (v := 1) hx hb dX2_beginnings_86 (by decide) ?_
          refine lv_iload hx hb dX2_beginnings_87 (lv_at hl 2 rfl) ?_
          refine lv_iload_n hx hb dX2_beginnings_89 rfl (lv_at hl 4 rfl) ?_
          refine lv_isub hx hb dX2_beginnings_90 ?_
          refine lv_iconst (v := 1) hx hb dX2_beginnings_91 (by decide) ?_
          refine lv_iadd hx hb dX2_beginnings_92 ?_
          refine lv_ishl hx hb dX2_beginnings_93 ?_
          refine lv_ior hx hb dX2_beginnings_94 ?_
          refine lv_istore (lv' := [(4, .int (x4_23 ||| (1 <<< (((x6_25 - r1) + 1) &&& 31)))), (5, .int (x5_24 + 1)), (7, .int 1), (6, .int x6_25), (3, .int r1), (0, .ref o0), (1, .int a1), (2, .int a2)]) hx hb dX2_beginnings_95 hl (by decide) rfl (fun ls hl => ?_)
          refine lv_iinc (v := x6_25 + 1) (lv' := [(6, .int (x6_25 + 1)), (4, .int (x4_23 ||| (1 <<< (((x6_25 - r1) + 1) &&& 31)))), (5, .int (x5_24 + 1)), (7, .int 1), (3, .int r1), (0, .ref o0), (1, .int a1), (2, .int a2)]) hx hb dX2_beginnings_97 hl (k := 3) rfl rfl (by decide) rfl (fun ls hl => ?_)
          refine lv_goto (tgt := 18) hx hb dX2_beginnings_100 (by decide) ?_
          exact hin21 (x4_23 ||| (1 <<< (((x6_25 - r1) + 1) &&& 31)), x5_24 + 1, x6_25 + 1) (Option.some.inj hX21).symm _ _ _ hP hD hS (lv_sub hl [0, 2, 1, 4, 5, 6, 7] rfl)

def lb_X2_gather_94 (c_h_size_62 : Int32) (c_h_hours_59 : Nat → Int32) (r68 : Int32) (x3_57 : Int32) (f_o1_se_hands : Nat → Int32) (x4_87 : Int32) (c_h_hands_88 : Nat → Int64) : Option ((Int32 × (Nat → Int64)) ⊕ ((Nat → Int64))) :=
  k_ix c_h_size_62 5 (
    if ((upd c_h_hours_59 c_h_size_62.toNatClampNeg r68) c_h_size_62.toNatClampNeg) ≤ x4_87 then
      some (.inr c_h_hands_88)
    else
      k_ix c_h_size_62 5 (
        k_ix x3_57 12 (
          k_ix c_h_size_62 5 (
            some (.inl (x4_87 + 1, vp_updL c_h_hands_88 c_h_size_62.toNatClampNeg ((c_h_hands_88 c_h_size_62.toNatClampNeg) ||| (((f_o1_se_hands x3_57.toNatClampNeg).toInt64) <<< ((8 * x4_87).toInt64 &&& 63)))))))))
def lb_X2_gather_7 (v_o1_se_size : Int32) (f_o1_se_state : Nat → Int32) (f_o1_se_hours : Nat → Int32) (f_o1_se_done : Nat → Int32) (v_o1_hour : Int32) (v_o1_heel : Int32) (f_sr_rain : Nat → Int32) (f_sr_tide : Nat → Int32) (f_o1_se_strake : Nat → Int32) (f_o1_se_side : Nat → Int32) (a2 : Int32) (f_o1_se_hands : Nat → Int32) (x3_57 : Int32) (c_h_hands_58 : Nat → Int64) (c_h_hours_59 : Nat → Int32) (c_h_mayBegin_60 : Nat → Int32) (c_h_seam_61 : Nat → Int32) (c_h_size_62 : Int32) : Option ((Int32 × (Nat → Int64) × (Nat → Int32) × (Nat → Int32) × (Nat → Int32) × Int32) ⊕ ((Nat → Int64) × (Nat → Int32) × (Nat → Int32) × (Nat → Int32) × Int32)) :=
  if v_o1_se_size ≤ x3_57 then
    some (.inr (c_h_hands_58, c_h_hours_59, c_h_mayBegin_60, c_h_seam_61, c_h_size_62))
  else
    if 5 ≤ c_h_size_62 then
      some (.inr (c_h_hands_58, c_h_hours_59, c_h_mayBegin_60, c_h_seam_61, c_h_size_62))
    else
      k_ix x3_57 12 (
        if (f_o1_se_state x3_57.toNatClampNeg) = 2 then
          some (.inl (x3_57 + 1, c_h_hands_58, c_h_hours_59, c_h_mayBegin_60, c_h_seam_61, c_h_size_62))
        else
          k_ix c_h_size_62 5 (
            k_b1 (p_X3_hoursLacking f_o1_se_state f_o1_se_hours f_o1_se_done x3_57) fun r68 =>
            k_ix c_h_size_62 5 (
              k_b1 (p_X2_beginnings v_o1_hour v_o1_heel f_o1_se_state f_o1_se_hours f_o1_se_done f_sr_rain f_sr_tide f_o1_se_strake f_o1_se_side x3_57 a2) fun r70 =>
              k_ix c_h_size_62 5 (
                k_ix c_h_size_62 5 (
                  k_b1 (k_lp (fun s => lb_X2_gather_94 c_h_size_62 c_h_hours_59 r68 x3_57 f_o1_se_hands s.1 s.2) k_fuel (0, vp_updL c_h_hands_58 c_h_size_62.toNatClampNeg 0)) fun c_h_hands_86 =>
                  some (.inl (x3_57 + 1, c_h_hands_86, upd c_h_hours_59 c_h_size_62.toNatClampNeg r68, upd c_h_mayBegin_60 c_h_size_62.toNatClampNeg r70, upd c_h_seam_61 c_h_size_62.toNatClampNeg x3_57, c_h_size_62 + 1)))))))
def p_X2_gather (v_o1_hour : Int32) (v_o1_heel : Int32) (v_o1_se_size : Int32) (f_o1_se_state : Nat → Int32) (f_h_seam : Nat → Int32) (f_o1_se_hours : Nat → Int32) (f_o1_se_done : Nat → Int32) (f_h_hours : Nat → Int32) (f_sr_rain : Nat → Int32) (f_sr_tide : Nat → Int32) (f_o1_se_strake : Nat → Int32) (f_o1_se_side : Nat → Int32) (f_h_mayBegin : Nat → Int32) (f_h_hands : Nat → Int64) (f_o1_se_hands : Nat → Int32) (a2 : Int32) : Option (Int32 × (Nat → Int32) × (Nat → Int32) × (Nat → Int32) × (Nat → Int64)) :=
  k_b5 (k_lp (fun s => lb_X2_gather_7 v_o1_se_size f_o1_se_state f_o1_se_hours f_o1_se_done v_o1_hour v_o1_heel f_sr_rain f_sr_tide f_o1_se_strake f_o1_se_side a2 f_o1_se_hands s.1 s.2.1 s.2.2.1 s.2.2.2.1 s.2.2.2.2.1 s.2.2.2.2.2) k_fuel (0, f_h_hands, f_h_hours, f_h_mayBegin, f_h_seam, 0)) fun c_h_hands_52 c_h_hours_53 c_h_mayBegin_54 c_h_seam_55 c_h_size_56 =>
  some (c_h_size_56, c_h_seam_55, c_h_hours_53, c_h_mayBegin_54, c_h_hands_52)
abbrev rm_X2_gather : Room := { frames := 4, cells := 0, slots := 0, locals := 94 }
theorem hdS_X2_gather : yX2_gather.cls ≠ "java/lang/invoke/MethodHandle" ∧ yX2_gather.cls ≠ "java/lang/invoke/VarHandle" ∧ (parseMethodDescriptor yX2_gather.desc).map (fun d => d.parameters.length) = some 2 := by decide +kernel
theorem hdV_X2_gather : yX2_gather.cls = RX2 ∧ yX2_gather.cls ≠ "java/lang/invoke/MethodHandle" ∧ yX2_gather.cls ≠ "java/lang/invoke/VarHandle" ∧ (parseMethodDescriptor yX2_gather.desc).map (fun d => d.parameters.length) = some 2 := by decide +kernel
set_option maxHeartbeats 4000000 in
set_option maxRecDepth 100000 in
theorem c_X2_gather (l : Launch) (D : va_G) (cI cZ cJ cS : ClassId) (h h_seam h_hours h_mayBegin h_tried h_begins h_hands o1 sr o1_th o1_ta o1_se o1_se_strake o1_se_side o1_se_hands o1_se_hours o1_se_pitch o1_se_worth o1_se_state o1_se_done sr_tide sr_rain sr_rules : Nat) (v_h_menShort : Int64) (v_h_size : Int32) (v_h_planned : Int32) (v_h_worth : Int32) (v_h_pitch : Int32) (v_o1_hour : Int32) (v_o1_heel : Int32) (v_o1_water : Int32) (v_o1_pitch : Int32) (v_o1_boatUsed : Int32) (v_o1_heelWent : Int32) (v_o1_pitchTaken : Int32) (v_o1_hoursOfMen : Int32) (v_o1_parted : Int32) (v_o1_moved : Int32) (v_o1_se_size : Int32) (f_o1_se_state : Nat → Int32) (f_h_seam : Nat → Int32) (f_o1_se_hours : Nat → Int32) (f_o1_se_done : Nat → Int32) (f_h_hours : Nat → Int32) (f_sr_rain : Nat → Int32) (f_sr_tide : Nat → Int32) (f_o1_se_strake : Nat → Int32) (f_o1_se_side : Nat → Int32) (f_h_mayBegin : Nat → Int32) (f_h_hands : Nat → Int64) (f_o1_se_hands : Nat → Int32) (a2 : Int32) (v_h_size' : Int32) (f_h_seam' : Nat → Int32) (f_h_hours' : Nat → Int32) (f_h_mayBegin' : Nat → Int32) (f_h_hands' : Nat → Int64) (hf : p_X2_gather v_o1_hour v_o1_heel v_o1_se_size f_o1_se_state f_h_seam f_o1_se_hours f_o1_se_done f_h_hours f_sr_rain f_sr_tide f_o1_se_strake f_o1_se_side f_h_mayBegin f_h_hands f_o1_se_hands a2 = some (v_h_size', f_h_seam', f_h_hours', f_h_mayBegin', f_h_hands')) : k_MV l yX2_gather wsX2_gather rm_X2_gather D (k_tys cI cZ cJ cS) [.ref h, .ref o1, .int a2] [(h, .inr (2, [.ref h_seam, .ref h_hours, .ref h_mayBegin, .ref h_tried, .ref h_begins, .ref h_hands, .long v_h_menShort, .int v_h_size, .int v_h_planned, .int v_h_worth, .int v_h_pitch])), (o1, .inr (4, [.ref sr, .ref o1_th, .ref o1_ta, .ref o1_se, .int v_o1_hour, .int v_o1_heel, .int v_o1_water, .int v_o1_pitch, .int v_o1_boatUsed, .int v_o1_heelWent, .int v_o1_pitchTaken, .int v_o1_hoursOfMen, .int v_o1_parted, .int v_o1_moved])), (o1_se, .inr (3, [.ref o1_se_strake, .ref o1_se_side, .ref o1_se_hands, .ref o1_se_hours, .ref o1_se_pitch, .ref o1_se_worth, .ref o1_se_state, .ref o1_se_done, .int v_o1_se_size])), (o1_se_state, .inl (cI, 12, .inl f_o1_se_state)), (h_seam, .inl (cI, 5, .inl f_h_seam)), (o1_se_hours, .inl (cI, 12, .inl f_o1_se_hours)), (o1_se_done, .inl (cI, 12, .inl f_o1_se_done)), (h_hours, .inl (cI, 5, .inl f_h_hours)), (sr, .inr (5, [.ref sr_tide, .ref sr_rain, .ref sr_rules])), (sr_rain, .inl (cZ, 96, .inl f_sr_rain)), (sr_tide, .inl (cI, 96, .inl f_sr_tide)), (o1_se_strake, .inl (cI, 12, .inl f_o1_se_strake)), (o1_se_side, .inl (cI, 12, .inl f_o1_se_side)), (h_mayBegin, .inl (cI, 5, .inl f_h_mayBegin)), (h_hands, .inl (cJ, 5, .inr (.inl f_h_hands))), (o1_se_hands, .inl (cI, 12, .inl f_o1_se_hands))] [(h, .inr (2, [.ref h_seam, .ref h_hours, .ref h_mayBegin, .ref h_tried, .ref h_begins, .ref h_hands, .long v_h_menShort, .int v_h_size', .int v_h_planned, .int v_h_worth, .int v_h_pitch])), (o1, .inr (4, [.ref sr, .ref o1_th, .ref o1_ta, .ref o1_se, .int v_o1_hour, .int v_o1_heel, .int v_o1_water, .int v_o1_pitch, .int v_o1_boatUsed, .int v_o1_heelWent, .int v_o1_pitchTaken, .int v_o1_hoursOfMen, .int v_o1_parted, .int v_o1_moved])), (o1_se, .inr (3, [.ref o1_se_strake, .ref o1_se_side, .ref o1_se_hands, .ref o1_se_hours, .ref o1_se_pitch, .ref o1_se_worth, .ref o1_se_state, .ref o1_se_done, .int v_o1_se_size])), (o1_se_state, .inl (cI, 12, .inl f_o1_se_state)), (h_seam, .inl (cI, 5, .inl f_h_seam')), (o1_se_hours, .inl (cI, 12, .inl f_o1_se_hours)), (o1_se_done, .inl (cI, 12, .inl f_o1_se_done)), (h_hours, .inl (cI, 5, .inl f_h_hours')), (sr, .inr (5, [.ref sr_tide, .ref sr_rain, .ref sr_rules])), (sr_rain, .inl (cZ, 96, .inl f_sr_rain)), (sr_tide, .inl (cI, 96, .inl f_sr_tide)), (o1_se_strake, .inl (cI, 12, .inl f_o1_se_strake)), (o1_se_side, .inl (cI, 12, .inl f_o1_se_side)), (h_mayBegin, .inl (cI, 5, .inl f_h_mayBegin')), (h_hands, .inl (cJ, 5, .inr (.inl f_h_hands'))), (o1_se_hands, .inl (cI, 12, .inl f_o1_se_hands))] := by
  refine k_enter (y := yX2_gather) (wl := wsX2_gather) (rm := rm_X2_gather) (av := [.ref h, .ref o1, .int a2]) (D := D) (tys := k_tys cI cZ cJ cS) (ws := [(h, .inr (2, [.ref h_seam, .ref h_hours, .ref h_mayBegin, .ref h_tried, .ref h_begins, .ref h_hands, .long v_h_menShort, .int v_h_size, .int v_h_planned, .int v_h_worth, .int v_h_pitch])), (o1, .inr (4, [.ref sr, .ref o1_th, .ref o1_ta, .ref o1_se, .int v_o1_hour, .int v_o1_heel, .int v_o1_water, .int v_o1_pitch, .int v_o1_boatUsed, .int v_o1_heelWent, .int v_o1_pitchTaken, .int v_o1_hoursOfMen, .int v_o1_parted, .int v_o1_moved])), (o1_se, .inr (3, [.ref o1_se_strake, .ref o1_se_side, .ref o1_se_hands, .ref o1_se_hours, .ref o1_se_pitch, .ref o1_se_worth, .ref o1_se_state, .ref o1_se_done, .int v_o1_se_size])), (o1_se_state, .inl (cI, 12, .inl f_o1_se_state)), (h_seam, .inl (cI, 5, .inl f_h_seam)), (o1_se_hours, .inl (cI, 12, .inl f_o1_se_hours)), (o1_se_done, .inl (cI, 12, .inl f_o1_se_done)), (h_hours, .inl (cI, 5, .inl f_h_hours)), (sr, .inr (5, [.ref sr_tide, .ref sr_rain, .ref sr_rules])), (sr_rain, .inl (cZ, 96, .inl f_sr_rain)), (sr_tide, .inl (cI, 96, .inl f_sr_tide)), (o1_se_strake, .inl (cI, 12, .inl f_o1_se_strake)), (o1_se_side, .inl (cI, 12, .inl f_o1_se_side)), (h_mayBegin, .inl (cI, 5, .inl f_h_mayBegin)), (h_hands, .inl (cJ, 5, .inr (.inl f_h_hands))), (o1_se_hands, .inl (cI, 12, .inl f_o1_se_hands))]) (cc := cX2_gather) (maxL := 5) (ret := none) (Qc := fun A => k_Qv D (k_tys cI cZ cJ cS) [(h, .inr (2, [.ref h_seam, .ref h_hours, .ref h_mayBegin, .ref h_tried, .ref h_begins, .ref h_hands, .long v_h_menShort, .int v_h_size', .int v_h_planned, .int v_h_worth, .int v_h_pitch])), (o1, .inr (4, [.ref sr, .ref o1_th, .ref o1_ta, .ref o1_se, .int v_o1_hour, .int v_o1_heel, .int v_o1_water, .int v_o1_pitch, .int v_o1_boatUsed, .int v_o1_heelWent, .int v_o1_pitchTaken, .int v_o1_hoursOfMen, .int v_o1_parted, .int v_o1_moved])), (o1_se, .inr (3, [.ref o1_se_strake, .ref o1_se_side, .ref o1_se_hands, .ref o1_se_hours, .ref o1_se_pitch, .ref o1_se_worth, .ref o1_se_state, .ref o1_se_done, .int v_o1_se_size])), (o1_se_state, .inl (cI, 12, .inl f_o1_se_state)), (h_seam, .inl (cI, 5, .inl f_h_seam')), (o1_se_hours, .inl (cI, 12, .inl f_o1_se_hours)), (o1_se_done, .inl (cI, 12, .inl f_o1_se_done)), (h_hours, .inl (cI, 5, .inl f_h_hours')), (sr, .inr (5, [.ref sr_tide, .ref sr_rain, .ref sr_rules])), (sr_rain, .inl (cZ, 96, .inl f_sr_rain)), (sr_tide, .inl (cI, 96, .inl f_sr_tide)), (o1_se_strake, .inl (cI, 12, .inl f_o1_se_strake)), (o1_se_side, .inl (cI, 12, .inl f_o1_se_side)), (h_mayBegin, .inl (cI, 5, .inl f_h_mayBegin')), (h_hands, .inl (cJ, 5, .inr (.inl f_h_hands'))), (o1_se_hands, .inl (cI, 12, .inl f_o1_se_hands))] A) (by decide) rfl (Nat.le_of_ble_eq_true rfl) [(0, .ref h), (1, .ref o1), (2, .int a2)] rfl ?_
  intro p e s m below meth c A hx hb hml hr hlocks hnm hown hK hP hD hA hS hN ls args Q hts hl hQ
  replace hown : s.vm.findClass RX2 = some m.cls := hown
  have S0 : CallFix p m c cX2_gather 5 s args wsX2_gather RX2 := ⟨hx, hb, hml, hown, hts⟩
  have inX2 : ∀ w ∈ u_ws RX2 TX2 11, w ∈ wsX2_gather := fun w h => List.mem_cons_of_mem _ (List.mem_append_left _ (List.mem_append_left _ (List.mem_append_left _ (List.mem_append_right _ h))))
  have inX4 : ∀ w ∈ u_ws RX4 TX4 14, w ∈ wsX2_gather := fun w h => List.mem_cons_of_mem _ (List.mem_append_left _ (List.mem_append_left _ (List.mem_append_right _ h)))
  have inX3 : ∀ w ∈ u_ws RX3 TX3 9, w ∈ wsX2_gather := fun w h => List.mem_cons_of_mem _ (List.mem_append_left _ (List.mem_append_right _ h))
  have wl1 : (Cond.fieldLink RX2 62 "BeachedShip$Planner" "size" "I").before args s = true := hts _ (List.mem_of_getElem? (i := 1) rfl)
  have wl2 : (Cond.fieldLink RX2 69 "BeachedShip$Ship" "seams" "LBeachedShip$Seams;").before args s = true := hts _ (List.mem_of_getElem? (i := 2) rfl)
  have wl3 : (Cond.fieldLink RX2 73 "BeachedShip$Seams" "size" "I").before args s = true := hts _ (List.mem_of_getElem? (i := 3) rfl)
  have wl4 : (Cond.fieldLink RX2 76 "BeachedShip$Seams" "state" "[I").before args s = true := hts _ (List.mem_of_getElem? (i := 4) rfl)
  have wl5 : (Cond.fieldLink RX2 9 "BeachedShip$Planner" "seam" "[I").before args s = true := hts _ (List.mem_of_getElem? (i := 5) rfl)
  have wl6 : (Cond.fieldLink RX2 15 "BeachedShip$Planner" "hours" "[I").before args s = true := hts _ (List.mem_of_getElem? (i := 6) rfl)
  have wl7 : (Cond.fieldLink RX2 18 "BeachedShip$Planner" "mayBegin" "[I").before args s = true := hts _ (List.mem_of_getElem? (i := 7) rfl)
  have wl8 : (Cond.fieldLink RX2 27 "BeachedShip$Planner" "hands" "[J").before args s = true := hts _ (List.mem_of_getElem? (i := 8) rfl)
  have wl9 : (Cond.fieldLink RX2 87 "BeachedShip$Seams" "hands" "[I").before args s = true := hts _ (List.mem_of_getElem? (i := 9) rfl)
  have hRet : ∀ (v_h_size_z : Int32) (f_h_seam_z : Nat → Int32) (f_h_hours_z : Nat → Int32) (f_h_mayBegin_z : Nat → Int32) (f_h_hands_z : Nat → Int64), some (v_h_size_z, f_h_seam_z, f_h_hours_z, f_h_mayBegin_z, f_h_hands_z) = some (v_h_size', f_h_seam', f_h_hours', f_h_mayBegin', f_h_hands') → ∀ (H : Heap) (locs : List Loc) (ls : Array Slot) (pc : Nat), va_P D vwCl [(h, .inr (2, [.ref h_seam, .ref h_hours, .ref h_mayBegin, .ref h_tried, .ref h_begins, .ref h_hands, .long v_h_menShort, .int v_h_size_z, .int v_h_planned, .int v_h_worth, .int v_h_pitch])), (o1, .inr (4, [.ref sr, .ref o1_th, .ref o1_ta, .ref o1_se, .int v_o1_hour, .int v_o1_heel, .int v_o1_water, .int v_o1_pitch, .int v_o1_boatUsed, .int v_o1_heelWent, .int v_o1_pitchTaken, .int v_o1_hoursOfMen, .int v_o1_parted, .int v_o1_moved])), (o1_se, .inr (3, [.ref o1_se_strake, .ref o1_se_side, .ref o1_se_hands, .ref o1_se_hours, .ref o1_se_pitch, .ref o1_se_worth, .ref o1_se_state, .ref o1_se_done, .int v_o1_se_size])), (o1_se_state, .inl (cI, 12, .inl f_o1_se_state)), (h_seam, .inl (cI, 5, .inl f_h_seam_z)), (o1_se_hours, .inl (cI, 12, .inl f_o1_se_hours)), (o1_se_done, .inl (cI, 12, .inl f_o1_se_done)), (h_hours, .inl (cI, 5, .inl f_h_hours_z)), (sr, .inr (5, [.ref sr_tide, .ref sr_rain, .ref sr_rules])), (sr_rain, .inl (cZ, 96, .inl f_sr_rain)), (sr_tide, .inl (cI, 96, .inl f_sr_tide)), (o1_se_strake, .inl (cI, 12, .inl f_o1_se_strake)), (o1_se_side, .inl (cI, 12, .inl f_o1_se_side)), (h_mayBegin, .inl (cI, 5, .inl f_h_mayBegin_z)), (h_hands, .inl (cJ, 5, .inr (.inl f_h_hands_z))), (o1_se_hands, .inl (cI, 12, .inl f_o1_se_hands))] H → va_D A [(h, .inr (2, [.ref h_seam, .ref h_hours, .ref h_mayBegin, .ref h_tried, .ref h_begins, .ref h_hands, .long v_h_menShort, .int v_h_size_z, .int v_h_planned, .int v_h_worth, .int v_h_pitch])), (o1, .inr (4, [.ref sr, .ref o1_th, .ref o1_ta, .ref o1_se, .int v_o1_hour, .int v_o1_heel, .int v_o1_water, .int v_o1_pitch, .int v_o1_boatUsed, .int v_o1_heelWent, .int v_o1_pitchTaken, .int v_o1_hoursOfMen, .int v_o1_parted, .int v_o1_moved])), (o1_se, .inr (3, [.ref o1_se_strake, .ref o1_se_side, .ref o1_se_hands, .ref o1_se_hours, .ref o1_se_pitch, .ref o1_se_worth, .ref o1_se_state, .ref o1_se_done, .int v_o1_se_size])), (o1_se_state, .inl (cI, 12, .inl f_o1_se_state)), (h_seam, .inl (cI, 5, .inl f_h_seam_z)), (o1_se_hours, .inl (cI, 12, .inl f_o1_se_hours)), (o1_se_done, .inl (cI, 12, .inl f_o1_se_done)), (h_hours, .inl (cI, 5, .inl f_h_hours_z)), (sr, .inr (5, [.ref sr_tide, .ref sr_rain, .ref sr_rules])), (sr_rain, .inl (cZ, 96, .inl f_sr_rain)), (sr_tide, .inl (cI, 96, .inl f_sr_tide)), (o1_se_strake, .inl (cI, 12, .inl f_o1_se_strake)), (o1_se_side, .inl (cI, 12, .inl f_o1_se_side)), (h_mayBegin, .inl (cI, 5, .inl f_h_mayBegin_z)), (h_hands, .inl (cJ, 5, .inr (.inl f_h_hands_z))), (o1_se_hands, .inl (cI, 12, .inl f_o1_se_hands))] → va_S A s.heap H locs → decode cX2_gather pc = .ok (.return_, 1) → W p l e rm_X2_gather s m args below meth c H locs 0 0 Q (F0 m pc ls []) := by
    intro v_h_size_z f_h_seam_z f_h_hours_z f_h_mayBegin_z f_h_hands_z hz H locs ls pc hP hD hS hd
    cases hz
    exact k_vret hx hb hr hlocks hK hP hD hS hQ hd
  unfold p_X2_gather at hf
  refine lv_aload_n hx hb dX2_gather_0 rfl (lv_at hl 0 rfl) ?_
  refine lv_iconst (v := 0) hx hb dX2_gather_1 (by decide) ?_
  refine k_putf (ws2 := [(h, .inr (2, [.ref h_seam, .ref h_hours, .ref h_mayBegin, .ref h_tried, .ref h_begins, .ref h_hands, .long v_h_menShort, .int 0, .int v_h_planned, .int v_h_worth, .int v_h_pitch])), (o1, .inr (4, [.ref sr, .ref o1_th, .ref o1_ta, .ref o1_se, .int v_o1_hour, .int v_o1_heel, .int v_o1_water, .int v_o1_pitch, .int v_o1_boatUsed, .int v_o1_heelWent, .int v_o1_pitchTaken, .int v_o1_hoursOfMen, .int v_o1_parted, .int v_o1_moved])), (o1_se, .inr (3, [.ref o1_se_strake, .ref o1_se_side, .ref o1_se_hands, .ref o1_se_hours, .ref o1_se_pitch, .ref o1_se_worth, .ref o1_se_state, .ref o1_se_done, .int v_o1_se_size])), (o1_se_state, .inl (cI, 12, .inl f_o1_se_state)), (h_seam, .inl (cI, 5, .inl f_h_seam)), (o1_se_hours, .inl (cI, 12, .inl f_o1_se_hours)), (o1_se_done, .inl (cI, 12, .inl f_o1_se_done)), (h_hours, .inl (cI, 5, .inl f_h_hours)), (sr, .inr (5, [.ref sr_tide, .ref sr_rain, .ref sr_rules])), (sr_rain, .inl (cZ, 96, .inl f_sr_rain)), (sr_tide, .inl (cI, 96, .inl f_sr_tide)), (o1_se_strake, .inl (cI, 12, .inl f_o1_se_strake)), (o1_se_side, .inl (cI, 12, .inl f_o1_se_side)), (h_mayBegin, .inl (cI, 5, .inl f_h_mayBegin)), (h_hands, .inl (cJ, 5, .inr (.inl f_h_hands))), (o1_se_hands, .inl (cI, 12, .inl f_o1_se_hands))]) (C := RX2) (T := TX2) (N := 11) hx hb hts inX2 tyX2 tyX2_ok nmX2 hown hK hP hD hS 0 rfl rfl 7 (by decide) rfl wl1 rfl rfl rfl (Nat.le_of_ble_eq_true rfl) rfl dX2_gather_2 (fun H locs hP hD hS => ?_)
  refine lv_iconst (v := 0) hx hb dX2_gather_5 (by decide) ?_
  refine lv_istore_n (lv' := [(3, .int 0), (0, .ref h), (1, .ref o1), (2, .int a2)]) hx hb dX2_gather_6 rfl hl (by decide) rfl (fun ls hl => ?_)
  obtain ⟨ee51, hlp51, hfr51⟩ := k_b5_ee hf
  have hE51 : ∀ (c_h_hands_52 : Nat → Int64) (c_h_hours_53 : Nat → Int32) (c_h_mayBegin_54 : Nat → Int32) (c_h_seam_55 : Nat → Int32) (c_h_size_56 : Int32), ee51 = (c_h_hands_52, c_h_hours_53, c_h_mayBegin_54, c_h_seam_55, c_h_size_56) → ∀ (H : Heap) (locs : List Loc) (ls : Array Slot), va_P D vwCl [(h, .inr (2, [.ref h_seam, .ref h_hours, .ref h_mayBegin, .ref h_tried, .ref h_begins, .ref h_hands, .long v_h_menShort, .int c_h_size_56, .int v_h_planned, .int v_h_worth, .int v_h_pitch])), (o1, .inr (4, [.ref sr, .ref o1_th, .ref o1_ta, .ref o1_se, .int v_o1_hour, .int v_o1_heel, .int v_o1_water, .int v_o1_pitch, .int v_o1_boatUsed, .int v_o1_heelWent, .int v_o1_pitchTaken, .int v_o1_hoursOfMen, .int v_o1_parted, .int v_o1_moved])), (o1_se, .inr (3, [.ref o1_se_strake, .ref o1_se_side, .ref o1_se_hands, .ref o1_se_hours, .ref o1_se_pitch, .ref o1_se_worth, .ref o1_se_state, .ref o1_se_done, .int v_o1_se_size])), (o1_se_state, .inl (cI, 12, .inl f_o1_se_state)), (h_seam, .inl (cI, 5, .inl c_h_seam_55)), (o1_se_hours, .inl (cI, 12, .inl f_o1_se_hours)), (o1_se_done, .inl (cI, 12, .inl f_o1_se_done)), (h_hours, .inl (cI, 5, .inl c_h_hours_53)), (sr, .inr (5, [.ref sr_tide, .ref sr_rain, .ref sr_rules])), (sr_rain, .inl (cZ, 96, .inl f_sr_rain)), (sr_tide, .inl (cI, 96, .inl f_sr_tide)), (o1_se_strake, .inl (cI, 12, .inl f_o1_se_strake)), (o1_se_side, .inl (cI, 12, .inl f_o1_se_side)), (h_mayBegin, .inl (cI, 5, .inl c_h_mayBegin_54)), (h_hands, .inl (cJ, 5, .inr (.inl c_h_hands_52))), (o1_se_hands, .inl (cI, 12, .inl f_o1_se_hands))] H → va_D A [(h, .inr (2, [.ref h_seam, .ref h_hours, .ref h_mayBegin, .ref h_tried, .ref h_begins, .ref h_hands, .long v_h_menShort, .int c_h_size_56, .int v_h_planned, .int v_h_worth, .int v_h_pitch])), (o1, .inr (4, [.ref sr, .ref o1_th, .ref o1_ta, .ref o1_se, .int v_o1_hour, .int v_o1_heel, .int v_o1_water, .int v_o1_pitch, .int v_o1_boatUsed, .int v_o1_heelWent, .int v_o1_pitchTaken, .int v_o1_hoursOfMen, .int v_o1_parted, .int v_o1_moved])), (o1_se, .inr (3, [.ref o1_se_strake, .ref o1_se_side, .ref o1_se_hands, .ref o1_se_hours, .ref o1_se_pitch, .ref o1_se_worth, .ref o1_se_state, .ref o1_se_done, .int v_o1_se_size])), (o1_se_state, .inl (cI, 12, .inl f_o1_se_state)), (h_seam, .inl (cI, 5, .inl c_h_seam_55)), (o1_se_hours, .inl (cI, 12, .inl f_o1_se_hours)), (o1_se_done, .inl (cI, 12, .inl f_o1_se_done)), (h_hours, .inl (cI, 5, .inl c_h_hours_53)), (sr, .inr (5, [.ref sr_tide, .ref sr_rain, .ref sr_rules])), (sr_rain, .inl (cZ, 96, .inl f_sr_rain)), (sr_tide, .inl (cI, 96, .inl f_sr_tide)), (o1_se_strake, .inl (cI, 12, .inl f_o1_se_strake)), (o1_se_side, .inl (cI, 12, .inl f_o1_se_side)), (h_mayBegin, .inl (cI, 5, .inl c_h_mayBegin_54)), (h_hands, .inl (cJ, 5, .inr (.inl c_h_hands_52))), (o1_se_hands, .inl (cI, 12, .inl f_o1_se_hands))] → va_S A s.heap H locs → lv_has ls 5 [] → W p l e rm_X2_gather s m args below meth c H locs 0 0 Q (F0 m 158 ls []) := by
    intro c_h_hands_52 c_h_hours_53 c_h_mayBegin_54 c_h_seam_55 c_h_size_56 he H locs ls hP hD hS hl
    replace hf := hfr51 c_h_hands_52 c_h_hours_53 c_h_mayBegin_54 c_h_seam_55 c_h_size_56 he
    exact hRet _ _ _ _ _ hf _ _ _ _ hP hD hS dX2_gather_158
  refine (k_lp_ind (fun sx51 => ∀ (H : Heap) (locs : List Loc) (ls : Array Slot), va_P D vwCl [(h, .inr (2, [.ref h_seam, .ref h_hours, .ref h_mayBegin, .ref h_tried, .ref h_begins, .ref h_hands, .long v_h_menShort, .int sx51.2.2.2.2.2, .int v_h_planned, .int v_h_worth, .int v_h_pitch])), (o1, .inr (4, [.ref sr, .ref o1_th, .ref o1_ta, .ref o1_se, .int v_o1_hour, .int v_o1_heel, .int v_o1_water, .int v_o1_pitch, .int v_o1_boatUsed, .int v_o1_heelWent, .int v_o1_pitchTaken, .int v_o1_hoursOfMen, .int v_o1_parted, .int v_o1_moved])), (o1_se, .inr (3, [.ref o1_se_strake, .ref o1_se_side, .ref o1_se_hands, .ref o1_se_hours, .ref o1_se_pitch, .ref o1_se_worth, .ref o1_se_state, .ref o1_se_done, .int v_o1_se_size])), (o1_se_state, .inl (cI, 12, .inl f_o1_se_state)), (h_seam, .inl (cI, 5, .inl sx51.2.2.2.2.1)), (o1_se_hours, .inl (cI, 12, .inl f_o1_se_hours)), (o1_se_done, .inl (cI, 12, .inl f_o1_se_done)), (h_hours, .inl (cI, 5, .inl sx51.2.2.1)), (sr, .inr (5, [.ref sr_tide, .ref sr_rain, .ref sr_rules])), (sr_rain, .inl (cZ, 96, .inl f_sr_rain)), (sr_tide, .inl (cI, 96, .inl f_sr_tide)), (o1_se_strake, .inl (cI, 12, .inl f_o1_se_strake)), (o1_se_side, .inl (cI, 12, .inl f_o1_se_side)), (h_mayBegin, .inl (cI, 5, .inl sx51.2.2.2.1)), (h_hands, .inl (cJ, 5, .inr (.inl sx51.2.1))), (o1_se_hands, .inl (cI, 12, .inl f_o1_se_hands))] H → va_D A [(h, .inr (2, [.ref h_seam, .ref h_hours, .ref h_mayBegin, .ref h_tried, .ref h_begins, .ref h_hands, .long v_h_menShort, .int sx51.2.2.2.2.2, .int v_h_planned, .int v_h_worth, .int v_h_pitch])), (o1, .inr (4, [.ref sr, .ref o1_th, .ref o1_ta, .ref o1_se, .int v_o1_hour, .int v_o1_heel, .int v_o1_water, .int v_o1_pitch, .int v_o1_boatUsed, .int v_o1_heelWent, .int v_o1_pitchTaken, .int v_o1_hoursOfMen, .int v_o1_parted, .int v_o1_moved])), (o1_se, .inr (3, [.ref o1_se_strake, .ref o1_se_side, .ref o1_se_hands, .ref o1_se_hours, .ref o1_se_pitch, .ref o1_se_worth, .ref o1_se_state, .ref o1_se_done, .int v_o1_se_size])), (o1_se_state, .inl (cI, 12, .inl f_o1_se_state)), (h_seam, .inl (cI, 5, .inl sx51.2.2.2.2.1)), (o1_se_hours, .inl (cI, 12, .inl f_o1_se_hours)), (o1_se_done, .inl (cI, 12, .inl f_o1_se_done)), (h_hours, .inl (cI, 5, .inl sx51.2.2.1)), (sr, .inr (5, [.ref sr_tide, .ref sr_rain, .ref sr_rules])), (sr_rain, .inl (cZ, 96, .inl f_sr_rain)), (sr_tide, .inl (cI, 96, .inl f_sr_tide)), (o1_se_strake, .inl (cI, 12, .inl f_o1_se_strake)), (o1_se_side, .inl (cI, 12, .inl f_o1_se_side)), (h_mayBegin, .inl (cI, 5, .inl sx51.2.2.2.1)), (h_hands, .inl (cJ, 5, .inr (.inl sx51.2.1))), (o1_se_hands, .inl (cI, 12, .inl f_o1_se_hands))] → va_S A s.heap H locs → lv_has ls 5 [(3, .int sx51.1), (0, .ref h), (1, .ref o1), (2, .int a2)] → W p l e rm_X2_gather s m args below meth c H locs 0 0 Q (F0 m 7 ls [])) (fun sx51 X51 hX51 hin51 hout51 => ?_) _ _ hlp51) _ _ _ hP hD hS (lv_sub hl [0, 1, 2, 3] rfl)
  obtain ⟨x3_57, c_h_hands_58, c_h_hours_59, c_h_mayBegin_60, c_h_seam_61, c_h_size_62⟩ := sx51
  intro H locs ls hP hD hS hl
  replace hP : va_P D vwCl [(h, .inr (2, [.ref h_seam, .ref h_hours, .ref h_mayBegin, .ref h_tried, .ref h_begins, .ref h_hands, .long v_h_menShort, .int c_h_size_62, .int v_h_planned, .int v_h_worth, .int v_h_pitch])), (o1, .inr (4, [.ref sr, .ref o1_th, .ref o1_ta, .ref o1_se, .int v_o1_hour, .int v_o1_heel, .int v_o1_water, .int v_o1_pitch, .int v_o1_boatUsed, .int v_o1_heelWent, .int v_o1_pitchTaken, .int v_o1_hoursOfMen, .int v_o1_parted, .int v_o1_moved])), (o1_se, .inr (3, [.ref o1_se_strake, .ref o1_se_side, .ref o1_se_hands, .ref o1_se_hours, .ref o1_se_pitch, .ref o1_se_worth, .ref o1_se_state, .ref o1_se_done, .int v_o1_se_size])), (o1_se_state, .inl (cI, 12, .inl f_o1_se_state)), (h_seam, .inl (cI, 5, .inl c_h_seam_61)), (o1_se_hours, .inl (cI, 12, .inl f_o1_se_hours)), (o1_se_done, .inl (cI, 12, .inl f_o1_se_done)), (h_hours, .inl (cI, 5, .inl c_h_hours_59)), (sr, .inr (5, [.ref sr_tide, .ref sr_rain, .ref sr_rules])), (sr_rain, .inl (cZ, 96, .inl f_sr_rain)), (sr_tide, .inl (cI, 96, .inl f_sr_tide)), (o1_se_strake, .inl (cI, 12, .inl f_o1_se_strake)), (o1_se_side, .inl (cI, 12, .inl f_o1_se_side)), (h_mayBegin, .inl (cI, 5, .inl c_h_mayBegin_60)), (h_hands, .inl (cJ, 5, .inr (.inl c_h_hands_58))), (o1_se_hands, .inl (cI, 12, .inl f_o1_se_hands))] H := hP
  replace hD : va_D A [(h, .inr (2, [.ref h_seam, .ref h_hours, .ref h_mayBegin, .ref h_tried, .ref h_begins, .ref h_hands, .long v_h_menShort, .int c_h_size_62, .int v_h_planned, .int v_h_worth, .int v_h_pitch])), (o1, .inr (4, [.ref sr, .ref o1_th, .ref o1_ta, .ref o1_se, .int v_o1_hour, .int v_o1_heel, .int v_o1_water, .int v_o1_pitch, .int v_o1_boatUsed, .int v_o1_heelWent, .int v_o1_pitchTaken, .int v_o1_hoursOfMen, .int v_o1_parted, .int v_o1_moved])), (o1_se, .inr (3, [.ref o1_se_strake, .ref o1_se_side, .ref o1_se_hands, .ref o1_se_hours, .ref o1_se_pitch, .ref o1_se_worth, .ref o1_se_state, .ref o1_se_done, .int v_o1_se_size])), (o1_se_state, .inl (cI, 12, .inl f_o1_se_state)), (h_seam, .inl (cI, 5, .inl c_h_seam_61)), (o1_se_hours, .inl (cI, 12, .inl f_o1_se_hours)), (o1_se_done, .inl (cI, 12, .inl f_o1_se_done)), (h_hours, .inl (cI, 5, .inl c_h_hours_59)), (sr, .inr (5, [.ref sr_tide, .ref sr_rain, .ref sr_rules])), (sr_rain, .inl (cZ, 96, .inl f_sr_rain)), (sr_tide, .inl (cI, 96, .inl f_sr_tide)), (o1_se_strake, .inl (cI, 12, .inl f_o1_se_strake)), (o1_se_side, .inl (cI, 12, .inl f_o1_se_side)), (h_mayBegin, .inl (cI, 5, .inl c_h_mayBegin_60)), (h_hands, .inl (cJ, 5, .inr (.inl c_h_hands_58))), (o1_se_hands, .inl (cI, 12, .inl f_o1_se_hands))] := hD
  replace hl : lv_has ls 5 [(3, .int x3_57), (0, .ref h), (1, .ref o1), (2, .int a2)] := hl
  replace hX51 : lb_X2_gather_7 v_o1_se_size f_o1_se_state f_o1_se_hours f_o1_se_done v_o1_hour v_o1_heel f_sr_rain f_sr_tide f_o1_se_strake f_o1_se_side a2 f_o1_se_hands x3_57 c_h_hands_58 c_h_hours_59 c_h_mayBegin_60 c_h_seam_61 c_h_size_62 = some X51 := hX51
  unfold lb_X2_gather_7 at hX51
  refine lv_iload_n hx hb dX2_gather_7 rfl (lv_at hl 0 rfl) ?_
  refine lv_aload_n hx hb dX2_gather_8 rfl (lv_at hl 2 rfl) ?_
  refine k_get (C := RX4) (T := TX4) (N := 14) hx hb hts inX4 hown hK hP 1 rfl rfl 3 (by decide) rfl wl2 rfl dX2_gather_9 ?_
  refine k_get (C := RX3) (T := TX3) (N := 9) hx hb hts inX3 hown hK hP 2 rfl rfl 8 (by decide) rfl wl3 rfl dX2_gather_12 ?_
  refine lv_icmp_ge (tgt := 158) hx hb dX2_gather_15 (by decide) (fun c63 => ?_) (fun c63 => ?_)
  · replace hX51 := k_pos hX51 c63
    exact hE51 _ _ _ _ _ (hout51 _ (Option.some.inj hX51).symm).symm _ _ _ hP hD hS (lv_sub hl [] rfl)
  · replace hX51 := k_neg hX51 c63
    refine lv_aload_n hx hb dX2_gather_18 rfl (lv_at hl 1 rfl) ?_
    refine k_get (C := RX2) (T := TX2) (N := 11) hx hb hts inX2 hown hK hP 0 rfl rfl 7 (by decide) rfl wl1 rfl dX2_gather_19 ?_
    refine lv_iconst (v := 5) hx hb dX2_gather_22 (by decide) ?_
    refine lv_icmp_ge (tgt := 158) hx hb dX2_gather_23 (by decide) (fun c64 => ?_) (fun c64 => ?_)
    · replace hX51 := k_pos hX51 c64
      exact hE51 _ _ _ _ _ (hout51 _ (Option.some.inj hX51).symm).symm _ _ _ hP hD hS (lv_sub hl [] rfl)
    · replace hX51 := k_neg hX51 c64
      refine lv_aload_n hx hb dX2_gather_26 rfl (lv_at hl 2 rfl) ?_
      refine k_get (C := RX4) (T := TX4) (N := 14) hx hb hts inX4 hown hK hP 1 rfl rfl 3 (by decide) rfl wl2 rfl dX2_gather_27 ?_
      refine k_get (C := RX3) (T := TX3) (N := 9) hx hb hts inX3 hown hK hP 2 rfl rfl 6 (by decide) rfl wl4 rfl dX2_gather_30 ?_
      refine lv_iload_n hx hb dX2_gather_33 rfl (lv_at hl 0 rfl) ?_
      obtain ⟨hi65, hX51⟩ := k_ix_some hX51
      refine k_iald (k := x3_57.toNatClampNeg) hx hb hK hP 3 0 rfl rfl hi65 rfl dX2_gather_34 ?_
      refine lv_iconst (v := 2) hx hb dX2_gather_35 (by decide) ?_
      refine lv_icmp_eq (tgt := 152) hx hb dX2_gather_36 (by decide) (fun c66 => ?_) (fun c66 => ?_)
      · replace hX51 := k_pos hX51 c66
        refine lv_iinc (v := x3_57 + 1) (lv' := [(3, .int (x3_57 + 1)), (0, .ref h), (1, .ref o1), (2, .int a2)]) hx hb dX2_gather_152 hl (k := 0) rfl rfl (by decide) rfl (fun ls hl => ?_)
        refine lv_goto (tgt := 7) hx hb dX2_gather_155 (by decide) ?_
        exact hin51 (x3_57 + 1, c_h_hands_58, c_h_hours_59, c_h_mayBegin_60, c_h_seam_61, c_h_size_62) (Option.some.inj hX51).symm _ _ _ hP hD hS (lv_sub hl [0, 1, 2, 3] rfl)
      · replace hX51 := k_neg hX51 c66
        refine lv_aload_n hx hb dX2_gather_39 rfl (lv_at hl 1 rfl) ?_
        refine k_get (C := RX2) (T := TX2) (N := 11) hx hb hts inX2 hown hK hP 0 rfl rfl 0 (by decide) rfl wl5 rfl dX2_gather_40 ?_
        refine lv_aload_n hx hb dX2_gather_43 rfl (lv_at hl 1 rfl) ?_
        refine k_get (C := RX2) (T := TX2) (N := 11) hx hb hts inX2 hown hK hP 0 rfl rfl 7 (by decide) rfl wl1 rfl dX2_gather_44 ?_
        refine lv_iload_n hx hb dX2_gather_47 rfl (lv_at hl 0 rfl) ?_
        obtain ⟨hi67, hX51⟩ := k_ix_some hX51
        refine k_iast (ws2 := [(h, .inr (2, [.ref h_seam, .ref h_hours, .ref h_mayBegin, .ref h_tried, .ref h_begins, .ref h_hands, .long v_h_menShort, .int c_h_size_62, .int v_h_planned, .int v_h_worth, .int v_h_pitch])), (o1, .inr (4, [.ref sr, .ref o1_th, .ref o1_ta, .ref o1_se, .int v_o1_hour, .int v_o1_heel, .int v_o1_water, .int v_o1_pitch, .int v_o1_boatUsed, .int v_o1_heelWent, .int v_o1_pitchTaken, .int v_o1_hoursOfMen, .int v_o1_parted, .int v_o1_moved])), (o1_se, .inr (3, [.ref o1_se_strake, .ref o1_se_side, .ref o1_se_hands, .ref o1_se_hours, .ref o1_se_pitch, .ref o1_se_worth, .ref o1_se_state, .ref o1_se_done, .int v_o1_se_size])), (o1_se_state, .inl (cI, 12, .inl f_o1_se_state)), (h_seam, .inl (cI, 5, .inl (upd c_h_seam_61 c_h_size_62.toNatClampNeg x3_57))), (o1_se_hours, .inl (cI, 12, .inl f_o1_se_hours)), (o1_se_done, .inl (cI, 12, .inl f_o1_se_done)), (h_hours, .inl (cI, 5, .inl c_h_hours_59)), (sr, .inr (5, [.ref sr_tide, .ref sr_rain, .ref sr_rules])), (sr_rain, .inl (cZ, 96, .inl f_sr_rain)), (sr_tide, .inl (cI, 96, .inl f_sr_tide)), (o1_se_strake, .inl (cI, 12, .inl f_o1_se_strake)), (o1_se_side, .inl (cI, 12, .inl f_o1_se_side)), (h_mayBegin, .inl (cI, 5, .inl c_h_mayBegin_60)), (h_hands, .inl (cJ, 5, .inr (.inl c_h_hands_58))), (o1_se_hands, .inl (cI, 12, .inl f_o1_se_hands))]) (k := c_h_size_62.toNatClampNeg) hx hb hK hP hD hS 4 0 rfl rfl hi67 rfl rfl dX2_gather_48 (fun H locs hP hD hS => ?_)
        refine lv_aload_n hx hb dX2_gather_49 rfl (lv_at hl 1 rfl) ?_
        refine k_get (C := RX2) (T := TX2) (N := 11) hx hb hts inX2 hown hK hP 0 rfl rfl 1 (by decide) rfl wl6 rfl dX2_gather_50 ?_
        refine lv_aload_n hx hb dX2_gather_53 rfl (lv_at hl 1 rfl) ?_
        refine k_get (C := RX2) (T := TX2) (N := 11) hx hb hts inX2 hown hK hP 0 rfl rfl 7 (by decide) rfl wl1 rfl dX2_gather_54 ?_
        refine lv_aload_n hx hb dX2_gather_57 rfl (lv_at hl 2 rfl) ?_
        refine k_get (C := RX4) (T := TX4) (N := 14) hx hb hts inX4 hown hK hP 1 rfl rfl 3 (by decide) rfl wl2 rfl dX2_gather_58 ?_
        refine lv_iload_n hx hb dX2_gather_61 rfl (lv_at hl 0 rfl) ?_
        obtain ⟨r68, hc68, hX51⟩ := k_b1_some hX51
        refine k_ViR (q0 := 0) (As := [.int x3_57]) (rest := [.int c_h_size_62, .ref h_hours]) S0 (c_X3_hoursLacking l D cI cZ cJ cS o1_se o1_se_strake o1_se_side o1_se_hands o1_se_hours o1_se_pitch o1_se_worth o1_se_state o1_se_done v_o1_se_size f_o1_se_state f_o1_se_hours f_o1_se_done x3_57 r68 hc68) (cwV 1 hts gX2_gather_X3_hoursLacking rfl rfl rfl hdV_X3_hoursLacking ⟨Nat.le_of_ble_eq_true rfl, Nat.le_of_ble_eq_true rfl⟩) hK hP hD hS hA hN [2, 3, 5, 6] rfl (by decide) rfl rfl rfl rfl hl.1 rfl (Nat.le_of_ble_eq_true rfl) dX2_gather_62 (fun H locs hP hS => ?_)
        obtain ⟨hi69, hX51⟩ := k_ix_some hX51
        refine k_iast (ws2 := [(h, .inr (2, [.ref h_seam, .ref h_hours, .ref h_mayBegin, .ref h_tried, .ref h_begins, .ref h_hands, .long v_h_menShort, .int c_h_size_62, .int v_h_planned, .int v_h_worth, .int v_h_pitch])), (o1, .inr (4, [.ref sr, .ref o1_th, .ref o1_ta, .ref o1_se, .int v_o1_hour, .int v_o1_heel, .int v_o1_water, .int v_o1_pitch, .int v_o1_boatUsed, .int v_o1_heelWent, .int v_o1_pitchTaken, .int v_o1_hoursOfMen, .int v_o1_parted, .int v_o1_moved])), (o1_se, .inr (3, [.ref o1_se_strake, .ref o1_se_side, .ref o1_se_hands, .ref o1_se_hours, .ref o1_se_pitch, .ref o1_se_worth, .ref o1_se_state, .ref o1_se_done, .int v_o1_se_size])), (o1_se_state, .inl (cI, 12, .inl f_o1_se_state)), (h_seam, .inl (cI, 5, .inl (upd c_h_seam_61 c_h_size_62.toNatClampNeg x3_57))), (o1_se_hours, .inl (cI, 12, .inl f_o1_se_hours)), (o1_se_done, .inl (cI, 12, .inl f_o1_se_done)), (h_hours, .inl (cI, 5, .inl (upd c_h_hours_59 c_h_size_62.toNatClampNeg r68))), (sr, .inr (5, [.ref sr_tide, .ref sr_rain, .ref sr_rules])), (sr_rain, .inl (cZ, 96, .inl f_sr_rain)), (sr_tide, .inl (cI, 96, .inl f_sr_tide)), (o1_se_strake, .inl (cI, 12, .inl f_o1_se_strake)), (o1_se_side, .inl (cI, 12, .inl f_o1_se_side)), (h_mayBegin, .inl (cI, 5, .inl c_h_mayBegin_60)), (h_hands, .inl (cJ, 5, .inr (.inl c_h_hands_58))), (o1_se_hands, .inl (cI, 12, .inl f_o1_se_hands))]) (k := c_h_size_62.toNatClampNeg) hx hb hK hP hD hS 7 0 rfl rfl hi69 rfl rfl dX2_gather_65 (fun H locs hP hD hS => ?_)
        refine lv_aload_n hx hb dX2_gather_66 rfl (lv_at hl 1 rfl) ?_
        refine k_get (C := RX2) (T := TX2) (N := 11) hx hb hts inX2 hown hK hP 0 rfl rfl 2 (by decide) rfl wl7 rfl dX2_gather_67 ?_
        refine lv_aload_n hx hb dX2_gather_70 rfl (lv_at hl 1 rfl) ?_
        refine k_get (C := RX2) (T := TX2) (N := 11) hx hb hts inX2 hown hK hP 0 rfl rfl 7 (by decide) rfl wl1 rfl dX2_gather_71 ?_
        refine lv_aload_n hx hb dX2_gather_74 rfl (lv_at hl 2 rfl) ?_
        refine lv_iload_n hx hb dX2_gather_75 rfl (lv_at hl 0 rfl) ?_
        refine lv_iload_n hx hb dX2_gather_76 rfl (lv_at hl 3 rfl) ?_
        obtain ⟨r70, hc70, hX51⟩ := k_b1_some hX51
        refine k_SiR (As := [.ref o1, .int x3_57, .int a2]) (rest := [.int c_h_size_62, .ref h_mayBegin]) S0 (c_X2_beginnings l D cI cZ cJ cS o1 sr o1_th o1_ta o1_se o1_se_strake o1_se_side o1_se_hands o1_se_hours o1_se_pitch o1_se_worth o1_se_state o1_se_done sr_tide sr_rain sr_rules v_o1_hour v_o1_heel v_o1_water v_o1_pitch v_o1_boatUsed v_o1_heelWent v_o1_pitchTaken v_o1_hoursOfMen v_o1_parted v_o1_moved v_o1_se_size f_o1_se_state f_o1_se_hours f_o1_se_done f_sr_rain f_sr_tide f_o1_se_strake f_o1_se_side x3_57 a2 r70 hc70) (va_cwS 3 hts gX2_gather_X2_beginnings rfl rfl rfl hdS_X2_beginnings ⟨Nat.le_of_ble_eq_true rfl, Nat.le_of_ble_eq_true rfl⟩) hK hP hD hS hA hN [1, 2, 3, 5, 6, 8, 9, 10, 11, 12] rfl (by decide) rfl hl.1 rfl (Nat.le_of_ble_eq_true rfl) dX2_gather_77 (fun H locs hP hS => ?_)
        obtain ⟨hi71, hX51⟩ := k_ix_some hX51
        refine k_iast (ws2 := [(h, .inr (2, [.ref h_seam, .ref h_hours, .ref h_mayBegin, .ref h_tried, .ref h_begins, .ref h_hands, .long v_h_menShort, .int c_h_size_62, .int v_h_planned, .int v_h_worth, .int v_h_pitch])), (o1, .inr (4, [.ref sr, .ref o1_th, .ref o1_ta, .ref o1_se, .int v_o1_hour, .int v_o1_heel, .int v_o1_water, .int v_o1_pitch, .int v_o1_boatUsed, .int v_o1_heelWent, .int v_o1_pitchTaken, .int v_o1_hoursOfMen, .int v_o1_parted, .int v_o1_moved])), (o1_se, .inr (3, [.ref o1_se_strake, .ref o1_se_side, .ref o1_se_hands, .ref o1_se_hours, .ref o1_se_pitch, .ref o1_se_worth, .ref o1_se_state, .ref o1_se_done, .int v_o1_se_size])), (o1_se_state, .inl (cI, 12, .inl f_o1_se_state)), (h_seam, .inl (cI, 5, .inl (upd c_h_seam_61 c_h_size_62.toNatClampNeg x3_57))), (o1_se_hours, .inl (cI, 12, .inl f_o1_se_hours)), (o1_se_done, .inl (cI, 12, .inl f_o1_se_done)), (h_hours, .inl (cI, 5, .inl (upd c_h_hours_59 c_h_size_62.toNatClampNeg r68))), (sr, .inr (5, [.ref sr_tide, .ref sr_rain, .ref sr_rules])), (sr_rain, .inl (cZ, 96, .inl f_sr_rain)), (sr_tide, .inl (cI, 96, .inl f_sr_tide)), (o1_se_strake, .inl (cI, 12, .inl f_o1_se_strake)), (o1_se_side, .inl (cI, 12, .inl f_o1_se_side)), (h_mayBegin, .inl (cI, 5, .inl (upd c_h_mayBegin_60 c_h_size_62.toNatClampNeg r70))), (h_hands, .inl (cJ, 5, .inr (.inl c_h_hands_58))), (o1_se_hands, .inl (cI, 12, .inl f_o1_se_hands))]) (k := c_h_size_62.toNatClampNeg) hx hb hK hP hD hS 13 0 rfl rfl hi71 rfl rfl dX2_gather_80 (fun H locs hP hD hS => ?_)
        refine lv_aload_n hx hb dX2_gather_81 rfl (lv_at hl 1 rfl) ?_
        refine k_get (C := RX2) (T := TX2) (N := 11) hx hb hts inX2 hown hK hP 0 rfl rfl 5 (by decide) rfl wl8 rfl dX2_gather_82 ?_
        refine lv_aload_n hx hb dX2_gather_85 rfl (lv_at hl 1 rfl) ?_
        refine k_get (C := RX2) (T := TX2) (N := 11) hx hb hts inX2 hown hK hP 0 rfl rfl 7 (by decide) rfl wl1 rfl dX2_gather_86 ?_
        refine lv_lconst (v := 0) hx hb dX2_gather_89 (by decide) ?_
        obtain ⟨hi72, hX51⟩ := k_ix_some hX51
        refine k_last (ws2 := [(h, .inr (2, [.ref h_seam, .ref h_hours, .ref h_mayBegin, .ref h_tried, .ref h_begins, .ref h_hands, .long v_h_menShort, .int c_h_size_62, .int v_h_planned, .int v_h_worth, .int v_h_pitch])), (o1, .inr (4, [.ref sr, .ref o1_th, .ref o1_ta, .ref o1_se, .int v_o1_hour, .int v_o1_heel, .int v_o1_water, .int v_o1_pitch, .int v_o1_boatUsed, .int v_o1_heelWent, .int v_o1_pitchTaken, .int v_o1_hoursOfMen, .int v_o1_parted, .int v_o1_moved])), (o1_se, .inr (3, [.ref o1_se_strake, .ref o1_se_side, .ref o1_se_hands, .ref o1_se_hours, .ref o1_se_pitch, .ref o1_se_worth, .ref o1_se_state, .ref o1_se_done, .int v_o1_se_size])), (o1_se_state, .inl (cI, 12, .inl f_o1_se_state)), (h_seam, .inl (cI, 5, .inl (upd c_h_seam_61 c_h_size_62.toNatClampNeg x3_57))), (o1_se_hours, .inl (cI, 12, .inl f_o1_se_hours)), (o1_se_done, .inl (cI, 12, .inl f_o1_se_done)), (h_hours, .inl (cI, 5, .inl (upd c_h_hours_59 c_h_size_62.toNatClampNeg r68))), (sr, .inr (5, [.ref sr_tide, .ref sr_rain, .ref sr_rules])), (sr_rain, .inl (cZ, 96, .inl f_sr_rain)), (sr_tide, .inl (cI, 96, .inl f_sr_tide)), (o1_se_strake, .inl (cI, 12, .inl f_o1_se_strake)), (o1_se_side, .inl (cI, 12, .inl f_o1_se_side)), (h_mayBegin, .inl (cI, 5, .inl (upd c_h_mayBegin_60 c_h_size_62.toNatClampNeg r70))), (h_hands, .inl (cJ, 5, .inr (.inl (vp_updL c_h_hands_58 c_h_size_62.toNatClampNeg 0)))), (o1_se_hands, .inl (cI, 12, .inl f_o1_se_hands))]) (k := c_h_size_62.toNatClampNeg) hx hb hK hP hD hS 14 2 rfl rfl hi72 rfl rfl dX2_gather_90 (fun H locs hP hD hS => ?_)
        refine lv_iconst (v := 0) hx hb dX2_gather_91 (by decide) ?_
        refine lv_istore (lv' := [(4, .int 0), (3, .int x3_57), (0, .ref h), (1, .ref o1), (2, .int a2)]) hx hb dX2_gather_92 hl (by decide) rfl (fun ls hl => ?_)
        obtain ⟨ee85, hlp85, hfr85⟩ := k_b1_ee hX51
        have hE85 : ∀ (c_h_hands_86 : Nat → Int64), ee85 = c_h_hands_86 → ∀ (H : Heap) (locs : List Loc) (ls : Array Slot), va_P D vwCl [(h, .inr (2, [.ref h_seam, .ref h_hours, .ref h_mayBegin, .ref h_tried, .ref h_begins, .ref h_hands, .long v_h_menShort, .int c_h_size_62, .int v_h_planned, .int v_h_worth, .int v_h_pitch])), (o1, .inr (4, [.ref sr, .ref o1_th, .ref o1_ta, .ref o1_se, .int v_o1_hour, .int v_o1_heel, .int v_o1_water, .int v_o1_pitch, .int v_o1_boatUsed, .int v_o1_heelWent, .int v_o1_pitchTaken, .int v_o1_hoursOfMen, .int v_o1_parted, .int v_o1_moved])), (o1_se, .inr (3, [.ref o1_se_strake, .ref o1_se_side, .ref o1_se_hands, .ref o1_se_hours, .ref o1_se_pitch, .ref o1_se_worth, .ref o1_se_state, .ref o1_se_done, .int v_o1_se_size])), (o1_se_state, .inl (cI, 12, .inl f_o1_se_state)), (h_seam, .inl (cI, 5, .inl (upd c_h_seam_61 c_h_size_62.toNatClampNeg x3_57))), (o1_se_hours, .inl (cI, 12, .inl f_o1_se_hours)), (o1_se_done, .inl (cI, 12, .inl f_o1_se_done)), (h_hours, .inl (cI, 5, .inl (upd c_h_hours_59 c_h_size_62.toNatClampNeg r68))), (sr, .inr (5, [.ref sr_tide, .ref sr_rain, .ref sr_rules])), (sr_rain, .inl (cZ, 96, .inl f_sr_rain)), (sr_tide, .inl (cI, 96, .inl f_sr_tide)), (o1_se_strake, .inl (cI, 12, .inl f_o1_se_strake)), (o1_se_side, .inl (cI, 12, .inl f_o1_se_side)), (h_mayBegin, .inl (cI, 5, .inl (upd c_h_mayBegin_60 c_h_size_62.toNatClampNeg r70))), (h_hands, .inl (cJ, 5, .inr (.inl c_h_hands_86))), (o1_se_hands, .inl (cI, 12, .inl f_o1_se_hands))] H → va_D A [(h, .inr (2, [.ref h_seam, .ref h_hours, .ref h_mayBegin, .ref h_tried, .ref h_begins, .ref h_hands, .long v_h_menShort, .int c_h_size_62, .int v_h_planned, .int v_h_worth, .int v_h_pitch])), (o1, .inr (4, [.ref sr, .ref o1_th, .ref o1_ta, .ref o1_se, .int v_o1_hour, .int v_o1_heel, .int v_o1_water, .int v_o1_pitch, .int v_o1_boatUsed, .int v_o1_heelWent, .int v_o1_pitchTaken, .int v_o1_hoursOfMen, .int v_o1_parted, .int v_o1_moved])), (o1_se, .inr (3, [.ref o1_se_strake, .ref o1_se_side, .ref o1_se_hands, .ref o1_se_hours, .ref o1_se_pitch, .ref o1_se_worth, .ref o1_se_state, .ref o1_se_done, .int v_o1_se_size])), (o1_se_state, .inl (cI, 12, .inl f_o1_se_state)), (h_seam, .inl (cI, 5, .inl (upd c_h_seam_61 c_h_size_62.toNatClampNeg x3_57))), (o1_se_hours, .inl (cI, 12, .inl f_o1_se_hours)), (o1_se_done, .inl (cI, 12, .inl f_o1_se_done)), (h_hours, .inl (cI, 5, .inl (upd c_h_hours_59 c_h_size_62.toNatClampNeg r68))), (sr, .inr (5, [.ref sr_tide, .ref sr_rain, .ref sr_rules])), (sr_rain, .inl (cZ, 96, .inl f_sr_rain)), (sr_tide, .inl (cI, 96, .inl f_sr_tide)), (o1_se_strake, .inl (cI, 12, .inl f_o1_se_strake)), (o1_se_side, .inl (cI, 12, .inl f_o1_se_side)), (h_mayBegin, .inl (cI, 5, .inl (upd c_h_mayBegin_60 c_h_size_62.toNatClampNeg r70))), (h_hands, .inl (cJ, 5, .inr (.inl c_h_hands_86))), (o1_se_hands, .inl (cI, 12, .inl f_o1_se_hands))] → va_S A s.heap H locs → lv_has ls 5 [(3, .int x3_57), (0, .ref h), (1, .ref o1), (2, .int a2)] → W p l e rm_X2_gather s m args below meth c H locs 0 0 Q (F0 m 142 ls []) := by
          intro c_h_hands_86 he H locs ls hP hD hS hl
          replace hX51 := hfr85 c_h_hands_86 he
          refine lv_aload_n hx hb dX2_gather_142 rfl (lv_at hl 1 rfl) ?_
          refine lv_dup hx hb dX2_gather_143 rfl ?_
          refine k_get (C := RX2) (T := TX2) (N := 11) hx hb hts inX2 hown hK hP 0 rfl rfl 7 (by decide) rfl wl1 rfl dX2_gather_144 ?_
          refine lv_iconst (v := 1) hx hb dX2_gather_147 (by decide) ?_
          refine lv_iadd hx hb dX2_gather_148 ?_
          refine k_putf (ws2 := [(h, .inr (2, [.ref h_seam, .ref h_hours, .ref h_mayBegin, .ref h_tried, .ref h_begins, .ref h_hands, .long v_h_menShort, .int (c_h_size_62 + 1), .int v_h_planned, .int v_h_worth, .int v_h_pitch])), (o1, .inr (4, [.ref sr, .ref o1_th, .ref o1_ta, .ref o1_se, .int v_o1_hour, .int v_o1_heel, .int v_o1_water, .int v_o1_pitch, .int v_o1_boatUsed, .int v_o1_heelWent, .int v_o1_pitchTaken, .int v_o1_hoursOfMen, .int v_o1_parted, .int v_o1_moved])), (o1_se, .inr (3, [.ref o1_se_strake, .ref o1_se_side, .ref o1_se_hands, .ref o1_se_hours, .ref o1_se_pitch, .ref o1_se_worth, .ref o1_se_state, .ref o1_se_done, .int v_o1_se_size])), (o1_se_state, .inl (cI, 12, .inl f_o1_se_state)), (h_seam, .inl (cI, 5, .inl (upd c_h_seam_61 c_h_size_62.toNatClampNeg x3_57))), (o1_se_hours, .inl (cI, 12, .inl f_o1_se_hours)), (o1_se_done, .inl (cI, 12, .inl f_o1_se_done)), (h_hours, .inl (cI, 5, .inl (upd c_h_hours_59 c_h_size_62.toNatClampNeg r68))), (sr, .inr (5, [.ref sr_tide, .ref sr_rain, .ref sr_rules])), (sr_rain, .inl (cZ, 96, .inl f_sr_rain)), (sr_tide, .inl (cI, 96, .inl f_sr_tide)), (o1_se_strake, .inl (cI, 12, .inl f_o1_se_strake)), (o1_se_side, .inl (cI, 12, .inl f_o1_se_side)), (h_mayBegin, .inl (cI, 5, .inl (upd c_h_mayBegin_60 c_h_size_62.toNatClampNeg r70))), (h_hands, .inl (cJ, 5, .inr (.inl c_h_hands_86))), (o1_se_hands, .inl (cI, 12, .inl f_o1_se_hands))]) (C := RX2) (T := TX2) (N := 11) hx hb hts inX2 tyX2 tyX2_ok nmX2 hown hK hP hD hS 0 rfl rfl 7 (by decide) rfl wl1 rfl rfl rfl (Nat.le_of_ble_eq_true rfl) rfl dX2_gather_149 (fun H locs hP hD hS => ?_)
          refine lv_iinc (v := x3_57 + 1) (lv' := [(3, .int (x3_57 + 1)), (0, .ref h), (1, .ref o1), (2, .int a2)]) hx hb dX2_gather_152 hl (k := 0) rfl rfl (by decide) rfl (fun ls hl => ?_)
          refine lv_goto (tgt := 7) hx hb dX2_gather_155 (by decide) ?_
          exact hin51 (x3_57 + 1, c_h_hands_86, upd c_h_hours_59 c_h_size_62.toNatClampNeg r68, upd c_h_mayBegin_60 c_h_size_62.toNatClampNeg r70, upd c_h_seam_61 c_h_size_62.toNatClampNeg x3_57, c_h_size_62 + 1) (Option.some.inj hX51).symm _ _ _ hP hD hS (lv_sub hl [0, 1, 2, 3] rfl)
        refine (k_lp_ind (fun sx85 => ∀ (H : Heap) (locs : List Loc) (ls : Array Slot), va_P D vwCl [(h, .inr (2, [.ref h_seam, .ref h_hours, .ref h_mayBegin, .ref h_tried, .ref h_begins, .ref h_hands, .long v_h_menShort, .int c_h_size_62, .int v_h_planned, .int v_h_worth, .int v_h_pitch])), (o1, .inr (4, [.ref sr, .ref o1_th, .ref o1_ta, .ref o1_se, .int v_o1_hour, .int v_o1_heel, .int v_o1_water, .int v_o1_pitch, .int v_o1_boatUsed, .int v_o1_heelWent, .int v_o1_pitchTaken, .int v_o1_hoursOfMen, .int v_o1_parted, .int v_o1_moved])), (o1_se, .inr (3, [.ref o1_se_strake, .ref o1_se_side, .ref o1_se_hands, .ref o1_se_hours, .ref o1_se_pitch, .ref o1_se_worth, .ref o1_se_state, .ref o1_se_done, .int v_o1_se_size])), (o1_se_state, .inl (cI, 12, .inl f_o1_se_state)), (h_seam, .inl (cI, 5, .inl (upd c_h_seam_61 c_h_size_62.toNatClampNeg x3_57))), (o1_se_hours, .inl (cI, 12, .inl f_o1_se_hours)), (o1_se_done, .inl (cI, 12, .inl f_o1_se_done)), (h_hours, .inl (cI, 5, .inl (upd c_h_hours_59 c_h_size_62.toNatClampNeg r68))), (sr, .inr (5, [.ref sr_tide, .ref sr_rain, .ref sr_rules])), (sr_rain, .inl (cZ, 96, .inl f_sr_rain)), (sr_tide, .inl (cI, 96, .inl f_sr_tide)), (o1_se_strake, .inl (cI, 12, .inl f_o1_se_strake)), (o1_se_side, .inl (cI, 12, .inl f_o1_se_side)), (h_mayBegin, .inl (cI, 5, .inl (upd c_h_mayBegin_60 c_h_size_62.toNatClampNeg r70))), (h_hands, .inl (cJ, 5, .inr (.inl sx85.2))), (o1_se_hands, .inl (cI, 12, .inl f_o1_se_hands))] H → va_D A [(h, .inr (2, [.ref h_seam, .ref h_hours, .ref h_mayBegin, .ref h_tried, .ref h_begins, .ref h_hands, .long v_h_menShort, .int c_h_size_62, .int v_h_planned, .int v_h_worth, .int v_h_pitch])), (o1, .inr (4, [.ref sr, .ref o1_th, .ref o1_ta, .ref o1_se, .int v_o1_hour, .int v_o1_heel, .int v_o1_water, .int v_o1_pitch, .int v_o1_boatUsed, .int v_o1_heelWent, .int v_o1_pitchTaken, .int v_o1_hoursOfMen, .int v_o1_parted, .int v_o1_moved])), (o1_se, .inr (3, [.ref o1_se_strake, .ref o1_se_side, .ref o1_se_hands, .ref o1_se_hours, .ref o1_se_pitch, .ref o1_se_worth, .ref o1_se_state, .ref o1_se_done, .int v_o1_se_size])), (o1_se_state, .inl (cI, 12, .inl f_o1_se_state)), (h_seam, .inl (cI, 5, .inl (upd c_h_seam_61 c_h_size_62.toNatClampNeg x3_57))), (o1_se_hours, .inl (cI, 12, .inl f_o1_se_hours)), (o1_se_done, .inl (cI, 12, .inl f_o1_se_done)), (h_hours, .inl (cI, 5, .inl (upd c_h_hours_59 c_h_size_62.toNatClampNeg r68))), (sr, .inr (5, [.ref sr_tide, .ref sr_rain, .ref sr_rules])), (sr_rain, .inl (cZ, 96, .inl f_sr_rain)), (sr_tide, .inl (cI, 96, .inl f_sr_tide)), (o1_se_strake, .inl (cI, 12, .inl f_o1_se_strake)), (o1_se_side, .inl (cI, 12, .inl f_o1_se_side)), (h_mayBegin, .inl (cI, 5, .inl (upd c_h_mayBegin_60 c_h_size_62.toNatClampNeg r70))), (h_hands, .inl (cJ, 5, .inr (.inl sx85.2))), (o1_se_hands, .inl (cI, 12, .inl f_o1_se_hands))] → va_S A s.heap H locs → lv_has ls 5 [(4, .int sx85.1), (3, .int x3_57), (0, .ref h), (1, .ref o1), (2, .int a2)] → W p l e rm_X2_gather s m args below meth c H locs 0 0 Q (F0 m 94 ls [])) (fun sx85 X85 hX85 hin85 hout85 => ?_) _ _ hlp85) _ _ _ hP hD hS (lv_sub hl [0, 1, 2, 3, 4] rfl)
        obtain ⟨x4_87, c_h_hands_88⟩ := sx85
        intro H locs ls hP hD hS hl
        replace hP : va_P D vwCl [(h, .inr (2, [.ref h_seam, .ref h_hours, .ref h_mayBegin, .ref h_tried, .ref h_begins, .ref h_hands, .long v_h_menShort, .int c_h_size_62, .int v_h_planned, .int v_h_worth, .int v_h_pitch])), (o1, .inr (4, [.ref sr, .ref o1_th, .ref o1_ta, .ref o1_se, .int v_o1_hour, .int v_o1_heel, .int v_o1_water, .int v_o1_pitch, .int v_o1_boatUsed, .int v_o1_heelWent, .int v_o1_pitchTaken, .int v_o1_hoursOfMen, .int v_o1_parted, .int v_o1_moved])), (o1_se, .inr (3, [.ref o1_se_strake, .ref o1_se_side, .ref o1_se_hands, .ref o1_se_hours, .ref o1_se_pitch, .ref o1_se_worth, .ref o1_se_state, .ref o1_se_done, .int v_o1_se_size])), (o1_se_state, .inl (cI, 12, .inl f_o1_se_state)), (h_seam, .inl (cI, 5, .inl (upd c_h_seam_61 c_h_size_62.toNatClampNeg x3_57))), (o1_se_hours, .inl (cI, 12, .inl f_o1_se_hours)), (o1_se_done, .inl (cI, 12, .inl f_o1_se_done)), (h_hours, .inl (cI, 5, .inl (upd c_h_hours_59 c_h_size_62.toNatClampNeg r68))), (sr, .inr (5, [.ref sr_tide, .ref sr_rain, .ref sr_rules])), (sr_rain, .inl (cZ, 96, .inl f_sr_rain)), (sr_tide, .inl (cI, 96, .inl f_sr_tide)), (o1_se_strake, .inl (cI, 12, .inl f_o1_se_strake)), (o1_se_side, .inl (cI, 12, .inl f_o1_se_side)), (h_mayBegin, .inl (cI, 5, .inl (upd c_h_mayBegin_60 c_h_size_62.toNatClampNeg r70))), (h_hands, .inl (cJ, 5, .inr (.inl c_h_hands_88))), (o1_se_hands, .inl (cI, 12, .inl f_o1_se_hands))] H := hP
        replace hD : va_D A [(h, .inr (2, [.ref h_seam, .ref h_hours, .ref h_mayBegin, .ref h_tried, .ref h_begins, .ref h_hands, .long v_h_menShort, .int c_h_size_62, .int v_h_planned, .int v_h_worth, .int v_h_pitch])), (o1, .inr (4, [.ref sr, .ref o1_th, .ref o1_ta, .ref o1_se, .int v_o1_hour, .int v_o1_heel, .int v_o1_water, .int v_o1_pitch, .int v_o1_boatUsed, .int v_o1_heelWent, .int v_o1_pitchTaken, .int v_o1_hoursOfMen, .int v_o1_parted, .int v_o1_moved])), (o1_se, .inr (3, [.ref o1_se_strake, .ref o1_se_side, .ref o1_se_hands, .ref o1_se_hours, .ref o1_se_pitch, .ref o1_se_worth, .ref o1_se_state, .ref o1_se_done, .int v_o1_se_size])), (o1_se_state, .inl (cI, 12, .inl f_o1_se_state)), (h_seam, .inl (cI, 5, .inl (upd c_h_seam_61 c_h_size_62.toNatClampNeg x3_57))), (o1_se_hours, .inl (cI, 12, .inl f_o1_se_hours)), (o1_se_done, .inl (cI, 12, .inl f_o1_se_done)), (h_hours, .inl (cI, 5, .inl (upd c_h_hours_59 c_h_size_62.toNatClampNeg r68))), (sr, .inr (5, [.ref sr_tide, .ref sr_rain, .ref sr_rules])), (sr_rain, .inl (cZ, 96, .inl f_sr_rain)), (sr_tide, .inl (cI, 96, .inl f_sr_tide)), (o1_se_strake, .inl (cI, 12, .inl f_o1_se_strake)), (o1_se_side, .inl (cI, 12, .inl f_o1_se_side)), (h_mayBegin, .inl (cI, 5, .inl (upd c_h_mayBegin_60 c_h_size_62.toNatClampNeg r70))), (h_hands, .inl (cJ, 5, .inr (.inl c_h_hands_88))), (o1_se_hands, .inl (cI, 12, .inl f_o1_se_hands))] := hD
        replace hl : lv_has ls 5 [(4, .int x4_87), (3, .int x3_57), (0, .ref h), (1, .ref o1), (2, .int a2)] := hl
        replace hX85 : lb_X2_gather_94 c_h_size_62 c_h_hours_59 r68 x3_57 f_o1_se_hands x4_87 c_h_hands_88 = some X85 := hX85
        unfold lb_X2_gather_94 at hX85
        refine lv_iload hx hb dX2_gather_94 (lv_at hl 0 rfl) ?_
        refine lv_aload_n hx hb dX2_gather_96 rfl (lv_at hl 2 rfl) ?_
        refine k_get (C := RX2) (T := TX2) (N := 11) hx hb hts inX2 hown hK hP 0 rfl rfl 1 (by decide) rfl wl6 rfl dX2_gather_97 ?_
        refine lv_aload_n hx hb dX2_gather_100 rfl (lv_at hl 2 rfl) ?_
        refine k_get (C := RX2) (T := TX2) (N := 11) hx hb hts inX2 hown hK hP 0 rfl rfl 7 (by decide) rfl wl1 rfl dX2_gather_101 ?_
        obtain ⟨hi89, hX85⟩ := k_ix_some hX85
        refine k_iald (k := c_h_size_62.toNatClampNeg) hx hb hK hP 7 0 rfl rfl hi89 rfl dX2_gather_104 ?_
        refine lv_icmp_ge (tgt := 142) hx hb dX2_gather_105 (by decide) (fun c90 => ?_) (fun c90 => ?_)
        · replace hX85 := k_pos hX85 c90
          exact hE85 _ (hout85 _ (Option.some.inj hX85).symm).symm _ _ _ hP hD hS (lv_sub hl [1, 2, 3, 4] rfl)
        · replace hX85 := k_neg hX85 c90
          refine lv_aload_n hx hb dX2_gather_108 rfl (lv_at hl 2 rfl) ?_
          refine k_get (C := RX2) (T := TX2) (N := 11) hx hb hts inX2 hown hK hP 0 rfl rfl 5 (by decide) rfl wl8 rfl dX2_gather_109 ?_
          refine lv_aload_n hx hb dX2_gather_112 rfl (lv_at hl 2 rfl) ?_
          refine k_get (C := RX2) (T := TX2) (N := 11) hx hb hts inX2 hown hK hP 0 rfl rfl 7 (by decide) rfl wl1 rfl dX2_gather_113 ?_
          refine lv_dup2_11 hx hb dX2_gather_116 rfl rfl ?_
          obtain ⟨hi91, hX85⟩ := k_ix_some hX85
          refine k_lald (k := c_h_size_62.toNatClampNeg) hx hb hK hP 14 2 rfl rfl hi91 rfl dX2_gather_117 ?_
          refine lv_aload_n hx hb dX2_gather_118 rfl (lv_at hl 3 rfl) ?_
          refine k_get (C := RX4) (T := TX4) (N := 14) hx hb hts inX4 hown hK hP 1 rfl rfl 3 (by decide) rfl wl2 rfl dX2_gather_119 ?_
          refine k_get (C := RX3) (T := TX3) (N := 9) hx hb hts inX3 hown hK hP 2 rfl rfl 2 (by decide) rfl wl9 rfl dX2_gather_122 ?_
          refine lv_iload_n hx hb dX2_gather_125 rfl (lv_at hl 1 rfl) ?_
          obtain ⟨hi92, hX85⟩ := k_ix_some hX85
          refine k_iald (k := x3_57.toNatClampNeg) hx hb hK hP 15 0 rfl rfl hi92 rfl dX2_gather_126 ?_
          refine lv_i2l (v := (f_o1_se_hands x3_57.toNatClampNeg).toInt64) hx hb dX2_gather_127 rfl ?_
          refine lv_bipush (v := 8) hx hb dX2_gather_128 (by decide) ?_
          refine lv_iload hx hb dX2_gather_130 (lv_at hl 0 rfl) ?_
          refine lv_imul hx hb dX2_gather_132 ?_
          refine lv_lshl (v := ((f_o1_se_hands x3_57.toNatClampNeg).toInt64) <<< ((8 * x4_87).toInt64 &&& 63)) hx hb dX2_gather_133 rfl ?_
          refine lv_lor hx hb dX2_gather_134 ?_
          obtain ⟨hi93, hX85⟩ := k_ix_some hX85
          refine k_last (ws2 := [(h, .inr (2, [.ref h_seam, .ref h_hours, .ref h_mayBegin, .ref h_tried, .ref h_begins, .ref h_hands, .long v_h_menShort, .int c_h_size_62, .int v_h_planned, .int v_h_worth, .int v_h_pitch])), (o1, .inr (4, [.ref sr, .ref o1_th, .ref o1_ta, .ref o1_se, .int v_o1_hour, .int v_o1_heel, .int v_o1_water, .int v_o1_pitch, .int v_o1_boatUsed, .int v_o1_heelWent, .int v_o1_pitchTaken, .int v_o1_hoursOfMen, .int v_o1_parted, .int v_o1_moved])), (o1_se, .inr (3, [.ref o1_se_strake, .ref o1_se_side, .ref o1_se_hands, .ref o1_se_hours, .ref o1_se_pitch, .ref o1_se_worth, .ref o1_se_state, .ref o1_se_done, .int v_o1_se_size])), (o1_se_state, .inl (cI, 12, .inl f_o1_se_state)), (h_seam, .inl (cI, 5, .inl (upd c_h_seam_61 c_h_size_62.toNatClampNeg x3_57))), (o1_se_hours, .inl (cI, 12, .inl f_o1_se_hours)), (o1_se_done, .inl (cI, 12, .inl f_o1_se_done)), (h_hours, .inl (cI, 5, .inl (upd c_h_hours_59 c_h_size_62.toNatClampNeg r68))), (sr, .inr (5, [.ref sr_tide, .ref sr_rain, .ref sr_rules])), (sr_rain, .inl (cZ, 96, .inl f_sr_rain)), (sr_tide, .inl (cI, 96, .inl f_sr_tide)), (o1_se_strake, .inl (cI, 12, .inl f_o1_se_strake)), (o1_se_side, .inl (cI, 12, .inl f_o1_se_side)), (h_mayBegin, .inl (cI, 5, .inl (upd c_h_mayBegin_60 c_h_size_62.toNatClampNeg r70))), (h_hands, .inl (cJ, 5, .inr (.inl (vp_updL c_h_hands_88 c_h_size_62.toNatClampNeg ((c_h_hands_88 c_h_size_62.toNatClampNeg) ||| (((f_o1_se_hands x3_57.toNatClampNeg).toInt64) <<< ((8 * x4_87).toInt64 &&& 63))))))), (o1_se_hands, .inl (cI, 12, .inl f_o1_se_hands))]) (k := c_h_size_62.toNatClampNeg) hx hb hK hP hD hS 14 2 rfl rfl hi93 rfl rfl dX2_gather_135 (fun H locs hP hD hS => ?_)
          refine lv_iinc (v := x4_87 + 1) (lv' := [(4, .int (x4_87 + 1)), (3, .int x3_57), (0, .ref h), (1, .ref o1), (2, .int a2)]) hx hb dX2_gather_136 hl (k := 0) rfl rfl (by decide) rfl (fun ls hl => ?_)
          refine lv_goto (tgt := 94) hx hb dX2_gather_139 (by decide) ?_
          exact hin85 (x4_87 + 1, vp_updL c_h_hands_88 c_h_size_62.toNatClampNeg ((c_h_hands_88 c_h_size_62.toNatClampNeg) ||| (((f_o1_se_hands x3_57.toNatClampNeg).toInt64) <<< ((8 * x4_87).toInt64 &&& 63)))) (Option.some.inj hX85).symm _ _ _ hP hD hS (lv_sub hl [0, 1, 2, 3, 4] rfl)

def p_X2_areMenEnough (v_h_menShort : Int64) (a1 : Int64) : Option (Int32) :=
  if (lg_cmp ((a1 + v_h_menShort) &&& (-9187201950435737472)) 0) = 0 then
    some 1
  else
    some 0
abbrev rm_X2_areMenEnough : Room := { frames := 0, cells := 0, slots := 0, locals := 0 }
theorem hdS_X2_areMenEnough : yX2_areMenEnough.cls ≠ "java/lang/invoke/MethodHandle" ∧ yX2_areMenEnough.cls ≠ "java/lang/invoke/VarHandle" ∧ (parseMethodDescriptor yX2_areMenEnough.desc).map (fun d => d.parameters.length) = some 1 := by decide +kernel
theorem hdV_X2_areMenEnough : yX2_areMenEnough.cls = RX2 ∧ yX2_areMenEnough.cls ≠ "java/lang/invoke/MethodHandle" ∧ yX2_areMenEnough.cls ≠ "java/lang/invoke/VarHandle" ∧ (parseMethodDescriptor yX2_areMenEnough.desc).map (fun d => d.parameters.length) = some 1 := by decide +kernel
set_option maxHeartbeats 4000000 in
set_option maxRecDepth 100000 in
theorem c_X2_areMenEnough (l : Launch) (D : va_G) (cI cZ cJ cS : ClassId) (h h_seam h_hours h_mayBegin h_tried h_begins h_hands : Nat) (v_h_menShort : Int64) (v_h_size : Int32) (v_h_planned : Int32) (v_h_worth : Int32) (v_h_pitch : Int32) (a1 : Int64) (r : Int32) (hf : p_X2_areMenEnough v_h_menShort a1 = some r) : k_MI l yX2_areMenEnough wsX2_areMenEnough rm_X2_areMenEnough D (k_tys cI cZ cJ cS) [.ref h, .long a1] [(h, .inr (2, [.ref h_seam, .ref h_hours, .ref h_mayBegin, .ref h_tried, .ref h_begins, .ref h_hands, .long v_h_menShort, .int v_h_size, .int v_h_planned, .int v_h_worth, .int v_h_pitch]))] [(h, .inr (2, [.ref h_seam, .ref h_hours, .ref h_mayBegin, .ref h_tried, .ref h_begins, .ref h_hands, .long v_h_menShort, .int v_h_size, .int v_h_planned, .int v_h_worth, .int v_h_pitch]))] r := by
  refine k_enter (y := yX2_areMenEnough) (wl := wsX2_areMenEnough) (rm := rm_X2_areMenEnough) (av := [.ref h, .long a1]) (D := D) (tys := k_tys cI cZ cJ cS) (ws := [(h, .inr (2, [.ref h_seam, .ref h_hours, .ref h_mayBegin, .ref h_tried, .ref h_begins, .ref h_hands, .long v_h_menShort, .int v_h_size, .int v_h_planned, .int v_h_worth, .int v_h_pitch]))]) (cc := cX2_areMenEnough) (maxL := 3) (ret := (some .boolean)) (Qc := fun A => k_Qi D (k_tys cI cZ cJ cS) [(h, .inr (2, [.ref h_seam, .ref h_hours, .ref h_mayBegin, .ref h_tried, .ref h_begins, .ref h_hands, .long v_h_menShort, .int v_h_size, .int v_h_planned, .int v_h_worth, .int v_h_pitch]))] A r) (by decide) rfl (Nat.le_of_ble_eq_true rfl) [(0, .ref h), (1, .long a1)] rfl ?_
  intro p e s m below meth c A hx hb hml hr hlocks hnm hown hK hP hD hA hS hN ls args Q hts hl hQ
  replace hown : s.vm.findClass RX2 = some m.cls := hown
  have inX2 : ∀ w ∈ u_ws RX2 TX2 11, w ∈ wsX2_areMenEnough := fun w h => List.mem_cons_of_mem _ (List.mem_append_right _ h)
  have wl1 : (Cond.fieldLink RX2 48 "BeachedShip$Planner" "menShort" "J").before args s = true := hts _ (List.mem_of_getElem? (i := 1) rfl)
  have wl2 : (Cond.constantLong RX2 123 (-9187201950435737472)).before args s = true := hts _ (List.mem_of_getElem? (i := 2) rfl)
  have hRet : ∀ (r_z : Int32), some r_z = some r → ∀ (H : Heap) (locs : List Loc) (ls : Array Slot) (pc : Nat), va_P D vwCl [(h, .inr (2, [.ref h_seam, .ref h_hours, .ref h_mayBegin, .ref h_tried, .ref h_begins, .ref h_hands, .long v_h_menShort, .int v_h_size, .int v_h_planned, .int v_h_worth, .int v_h_pitch]))] H → va_D A [(h, .inr (2, [.ref h_seam, .ref h_hours, .ref h_mayBegin, .ref h_tried, .ref h_begins, .ref h_hands, .long v_h_menShort, .int v_h_size, .int v_h_planned, .int v_h_worth, .int v_h_pitch]))] → va_S A s.heap H locs → narrow .boolean (.int r_z) = .int r_z → decode cX2_areMenEnough pc = .ok (.ireturn, 1) → W p l e rm_X2_areMenEnough s m args below meth c H locs 0 0 Q (F0 m pc ls [.int r_z]) := by
    intro r_z hz H locs ls pc hP hD hS hn hd
    cases hz
    exact k_iret hx hb hr hlocks hn hK hP hD hS hQ rfl hd
  unfold p_X2_areMenEnough at hf
  refine lv_lload_n hx hb dX2_areMenEnough_0 rfl (lv_at hl 1 rfl) ?_
  refine lv_aload_n hx hb dX2_areMenEnough_1 rfl (lv_at hl 0 rfl) ?_
  refine k_get (C := RX2) (T := TX2) (N := 11) hx hb hts inX2 hown hK hP 0 rfl rfl 6 (by decide) rfl wl1 rfl dX2_areMenEnough_2 ?_
  refine lv_ladd hx hb dX2_areMenEnough_5 ?_
  refine lv_ldc2 hx hb hown wl2 dX2_areMenEnough_6 ?_
  refine lv_land hx hb dX2_areMenEnough_9 ?_
  refine lv_lconst (v := 0) hx hb dX2_areMenEnough_10 (by decide) ?_
  refine W.lcmp hx hb dX2_areMenEnough_11 ?_
  refine lv_if_ne (tgt := 19) hx hb dX2_areMenEnough_12 (by decide) (fun c1 => ?_) (fun c1 => ?_)
  · replace hf := k_neg hf c1
    refine lv_iconst (v := 0) hx hb dX2_areMenEnough_19 (by decide) ?_
    exact hRet _ hf _ _ _ _ hP hD hS rfl dX2_areMenEnough_20
  · replace hf := k_pos hf c1
    refine lv_iconst (v := 1) hx hb dX2_areMenEnough_15 (by decide) ?_
    refine lv_goto (tgt := 20) hx hb dX2_areMenEnough_16 (by decide) ?_
    exact hRet _ hf _ _ _ _ hP hD hS rfl dX2_areMenEnough_20

def lb_X2_isPlaced_36 (a2 : Int32) (f_o0_mayBegin : Nat → Int32) (v_o0_menShort : Int64) (a3 : Int64) (f_o0_hands : Nat → Int64) (self : Int64 → Int32 → Int32 → Int32 → Int32 → (Nat → Int32) → (Nat → Int32) → (Nat → Int64) → Int32 → Int32 → Int64 → Option (Int32 × (Nat → Int32))) (v_o0_size : Int32) (v_o0_planned : Int32) (v_o0_worth : Int32) (v_o0_pitch : Int32) (a1 : Int32) (x5_30 : Int32) (c_o0_tried_31 : Nat → Int32) : Option ((Int32 × (Nat → Int32)) ⊕ ((Int32 × (Nat → Int32)) ⊕ ((Nat → Int32)))) :=
  if 6 ≤ x5_30 then
    some (.inr (.inr c_o0_tried_31))
  else
    k_ix a2 5 (
      k_ix a2 5 (
        k_b1 (p_X8_hasBit (f_o0_mayBegin a2.toNatClampNeg) x5_30) fun r35 =>
        if r35 = 0 then
          some (.inl (x5_30 + 1, c_o0_tried_31))
        else
          k_b1 (p_X2_areMenEnough v_o0_menShort (a3 + ((f_o0_hands a2.toNatClampNeg) <<< ((8 * x5_30).toInt64 &&& 63)))) fun r37 =>
          if r37 = 0 then
            some (.inl (x5_30 + 1, c_o0_tried_31))
          else
            k_ix a2 5 (
              k_b2 (self v_o0_menShort v_o0_size v_o0_planned v_o0_worth v_o0_pitch (upd c_o0_tried_31 a2.toNatClampNeg x5_30) f_o0_mayBegin f_o0_hands a1 (a2 + 1) (a3 + ((f_o0_hands a2.toNatClampNeg) <<< ((8 * x5_30).toInt64 &&& 63)))) fun r40 w_o0_tried_41 =>
              if r40 = 0 then
                some (.inl (x5_30 + 1, w_o0_tried_41))
              else
                some (.inr (.inl (1, w_o0_tried_41))))))
def pb_X2_isPlaced (self : Int64 → Int32 → Int32 → Int32 → Int32 → (Nat → Int32) → (Nat → Int32) → (Nat → Int64) → Int32 → Int32 → Int64 → Option (Int32 × (Nat → Int32))) (v_o0_menShort : Int64) (v_o0_size : Int32) (v_o0_planned : Int32) (v_o0_worth : Int32) (v_o0_pitch : Int32) (f_o0_tried : Nat → Int32) (f_o0_mayBegin : Nat → Int32) (f_o0_hands : Nat → Int64) (a1 : Int32) (a2 : Int32) (a3 : Int64) : Option (Int32 × (Nat → Int32)) :=
  if v_o0_size ≤ a2 then
    some (1, f_o0_tried)
  else
    if a2 < 5 then
      k_b1 (p_X8_hasBit a1 a2) fun r3 =>
      if r3 = 0 then
        k_b2 (self v_o0_menShort v_o0_size v_o0_planned v_o0_worth v_o0_pitch f_o0_tried f_o0_mayBegin f_o0_hands a1 (a2 + 1) a3) fun r43 w_o0_tried_44 =>
        k_ck (r43 = 0 ∨ r43 = 1) (some (r43, w_o0_tried_44))
      else
        k_bx1 (k_lp (fun s => lb_X2_isPlaced_36 a2 f_o0_mayBegin v_o0_menShort a3 f_o0_hands self v_o0_size v_o0_planned v_o0_worth v_o0_pitch a1 s.1 s.2) k_fuel (0, f_o0_tried)) (fun q => some q) fun c_o0_tried_29 =>
        some (0, c_o0_tried_29)
    else
      some (1, f_o0_tried)
noncomputable def p_X2_isPlaced (d : Nat) : Int64 → Int32 → Int32 → Int32 → Int32 → (Nat → Int32) → (Nat → Int32) → (Nat → Int64) → Int32 → Int32 → Int64 → Option (Int32 × (Nat → Int32)) := Nat.rec (motive := fun _ => Int64 → Int32 → Int32 → Int32 → Int32 → (Nat → Int32) → (Nat → Int32) → (Nat → Int64) → Int32 → Int32 → Int64 → Option (Int32 × (Nat → Int32))) (fun _ _ _ _ _ _ _ _ _ _ _ => none) (fun _ self => pb_X2_isPlaced self) d
abbrev rm_X2_isPlaced (d : Nat) : Room := { frames := d + 1, cells := 0, slots := 0, locals := 64 * d + 64 }
theorem hdS_X2_isPlaced : yX2_isPlaced.cls ≠ "java/lang/invoke/MethodHandle" ∧ yX2_isPlaced.cls ≠ "java/lang/invoke/VarHandle" ∧ (parseMethodDescriptor yX2_isPlaced.desc).map (fun d => d.parameters.length) = some 4 := by decide +kernel
theorem hdV_X2_isPlaced : yX2_isPlaced.cls = RX2 ∧ yX2_isPlaced.cls ≠ "java/lang/invoke/MethodHandle" ∧ yX2_isPlaced.cls ≠ "java/lang/invoke/VarHandle" ∧ (parseMethodDescriptor yX2_isPlaced.desc).map (fun d => d.parameters.length) = some 4 := by decide +kernel
set_option maxHeartbeats 4000000 in
set_option maxRecDepth 100000 in
theorem c_X2_isPlaced (l : Launch) (D : va_G) (cI cZ cJ cS : ClassId) : ∀ (d : Nat) (o0 o0_seam o0_hours o0_mayBegin o0_tried o0_begins o0_hands : Nat) (v_o0_menShort : Int64) (v_o0_size : Int32) (v_o0_planned : Int32) (v_o0_worth : Int32) (v_o0_pitch : Int32) (f_o0_tried : Nat → Int32) (f_o0_mayBegin : Nat → Int32) (f_o0_hands : Nat → Int64) (a1 : Int32) (a2 : Int32) (a3 : Int64) (r : Int32) (f_o0_tried' : Nat → Int32) (hf : p_X2_isPlaced d v_o0_menShort v_o0_size v_o0_planned v_o0_worth v_o0_pitch f_o0_tried f_o0_mayBegin f_o0_hands a1 a2 a3 = some (r, f_o0_tried')), k_MI l yX2_isPlaced wsX2_isPlaced (rm_X2_isPlaced d) D (k_tys cI cZ cJ cS) [.ref o0, .int a1, .int a2, .long a3] [(o0, .inr (2, [.ref o0_seam, .ref o0_hours, .ref o0_mayBegin, .ref o0_tried, .ref o0_begins, .ref o0_hands, .long v_o0_menShort, .int v_o0_size, .int v_o0_planned, .int v_o0_worth, .int v_o0_pitch])), (o0_tried, .inl (cI, 5, .inl f_o0_tried)), (o0_mayBegin, .inl (cI, 5, .inl f_o0_mayBegin)), (o0_hands, .inl (cJ, 5, .inr (.inl f_o0_hands)))] [(o0, .inr (2, [.ref o0_seam, .ref o0_hours, .ref o0_mayBegin, .ref o0_tried, .ref o0_begins, .ref o0_hands, .long v_o0_menShort, .int v_o0_size, .int v_o0_planned, .int v_o0_worth, .int v_o0_pitch])), (o0_tried, .inl (cI, 5, .inl f_o0_tried')), (o0_mayBegin, .inl (cI, 5, .inl f_o0_mayBegin)), (o0_hands, .inl (cJ, 5, .inr (.inl f_o0_hands)))] r := by
  intro d
  induction d with
  | zero => intro o0 o0_seam o0_hours o0_mayBegin o0_tried o0_begins o0_hands v_o0_menShort v_o0_size v_o0_planned v_o0_worth v_o0_pitch f_o0_tried f_o0_mayBegin f_o0_hands a1 a2 a3 r f_o0_tried' hf; cases hf
  | succ d ih =>
  intro o0 o0_seam o0_hours o0_mayBegin o0_tried o0_begins o0_hands v_o0_menShort v_o0_size v_o0_planned v_o0_worth v_o0_pitch f_o0_tried f_o0_mayBegin f_o0_hands a1 a2 a3 r f_o0_tried' hf
  replace hf : pb_X2_isPlaced (p_X2_isPlaced d) v_o0_menShort v_o0_size v_o0_planned v_o0_worth v_o0_pitch f_o0_tried f_o0_mayBegin f_o0_hands a1 a2 a3 = some (r, f_o0_tried') := hf
  generalize p_X2_isPlaced d = self at hf ih
  refine k_enter (y := yX2_isPlaced) (wl := wsX2_isPlaced) (rm := rm_X2_isPlaced (d + 1)) (av := [.ref o0, .int a1, .int a2, .long a3]) (D := D) (tys := k_tys cI cZ cJ cS) (ws := [(o0, .inr (2, [.ref o0_seam, .ref o0_hours, .ref o0_mayBegin, .ref o0_tried, .ref o0_begins, .ref o0_hands, .long v_o0_menShort, .int v_o0_size, .int v_o0_planned, .int v_o0_worth, .int v_o0_pitch])), (o0_tried, .inl (cI, 5, .inl f_o0_tried)), (o0_mayBegin, .inl (cI, 5, .inl f_o0_mayBegin)), (o0_hands, .inl (cJ, 5, .inr (.inl f_o0_hands)))]) (cc := cX2_isPlaced) (maxL := 8) (ret := (some .boolean)) (Qc := fun A => k_Qi D (k_tys cI cZ cJ cS) [(o0, .inr (2, [.ref o0_seam, .ref o0_hours, .ref o0_mayBegin, .ref o0_tried, .ref o0_begins, .ref o0_hands, .long v_o0_menShort, .int v_o0_size, .int v_o0_planned, .int v_o0_worth, .int v_o0_pitch])), (o0_tried, .inl (cI, 5, .inl f_o0_tried')), (o0_mayBegin, .inl (cI, 5, .inl f_o0_mayBegin)), (o0_hands, .inl (cJ, 5, .inr (.inl f_o0_hands)))] A r) (by decide) rfl (Nat.le_of_ble_eq_true rfl) [(0, .ref o0), (1, .int a1), (2, .int a2), (3, .long a3)] rfl ?_
  intro p e s m below meth c A hx hb hml hr hlocks hnm hown hK hP hD hA hS hN ls args Q hts hl hQ
  replace hown : s.vm.findClass RX2 = some m.cls := hown
  have S0 : CallFix p m c cX2_isPlaced 8 s args wsX2_isPlaced RX2 := ⟨hx, hb, hml, hown, hts⟩
  have inX2 : ∀ w ∈ u_ws RX2 TX2 11, w ∈ wsX2_isPlaced := fun w h => List.mem_cons_of_mem _ (List.mem_append_right _ h)
  have wl1 : (Cond.fieldLink RX2 62 "BeachedShip$Planner" "size" "I").before args s = true := hts _ (List.mem_of_getElem? (i := 1) rfl)
  have wl6 : (Cond.initialized RX8).before args s = true := hts _ (List.mem_of_getElem? (i := 6) rfl)
  have wl5 : (Cond.static yX8_hasBit).before args s = true := hts _ (List.mem_of_getElem? (i := 5) rfl)
  have wl2 : (Cond.fieldLink RX2 27 "BeachedShip$Planner" "hands" "[J").before args s = true := hts _ (List.mem_of_getElem? (i := 2) rfl)
  have wl3 : (Cond.fieldLink RX2 18 "BeachedShip$Planner" "mayBegin" "[I").before args s = true := hts _ (List.mem_of_getElem? (i := 3) rfl)
  have wl4 : (Cond.fieldLink RX2 21 "BeachedShip$Planner" "tried" "[I").before args s = true := hts _ (List.mem_of_getElem? (i := 4) rfl)
  have hRet : ∀ (r_z : Int32) (f_o0_tried_z : Nat → Int32), some (r_z, f_o0_tried_z) = some (r, f_o0_tried') → ∀ (H : Heap) (locs : List Loc) (ls : Array Slot) (pc : Nat), va_P D vwCl [(o0, .inr (2, [.ref o0_seam, .ref o0_hours, .ref o0_mayBegin, .ref o0_tried, .ref o0_begins, .ref o0_hands, .long v_o0_menShort, .int v_o0_size, .int v_o0_planned, .int v_o0_worth, .int v_o0_pitch])), (o0_tried, .inl (cI, 5, .inl f_o0_tried_z)), (o0_mayBegin, .inl (cI, 5, .inl f_o0_mayBegin)), (o0_hands, .inl (cJ, 5, .inr (.inl f_o0_hands)))] H → va_D A [(o0, .inr (2, [.ref o0_seam, .ref o0_hours, .ref o0_mayBegin, .ref o0_tried, .ref o0_begins, .ref o0_hands, .long v_o0_menShort, .int v_o0_size, .int v_o0_planned, .int v_o0_worth, .int v_o0_pitch])), (o0_tried, .inl (cI, 5, .inl f_o0_tried_z)), (o0_mayBegin, .inl (cI, 5, .inl f_o0_mayBegin)), (o0_hands, .inl (cJ, 5, .inr (.inl f_o0_hands)))] → va_S A s.heap H locs → narrow .boolean (.int r_z) = .int r_z → decode cX2_isPlaced pc = .ok (.ireturn, 1) → W p l e (rm_X2_isPlaced (d + 1)) s m args below meth c H locs 0 0 Q (F0 m pc ls [.int r_z]) := by
    intro r_z f_o0_tried_z hz H locs ls pc hP hD hS hn hd
    cases hz
    exact k_iret hx hb hr hlocks hn hK hP hD hS hQ rfl hd
  unfold pb_X2_isPlaced at hf
  refine lv_iload_n hx hb dX2_isPlaced_0 rfl (lv_at hl 2 rfl) ?_
  refine lv_aload_n hx hb dX2_isPlaced_1 rfl (lv_at hl 0 rfl) ?_
  refine k_get (C := RX2) (T := TX2) (N := 11) hx hb hts inX2 hown hK hP 0 rfl rfl 7 (by decide) rfl wl1 rfl dX2_isPlaced_2 ?_
  refine lv_icmp_ge (tgt := 13) hx hb dX2_isPlaced_5 (by decide) (fun c1 => ?_) (fun c1 => ?_)
  · replace hf := k_pos hf c1
    refine lv_iconst (v := 1) hx hb dX2_isPlaced_13 (by decide) ?_
    exact hRet _ _ hf _ _ _ _ hP hD hS rfl dX2_isPlaced_14
  · replace hf := k_neg hf c1
    refine lv_iload_n hx hb dX2_isPlaced_8 rfl (lv_at hl 2 rfl) ?_
    refine lv_iconst (v := 5) hx hb dX2_isPlaced_9 (by decide) ?_
    refine lv_icmp_lt (tgt := 15) hx hb dX2_isPlaced_10 (by decide) (fun c2 => ?_) (fun c2 => ?_)
    · replace hf := k_pos hf c2
      refine lv_iload_n hx hb dX2_isPlaced_15 rfl (lv_at hl 1 rfl) ?_
      refine lv_iload_n hx hb dX2_isPlaced_16 rfl (lv_at hl 2 rfl) ?_
      obtain ⟨r3, hc3, hf⟩ := k_b1_some hf
      refine k_NiR (As := [.int a1, .int a2]) (rest := []) S0 (c_X8_hasBit l D cI cZ cJ cS a1 a2 r3 hc3) ⟨va_cnB 2 hts gX2_isPlaced_X8_hasBit_n100 rfl rfl rfl (hN _ (List.mem_of_getElem? (i := 9) rfl)) wl6 hdS_X8_hasBit ⟨by show _ ≤ _; simp only [rm_X2_isPlaced, rm_X8_hasBit]; omega, by show _ ≤ _; simp only [rm_X2_isPlaced, rm_X8_hasBit]; omega⟩, wl5, trivial⟩ hK hP hD hS hA hN [] rfl (by decide) rfl hl.1 rfl (Nat.le_of_ble_eq_true rfl) dX2_isPlaced_17 (fun H locs hP hS => ?_)
      refine lv_if_ne (tgt := 33) hx hb dX2_isPlaced_20 (by decide) (fun c4 => ?_) (fun c4 => ?_)
      · replace hf := k_neg hf c4
        refine lv_iconst (v := 0) hx hb dX2_isPlaced_33 (by decide) ?_
        refine lv_istore (lv' := [(5, .int 0), (0, .ref o0), (1, .int a1), (2, .int a2), (3, .long a3)]) hx hb dX2_isPlaced_34 hl (by decide) rfl (fun ls hl => ?_)
        obtain ⟨ee28, hlp28, hfl28, hfr28⟩ := k_bx1_some hf
        have hE28 : ∀ (c_o0_tried_29 : Nat → Int32), ee28 = .inr c_o0_tried_29 → ∀ (H : Heap) (locs : List Loc) (ls : Array Slot), va_P D vwCl [(o0, .inr (2, [.ref o0_seam, .ref o0_hours, .ref o0_mayBegin, .ref o0_tried, .ref o0_begins, .ref o0_hands, .long v_o0_menShort, .int v_o0_size, .int v_o0_planned, .int v_o0_worth, .int v_o0_pitch])), (o0_tried, .inl (cI, 5, .inl c_o0_tried_29)), (o0_mayBegin, .inl (cI, 5, .inl f_o0_mayBegin)), (o0_hands, .inl (cJ, 5, .inr (.inl f_o0_hands)))] H → va_D A [(o0, .inr (2, [.ref o0_seam, .ref o0_hours, .ref o0_mayBegin, .ref o0_tried, .ref o0_begins, .ref o0_hands, .long v_o0_menShort, .int v_o0_size, .int v_o0_planned, .int v_o0_worth, .int v_o0_pitch])), (o0_tried, .inl (cI, 5, .inl c_o0_tried_29)), (o0_mayBegin, .inl (cI, 5, .inl f_o0_mayBegin)), (o0_hands, .inl (cJ, 5, .inr (.inl f_o0_hands)))] → va_S A s.heap H locs → lv_has ls 8 [] → W p l e (rm_X2_isPlaced (d + 1)) s m args below meth c H locs 0 0 Q (F0 m 111 ls []) := by
          intro c_o0_tried_29 he H locs ls hP hD hS hl
          replace hf := hfr28 c_o0_tried_29 he
          refine lv_iconst (v := 0) hx hb dX2_isPlaced_111 (by decide) ?_
          exact hRet _ _ hf _ _ _ _ hP hD hS rfl dX2_isPlaced_112
        refine (k_lp_ind (fun sx28 => ∀ (H : Heap) (locs : List Loc) (ls : Array Slot), va_P D vwCl [(o0, .inr (2, [.ref o0_seam, .ref o0_hours, .ref o0_mayBegin, .ref o0_tried, .ref o0_begins, .ref o0_hands, .long v_o0_menShort, .int v_o0_size, .int v_o0_planned, .int v_o0_worth, .int v_o0_pitch])), (o0_tried, .inl (cI, 5, .inl sx28.2)), (o0_mayBegin, .inl (cI, 5, .inl f_o0_mayBegin)), (o0_hands, .inl (cJ, 5, .inr (.inl f_o0_hands)))] H → va_D A [(o0, .inr (2, [.ref o0_seam, .ref o0_hours, .ref o0_mayBegin, .ref o0_tried, .ref o0_begins, .ref o0_hands, .long v_o0_menShort, .int v_o0_size, .int v_o0_planned, .int v_o0_worth, .int v_o0_pitch])), (o0_tried, .inl (cI, 5, .inl sx28.2)), (o0_mayBegin, .inl (cI, 5, .inl f_o0_mayBegin)), (o0_hands, .inl (cJ, 5, .inr (.inl f_o0_hands)))] → va_S A s.heap H locs → lv_has ls 8 [(5, .int sx28.1), (0, .ref o0), (1, .int a1), (2, .int a2), (3, .long a3)] → W p l e (rm_X2_isPlaced (d + 1)) s m args below meth c H locs 0 0 Q (F0 m 36 ls [])) (fun sx28 X28 hX28 hin28 hout28 => ?_) _ _ hlp28) _ _ _ hP hD hS (lv_sub hl [0, 1, 2, 3, 4] rfl)
        obtain ⟨x5_30, c_o0_tried_31⟩ := sx28
        intro H locs ls hP hD hS hl
        replace hP : va_P D vwCl [(o0, .inr (2, [.ref o0_seam, .ref o0_hours, .ref o0_mayBegin, .ref o0_tried, .ref o0_begins, .ref o0_hands, .long v_o0_menShort, .int v_o0_size, .int v_o0_planned, .int v_o0_worth, .int v_o0_pitch])), (o0_tried, .inl (cI, 5, .inl c_o0_tried_31)), (o0_mayBegin, .inl (cI, 5, .inl f_o0_mayBegin)), (o0_hands, .inl (cJ, 5, .inr (.inl f_o0_hands)))] H := hP
        replace hD : va_D A [(o0, .inr (2, [.ref o0_seam, .ref o0_hours, .ref o0_mayBegin, .ref o0_tried, .ref o0_begins, .ref o0_hands, .long v_o0_menShort, .int v_o0_size, .int v_o0_planned, .int v_o0_worth, .int v_o0_pitch])), (o0_tried, .inl (cI, 5, .inl c_o0_tried_31)), (o0_mayBegin, .inl (cI, 5, .inl f_o0_mayBegin)), (o0_hands, .inl (cJ, 5, .inr (.inl f_o0_hands)))] := hD
        replace hl : lv_has ls 8 [(5, .int x5_30), (0, .ref o0), (1, .int a1), (2, .int a2), (3, .long a3)] := hl
        replace hX28 : lb_X2_isPlaced_36 a2 f_o0_mayBegin v_o0_menShort a3 f_o0_hands self v_o0_size v_o0_planned v_o0_worth v_o0_pitch a1 x5_30 c_o0_tried_31 = some X28 := hX28
        unfold lb_X2_isPlaced_36 at hX28
        refine lv_iload hx hb dX2_isPlaced_36 (lv_at hl 0 rfl) ?_
        refine lv_bipush (v := 6) hx hb dX2_isPlaced_38 (by decide) ?_
        refine lv_icmp_ge (tgt := 111) hx hb dX2_isPlaced_40 (by decide) (fun c32 => ?_) (fun c32 => ?_)
        · replace hX28 := k_pos hX28 c32
          exact hE28 _ (hout28 _ (Option.some.inj hX28).symm).symm _ _ _ hP hD hS (lv_sub hl [] rfl)
        · replace hX28 := k_neg hX28 c32
          refine lv_lload_n hx hb dX2_isPlaced_43 rfl (lv_at hl 4 rfl) ?_
          refine lv_aload_n hx hb dX2_isPlaced_44 rfl (lv_at hl 1 rfl) ?_
          refine k_get (C := RX2) (T := TX2) (N := 11) hx hb hts inX2 hown hK hP 0 rfl rfl 5 (by decide) rfl wl2 rfl dX2_isPlaced_45 ?_
          refine lv_iload_n hx hb dX2_isPlaced_48 rfl (lv_at hl 3 rfl) ?_
          obtain ⟨hi33, hX28⟩ := k_ix_some hX28
          refine k_lald (k := a2.toNatClampNeg) hx hb hK hP 3 2 rfl rfl hi33 rfl dX2_isPlaced_49 ?_
          refine lv_bipush (v := 8) hx hb dX2_isPlaced_50 (by decide) ?_
          refine lv_iload hx hb dX2_isPlaced_52 (lv_at hl 0 rfl) ?_
          refine lv_imul hx hb dX2_isPlaced_54 ?_
          refine lv_lshl (v := (f_o0_hands a2.toNatClampNeg) <<< ((8 * x5_30).toInt64 &&& 63)) hx hb dX2_isPlaced_55 rfl ?_
          refine lv_ladd hx hb dX2_isPlaced_56 ?_
          refine lv_lstore (lv' := [(6, .long (a3 + ((f_o0_hands a2.toNatClampNeg) <<< ((8 * x5_30).toInt64 &&& 63)))), (5, .int x5_30), (0, .ref o0), (1, .int a1), (2, .int a2), (3, .long a3)]) hx hb dX2_isPlaced_57 hl (by decide) rfl (fun ls hl => ?_)
          refine lv_aload_n hx hb dX2_isPlaced_59 rfl (lv_at hl 2 rfl) ?_
          refine k_get (C := RX2) (T := TX2) (N := 11) hx hb hts inX2 hown hK hP 0 rfl rfl 2 (by decide) rfl wl3 rfl dX2_isPlaced_60 ?_
          refine lv_iload_n hx hb dX2_isPlaced_63 rfl (lv_at hl 4 rfl) ?_
          obtain ⟨hi34, hX28⟩ := k_ix_some hX28
          refine k_iald (k := a2.toNatClampNeg) hx hb hK hP 2 0 rfl rfl hi34 rfl dX2_isPlaced_64 ?_
          refine lv_iload hx hb dX2_isPlaced_65 (lv_at hl 1 rfl) ?_
          obtain ⟨r35, hc35, hX28⟩ := k_b1_some hX28
          refine k_NiR (As := [.int (f_o0_mayBegin a2.toNatClampNeg), .int x5_30]) (rest := []) S0 (c_X8_hasBit l D cI cZ cJ cS (f_o0_mayBegin a2.toNatClampNeg) x5_30 r35 hc35) ⟨va_cnB 2 hts gX2_isPlaced_X8_hasBit_n100 rfl rfl rfl (hN _ (List.mem_of_getElem? (i := 9) rfl)) wl6 hdS_X8_hasBit ⟨by show _ ≤ _; simp only [rm_X2_isPlaced, rm_X8_hasBit]; omega, by show _ ≤ _; simp only [rm_X2_isPlaced, rm_X8_hasBit]; omega⟩, wl5, trivial⟩ hK hP hD hS hA hN [] rfl (by decide) rfl hl.1 rfl (Nat.le_of_ble_eq_true rfl) dX2_isPlaced_67 (fun H locs hP hS => ?_)
          refine lv_if_eq (tgt := 105) hx hb dX2_isPlaced_70 (by decide) (fun c36 => ?_) (fun c36 => ?_)
          · replace hX28 := k_pos hX28 c36
            refine lv_iinc (v := x5_30 + 1) (lv' := [(5, .int (x5_30 + 1)), (6, .long (a3 + ((f_o0_hands a2.toNatClampNeg) <<< ((8 * x5_30).toInt64 &&& 63)))), (0, .ref o0), (1, .int a1), (2, .int a2), (3, .long a3)]) hx hb dX2_isPlaced_105 hl (k := 1) rfl rfl (by decide) rfl (fun ls hl => ?_)
            refine lv_goto (tgt := 36) hx hb dX2_isPlaced_108 (by decide) ?_
            exact hin28 (x5_30 + 1, c_o0_tried_31) (Option.some.inj hX28).symm _ _ _ hP hD hS (lv_sub hl [0, 2, 3, 4, 5] rfl)
          · replace hX28 := k_neg hX28 c36
            refine lv_aload_n hx hb dX2_isPlaced_73 rfl (lv_at hl 2 rfl) ?_
            refine lv_lload hx hb dX2_isPlaced_74 (lv_at hl 0 rfl) ?_
            obtain ⟨r37, hc37, hX28⟩ := k_b1_some hX28
            refine k_ViR (q0 := 0) (As := [.long (a3 + ((f_o0_hands a2.toNatClampNeg) <<< ((8 * x5_30).toInt64 &&& 63)))]) (rest := []) S0 (c_X2_areMenEnough l D cI cZ cJ cS o0 o0_seam o0_hours o0_mayBegin o0_tried o0_begins o0_hands v_o0_menShort v_o0_size v_o0_planned v_o0_worth v_o0_pitch (a3 + ((f_o0_hands a2.toNatClampNeg) <<< ((8 * x5_30).toInt64 &&& 63))) r37 hc37) (cwV 1 hts gX2_isPlaced_X2_areMenEnough rfl rfl rfl hdV_X2_areMenEnough ⟨by show _ ≤ _; simp only [rm_X2_isPlaced, rm_X2_areMenEnough]; omega, by show _ ≤ _; simp only [rm_X2_isPlaced, rm_X2_areMenEnough]; omega⟩) hK hP hD hS hA hN [0] rfl (by decide) rfl rfl rfl rfl hl.1 rfl (Nat.le_of_ble_eq_true rfl) dX2_isPlaced_76 (fun H locs hP hS => ?_)
            refine lv_if_eq (tgt := 105) hx hb dX2_isPlaced_79 (by decide) (fun c38 => ?_) (fun c38 => ?_)
            · replace hX28 := k_pos hX28 c38
              refine lv_iinc (v := x5_30 + 1) (lv' := [(5, .int (x5_30 + 1)), (6, .long (a3 + ((f_o0_hands a2.toNatClampNeg) <<< ((8 * x5_30).toInt64 &&& 63)))), (0, .ref o0), (1, .int a1), (2, .int a2), (3, .long a3)]) hx hb dX2_isPlaced_105 hl (k := 1) rfl rfl (by decide) rfl (fun ls hl => ?_)
              refine lv_goto (tgt := 36) hx hb dX2_isPlaced_108 (by decide) ?_
              exact hin28 (x5_30 + 1, c_o0_tried_31) (Option.some.inj hX28).symm _ _ _ hP hD hS (lv_sub hl [0, 2, 3, 4, 5] rfl)
            · replace hX28 := k_neg hX28 c38
              refine lv_aload_n hx hb dX2_isPlaced_82 rfl (lv_at hl 2 rfl) ?_
              refine k_get (C := RX2) (T := TX2) (N := 11) hx hb hts inX2 hown hK hP 0 rfl rfl 3 (by decide) rfl wl4 rfl dX2_isPlaced_83 ?_
              refine lv_iload_n hx hb dX2_isPlaced_86 rfl (lv_at hl 4 rfl) ?_
              refine lv_iload hx hb dX2_isPlaced_87 (lv_at hl 1 rfl) ?_
              obtain ⟨hi39, hX28⟩ := k_ix_some hX28
              refine k_iast (ws2 := [(o0, .inr (2, [.ref o0_seam, .ref o0_hours, .ref o0_mayBegin, .ref o0_tried, .ref o0_begins, .ref o0_hands, .long v_o0_menShort, .int v_o0_size, .int v_o0_planned, .int v_o0_worth, .int v_o0_pitch])), (o0_tried, .inl (cI, 5, .inl (upd c_o0_tried_31 a2.toNatClampNeg x5_30))), (o0_mayBegin, .inl (cI, 5, .inl f_o0_mayBegin)), (o0_hands, .inl (cJ, 5, .inr (.inl f_o0_hands)))]) (k := a2.toNatClampNeg) hx hb hK hP hD hS 1 0 rfl rfl hi39 rfl rfl dX2_isPlaced_89 (fun H locs hP hD hS => ?_)
              refine lv_aload_n hx hb dX2_isPlaced_90 rfl (lv_at hl 2 rfl) ?_
              refine lv_iload_n hx hb dX2_isPlaced_91 rfl (lv_at hl 3 rfl) ?_
              refine lv_iload_n hx hb dX2_isPlaced_92 rfl (lv_at hl 4 rfl) ?_
              refine lv_iconst (v := 1) hx hb dX2_isPlaced_93 (by decide) ?_
              refine lv_iadd hx hb dX2_isPlaced_94 ?_
              refine lv_lload hx hb dX2_isPlaced_95 (lv_at hl 0 rfl) ?_
              obtain ⟨r40, w_o0_tried_41, hc41, hX28⟩ := k_b2_some hX28
              refine k_Si (ws2 := [(o0, .inr (2, [.ref o0_seam, .ref o0_hours, .ref o0_mayBegin, .ref o0_tried, .ref o0_begins, .ref o0_hands, .long v_o0_menShort, .int v_o0_size, .int v_o0_planned, .int v_o0_worth, .int v_o0_pitch])), (o0_tried, .inl (cI, 5, .inl w_o0_tried_41)), (o0_mayBegin, .inl (cI, 5, .inl f_o0_mayBegin)), (o0_hands, .inl (cJ, 5, .inr (.inl f_o0_hands)))]) (As := [.ref o0, .int a1, .int (a2 + 1), .long (a3 + ((f_o0_hands a2.toNatClampNeg) <<< ((8 * x5_30).toInt64 &&& 63)))]) (rest := []) S0 (ih o0 o0_seam o0_hours o0_mayBegin o0_tried o0_begins o0_hands v_o0_menShort v_o0_size v_o0_planned v_o0_worth v_o0_pitch (upd c_o0_tried_31 a2.toNatClampNeg x5_30) f_o0_mayBegin f_o0_hands a1 (a2 + 1) (a3 + ((f_o0_hands a2.toNatClampNeg) <<< ((8 * x5_30).toInt64 &&& 63))) r40 w_o0_tried_41 hc41) (va_cwS 4 hts gX2_isPlaced_X2_isPlaced rfl rfl rfl hdS_X2_isPlaced ⟨by show _ ≤ _; simp only [rm_X2_isPlaced, rm_X2_isPlaced]; omega, by show _ ≤ _; simp only [rm_X2_isPlaced, rm_X2_isPlaced]; omega⟩) hK hP hD hS hA hN [0, 1, 2, 3] rfl (by decide) rfl hl.1 rfl (Nat.le_of_ble_eq_true rfl) rfl rfl rfl dX2_isPlaced_97 (fun H locs hP hD hS => ?_)
              refine lv_if_eq (tgt := 105) hx hb dX2_isPlaced_100 (by decide) (fun c42 => ?_) (fun c42 => ?_)
              · replace hX28 := k_pos hX28 c42
                refine lv_iinc (v := x5_30 + 1) (lv' := [(5, .int (x5_30 + 1)), (6, .long (a3 + ((f_o0_hands a2.toNatClampNeg) <<< ((8 * x5_30).toInt64 &&& 63)))), (0, .ref o0), (1, .int a1), (2, .int a2), (3, .long a3)]) hx hb dX2_isPlaced_105 hl (k := 1) rfl rfl (by decide) rfl (fun ls hl => ?_)
                refine lv_goto (tgt := 36) hx hb dX2_isPlaced_108 (by decide) ?_
                exact hin28 (x5_30 + 1, w_o0_tried_41) (Option.some.inj hX28).symm _ _ _ hP hD hS (lv_sub hl [0, 2, 3, 4, 5] rfl)
              · replace hX28 := k_neg hX28 c42
                refine lv_iconst (v := 1) hx hb dX2_isPlaced_103 (by decide) ?_
                have he := hout28 _ (Option.some.inj hX28).symm
                replace hf := hfl28 _ he.symm
                exact hRet _ _ hf _ _ _ _ hP hD hS rfl dX2_isPlaced_104
      · replace hf := k_pos hf c4
        refine lv_aload_n hx hb dX2_isPlaced_23 rfl (lv_at hl 0 rfl) ?_
        refine lv_iload_n hx hb dX2_isPlaced_24 rfl (lv_at hl 1 rfl) ?_
        refine lv_iload_n hx hb dX2_isPlaced_25 rfl (lv_at hl 2 rfl) ?_
        refine lv_iconst (v := 1) hx hb dX2_isPlaced_26 (by decide) ?_
        refine lv_iadd hx hb dX2_isPlaced_27 ?_
        refine lv_lload_n hx hb dX2_isPlaced_28 rfl (lv_at hl 3 rfl) ?_
        obtain ⟨r43, w_o0_tried_44, hc44, hf⟩ := k_b2_some hf
        refine k_Si (ws2 := [(o0, .inr (2, [.ref o0_seam, .ref o0_hours, .ref o0_mayBegin, .ref o0_tried, .ref o0_begins, .ref o0_hands, .long v_o0_menShort, .int v_o0_size, .int v_o0_planned, .int v_o0_worth, .int v_o0_pitch])), (o0_tried, .inl (cI, 5, .inl w_o0_tried_44)), (o0_mayBegin, .inl (cI, 5, .inl f_o0_mayBegin)), (o0_hands, .inl (cJ, 5, .inr (.inl f_o0_hands)))]) (As := [.ref o0, .int a1, .int (a2 + 1), .long a3]) (rest := []) S0 (ih o0 o0_seam o0_hours o0_mayBegin o0_tried o0_begins o0_hands v_o0_menShort v_o0_size v_o0_planned v_o0_worth v_o0_pitch f_o0_tried f_o0_mayBegin f_o0_hands a1 (a2 + 1) a3 r43 w_o0_tried_44 hc44) (va_cwS 4 hts gX2_isPlaced_X2_isPlaced rfl rfl rfl hdS_X2_isPlaced ⟨by show _ ≤ _; simp only [rm_X2_isPlaced, rm_X2_isPlaced]; omega, by show _ ≤ _; simp only [rm_X2_isPlaced, rm_X2_isPlaced]; omega⟩) hK hP hD hS hA hN [0, 1, 2, 3] rfl (by decide) rfl hl.1 rfl (Nat.le_of_ble_eq_true rfl) rfl rfl rfl dX2_isPlaced_29 (fun H locs hP hD hS => ?_)
        obtain ⟨hk45, hf⟩ := k_ck_some hf
        exact hRet _ _ hf _ _ _ _ hP hD hS (k_bool hk45).1 dX2_isPlaced_32
    · replace hf := k_neg hf c2
      refine lv_iconst (v := 1) hx hb dX2_isPlaced_13 (by decide) ?_
      exact hRet _ _ hf _ _ _ _ hP hD hS rfl dX2_isPlaced_14

noncomputable def lb_X2_tryOut_8 (v_h_size : Int32) (a1 : Int32) (f_o2_se_done : Nat → Int32) (f_o2_se_pitch : Nat → Int32) (f_h_seam : Nat → Int32) (f_o2_se_worth : Nat → Int32) (x3_41 : Int32) (x4_42 : Int32) (x5_43 : Int32) : Option ((Int32 × Int32 × Int32) ⊕ (Int32 × Int32)) :=
  if v_h_size ≤ x5_43 then
    some (.inr (x3_41, x4_42))
  else
    k_b1 (p_X8_hasBit a1 x5_43) fun r45 =>
    if r45 = 0 then
      k_b1 (p_X8_hasBit a1 x5_43) fun r47 =>
      if r47 = 0 then
        some (.inl (x3_41 + 0, x4_42 + 0, x5_43 + 1))
      else
        k_ix x5_43 5 (
          k_b1 (p_X3_pitchLacking f_o2_se_done f_o2_se_pitch (f_h_seam x5_43.toNatClampNeg)) fun r50 =>
          some (.inl (x3_41 + 0, x4_42 + r50, x5_43 + 1)))
    else
      k_ix x5_43 5 (
        k_ix (f_h_seam x5_43.toNatClampNeg) 12 (
          k_b1 (p_X8_hasBit a1 x5_43) fun r53 =>
          if r53 = 0 then
            some (.inl (x3_41 + (f_o2_se_worth (f_h_seam x5_43.toNatClampNeg).toNatClampNeg), x4_42 + 0, x5_43 + 1))
          else
            k_ix x5_43 5 (
              k_b1 (p_X3_pitchLacking f_o2_se_done f_o2_se_pitch (f_h_seam x5_43.toNatClampNeg)) fun r56 =>
              some (.inl (x3_41 + (f_o2_se_worth (f_h_seam x5_43.toNatClampNeg).toNatClampNeg), x4_42 + r56, x5_43 + 1)))))
noncomputable def p_X2_tryOut (v_h_menShort : Int64) (v_h_size : Int32) (v_h_planned : Int32) (v_h_worth : Int32) (v_h_pitch : Int32) (v_o2_pitch : Int32) (f_h_seam : Nat → Int32) (f_o2_se_done : Nat → Int32) (f_o2_se_pitch : Nat → Int32) (f_o2_se_worth : Nat → Int32) (f_h_tried : Nat → Int32) (f_h_mayBegin : Nat → Int32) (f_h_hands : Nat → Int64) (f_h_begins : Nat → Int32) (a1 : Int32) : Option (Int32 × Int32 × Int32 × (Nat → Int32) × (Nat → Int32)) :=
  k_b2 (k_lp (fun s => lb_X2_tryOut_8 v_h_size a1 f_o2_se_done f_o2_se_pitch f_h_seam f_o2_se_worth s.1 s.2.1 s.2.2) k_fuel (0, 0, 0)) fun x3_28 x4_29 =>
  if v_h_worth < x3_28 then
    if v_o2_pitch < x4_29 then
      some (v_h_planned, v_h_worth, v_h_pitch, f_h_tried, f_h_begins)
    else
      k_b2 (p_X2_isPlaced 7 v_h_menShort v_h_size v_h_planned v_h_worth v_h_pitch f_h_tried f_h_mayBegin f_h_hands a1 0 0) fun r32 w_h_tried_33 =>
      if r32 = 0 then
        some (v_h_planned, v_h_worth, v_h_pitch, w_h_tried_33, f_h_begins)
      else
        some (a1, x3_28, x4_29, w_h_tried_33, k_cpy 5 w_h_tried_33 f_h_begins)
  else
    if x3_28 = v_h_worth then
      if v_h_pitch ≤ x4_29 then
        some (v_h_planned, v_h_worth, v_h_pitch, f_h_tried, f_h_begins)
      else
        if v_o2_pitch < x4_29 then
          some (v_h_planned, v_h_worth, v_h_pitch, f_h_tried, f_h_begins)
        else
          k_b2 (p_X2_isPlaced 7 v_h_menShort v_h_size v_h_planned v_h_worth v_h_pitch f_h_tried f_h_mayBegin f_h_hands a1 0 0) fun r38 w_h_tried_39 =>
          if r38 = 0 then
            some (v_h_planned, v_h_worth, v_h_pitch, w_h_tried_39, f_h_begins)
          else
            some (a1, x3_28, x4_29, w_h_tried_39, k_cpy 5 w_h_tried_39 f_h_begins)
    else
      some (v_h_planned, v_h_worth, v_h_pitch, f_h_tried, f_h_begins)
abbrev rm_X2_tryOut : Room := { frames := 9, cells := 0, slots := 0, locals := 539 }
theorem hdS_X2_tryOut : yX2_tryOut.cls ≠ "java/lang/invoke/MethodHandle" ∧ yX2_tryOut.cls ≠ "java/lang/invoke/VarHandle" ∧ (parseMethodDescriptor yX2_tryOut.desc).map (fun d => d.parameters.length) = some 2 := by decide +kernel
theorem hdV_X2_tryOut : yX2_tryOut.cls = RX2 ∧ yX2_tryOut.cls ≠ "java/lang/invoke/MethodHandle" ∧ yX2_tryOut.cls ≠ "java/lang/invoke/VarHandle" ∧ (parseMethodDescriptor yX2_tryOut.desc).map (fun d => d.parameters.length) = some 2 := by decide +kernel
set_option maxHeartbeats 4000000 in
set_option maxRecDepth 100000 in
theorem c_X2_tryOut (l : Launch) (D : va_G) (cI cZ cJ cS : ClassId) (h h_seam h_hours h_mayBegin h_tried h_begins h_hands o2 sr o2_th o2_ta o2_se o2_se_strake o2_se_side o2_se_hands o2_se_hours o2_se_pitch o2_se_worth o2_se_state o2_se_done : Nat) (v_h_menShort : Int64) (v_h_size : Int32) (v_h_planned : Int32) (v_h_worth : Int32) (v_h_pitch : Int32) (v_o2_hour : Int32) (v_o2_heel : Int32) (v_o2_water : Int32) (v_o2_pitch : Int32) (v_o2_boatUsed : Int32) (v_o2_heelWent : Int32) (v_o2_pitchTaken : Int32) (v_o2_hoursOfMen : Int32) (v_o2_parted : Int32) (v_o2_moved : Int32) (f_h_seam : Nat → Int32) (v_o2_se_size : Int32) (f_o2_se_done : Nat → Int32) (f_o2_se_pitch : Nat → Int32) (f_o2_se_worth : Nat → Int32) (f_h_tried : Nat → Int32) (f_h_mayBegin : Nat → Int32) (f_h_hands : Nat → Int64) (f_h_begins : Nat → Int32) (a1 : Int32) (v_h_planned' : Int32) (v_h_worth' : Int32) (v_h_pitch' : Int32) (f_h_tried' : Nat → Int32) (f_h_begins' : Nat → Int32) (hf : p_X2_tryOut v_h_menShort v_h_size v_h_planned v_h_worth v_h_pitch v_o2_pitch f_h_seam f_o2_se_done f_o2_se_pitch f_o2_se_worth f_h_tried f_h_mayBegin f_h_hands f_h_begins a1 = some (v_h_planned', v_h_worth', v_h_pitch', f_h_tried', f_h_begins')) : k_MV l yX2_tryOut wsX2_tryOut rm_X2_tryOut D (k_tys cI cZ cJ cS) [.ref h, .int a1, .ref o2] [(h, .inr (2, [.ref h_seam, .ref h_hours, .ref h_mayBegin, .ref h_tried, .ref h_begins, .ref h_hands, .long v_h_menShort, .int v_h_size, .int v_h_planned, .int v_h_worth, .int v_h_pitch])), (o2, .inr (4, [.ref sr, .ref o2_th, .ref o2_ta, .ref o2_se, .int v_o2_hour, .int v_o2_heel, .int v_o2_water, .int v_o2_pitch, .int v_o2_boatUsed, .int v_o2_heelWent, .int v_o2_pitchTaken, .int v_o2_hoursOfMen, .int v_o2_parted, .int v_o2_moved])), (h_seam, .inl (cI, 5, .inl f_h_seam)), (o2_se, .inr (3, [.ref o2_se_strake, .ref o2_se_side, .ref o2_se_hands, .ref o2_se_hours, .ref o2_se_pitch, .ref o2_se_worth, .ref o2_se_state, .ref o2_se_done, .int v_o2_se_size])), (o2_se_done, .inl (cI, 12, .inl f_o2_se_done)), (o2_se_pitch, .inl (cI, 12, .inl f_o2_se_pitch)), (o2_se_worth, .inl (cI, 12, .inl f_o2_se_worth)), (h_tried, .inl (cI, 5, .inl f_h_tried)), (h_mayBegin, .inl (cI, 5, .inl f_h_mayBegin)), (h_hands, .inl (cJ, 5, .inr (.inl f_h_hands))), (h_begins, .inl (cI, 5, .inl f_h_begins))] [(h, .inr (2, [.ref h_seam, .ref h_hours, .ref h_mayBegin, .ref h_tried, .ref h_begins, .ref h_hands, .long v_h_menShort, .int v_h_size, .int v_h_planned', .int v_h_worth', .int v_h_pitch'])), (o2, .inr (4, [.ref sr, .ref o2_th, .ref o2_ta, .ref o2_se, .int v_o2_hour, .int v_o2_heel, .int v_o2_water, .int v_o2_pitch, .int v_o2_boatUsed, .int v_o2_heelWent, .int v_o2_pitchTaken, .int v_o2_hoursOfMen, .int v_o2_parted, .int v_o2_moved])), (h_seam, .inl (cI, 5, .inl f_h_seam)), (o2_se, .inr (3, [.ref o2_se_strake, .ref o2_se_side, .ref o2_se_hands, .ref o2_se_hours, .ref o2_se_pitch, .ref o2_se_worth, .ref o2_se_state, .ref o2_se_done, .int v_o2_se_size])), (o2_se_done, .inl (cI, 12, .inl f_o2_se_done)), (o2_se_pitch, .inl (cI, 12, .inl f_o2_se_pitch)), (o2_se_worth, .inl (cI, 12, .inl f_o2_se_worth)), (h_tried, .inl (cI, 5, .inl f_h_tried')), (h_mayBegin, .inl (cI, 5, .inl f_h_mayBegin)), (h_hands, .inl (cJ, 5, .inr (.inl f_h_hands))), (h_begins, .inl (cI, 5, .inl f_h_begins'))] := by
  refine k_enter (y := yX2_tryOut) (wl := wsX2_tryOut) (rm := rm_X2_tryOut) (av := [.ref h, .int a1, .ref o2]) (D := D) (tys := k_tys cI cZ cJ cS) (ws := [(h, .inr (2, [.ref h_seam, .ref h_hours, .ref h_mayBegin, .ref h_tried, .ref h_begins, .ref h_hands, .long v_h_menShort, .int v_h_size, .int v_h_planned, .int v_h_worth, .int v_h_pitch])), (o2, .inr (4, [.ref sr, .ref o2_th, .ref o2_ta, .ref o2_se, .int v_o2_hour, .int v_o2_heel, .int v_o2_water, .int v_o2_pitch, .int v_o2_boatUsed, .int v_o2_heelWent, .int v_o2_pitchTaken, .int v_o2_hoursOfMen, .int v_o2_parted, .int v_o2_moved])), (h_seam, .inl (cI, 5, .inl f_h_seam)), (o2_se, .inr (3, [.ref o2_se_strake, .ref o2_se_side, .ref o2_se_hands, .ref o2_se_hours, .ref o2_se_pitch, .ref o2_se_worth, .ref o2_se_state, .ref o2_se_done, .int v_o2_se_size])), (o2_se_done, .inl (cI, 12, .inl f_o2_se_done)), (o2_se_pitch, .inl (cI, 12, .inl f_o2_se_pitch)), (o2_se_worth, .inl (cI, 12, .inl f_o2_se_worth)), (h_tried, .inl (cI, 5, .inl f_h_tried)), (h_mayBegin, .inl (cI, 5, .inl f_h_mayBegin)), (h_hands, .inl (cJ, 5, .inr (.inl f_h_hands))), (h_begins, .inl (cI, 5, .inl f_h_begins))]) (cc := cX2_tryOut) (maxL := 6) (ret := none) (Qc := fun A => k_Qv D (k_tys cI cZ cJ cS) [(h, .inr (2, [.ref h_seam, .ref h_hours, .ref h_mayBegin, .ref h_tried, .ref h_begins, .ref h_hands, .long v_h_menShort, .int v_h_size, .int v_h_planned', .int v_h_worth', .int v_h_pitch'])), (o2, .inr (4, [.ref sr, .ref o2_th, .ref o2_ta, .ref o2_se, .int v_o2_hour, .int v_o2_heel, .int v_o2_water, .int v_o2_pitch, .int v_o2_boatUsed, .int v_o2_heelWent, .int v_o2_pitchTaken, .int v_o2_hoursOfMen, .int v_o2_parted, .int v_o2_moved])), (h_seam, .inl (cI, 5, .inl f_h_seam)), (o2_se, .inr (3, [.ref o2_se_strake, .ref o2_se_side, .ref o2_se_hands, .ref o2_se_hours, .ref o2_se_pitch, .ref o2_se_worth, .ref o2_se_state, .ref o2_se_done, .int v_o2_se_size])), (o2_se_done, .inl (cI, 12, .inl f_o2_se_done)), (o2_se_pitch, .inl (cI, 12, .inl f_o2_se_pitch)), (o2_se_worth, .inl (cI, 12, .inl f_o2_se_worth)), (h_tried, .inl (cI, 5, .inl f_h_tried')), (h_mayBegin, .inl (cI, 5, .inl f_h_mayBegin)), (h_hands, .inl (cJ, 5, .inr (.inl f_h_hands))), (h_begins, .inl (cI, 5, .inl f_h_begins'))] A) (by decide) rfl (Nat.le_of_ble_eq_true rfl) [(0, .ref h), (1, .int a1), (2, .ref o2)] rfl ?_
  intro p e s m below meth c A hx hb hml hr hlocks hnm hown hK hP hD hA hS hN ls args Q hts hl hQ
  replace hown : s.vm.findClass RX2 = some m.cls := hown
  have S0 : CallFix p m c cX2_tryOut 6 s args wsX2_tryOut RX2 := ⟨hx, hb, hml, hown, hts⟩
  have inX2 : ∀ w ∈ u_ws RX2 TX2 11, w ∈ wsX2_tryOut := fun w h => List.mem_cons_of_mem _ (List.mem_append_left _ (List.mem_append_left _ (List.mem_append_right _ h)))
  have inX4 : ∀ w ∈ u_ws RX4 TX4 14, w ∈ wsX2_tryOut := fun w h => List.mem_cons_of_mem _ (List.mem_append_left _ (List.mem_append_right _ h))
  have inX3 : ∀ w ∈ u_ws RX3 TX3 9, w ∈ wsX2_tryOut := fun w h => List.mem_cons_of_mem _ (List.mem_append_right _ h)
  have wl1 : (Cond.fieldLink RX2 62 "BeachedShip$Planner" "size" "I").before args s = true := hts _ (List.mem_of_getElem? (i := 1) rfl)
  have wl16 : (Cond.initialized RX8).before args s = true := hts _ (List.mem_of_getElem? (i := 16) rfl)
  have wl15 : (Cond.static yX8_hasBit).before args s = true := hts _ (List.mem_of_getElem? (i := 15) rfl)
  have wl2 : (Cond.fieldLink RX2 69 "BeachedShip$Ship" "seams" "LBeachedShip$Seams;").before args s = true := hts _ (List.mem_of_getElem? (i := 2) rfl)
  have wl4 : (Cond.fieldLink RX2 9 "BeachedShip$Planner" "seam" "[I").before args s = true := hts _ (List.mem_of_getElem? (i := 4) rfl)
  have wl3 : (Cond.fieldLink RX2 103 "BeachedShip$Seams" "worth" "[I").before args s = true := hts _ (List.mem_of_getElem? (i := 3) rfl)
  have wl5 : (Cond.fieldLink RX2 56 "BeachedShip$Planner" "worth" "I").before args s = true := hts _ (List.mem_of_getElem? (i := 5) rfl)
  have wl7 : (Cond.fieldLink RX2 108 "BeachedShip$Ship" "pitch" "I").before args s = true := hts _ (List.mem_of_getElem? (i := 7) rfl)
  have wl8 : (Cond.fieldLink RX2 52 "BeachedShip$Planner" "planned" "I").before args s = true := hts _ (List.mem_of_getElem? (i := 8) rfl)
  have wl6 : (Cond.fieldLink RX2 59 "BeachedShip$Planner" "pitch" "I").before args s = true := hts _ (List.mem_of_getElem? (i := 6) rfl)
  have wl9 : (Cond.fieldLink RX2 21 "BeachedShip$Planner" "tried" "[I").before args s = true := hts _ (List.mem_of_getElem? (i := 9) rfl)
  have wl10 : (Cond.fieldLink RX2 24 "BeachedShip$Planner" "begins" "[I").before args s = true := hts _ (List.mem_of_getElem? (i := 10) rfl)
  have wl11 : (Cond.methodLink RX2 113 arraycopyName).before args s = true := hts _ (List.mem_of_getElem? (i := 11) rfl)
  have wl12 : (Cond.native arraycopyName).before args s = true := hts _ (List.mem_of_getElem? (i := 12) rfl)
  have wl13 : (Cond.static arraycopyName).before args s = true := hts _ (List.mem_of_getElem? (i := 13) rfl)
  have wl14 : (Cond.initialized "java/lang/System").before args s = true := hts _ (List.mem_of_getElem? (i := 14) rfl)
  have hRet : ∀ (v_h_planned_z : Int32) (v_h_worth_z : Int32) (v_h_pitch_z : Int32) (f_h_tried_z : Nat → Int32) (f_h_begins_z : Nat → Int32), some (v_h_planned_z, v_h_worth_z, v_h_pitch_z, f_h_tried_z, f_h_begins_z) = some (v_h_planned', v_h_worth', v_h_pitch', f_h_tried', f_h_begins') → ∀ (H : Heap) (locs : List Loc) (ls : Array Slot) (pc : Nat), va_P D vwCl [(h, .inr (2, [.ref h_seam, .ref h_hours, .ref h_mayBegin, .ref h_tried, .ref h_begins, .ref h_hands, .long v_h_menShort, .int v_h_size, .int v_h_planned_z, .int v_h_worth_z, .int v_h_pitch_z])), (o2, .inr (4, [.ref sr, .ref o2_th, .ref o2_ta, .ref o2_se, .int v_o2_hour, .int v_o2_heel, .int v_o2_water, .int v_o2_pitch, .int v_o2_boatUsed, .int v_o2_heelWent, .int v_o2_pitchTaken, .int v_o2_hoursOfMen, .int v_o2_parted, .int v_o2_moved])), (h_seam, .inl (cI, 5, .inl f_h_seam)), (o2_se, .inr (3, [.ref o2_se_strake, .ref o2_se_side, .ref o2_se_hands, .ref o2_se_hours, .ref o2_se_pitch, .ref o2_se_worth, .ref o2_se_state, .ref o2_se_done, .int v_o2_se_size])), (o2_se_done, .inl (cI, 12, .inl f_o2_se_done)), (o2_se_pitch, .inl (cI, 12, .inl f_o2_se_pitch)), (o2_se_worth, .inl (cI, 12, .inl f_o2_se_worth)), (h_tried, .inl (cI, 5, .inl f_h_tried_z)), (h_mayBegin, .inl (cI, 5, .inl f_h_mayBegin)), (h_hands, .inl (cJ, 5, .inr (.inl f_h_hands))), (h_begins, .inl (cI, 5, .inl f_h_begins_z))] H → va_D A [(h, .inr (2, [.ref h_seam, .ref h_hours, .ref h_mayBegin, .ref h_tried, .ref h_begins, .ref h_hands, .long v_h_menShort, .int v_h_size, .int v_h_planned_z, .int v_h_worth_z, .int v_h_pitch_z])), (o2, .inr (4, [.ref sr, .ref o2_th, .ref o2_ta, .ref o2_se, .int v_o2_hour, .int v_o2_heel, .int v_o2_water, .int v_o2_pitch, .int v_o2_boatUsed, .int v_o2_heelWent, .int v_o2_pitchTaken, .int v_o2_hoursOfMen, .int v_o2_parted, .int v_o2_moved])), (h_seam, .inl (cI, 5, .inl f_h_seam)), (o2_se, .inr (3, [.ref o2_se_strake, .ref o2_se_side, .ref o2_se_hands, .ref o2_se_hours, .ref o2_se_pitch, .ref o2_se_worth, .ref o2_se_state, .ref o2_se_done, .int v_o2_se_size])), (o2_se_done, .inl (cI, 12, .inl f_o2_se_done)), (o2_se_pitch, .inl (cI, 12, .inl f_o2_se_pitch)), (o2_se_worth, .inl (cI, 12, .inl f_o2_se_worth)), (h_tried, .inl (cI, 5, .inl f_h_tried_z)), (h_mayBegin, .inl (cI, 5, .inl f_h_mayBegin)), (h_hands, .inl (cJ, 5, .inr (.inl f_h_hands))), (h_begins, .inl (cI, 5, .inl f_h_begins_z))] → va_S A s.heap H locs → decode cX2_tryOut pc = .ok (.return_, 1) → W p l e rm_X2_tryOut s m args below meth c H locs 0 0 Q (F0 m pc ls []) := by
    intro v_h_planned_z v_h_worth_z v_h_pitch_z f_h_tried_z f_h_begins_z hz H locs ls pc hP hD hS hd
    cases hz
    exact k_vret hx hb hr hlocks hK hP hD hS hQ hd
  unfold p_X2_tryOut at hf
  refine lv_iconst (v := 0) hx hb dX2_tryOut_0 (by decide) ?_
  refine lv_istore_n (lv' := [(3, .int 0), (0, .ref h), (1, .int a1), (2, .ref o2)]) hx hb dX2_tryOut_1 rfl hl (by decide) rfl (fun ls hl => ?_)
  refine lv_iconst (v := 0) hx hb dX2_tryOut_2 (by decide) ?_
  refine lv_istore (lv' := [(4, .int 0), (3, .int 0), (0, .ref h), (1, .int a1), (2, .ref o2)]) hx hb dX2_tryOut_3 hl (by decide) rfl (fun ls hl => ?_)
  refine lv_iconst (v := 0) hx hb dX2_tryOut_5 (by decide) ?_
  refine lv_istore (lv' := [(5, .int 0), (4, .int 0), (3, .int 0), (0, .ref h), (1, .int a1), (2, .ref o2)]) hx hb dX2_tryOut_6 hl (by decide) rfl (fun ls hl => ?_)
  obtain ⟨ee27, hlp27, hfr27⟩ := k_b2_ee hf
  have hE27 : ∀ (x3_28 : Int32) (x4_29 : Int32), ee27 = (x3_28, x4_29) → ∀ (H : Heap) (locs : List Loc) (ls : Array Slot), va_P D vwCl [(h, .inr (2, [.ref h_seam, .ref h_hours, .ref h_mayBegin, .ref h_tried, .ref h_begins, .ref h_hands, .long v_h_menShort, .int v_h_size, .int v_h_planned, .int v_h_worth, .int v_h_pitch])), (o2, .inr (4, [.ref sr, .ref o2_th, .ref o2_ta, .ref o2_se, .int v_o2_hour, .int v_o2_heel, .int v_o2_water, .int v_o2_pitch, .int v_o2_boatUsed, .int v_o2_heelWent, .int v_o2_pitchTaken, .int v_o2_hoursOfMen, .int v_o2_parted, .int v_o2_moved])), (h_seam, .inl (cI, 5, .inl f_h_seam)), (o2_se, .inr (3, [.ref o2_se_strake, .ref o2_se_side, .ref o2_se_hands, .ref o2_se_hours, .ref o2_se_pitch, .ref o2_se_worth, .ref o2_se_state, .ref o2_se_done, .int v_o2_se_size])), (o2_se_done, .inl (cI, 12, .inl f_o2_se_done)), (o2_se_pitch, .inl (cI, 12, .inl f_o2_se_pitch)), (o2_se_worth, .inl (cI, 12, .inl f_o2_se_worth)), (h_tried, .inl (cI, 5, .inl f_h_tried)), (h_mayBegin, .inl (cI, 5, .inl f_h_mayBegin)), (h_hands, .inl (cJ, 5, .inr (.inl f_h_hands))), (h_begins, .inl (cI, 5, .inl f_h_begins))] H → va_D A [(h, .inr (2, [.ref h_seam, .ref h_hours, .ref h_mayBegin, .ref h_tried, .ref h_begins, .ref h_hands, .long v_h_menShort, .int v_h_size, .int v_h_planned, .int v_h_worth, .int v_h_pitch])), (o2, .inr (4, [.ref sr, .ref o2_th, .ref o2_ta, .ref o2_se, .int v_o2_hour, .int v_o2_heel, .int v_o2_water, .int v_o2_pitch, .int v_o2_boatUsed, .int v_o2_heelWent, .int v_o2_pitchTaken, .int v_o2_hoursOfMen, .int v_o2_parted, .int v_o2_moved])), (h_seam, .inl (cI, 5, .inl f_h_seam)), (o2_se, .inr (3, [.ref o2_se_strake, .ref o2_se_side, .ref o2_se_hands, .ref o2_se_hours, .ref o2_se_pitch, .ref o2_se_worth, .ref o2_se_state, .ref o2_se_done, .int v_o2_se_size])), (o2_se_done, .inl (cI, 12, .inl f_o2_se_done)), (o2_se_pitch, .inl (cI, 12, .inl f_o2_se_pitch)), (o2_se_worth, .inl (cI, 12, .inl f_o2_se_worth)), (h_tried, .inl (cI, 5, .inl f_h_tried)), (h_mayBegin, .inl (cI, 5, .inl f_h_mayBegin)), (h_hands, .inl (cJ, 5, .inr (.inl f_h_hands))), (h_begins, .inl (cI, 5, .inl f_h_begins))] → va_S A s.heap H locs → lv_has ls 6 [(4, .int x4_29), (3, .int x3_28), (0, .ref h), (1, .int a1), (2, .ref o2)] → W p l e rm_X2_tryOut s m args below meth c H locs 0 0 Q (F0 m 86 ls []) := by
    intro x3_28 x4_29 he H locs ls hP hD hS hl
    replace hf := hfr27 x3_28 x4_29 he
    refine lv_iload_n hx hb dX2_tryOut_86 rfl (lv_at hl 1 rfl) ?_
    refine lv_aload_n hx hb dX2_tryOut_87 rfl (lv_at hl 2 rfl) ?_
    refine k_get (C := RX2) (T := TX2) (N := 11) hx hb hts inX2 hown hK hP 0 rfl rfl 9 (by decide) rfl wl5 rfl dX2_tryOut_88 ?_
    refine lv_icmp_gt (tgt := 111) hx hb dX2_tryOut_91 (by decide) (fun c30 => ?_) (fun c30 => ?_)
    · replace hf := k_pos hf c30
      refine lv_iconst (v := 1) hx hb dX2_tryOut_111 (by decide) ?_
      refine lv_goto (tgt := 116) hx hb dX2_tryOut_112 (by decide) ?_
      refine lv_istore (lv' := [(5, .int 1), (4, .int x4_29), (3, .int x3_28), (0, .ref h), (1, .int a1), (2, .ref o2)]) hx hb dX2_tryOut_116 hl (by decide) rfl (fun ls hl => ?_)
      refine lv_iload hx hb dX2_tryOut_118 (lv_at hl 0 rfl) ?_
      refine lv_if_eq (tgt := 172) hx hb dX2_tryOut_120 (by decide) (fun c => absurd c (by decide)) (fun _ => ?_)
      refine lv_iload hx hb dX2_tryOut_123 (lv_at hl 1 rfl) ?_
      refine lv_aload_n hx hb dX2_tryOut_125 rfl (lv_at hl 5 rfl) ?_
      refine k_get (C := RX4) (T := TX4) (N := 14) hx hb hts inX4 hown hK hP 1 rfl rfl 7 (by decide) rfl wl7 rfl dX2_tryOut_126 ?_
      refine lv_icmp_gt (tgt := 172) hx hb dX2_tryOut_129 (by decide) (fun c31 => ?_) (fun c31 => ?_)
      · replace hf := k_pos hf c31
        exact hRet _ _ _ _ _ hf _ _ _ _ hP hD hS dX2_tryOut_172
      · replace hf := k_neg hf c31
        refine lv_aload_n hx hb dX2_tryOut_132 rfl (lv_at hl 3 rfl) ?_
        refine lv_iload_n hx hb dX2_tryOut_133 rfl (lv_at hl 4 rfl) ?_
        refine lv_iconst (v := 0) hx hb dX2_tryOut_134 (by decide) ?_
        refine lv_lconst (v := 0) hx hb dX2_tryOut_135 (by decide) ?_
        obtain ⟨r32, w_h_tried_33, hc33, hf⟩ := k_b2_some hf
        refine k_Si (ws2 := [(h, .inr (2, [.ref h_seam, .ref h_hours, .ref h_mayBegin, .ref h_tried, .ref h_begins, .ref h_hands, .long v_h_menShort, .int v_h_size, .int v_h_planned, .int v_h_worth, .int v_h_pitch])), (o2, .inr (4, [.ref sr, .ref o2_th, .ref o2_ta, .ref o2_se, .int v_o2_hour, .int v_o2_heel, .int v_o2_water, .int v_o2_pitch, .int v_o2_boatUsed, .int v_o2_heelWent, .int v_o2_pitchTaken, .int v_o2_hoursOfMen, .int v_o2_parted, .int v_o2_moved])), (h_seam, .inl (cI, 5, .inl f_h_seam)), (o2_se, .inr (3, [.ref o2_se_strake, .ref o2_se_side, .ref o2_se_hands, .ref o2_se_hours, .ref o2_se_pitch, .ref o2_se_worth, .ref o2_se_state, .ref o2_se_done, .int v_o2_se_size])), (o2_se_done, .inl (cI, 12, .inl f_o2_se_done)), (o2_se_pitch, .inl (cI, 12, .inl f_o2_se_pitch)), (o2_se_worth, .inl (cI, 12, .inl f_o2_se_worth)), (h_tried, .inl (cI, 5, .inl w_h_tried_33)), (h_mayBegin, .inl (cI, 5, .inl f_h_mayBegin)), (h_hands, .inl (cJ, 5, .inr (.inl f_h_hands))), (h_begins, .inl (cI, 5, .inl f_h_begins))]) (As := [.ref h, .int a1, .int 0, .long 0]) (rest := []) S0 (c_X2_isPlaced l D cI cZ cJ cS 7 h h_seam h_hours h_mayBegin h_tried h_begins h_hands v_h_menShort v_h_size v_h_planned v_h_worth v_h_pitch f_h_tried f_h_mayBegin f_h_hands a1 0 0 r32 w_h_tried_33 hc33) (va_cwS 4 hts gX2_tryOut_X2_isPlaced rfl rfl rfl hdS_X2_isPlaced ⟨Nat.le_of_ble_eq_true rfl, Nat.le_of_ble_eq_true rfl⟩) hK hP hD hS hA hN [0, 7, 8, 9] rfl (by decide) rfl hl.1 rfl (Nat.le_of_ble_eq_true rfl) rfl rfl rfl dX2_tryOut_136 (fun H locs hP hD hS => ?_)
        refine lv_if_eq (tgt := 172) hx hb dX2_tryOut_139 (by decide) (fun c34 => ?_) (fun c34 => ?_)
        · replace hf := k_pos hf c34
          exact hRet _ _ _ _ _ hf _ _ _ _ hP hD hS dX2_tryOut_172
        · replace hf := k_neg hf c34
          refine lv_aload_n hx hb dX2_tryOut_142 rfl (lv_at hl 3 rfl) ?_
          refine lv_iload_n hx hb dX2_tryOut_143 rfl (lv_at hl 4 rfl) ?_
          refine k_putf (ws2 := [(h, .inr (2, [.ref h_seam, .ref h_hours, .ref h_mayBegin, .ref h_tried, .ref h_begins, .ref h_hands, .long v_h_menShort, .int v_h_size, .int a1, .int v_h_worth, .int v_h_pitch])), (o2, .inr (4, [.ref sr, .ref o2_th, .ref o2_ta, .ref o2_se, .int v_o2_hour, .int v_o2_heel, .int v_o2_water, .int v_o2_pitch, .int v_o2_boatUsed, .int v_o2_heelWent, .int v_o2_pitchTaken, .int v_o2_hoursOfMen, .int v_o2_parted, .int v_o2_moved])), (h_seam, .inl (cI, 5, .inl f_h_seam)), (o2_se, .inr (3, [.ref o2_se_strake, .ref o2_se_side, .ref o2_se_hands, .ref o2_se_hours, .ref o2_se_pitch, .ref o2_se_worth, .ref o2_se_state, .ref o2_se_done, .int v_o2_se_size])), (o2_se_done, .inl (cI, 12, .inl f_o2_se_done)), (o2_se_pitch, .inl (cI, 12, .inl f_o2_se_pitch)), (o2_se_worth, .inl (cI, 12, .inl f_o2_se_worth)), (h_tried, .inl (cI, 5, .inl w_h_tried_33)), (h_mayBegin, .inl (cI, 5, .inl f_h_mayBegin)), (h_hands, .inl (cJ, 5, .inr (.inl f_h_hands))), (h_begins, .inl (cI, 5, .inl f_h_begins))]) (C := RX2) (T := TX2) (N := 11) hx hb hts inX2 tyX2 tyX2_ok nmX2 hown hK hP hD hS 0 rfl rfl 8 (by decide) rfl wl8 rfl rfl rfl (Nat.le_of_ble_eq_true rfl) rfl dX2_tryOut_144 (fun H locs hP hD hS => ?_)
          refine lv_aload_n hx hb dX2_tryOut_147 rfl (lv_at hl 3 rfl) ?_
          refine lv_iload_n hx hb dX2_tryOut_148 rfl (lv_at hl 2 rfl) ?_
          refine k_putf (ws2 := [(h, .inr (2, [.ref h_seam, .ref h_hours, .ref h_mayBegin, .ref h_tried, .ref h_begins, .ref h_hands, .long v_h_menShort, .int v_h_size, .int a1, .int x3_28, .int v_h_pitch])), (o2, .inr (4, [.ref sr, .ref o2_th, .ref o2_ta, .ref o2_se, .int v_o2_hour, .int v_o2_heel, .int v_o2_water, .int v_o2_pitch, .int v_o2_boatUsed, .int v_o2_heelWent, .int v_o2_pitchTaken, .int v_o2_hoursOfMen, .int v_o2_parted, .int v_o2_moved])), (h_seam, .inl (cI, 5, .inl f_h_seam)), (o2_se, .inr (3, [.ref o2_se_strake, .ref o2_se_side, .ref o2_se_hands, .ref o2_se_hours, .ref o2_se_pitch, .ref o2_se_worth, .ref o2_se_state, .ref o2_se_done, .int v_o2_se_size])), (o2_se_done, .inl (cI, 12, .inl f_o2_se_done)), (o2_se_pitch, .inl (cI, 12, .inl f_o2_se_pitch)), (o2_se_worth, .inl (cI, 12, .inl f_o2_se_worth)), (h_tried, .inl (cI, 5, .inl w_h_tried_33)), (h_mayBegin, .inl (cI, 5, .inl f_h_mayBegin)), (h_hands, .inl (cJ, 5, .inr (.inl f_h_hands))), (h_begins, .inl (cI, 5, .inl f_h_begins))]) (C := RX2) (T := TX2) (N := 11) hx hb hts inX2 tyX2 tyX2_ok nmX2 hown hK hP hD hS 0 rfl rfl 9 (by decide) rfl wl5 rfl rfl rfl (Nat.le_of_ble_eq_true rfl) rfl dX2_tryOut_149 (fun H locs hP hD hS => ?_)
          refine lv_aload_n hx hb dX2_tryOut_152 rfl (lv_at hl 3 rfl) ?_
          refine lv_iload hx hb dX2_tryOut_153 (lv_at hl 1 rfl) ?_
          refine k_putf (ws2 := [(h, .inr (2, [.ref h_seam, .ref h_hours, .ref h_mayBegin, .ref h_tried, .ref h_begins, .ref h_hands, .long v_h_menShort, .int v_h_size, .int a1, .int x3_28, .int x4_29])), (o2, .inr (4, [.ref sr, .ref o2_th, .ref o2_ta, .ref o2_se, .int v_o2_hour, .int v_o2_heel, .int v_o2_water, .int v_o2_pitch, .int v_o2_boatUsed, .int v_o2_heelWent, .int v_o2_pitchTaken, .int v_o2_hoursOfMen, .int v_o2_parted, .int v_o2_moved])), (h_seam, .inl (cI, 5, .inl f_h_seam)), (o2_se, .inr (3, [.ref o2_se_strake, .ref o2_se_side, .ref o2_se_hands, .ref o2_se_hours, .ref o2_se_pitch, .ref o2_se_worth, .ref o2_se_state, .ref o2_se_done, .int v_o2_se_size])), (o2_se_done, .inl (cI, 12, .inl f_o2_se_done)), (o2_se_pitch, .inl (cI, 12, .inl f_o2_se_pitch)), (o2_se_worth, .inl (cI, 12, .inl f_o2_se_worth)), (h_tried, .inl (cI, 5, .inl w_h_tried_33)), (h_mayBegin, .inl (cI, 5, .inl f_h_mayBegin)), (h_hands, .inl (cJ, 5, .inr (.inl f_h_hands))), (h_begins, .inl (cI, 5, .inl f_h_begins))]) (C := RX2) (T := TX2) (N := 11) hx hb hts inX2 tyX2 tyX2_ok nmX2 hown hK hP hD hS 0 rfl rfl 10 (by decide) rfl wl6 rfl rfl rfl (Nat.le_of_ble_eq_true rfl) rfl dX2_tryOut_155 (fun H locs hP hD hS => ?_)
          refine lv_aload_n hx hb dX2_tryOut_158 rfl (lv_at hl 3 rfl) ?_
          refine k_get (C := RX2) (T := TX2) (N := 11) hx hb hts inX2 hown hK hP 0 rfl rfl 3 (by decide) rfl wl9 rfl dX2_tryOut_159 ?_
          refine lv_iconst (v := 0) hx hb dX2_tryOut_162 (by decide) ?_
          refine lv_aload_n hx hb dX2_tryOut_163 rfl (lv_at hl 3 rfl) ?_
          refine k_get (C := RX2) (T := TX2) (N := 11) hx hb hts inX2 hown hK hP 0 rfl rfl 4 (by decide) rfl wl10 rfl dX2_tryOut_164 ?_
          refine lv_iconst (v := 0) hx hb dX2_tryOut_167 (by decide) ?_
          refine lv_iconst (v := 5) hx hb dX2_tryOut_168 (by decide) ?_
          refine k_copyi (ws2 := [(h, .inr (2, [.ref h_seam, .ref h_hours, .ref h_mayBegin, .ref h_tried, .ref h_begins, .ref h_hands, .long v_h_menShort, .int v_h_size, .int a1, .int x3_28, .int x4_29])), (o2, .inr (4, [.ref sr, .ref o2_th, .ref o2_ta, .ref o2_se, .int v_o2_hour, .int v_o2_heel, .int v_o2_water, .int v_o2_pitch, .int v_o2_boatUsed, .int v_o2_heelWent, .int v_o2_pitchTaken, .int v_o2_hoursOfMen, .int v_o2_parted, .int v_o2_moved])), (h_seam, .inl (cI, 5, .inl f_h_seam)), (o2_se, .inr (3, [.ref o2_se_strake, .ref o2_se_side, .ref o2_se_hands, .ref o2_se_hours, .ref o2_se_pitch, .ref o2_se_worth, .ref o2_se_state, .ref o2_se_done, .int v_o2_se_size])), (o2_se_done, .inl (cI, 12, .inl f_o2_se_done)), (o2_se_pitch, .inl (cI, 12, .inl f_o2_se_pitch)), (o2_se_worth, .inl (cI, 12, .inl f_o2_se_worth)), (h_tried, .inl (cI, 5, .inl w_h_tried_33)), (h_mayBegin, .inl (cI, 5, .inl f_h_mayBegin)), (h_hands, .inl (cJ, 5, .inr (.inl f_h_hands))), (h_begins, .inl (cI, 5, .inl (k_cpy 5 w_h_tried_33 f_h_begins)))]) (nn := 5) (k := 5) hx hb (hml.trans hl.1.symm) hown wl11 wl12 wl13 wl14 hK hP hD hS 7 10 0 rfl rfl rfl (by decide) (by decide) (Nat.le_of_ble_eq_true rfl) (Nat.le_of_ble_eq_true rfl) (Nat.le_of_ble_eq_true rfl) (Nat.le_of_ble_eq_true rfl) rfl dX2_tryOut_169 (fun H locs hP hD hS => ?_)
          exact hRet _ _ _ _ _ hf _ _ _ _ hP hD hS dX2_tryOut_172
    · replace hf := k_neg hf c30
      refine lv_iload_n hx hb dX2_tryOut_94 rfl (lv_at hl 1 rfl) ?_
      refine lv_aload_n hx hb dX2_tryOut_95 rfl (lv_at hl 2 rfl) ?_
      refine k_get (C := RX2) (T := TX2) (N := 11) hx hb hts inX2 hown hK hP 0 rfl rfl 9 (by decide) rfl wl5 rfl dX2_tryOut_96 ?_
      refine lv_icmp_ne (tgt := 115) hx hb dX2_tryOut_99 (by decide) (fun c35 => ?_) (fun c35 => ?_)
      · replace hf := k_neg hf c35
        refine lv_iconst (v := 0) hx hb dX2_tryOut_115 (by decide) ?_
        refine lv_istore (lv' := [(5, .int 0), (4, .int x4_29), (3, .int x3_28), (0, .ref h), (1, .int a1), (2, .ref o2)]) hx hb dX2_tryOut_116 hl (by decide) rfl (fun ls hl => ?_)
        refine lv_iload hx hb dX2_tryOut_118 (lv_at hl 0 rfl) ?_
        refine lv_if_eq (tgt := 172) hx hb dX2_tryOut_120 (by decide) (fun _ => ?_) (fun c => absurd (by decide) c)
        exact hRet _ _ _ _ _ hf _ _ _ _ hP hD hS dX2_tryOut_172
      · replace hf := k_pos hf c35
        refine lv_iload hx hb dX2_tryOut_102 (lv_at hl 0 rfl) ?_
        refine lv_aload_n hx hb dX2_tryOut_104 rfl (lv_at hl 2 rfl) ?_
        refine k_get (C := RX2) (T := TX2) (N := 11) hx hb hts inX2 hown hK hP 0 rfl rfl 10 (by decide) rfl wl6 rfl dX2_tryOut_105 ?_
        refine lv_icmp_ge (tgt := 115) hx hb dX2_tryOut_108 (by decide) (fun c36 => ?_) (fun c36 => ?_)
        · replace hf := k_pos hf c36
          refine lv_iconst (v := 0) hx hb dX2_tryOut_115 (by decide) ?_
          refine lv_istore (lv' := [(5, .int 0), (4, .int x4_29), (3, .int x3_28), (0, .ref h), (1, .int a1), (2, .ref o2)]) hx hb dX2_tryOut_116 hl (by decide) rfl (fun ls hl => ?_)
          refine lv_iload hx hb dX2_tryOut_118 (lv_at hl 0 rfl) ?_
          refine lv_if_eq (tgt := 172) hx hb dX2_tryOut_120 (by decide) (fun _ => ?_) (fun c => absurd (by decide) c)
          exact hRet _ _ _ _ _ hf _ _ _ _ hP hD hS dX2_tryOut_172
        · replace hf := k_neg hf c36
          refine lv_iconst (v := 1) hx hb dX2_tryOut_111 (by decide) ?_
          refine lv_goto (tgt := 116) hx hb dX2_tryOut_112 (by decide) ?_
          refine lv_istore (lv' := [(5, .int 1), (4, .int x4_29), (3, .int x3_28), (0, .ref h), (1, .int a1), (2, .ref o2)]) hx hb dX2_tryOut_116 hl (by decide) rfl (fun ls hl => ?_)
          refine lv_iload hx hb dX2_tryOut_118 (lv_at hl 0 rfl) ?_
          refine lv_if_eq (tgt := 172) hx hb dX2_tryOut_120 (by decide) (fun c => absurd c (by decide)) (fun _ => ?_)
          refine lv_iload hx hb dX2_tryOut_123 (lv_at hl 1 rfl) ?_
          refine lv_aload_n hx hb dX2_tryOut_125 rfl (lv_at hl 5 rfl) ?_
          refine k_get (C := RX4) (T := TX4) (N := 14) hx hb hts inX4 hown hK hP 1 rfl rfl 7 (by decide) rfl wl7 rfl dX2_tryOut_126 ?_
          refine lv_icmp_gt (tgt := 172) hx hb dX2_tryOut_129 (by decide) (fun c37 => ?_) (fun c37 => ?_)
          · replace hf := k_pos hf c37
            exact hRet _ _ _ _ _ hf _ _ _ _ hP hD hS dX2_tryOut_172
          · replace hf := k_neg hf c37
            refine lv_aload_n hx hb dX2_tryOut_132 rfl (lv_at hl 3 rfl) ?_
            refine lv_iload_n hx hb dX2_tryOut_133 rfl (lv_at hl 4 rfl) ?_
            refine lv_iconst (v := 0) hx hb dX2_tryOut_134 (by decide) ?_
            refine lv_lconst (v := 0) hx hb dX2_tryOut_135 (by decide) ?_
            obtain ⟨r38, w_h_tried_39, hc39, hf⟩ := k_b2_some hf
            refine k_Si (ws2 := [(h, .inr (2, [.ref h_seam, .ref h_hours, .ref h_mayBegin, .ref h_tried, .ref h_begins, .ref h_hands, .long v_h_menShort, .int v_h_size, .int v_h_planned, .int v_h_worth, .int v_h_pitch])), (o2, .inr (4, [.ref sr, .ref o2_th, .ref o2_ta, .ref o2_se, .int v_o2_hour, .int v_o2_heel, .int v_o2_water, .int v_o2_pitch, .int v_o2_boatUsed, .int v_o2_heelWent, .int v_o2_pitchTaken, .int v_o2_hoursOfMen, .int v_o2_parted, .int v_o2_moved])), (h_seam, .inl (cI, 5, .inl f_h_seam)), (o2_se, .inr (3, [.ref o2_se_strake, .ref o2_se_side, .ref o2_se_hands, .ref o2_se_hours, .ref o2_se_pitch, .ref o2_se_worth, .ref o2_se_state, .ref o2_se_done, .int v_o2_se_size])), (o2_se_done, .inl (cI, 12, .inl f_o2_se_done)), (o2_se_pitch, .inl (cI, 12, .inl f_o2_se_pitch)), (o2_se_worth, .inl (cI, 12, .inl f_o2_se_worth)), (h_tried, .inl (cI, 5, .inl w_h_tried_39)), (h_mayBegin, .inl (cI, 5, .inl f_h_mayBegin)), (h_hands, .inl (cJ, 5, .inr (.inl f_h_hands))), (h_begins, .inl (cI, 5, .inl f_h_begins))]) (As := [.ref h, .int a1, .int 0, .long 0]) (rest := []) S0 (c_X2_isPlaced l D cI cZ cJ cS 7 h h_seam h_hours h_mayBegin h_tried h_begins h_hands v_h_menShort v_h_size v_h_planned v_h_worth v_h_pitch f_h_tried f_h_mayBegin f_h_hands a1 0 0 r38 w_h_tried_39 hc39) (va_cwS 4 hts gX2_tryOut_X2_isPlaced rfl rfl rfl hdS_X2_isPlaced ⟨Nat.le_of_ble_eq_true rfl, Nat.le_of_ble_eq_true rfl⟩) hK hP hD hS hA hN [0, 7, 8, 9] rfl (by decide) rfl hl.1 rfl (Nat.le_of_ble_eq_true rfl) rfl rfl rfl dX2_tryOut_136 (fun H locs hP hD hS => ?_)
            refine lv_if_eq (tgt := 172) hx hb dX2_tryOut_139 (by decide) (fun c40 => ?_) (fun c40 => ?_)
            · replace hf := k_pos hf c40
              exact hRet _ _ _ _ _ hf _ _ _ _ hP hD hS dX2_tryOut_172
            · replace hf := k_neg hf c40
              refine lv_aload_n hx hb dX2_tryOut_142 rfl (lv_at hl 3 rfl) ?_
              refine lv_iload_n hx hb dX2_tryOut_143 rfl (lv_at hl 4 rfl) ?_
              refine k_putf (ws2 := [(h, .inr (2, [.ref h_seam, .ref h_hours, .ref h_mayBegin, .ref h_tried, .ref h_begins, .ref h_hands, .long v_h_menShort, .int v_h_size, .int a1, .int v_h_worth, .int v_h_pitch])), (o2, .inr (4, [.ref sr, .ref o2_th, .ref o2_ta, .ref o2_se, .int v_o2_hour, .int v_o2_heel, .int v_o2_water, .int v_o2_pitch, .int v_o2_boatUsed, .int v_o2_heelWent, .int v_o2_pitchTaken, .int v_o2_hoursOfMen, .int v_o2_parted, .int v_o2_moved])), (h_seam, .inl (cI, 5, .inl f_h_seam)), (o2_se, .inr (3, [.ref o2_se_strake, .ref o2_se_side, .ref o2_se_hands, .ref o2_se_hours, .ref o2_se_pitch, .ref o2_se_worth, .ref o2_se_state, .ref o2_se_done, .int v_o2_se_size])), (o2_se_done, .inl (cI, 12, .inl f_o2_se_done)), (o2_se_pitch, .inl (cI, 12, .inl f_o2_se_pitch)), (o2_se_worth, .inl (cI, 12, .inl f_o2_se_worth)), (h_tried, .inl (cI, 5, .inl w_h_tried_39)), (h_mayBegin, .inl (cI, 5, .inl f_h_mayBegin)), (h_hands, .inl (cJ, 5, .inr (.inl f_h_hands))), (h_begins, .inl (cI, 5, .inl f_h_begins))]) (C := RX2) (T := TX2) (N := 11) hx hb hts inX2 tyX2 tyX2_ok nmX2 hown hK hP hD hS 0 rfl rfl 8 (by decide) rfl wl8 rfl rfl rfl (Nat.le_of_ble_eq_true rfl) rfl dX2_tryOut_144 (fun H locs hP hD hS => ?_)
              refine lv_aload_n hx hb dX2_tryOut_147 rfl (lv_at hl 3 rfl) ?_
              refine lv_iload_n hx hb dX2_tryOut_148 rfl (lv_at hl 2 rfl) ?_
              refine k_putf (ws2 := [(h, .inr (2, [.ref h_seam, .ref h_hours, .ref h_mayBegin, .ref h_tried, .ref h_begins, .ref h_hands, .long v_h_menShort, .int v_h_size, .int a1, .int x3_28, .int v_h_pitch])), (o2, .inr (4, [.ref sr, .ref o2_th, .ref o2_ta, .ref o2_se, .int v_o2_hour, .int v_o2_heel, .int v_o2_water, .int v_o2_pitch, .int v_o2_boatUsed, .int v_o2_heelWent, .int v_o2_pitchTaken, .int v_o2_hoursOfMen, .int v_o2_parted, .int v_o2_moved])), (h_seam, .inl (cI, 5, .inl f_h_seam)), (o2_se, .inr (3, [.ref o2_se_strake, .ref o2_se_side, .ref o2_se_hands, .ref o2_se_hours, .ref o2_se_pitch, .ref o2_se_worth, .ref o2_se_state, .ref o2_se_done, .int v_o2_se_size])), (o2_se_done, .inl (cI, 12, .inl f_o2_se_done)), (o2_se_pitch, .inl (cI, 12, .inl f_o2_se_pitch)), (o2_se_worth, .inl (cI, 12, .inl f_o2_se_worth)), (h_tried, .inl (cI, 5, .inl w_h_tried_39)), (h_mayBegin, .inl (cI, 5, .inl f_h_mayBegin)), (h_hands, .inl (cJ, 5, .inr (.inl f_h_hands))), (h_begins, .inl (cI, 5, .inl f_h_begins))]) (C := RX2) (T := TX2) (N := 11) hx hb hts inX2 tyX2 tyX2_ok nmX2 hown hK hP hD hS 0 rfl rfl 9 (by decide) rfl wl5 rfl rfl rfl (Nat.le_of_ble_eq_true rfl) rfl dX2_tryOut_149 (fun H locs hP hD hS => ?_)
              refine lv_aload_n hx hb dX2_tryOut_152 rfl (lv_at hl 3 rfl) ?_
              refine lv_iload hx hb dX2_tryOut_153 (lv_at hl 1 rfl) ?_
              refine k_putf (ws2 := [(h, .inr (2, [.ref h_seam, .ref h_hours, .ref h_mayBegin, .ref h_tried, .ref h_begins, .ref h_hands, .long v_h_menShort, .int v_h_size, .int a1, .int x3_28, .int x4_29])), (o2, .inr (4, [.ref sr, .ref o2_th, .ref o2_ta, .ref o2_se, .int v_o2_hour, .int v_o2_heel, .int v_o2_water, .int v_o2_pitch, .int v_o2_boatUsed, .int v_o2_heelWent, .int v_o2_pitchTaken, .int v_o2_hoursOfMen, .int v_o2_parted, .int v_o2_moved])), (h_seam, .inl (cI, 5, .inl f_h_seam)), (o2_se, .inr (3, [.ref o2_se_strake, .ref o2_se_side, .ref o2_se_hands, .ref o2_se_hours, .ref o2_se_pitch, .ref o2_se_worth, .ref o2_se_state, .ref o2_se_done, .int v_o2_se_size])), (o2_se_done, .inl (cI, 12, .inl f_o2_se_done)), (o2_se_pitch, .inl (cI, 12, .inl f_o2_se_pitch)), (o2_se_worth, .inl (cI, 12, .inl f_o2_se_worth)), (h_tried, .inl (cI, 5, .inl w_h_tried_39)), (h_mayBegin, .inl (cI, 5, .inl f_h_mayBegin)), (h_hands, .inl (cJ, 5, .inr (.inl f_h_hands))), (h_begins, .inl (cI, 5, .inl f_h_begins))]) (C := RX2) (T := TX2) (N := 11) hx hb hts inX2 tyX2 tyX2_ok nmX2 hown hK hP hD hS 0 rfl rfl 10 (by decide) rfl wl6 rfl rfl rfl (Nat.le_of_ble_eq_true rfl) rfl dX2_tryOut_155 (fun H locs hP hD hS => ?_)
              refine lv_aload_n hx hb dX2_tryOut_158 rfl (lv_at hl 3 rfl) ?_
              refine k_get (C := RX2) (T := TX2) (N := 11) hx hb hts inX2 hown hK hP 0 rfl rfl 3 (by decide) rfl wl9 rfl dX2_tryOut_159 ?_
              refine lv_iconst (v := 0) hx hb dX2_tryOut_162 (by decide) ?_
              refine lv_aload_n hx hb dX2_tryOut_163 rfl (lv_at hl 3 rfl) ?_
              refine k_get (C := RX2) (T := TX2) (N := 11) hx hb hts inX2 hown hK hP 0 rfl rfl 4 (by decide) rfl wl10 rfl dX2_tryOut_164 ?_
              refine lv_iconst (v := 0) hx hb dX2_tryOut_167 (by decide) ?_
              refine lv_iconst (v := 5) hx hb dX2_tryOut_168 (by decide) ?_
              refine k_copyi (ws2 := [(h, .inr (2, [.ref h_seam, .ref h_hours, .ref h_mayBegin, .ref h_tried, .ref h_begins, .ref h_hands, .long v_h_menShort, .int v_h_size, .int a1, .int x3_28, .int x4_29])), (o2, .inr (4, [.ref sr, .ref o2_th, .ref o2_ta, .ref o2_se, .int v_o2_hour, .int v_o2_heel, .int v_o2_water, .int v_o2_pitch, .int v_o2_boatUsed, .int v_o2_heelWent, .int v_o2_pitchTaken, .int v_o2_hoursOfMen, .int v_o2_parted, .int v_o2_moved])), (h_seam, .inl (cI, 5, .inl f_h_seam)), (o2_se, .inr (3, [.ref o2_se_strake, .ref o2_se_side, .ref o2_se_hands, .ref o2_se_hours, .ref o2_se_pitch, .ref o2_se_worth, .ref o2_se_state, .ref o2_se_done, .int v_o2_se_size])), (o2_se_done, .inl (cI, 12, .inl f_o2_se_done)), (o2_se_pitch, .inl (cI, 12, .inl f_o2_se_pitch)), (o2_se_worth, .inl (cI, 12, .inl f_o2_se_worth)), (h_tried, .inl (cI, 5, .inl w_h_tried_39)), (h_mayBegin, .inl (cI, 5, .inl f_h_mayBegin)), (h_hands, .inl (cJ, 5, .inr (.inl f_h_hands))), (h_begins, .inl (cI, 5, .inl (k_cpy 5 w_h_tried_39 f_h_begins)))]) (nn := 5) (k := 5) hx hb (hml.trans hl.1.symm) hown wl11 wl12 wl13 wl14 hK hP hD hS 7 10 0 rfl rfl rfl (by decide) (by decide) (Nat.le_of_ble_eq_true rfl) (Nat.le_of_ble_eq_true rfl) (Nat.le_of_ble_eq_true rfl) (Nat.le_of_ble_eq_true rfl) rfl dX2_tryOut_169 (fun H locs hP hD hS => ?_)
              exact hRet _ _ _ _ _ hf _ _ _ _ hP hD hS dX2_tryOut_172
  refine (k_lp_ind (fun sx27 => ∀ (H : Heap) (locs : List Loc) (ls : Array Slot), va_P D vwCl [(h, .inr (2, [.ref h_seam, .ref h_hours, .ref h_mayBegin, .ref h_tried, .ref h_begins, .ref h_hands, .long v_h_menShort, .int v_h_size, .int v_h_planned, .int v_h_worth, .int v_h_pitch])), (o2, .inr (4, [.ref sr, .ref o2_th, .ref o2_ta, .ref o2_se, .int v_o2_hour, .int v_o2_heel, .int v_o2_water, .int v_o2_pitch, .int v_o2_boatUsed, .int v_o2_heelWent, .int v_o2_pitchTaken, .int v_o2_hoursOfMen, .int v_o2_parted, .int v_o2_moved])), (h_seam, .inl (cI, 5, .inl f_h_seam)), (o2_se, .inr (3, [.ref o2_se_strake, .ref o2_se_side, .ref o2_se_hands, .ref o2_se_hours, .ref o2_se_pitch, .ref o2_se_worth, .ref o2_se_state, .ref o2_se_done, .int v_o2_se_size])), (o2_se_done, .inl (cI, 12, .inl f_o2_se_done)), (o2_se_pitch, .inl (cI, 12, .inl f_o2_se_pitch)), (o2_se_worth, .inl (cI, 12, .inl f_o2_se_worth)), (h_tried, .inl (cI, 5, .inl f_h_tried)), (h_mayBegin, .inl (cI, 5, .inl f_h_mayBegin)), (h_hands, .inl (cJ, 5, .inr (.inl f_h_hands))), (h_begins, .inl (cI, 5, .inl f_h_begins))] H → va_D A [(h, .inr (2, [.ref h_seam, .ref h_hours, .ref h_mayBegin, .ref h_tried, .ref h_begins, .ref h_hands, .long v_h_menShort, .int v_h_size, .int v_h_planned, .int v_h_worth, .int v_h_pitch])), (o2, .inr (4, [.ref sr, .ref o2_th, .ref o2_ta, .ref o2_se, .int v_o2_hour, .int v_o2_heel, .int v_o2_water, .int v_o2_pitch, .int v_o2_boatUsed, .int v_o2_heelWent, .int v_o2_pitchTaken, .int v_o2_hoursOfMen, .int v_o2_parted, .int v_o2_moved])), (h_seam, .inl (cI, 5, .inl f_h_seam)), (o2_se, .inr (3, [.ref o2_se_strake, .ref o2_se_side, .ref o2_se_hands, .ref o2_se_hours, .ref o2_se_pitch, .ref o2_se_worth, .ref o2_se_state, .ref o2_se_done, .int v_o2_se_size])), (o2_se_done, .inl (cI, 12, .inl f_o2_se_done)), (o2_se_pitch, .inl (cI, 12, .inl f_o2_se_pitch)), (o2_se_worth, .inl (cI, 12, .inl f_o2_se_worth)), (h_tried, .inl (cI, 5, .inl f_h_tried)), (h_mayBegin, .inl (cI, 5, .inl f_h_mayBegin)), (h_hands, .inl (cJ, 5, .inr (.inl f_h_hands))), (h_begins, .inl (cI, 5, .inl f_h_begins))] → va_S A s.heap H locs → lv_has ls 6 [(5, .int sx27.2.2), (4, .int sx27.2.1), (3, .int sx27.1), (0, .ref h), (1, .int a1), (2, .ref o2)] → W p l e rm_X2_tryOut s m args below meth c H locs 0 0 Q (F0 m 8 ls [])) (fun sx27 X27 hX27 hin27 hout27 => ?_) _ _ hlp27) _ _ _ hP hD hS (lv_sub hl [0, 1, 2, 3, 4, 5] rfl)
  obtain ⟨x3_41, x4_42, x5_43⟩ := sx27
  intro H locs ls hP hD hS hl
  replace hP : va_P D vwCl [(h, .inr (2, [.ref h_seam, .ref h_hours, .ref h_mayBegin, .ref h_tried, .ref h_begins, .ref h_hands, .long v_h_menShort, .int v_h_size, .int v_h_planned, .int v_h_worth, .int v_h_pitch])), (o2, .inr (4, [.ref sr, .ref o2_th, .ref o2_ta, .ref o2_se, .int v_o2_hour, .int v_o2_heel, .int v_o2_water, .int v_o2_pitch, .int v_o2_boatUsed, .int v_o2_heelWent, .int v_o2_pitchTaken, .int v_o2_hoursOfMen, .int v_o2_parted, .int v_o2_moved])), (h_seam, .inl (cI, 5, .inl f_h_seam)), (o2_se, .inr (3, [.ref o2_se_strake, .ref o2_se_side, .ref o2_se_hands, .ref o2_se_hours, .ref o2_se_pitch, .ref o2_se_worth, .ref o2_se_state, .ref o2_se_done, .int v_o2_se_size])), (o2_se_done, .inl (cI, 12, .inl f_o2_se_done)), (o2_se_pitch, .inl (cI, 12, .inl f_o2_se_pitch)), (o2_se_worth, .inl (cI, 12, .inl f_o2_se_worth)), (h_tried, .inl (cI, 5, .inl f_h_tried)), (h_mayBegin, .inl (cI, 5, .inl f_h_mayBegin)), (h_hands, .inl (cJ, 5, .inr (.inl f_h_hands))), (h_begins, .inl (cI, 5, .inl f_h_begins))] H := hP
  replace hD : va_D A [(h, .inr (2, [.ref h_seam, .ref h_hours, .ref h_mayBegin, .ref h_tried, .ref h_begins, .ref h_hands, .long v_h_menShort, .int v_h_size, .int v_h_planned, .int v_h_worth, .int v_h_pitch])), (o2, .inr (4, [.ref sr, .ref o2_th, .ref o2_ta, .ref o2_se, .int v_o2_hour, .int v_o2_heel, .int v_o2_water, .int v_o2_pitch, .int v_o2_boatUsed, .int v_o2_heelWent, .int v_o2_pitchTaken, .int v_o2_hoursOfMen, .int v_o2_parted, .int v_o2_moved])), (h_seam, .inl (cI, 5, .inl f_h_seam)), (o2_se, .inr (3, [.ref o2_se_strake, .ref o2_se_side, .ref o2_se_hands, .ref o2_se_hours, .ref o2_se_pitch, .ref o2_se_worth, .ref o2_se_state, .ref o2_se_done, .int v_o2_se_size])), (o2_se_done, .inl (cI, 12, .inl f_o2_se_done)), (o2_se_pitch, .inl (cI, 12, .inl f_o2_se_pitch)), (o2_se_worth, .inl (cI, 12, .inl f_o2_se_worth)), (h_tried, .inl (cI, 5, .inl f_h_tried)), (h_mayBegin, .inl (cI, 5, .inl f_h_mayBegin)), (h_hands, .inl (cJ, 5, .inr (.inl f_h_hands))), (h_begins, .inl (cI, 5, .inl f_h_begins))] := hD
  replace hl : lv_has ls 6 [(5, .int x5_43), (4, .int x4_42), (3, .int x3_41), (0, .ref h), (1, .int a1), (2, .ref o2)] := hl
  replace hX27 : lb_X2_tryOut_8 v_h_size a1 f_o2_se_done f_o2_se_pitch f_h_seam f_o2_se_worth x3_41 x4_42 x5_43 = some X27 := hX27
  unfold lb_X2_tryOut_8 at hX27
  refine lv_iload hx hb dX2_tryOut_8 (lv_at hl 0 rfl) ?_
  refine lv_aload_n hx hb dX2_tryOut_10 rfl (lv_at hl 3 rfl) ?_
  refine k_get (C := RX2) (T := TX2) (N := 11) hx hb hts inX2 hown hK hP 0 rfl rfl 7 (by decide) rfl wl1 rfl dX2_tryOut_11 ?_
  refine lv_icmp_ge (tgt := 86) hx hb dX2_tryOut_14 (by decide) (fun c44 => ?_) (fun c44 => ?_)
  · replace hX27 := k_pos hX27 c44
    exact hE27 _ _ (hout27 _ (Option.some.inj hX27).symm).symm _ _ _ hP hD hS (lv_sub hl [1, 2, 3, 4, 5] rfl)
  · replace hX27 := k_neg hX27 c44
    refine lv_iload_n hx hb dX2_tryOut_17 rfl (lv_at hl 2 rfl) ?_
    refine lv_iload_n hx hb dX2_tryOut_18 rfl (lv_at hl 4 rfl) ?_
    refine lv_iload hx hb dX2_tryOut_19 (lv_at hl 0 rfl) ?_
    obtain ⟨r45, hc45, hX27⟩ := k_b1_some hX27
    refine k_NiR (As := [.int a1, .int x5_43]) (rest := [.int x3_41]) S0 (c_X8_hasBit l D cI cZ cJ cS a1 x5_43 r45 hc45) ⟨va_cnB 2 hts gX2_tryOut_X8_hasBit_n100 rfl rfl rfl (hN _ (List.mem_of_getElem? (i := 9) rfl)) wl16 hdS_X8_hasBit ⟨Nat.le_of_ble_eq_true rfl, Nat.le_of_ble_eq_true rfl⟩, wl15, trivial⟩ hK hP hD hS hA hN [] rfl (by decide) rfl hl.1 rfl (Nat.le_of_ble_eq_true rfl) dX2_tryOut_21 (fun H locs hP hS => ?_)
    refine lv_if_eq (tgt := 45) hx hb dX2_tryOut_24 (by decide) (fun c46 => ?_) (fun c46 => ?_)
    · replace hX27 := k_pos hX27 c46
      refine lv_iconst (v := 0) hx hb dX2_tryOut_45 (by decide) ?_
      refine lv_iadd hx hb dX2_tryOut_46 ?_
      refine lv_istore_n (lv' := [(3, .int (x3_41 + 0)), (5, .int x5_43), (4, .int x4_42), (0, .ref h), (1, .int a1), (2, .ref o2)]) hx hb dX2_tryOut_47 rfl hl (by decide) rfl (fun ls hl => ?_)
      refine lv_iload hx hb dX2_tryOut_48 (lv_at hl 2 rfl) ?_
      refine lv_iload_n hx hb dX2_tryOut_50 rfl (lv_at hl 4 rfl) ?_
      refine lv_iload hx hb dX2_tryOut_51 (lv_at hl 1 rfl) ?_
      obtain ⟨r47, hc47, hX27⟩ := k_b1_some hX27
      refine k_NiR (As := [.int a1, .int x5_43]) (rest := [.int x4_42]) S0 (c_X8_hasBit l D cI cZ cJ cS a1 x5_43 r47 hc47) ⟨va_cnB 2 hts gX2_tryOut_X8_hasBit_n100 rfl rfl rfl (hN _ (List.mem_of_getElem? (i := 9) rfl)) wl16 hdS_X8_hasBit ⟨Nat.le_of_ble_eq_true rfl, Nat.le_of_ble_eq_true rfl⟩, wl15, trivial⟩ hK hP hD hS hA hN [] rfl (by decide) rfl hl.1 rfl (Nat.le_of_ble_eq_true rfl) dX2_tryOut_53 (fun H locs hP hS => ?_)
      refine lv_if_eq (tgt := 76) hx hb dX2_tryOut_56 (by decide) (fun c48 => ?_) (fun c48 => ?_)
      · replace hX27 := k_pos hX27 c48
        refine lv_iconst (v := 0) hx hb dX2_tryOut_76 (by decide) ?_
        refine lv_iadd hx hb dX2_tryOut_77 ?_
        refine lv_istore (lv' := [(4, .int (x4_42 + 0)), (3, .int (x3_41 + 0)), (5, .int x5_43), (0, .ref h), (1, .int a1), (2, .ref o2)]) hx hb dX2_tryOut_78 hl (by decide) rfl (fun ls hl => ?_)
        refine lv_iinc (v := x5_43 + 1) (lv' := [(5, .int (x5_43 + 1)), (4, .int (x4_42 + 0)), (3, .int (x3_41 + 0)), (0, .ref h), (1, .int a1), (2, .ref o2)]) hx hb dX2_tryOut_80 hl (k := 2) rfl rfl (by decide) rfl (fun ls hl => ?_)
        refine lv_goto (tgt := 8) hx hb dX2_tryOut_83 (by decide) ?_
        exact hin27 (x3_41 + 0, x4_42 + 0, x5_43 + 1) (Option.some.inj hX27).symm _ _ _ hP hD hS (lv_sub hl [0, 1, 2, 3, 4, 5] rfl)
      · replace hX27 := k_neg hX27 c48
        refine lv_aload_n hx hb dX2_tryOut_59 rfl (lv_at hl 5 rfl) ?_
        refine k_get (C := RX4) (T := TX4) (N := 14) hx hb hts inX4 hown hK hP 1 rfl rfl 3 (by decide) rfl wl2 rfl dX2_tryOut_60 ?_
        refine lv_aload_n hx hb dX2_tryOut_63 rfl (lv_at hl 3 rfl) ?_
        refine k_get (C := RX2) (T := TX2) (N := 11) hx hb hts inX2 hown hK hP 0 rfl rfl 0 (by decide) rfl wl4 rfl dX2_tryOut_64 ?_
        refine lv_iload hx hb dX2_tryOut_67 (lv_at hl 1 rfl) ?_
        obtain ⟨hi49, hX27⟩ := k_ix_some hX27
        refine k_iald (k := x5_43.toNatClampNeg) hx hb hK hP 2 0 rfl rfl hi49 rfl dX2_tryOut_69 ?_
        obtain ⟨r50, hc50, hX27⟩ := k_b1_some hX27
        refine k_ViR (q0 := 0) (As := [.int (f_h_seam x5_43.toNatClampNeg)]) (rest := [.int x4_42]) S0 (c_X3_pitchLacking l D cI cZ cJ cS o2_se o2_se_strake o2_se_side o2_se_hands o2_se_hours o2_se_pitch o2_se_worth o2_se_state o2_se_done v_o2_se_size f_o2_se_done f_o2_se_pitch (f_h_seam x5_43.toNatClampNeg) r50 hc50) (cwV 1 hts gX2_tryOut_X3_pitchLacking rfl rfl rfl hdV_X3_pitchLacking ⟨Nat.le_of_ble_eq_true rfl, Nat.le_of_ble_eq_true rfl⟩) hK hP hD hS hA hN [3, 4, 5] rfl (by decide) rfl rfl rfl rfl hl.1 rfl (Nat.le_of_ble_eq_true rfl) dX2_tryOut_70 (fun H locs hP hS => ?_)
        refine lv_goto (tgt := 77) hx hb dX2_tryOut_73 (by decide) ?_
        refine lv_iadd hx hb dX2_tryOut_77 ?_
        refine lv_istore (lv' := [(4, .int (x4_42 + r50)), (3, .int (x3_41 + 0)), (5, .int x5_43), (0, .ref h), (1, .int a1), (2, .ref o2)]) hx hb dX2_tryOut_78 hl (by decide) rfl (fun ls hl => ?_)
        refine lv_iinc (v := x5_43 + 1) (lv' := [(5, .int (x5_43 + 1)), (4, .int (x4_42 + r50)), (3, .int (x3_41 + 0)), (0, .ref h), (1, .int a1), (2, .ref o2)]) hx hb dX2_tryOut_80 hl (k := 2) rfl rfl (by decide) rfl (fun ls hl => ?_)
        refine lv_goto (tgt := 8) hx hb dX2_tryOut_83 (by decide) ?_
        exact hin27 (x3_41 + 0, x4_42 + r50, x5_43 + 1) (Option.some.inj hX27).symm _ _ _ hP hD hS (lv_sub hl [0, 1, 2, 3, 4, 5] rfl)
    · replace hX27 := k_neg hX27 c46
      refine lv_aload_n hx hb dX2_tryOut_27 rfl (lv_at hl 5 rfl) ?_
      refine k_get (C := RX4) (T := TX4) (N := 14) hx hb hts inX4 hown hK hP 1 rfl rfl 3 (by decide) rfl wl2 rfl dX2_tryOut_28 ?_
      refine k_get (C := RX3) (T := TX3) (N := 9) hx hb hts inX3 hown hK hP 3 rfl rfl 5 (by decide) rfl wl3 rfl dX2_tryOut_31 ?_
      refine lv_aload_n hx hb dX2_tryOut_34 rfl (lv_at hl 3 rfl) ?_
      refine k_get (C := RX2) (T := TX2) (N := 11) hx hb hts inX2 hown hK hP 0 rfl rfl 0 (by decide) rfl wl4 rfl dX2_tryOut_35 ?_
      refine lv_iload hx hb dX2_tryOut_38 (lv_at hl 0 rfl) ?_
      obtain ⟨hi51, hX27⟩ := k_ix_some hX27
      refine k_iald (k := x5_43.toNatClampNeg) hx hb hK hP 2 0 rfl rfl hi51 rfl dX2_tryOut_40 ?_
      obtain ⟨hi52, hX27⟩ := k_ix_some hX27
      refine k_iald (k := (f_h_seam x5_43.toNatClampNeg).toNatClampNeg) hx hb hK hP 6 0 rfl rfl hi52 rfl dX2_tryOut_41 ?_
      refine lv_goto (tgt := 46) hx hb dX2_tryOut_42 (by decide) ?_
      refine lv_iadd hx hb dX2_tryOut_46 ?_
      refine lv_istore_n (lv' := [(3, .int (x3_41 + (f_o2_se_worth (f_h_seam x5_43.toNatClampNeg).toNatClampNeg))), (5, .int x5_43), (4, .int x4_42), (0, .ref h), (1, .int a1), (2, .ref o2)]) hx hb dX2_tryOut_47 rfl hl (by decide) rfl (fun ls hl => ?_)
      refine lv_iload hx hb dX2_tryOut_48 (lv_at hl 2 rfl) ?_
      refine lv_iload_n hx hb dX2_tryOut_50 rfl (lv_at hl 4 rfl) ?_
      refine lv_iload hx hb dX2_tryOut_51 (lv_at hl 1 rfl) ?_
      obtain ⟨r53, hc53, hX27⟩ := k_b1_some hX27
      refine k_NiR (As := [.int a1, .int x5_43]) (rest := [.int x4_42]) S0 (c_X8_hasBit l D cI cZ cJ cS a1 x5_43 r53 hc53) ⟨va_cnB 2 hts gX2_tryOut_X8_hasBit_n100 rfl rfl rfl (hN _ (List.mem_of_getElem? (i := 9) rfl)) wl16 hdS_X8_hasBit ⟨Nat.le_of_ble_eq_true rfl, Nat.le_of_ble_eq_true rfl⟩, wl15, trivial⟩ hK hP hD hS hA hN [] rfl (by decide) rfl hl.1 rfl (Nat.le_of_ble_eq_true rfl) dX2_tryOut_53 (fun H locs hP hS => ?_)
      refine lv_if_eq (tgt := 76) hx hb dX2_tryOut_56 (by decide) (fun c54 => ?_) (fun c54 => ?_)
      · replace hX27 := k_pos hX27 c54
        refine lv_iconst (v := 0) hx hb dX2_tryOut_76 (by decide) ?_
        refine lv_iadd hx hb dX2_tryOut_77 ?_
        refine lv_istore (lv' := [(4, .int (x4_42 + 0)), (3, .int (x3_41 + (f_o2_se_worth (f_h_seam x5_43.toNatClampNeg).toNatClampNeg))), (5, .int x5_43), (0, .ref h), (1, .int a1), (2, .ref o2)]) hx hb dX2_tryOut_78 hl (by decide) rfl (fun ls hl => ?_)
        refine lv_iinc (v := x5_43 + 1) (lv' := [(5, .int (x5_43 + 1)), (4, .int (x4_42 + 0)), (3, .int (x3_41 + (f_o2_se_worth (f_h_seam x5_43.toNatClampNeg).toNatClampNeg))), (0, .ref h), (1, .int a1), (2, .ref o2)]) hx hb dX2_tryOut_80 hl (k := 2) rfl rfl (by decide) rfl (fun ls hl => ?_)
        refine lv_goto (tgt := 8) hx hb dX2_tryOut_83 (by decide) ?_
        exact hin27 (x3_41 + (f_o2_se_worth (f_h_seam x5_43.toNatClampNeg).toNatClampNeg), x4_42 + 0, x5_43 + 1) (Option.some.inj hX27).symm _ _ _ hP hD hS (lv_sub hl [0, 1, 2, 3, 4, 5] rfl)
      · replace hX27 := k_neg hX27 c54
        refine lv_aload_n hx hb dX2_tryOut_59 rfl (lv_at hl 5 rfl) ?_
        refine k_get (C := RX4) (T := TX4) (N := 14) hx hb hts inX4 hown hK hP 1 rfl rfl 3 (by decide) rfl wl2 rfl dX2_tryOut_60 ?_
        refine lv_aload_n hx hb dX2_tryOut_63 rfl (lv_at hl 3 rfl) ?_
        refine k_get (C := RX2) (T := TX2) (N := 11) hx hb hts inX2 hown hK hP 0 rfl rfl 0 (by decide) rfl wl4 rfl dX2_tryOut_64 ?_
        refine lv_iload hx hb dX2_tryOut_67 (lv_at hl 1 rfl) ?_
        obtain ⟨hi55, hX27⟩ := k_ix_some hX27
        refine k_iald (k := x5_43.toNatClampNeg) hx hb hK hP 2 0 rfl rfl hi55 rfl dX2_tryOut_69 ?_
        obtain ⟨r56, hc56, hX27⟩ := k_b1_some hX27
        refine k_ViR (q0 := 0) (As := [.int (f_h_seam x5_43.toNatClampNeg)]) (rest := [.int x4_42]) S0 (c_X3_pitchLacking l D cI cZ cJ cS o2_se o2_se_strake o2_se_side o2_se_hands o2_se_hours o2_se_pitch o2_se_worth o2_se_state o2_se_done v_o2_se_size f_o2_se_done f_o2_se_pitch (f_h_seam x5_43.toNatClampNeg) r56 hc56) (cwV 1 hts gX2_tryOut_X3_pitchLacking rfl rfl rfl hdV_X3_pitchLacking ⟨Nat.le_of_ble_eq_true rfl, Nat.le_of_ble_eq_true rfl⟩) hK hP hD hS hA hN [3, 4, 5] rfl (by decide) rfl rfl rfl rfl hl.1 rfl (Nat.le_of_ble_eq_true rfl) dX2_tryOut_70 (fun H locs hP hS => ?_)
        refine lv_goto (tgt := 77) hx hb dX2_tryOut_73 (by decide) ?_
        refine lv_iadd hx hb dX2_tryOut_77 ?_
        refine lv_istore (lv' := [(4, .int (x4_42 + r56)), (3, .int (x3_41 + (f_o2_se_worth (f_h_seam x5_43.toNatClampNeg).toNatClampNeg))), (5, .int x5_43), (0, .ref h), (1, .int a1), (2, .ref o2)]) hx hb dX2_tryOut_78 hl (by decide) rfl (fun ls hl => ?_)
        refine lv_iinc (v := x5_43 + 1) (lv' := [(5, .int (x5_43 + 1)), (4, .int (x4_42 + r56)), (3, .int (x3_41 + (f_o2_se_worth (f_h_seam x5_43.toNatClampNeg).toNatClampNeg))), (0, .ref h), (1, .int a1), (2, .ref o2)]) hx hb dX2_tryOut_80 hl (k := 2) rfl rfl (by decide) rfl (fun ls hl => ?_)
        refine lv_goto (tgt := 8) hx hb dX2_tryOut_83 (by decide) ?_
        exact hin27 (x3_41 + (f_o2_se_worth (f_h_seam x5_43.toNatClampNeg).toNatClampNeg), x4_42 + r56, x5_43 + 1) (Option.some.inj hX27).symm _ _ _ hP hD hS (lv_sub hl [0, 1, 2, 3, 4, 5] rfl)

noncomputable def lb_X2_make_44 (w_h_size_1 : Int32) (f_sr_rules : Nat → Int32) (v_o1_pitch : Int32) (w_h_seam_2 : Nat → Int32) (f_o1_se_done : Nat → Int32) (f_o1_se_pitch : Nat → Int32) (f_o1_se_worth : Nat → Int32) (w_h_mayBegin_4 : Nat → Int32) (w_h_hands_5 : Nat → Int64) (x3_30 : Int32) (c_h_begins_31 : Nat → Int32) (c_h_tried_32 : Nat → Int32) (c_h_pitch_33 : Int32) (c_h_planned_34 : Int32) (c_h_worth_35 : Int32) : Option ((Int32 × (Nat → Int32) × (Nat → Int32) × Int32 × Int32 × Int32) ⊕ ((Nat → Int32) × (Nat → Int32) × Int32 × Int32 × Int32)) :=
  if (1 <<< (w_h_size_1 &&& 31)) ≤ x3_30 then
    some (.inr (c_h_begins_31, c_h_tried_32, c_h_pitch_33, c_h_planned_34, c_h_worth_35))
  else
    k_b5 (p_X2_tryOut (((127 - (f_sr_rules 3)).toInt64) * 72340172838076673) w_h_size_1 c_h_planned_34 c_h_worth_35 c_h_pitch_33 v_o1_pitch w_h_seam_2 f_o1_se_done f_o1_se_pitch f_o1_se_worth c_h_tried_32 w_h_mayBegin_4 w_h_hands_5 c_h_begins_31 x3_30) fun w_h_planned_37 w_h_worth_38 w_h_pitch_39 w_h_tried_40 w_h_begins_41 =>
    some (.inl (x3_30 + 1, w_h_begins_41, w_h_tried_40, w_h_pitch_39, w_h_planned_37, w_h_worth_38))
noncomputable def p_X2_make (v_o1_hour : Int32) (v_o1_heel : Int32) (v_o1_pitch : Int32) (v_o1_se_size : Int32) (f_o1_se_state : Nat → Int32) (f_h_seam : Nat → Int32) (f_o1_se_hours : Nat → Int32) (f_o1_se_done : Nat → Int32) (f_h_hours : Nat → Int32) (f_sr_rain : Nat → Int32) (f_sr_tide : Nat → Int32) (f_o1_se_strake : Nat → Int32) (f_o1_se_side : Nat → Int32) (f_h_mayBegin : Nat → Int32) (f_h_hands : Nat → Int64) (f_o1_se_hands : Nat → Int32) (f_sr_rules : Nat → Int32) (f_o1_se_pitch : Nat → Int32) (f_o1_se_worth : Nat → Int32) (f_h_tried : Nat → Int32) (f_h_begins : Nat → Int32) (a2 : Int32) : Option (Int64 × Int32 × Int32 × Int32 × Int32 × (Nat → Int32) × (Nat → Int32) × (Nat → Int32) × (Nat → Int64) × (Nat → Int32) × (Nat → Int32)) :=
  k_b5 (p_X2_gather v_o1_hour v_o1_heel v_o1_se_size f_o1_se_state f_h_seam f_o1_se_hours f_o1_se_done f_h_hours f_sr_rain f_sr_tide f_o1_se_strake f_o1_se_side f_h_mayBegin f_h_hands f_o1_se_hands a2) fun w_h_size_1 w_h_seam_2 w_h_hours_3 w_h_mayBegin_4 w_h_hands_5 =>
  k_b5 (k_lp (fun s => lb_X2_make_44 w_h_size_1 f_sr_rules v_o1_pitch w_h_seam_2 f_o1_se_done f_o1_se_pitch f_o1_se_worth w_h_mayBegin_4 w_h_hands_5 s.1 s.2.1 s.2.2.1 s.2.2.2.1 s.2.2.2.2.1 s.2.2.2.2.2) k_fuel (1, f_h_begins, f_h_tried, 0, 0, 0)) fun c_h_begins_25 c_h_tried_26 c_h_pitch_27 c_h_planned_28 c_h_worth_29 =>
  some (((127 - (f_sr_rules 3)).toInt64) * 72340172838076673, w_h_size_1, c_h_planned_28, c_h_worth_29, c_h_pitch_27, w_h_seam_2, w_h_hours_3, w_h_mayBegin_4, w_h_hands_5, c_h_tried_26, c_h_begins_25)
abbrev rm_X2_make : Room := { frames := 10, cells := 0, slots := 0, locals := 564 }
theorem hdS_X2_make : yX2_make.cls ≠ "java/lang/invoke/MethodHandle" ∧ yX2_make.cls ≠ "java/lang/invoke/VarHandle" ∧ (parseMethodDescriptor yX2_make.desc).map (fun d => d.parameters.length) = some 2 := by decide +kernel
theorem hdV_X2_make : yX2_make.cls = RX2 ∧ yX2_make.cls ≠ "java/lang/invoke/MethodHandle" ∧ yX2_make.cls ≠ "java/lang/invoke/VarHandle" ∧ (parseMethodDescriptor yX2_make.desc).map (fun d => d.parameters.length) = some 2 := by decide +kernel
set_option maxHeartbeats 4000000 in
set_option maxRecDepth 100000 in
theorem c_X2_make (l : Launch) (D : va_G) (cI cZ cJ cS : ClassId) (h h_seam h_hours h_mayBegin h_tried h_begins h_hands o1 sr o1_th o1_ta o1_se o1_se_strake o1_se_side o1_se_hands o1_se_hours o1_se_pitch o1_se_worth o1_se_state o1_se_done sr_tide sr_rain sr_rules : Nat) (v_h_menShort : Int64) (v_h_size : Int32) (v_h_planned : Int32) (v_h_worth : Int32) (v_h_pitch : Int32) (v_o1_hour : Int32) (v_o1_heel : Int32) (v_o1_water : Int32) (v_o1_pitch : Int32) (v_o1_boatUsed : Int32) (v_o1_heelWent : Int32) (v_o1_pitchTaken : Int32) (v_o1_hoursOfMen : Int32) (v_o1_parted : Int32) (v_o1_moved : Int32) (v_o1_se_size : Int32) (f_o1_se_state : Nat → Int32) (f_h_seam : Nat → Int32) (f_o1_se_hours : Nat → Int32) (f_o1_se_done : Nat → Int32) (f_h_hours : Nat → Int32) (f_sr_rain : Nat → Int32) (f_sr_tide : Nat → Int32) (f_o1_se_strake : Nat → Int32) (f_o1_se_side : Nat → Int32) (f_h_mayBegin : Nat → Int32) (f_h_hands : Nat → Int64) (f_o1_se_hands : Nat → Int32) (f_sr_rules : Nat → Int32) (f_o1_se_pitch : Nat → Int32) (f_o1_se_worth : Nat → Int32) (f_h_tried : Nat → Int32) (f_h_begins : Nat → Int32) (a2 : Int32) (v_h_menShort' : Int64) (v_h_size' : Int32) (v_h_planned' : Int32) (v_h_worth' : Int32) (v_h_pitch' : Int32) (f_h_seam' : Nat → Int32) (f_h_hours' : Nat → Int32) (f_h_mayBegin' : Nat → Int32) (f_h_hands' : Nat → Int64) (f_h_tried' : Nat → Int32) (f_h_begins' : Nat → Int32) (hf : p_X2_make v_o1_hour v_o1_heel v_o1_pitch v_o1_se_size f_o1_se_state f_h_seam f_o1_se_hours f_o1_se_done f_h_hours f_sr_rain f_sr_tide f_o1_se_strake f_o1_se_side f_h_mayBegin f_h_hands f_o1_se_hands f_sr_rules f_o1_se_pitch f_o1_se_worth f_h_tried f_h_begins a2 = some (v_h_menShort', v_h_size', v_h_planned', v_h_worth', v_h_pitch', f_h_seam', f_h_hours', f_h_mayBegin', f_h_hands', f_h_tried', f_h_begins')) : k_MV l yX2_make wsX2_make rm_X2_make D (k_tys cI cZ cJ cS) [.ref h, .ref o1, .int a2] [(h, .inr (2, [.ref h_seam, .ref h_hours, .ref h_mayBegin, .ref h_tried, .ref h_begins, .ref h_hands, .long v_h_menShort, .int v_h_size, .int v_h_planned, .int v_h_worth, .int v_h_pitch])), (o1, .inr (4, [.ref sr, .ref o1_th, .ref o1_ta, .ref o1_se, .int v_o1_hour, .int v_o1_heel, .int v_o1_water, .int v_o1_pitch, .int v_o1_boatUsed, .int v_o1_heelWent, .int v_o1_pitchTaken, .int v_o1_hoursOfMen, .int v_o1_parted, .int v_o1_moved])), (o1_se, .inr (3, [.ref o1_se_strake, .ref o1_se_side, .ref o1_se_hands, .ref o1_se_hours, .ref o1_se_pitch, .ref o1_se_worth, .ref o1_se_state, .ref o1_se_done, .int v_o1_se_size])), (o1_se_state, .inl (cI, 12, .inl f_o1_se_state)), (h_seam, .inl (cI, 5, .inl f_h_seam)), (o1_se_hours, .inl (cI, 12, .inl f_o1_se_hours)), (o1_se_done, .inl (cI, 12, .inl f_o1_se_done)), (h_hours, .inl (cI, 5, .inl f_h_hours)), (sr, .inr (5, [.ref sr_tide, .ref sr_rain, .ref sr_rules])), (sr_rain, .inl (cZ, 96, .inl f_sr_rain)), (sr_tide, .inl (cI, 96, .inl f_sr_tide)), (o1_se_strake, .inl (cI, 12, .inl f_o1_se_strake)), (o1_se_side, .inl (cI, 12, .inl f_o1_se_side)), (h_mayBegin, .inl (cI, 5, .inl f_h_mayBegin)), (h_hands, .inl (cJ, 5, .inr (.inl f_h_hands))), (o1_se_hands, .inl (cI, 12, .inl f_o1_se_hands)), (sr_rules, .inl (cI, 8, .inl f_sr_rules)), (o1_se_pitch, .inl (cI, 12, .inl f_o1_se_pitch)), (o1_se_worth, .inl (cI, 12, .inl f_o1_se_worth)), (h_tried, .inl (cI, 5, .inl f_h_tried)), (h_begins, .inl (cI, 5, .inl f_h_begins))] [(h, .inr (2, [.ref h_seam, .ref h_hours, .ref h_mayBegin, .ref h_tried, .ref h_begins, .ref h_hands, .long v_h_menShort', .int v_h_size', .int v_h_planned', .int v_h_worth', .int v_h_pitch'])), (o1, .inr (4, [.ref sr, .ref o1_th, .ref o1_ta, .ref o1_se, .int v_o1_hour, .int v_o1_heel, .int v_o1_water, .int v_o1_pitch, .int v_o1_boatUsed, .int v_o1_heelWent, .int v_o1_pitchTaken, .int v_o1_hoursOfMen, .int v_o1_parted, .int v_o1_moved])), (o1_se, .inr (3, [.ref o1_se_strake, .ref o1_se_side, .ref o1_se_hands, .ref o1_se_hours, .ref o1_se_pitch, .ref o1_se_worth, .ref o1_se_state, .ref o1_se_done, .int v_o1_se_size])), (o1_se_state, .inl (cI, 12, .inl f_o1_se_state)), (h_seam, .inl (cI, 5, .inl f_h_seam')), (o1_se_hours, .inl (cI, 12, .inl f_o1_se_hours)), (o1_se_done, .inl (cI, 12, .inl f_o1_se_done)), (h_hours, .inl (cI, 5, .inl f_h_hours')), (sr, .inr (5, [.ref sr_tide, .ref sr_rain, .ref sr_rules])), (sr_rain, .inl (cZ, 96, .inl f_sr_rain)), (sr_tide, .inl (cI, 96, .inl f_sr_tide)), (o1_se_strake, .inl (cI, 12, .inl f_o1_se_strake)), (o1_se_side, .inl (cI, 12, .inl f_o1_se_side)), (h_mayBegin, .inl (cI, 5, .inl f_h_mayBegin')), (h_hands, .inl (cJ, 5, .inr (.inl f_h_hands'))), (o1_se_hands, .inl (cI, 12, .inl f_o1_se_hands)), (sr_rules, .inl (cI, 8, .inl f_sr_rules)), (o1_se_pitch, .inl (cI, 12, .inl f_o1_se_pitch)), (o1_se_worth, .inl (cI, 12, .inl f_o1_se_worth)), (h_tried, .inl (cI, 5, .inl f_h_tried')), (h_begins, .inl (cI, 5, .inl f_h_begins'))] := by
  refine k_enter (y := yX2_make) (wl := wsX2_make) (rm := rm_X2_make) (av := [.ref h, .ref o1, .int a2]) (D := D) (tys := k_tys cI cZ cJ cS) (ws := [(h, .inr (2, [.ref h_seam, .ref h_hours, .ref h_mayBegin, .ref h_tried, .ref h_begins, .ref h_hands, .long v_h_menShort, .int v_h_size, .int v_h_planned, .int v_h_worth, .int v_h_pitch])), (o1, .inr (4, [.ref sr, .ref o1_th, .ref o1_ta, .ref o1_se, .int v_o1_hour, .int v_o1_heel, .int v_o1_water, .int v_o1_pitch, .int v_o1_boatUsed, .int v_o1_heelWent, .int v_o1_pitchTaken, .int v_o1_hoursOfMen, .int v_o1_parted, .int v_o1_moved])), (o1_se, .inr (3, [.ref o1_se_strake, .ref o1_se_side, .ref o1_se_hands, .ref o1_se_hours, .ref o1_se_pitch, .ref o1_se_worth, .ref o1_se_state, .ref o1_se_done, .int v_o1_se_size])), (o1_se_state, .inl (cI, 12, .inl f_o1_se_state)), (h_seam, .inl (cI, 5, .inl f_h_seam)), (o1_se_hours, .inl (cI, 12, .inl f_o1_se_hours)), (o1_se_done, .inl (cI, 12, .inl f_o1_se_done)), (h_hours, .inl (cI, 5, .inl f_h_hours)), (sr, .inr (5, [.ref sr_tide, .ref sr_rain, .ref sr_rules])), (sr_rain, .inl (cZ, 96, .inl f_sr_rain)), (sr_tide, .inl (cI, 96, .inl f_sr_tide)), (o1_se_strake, .inl (cI, 12, .inl f_o1_se_strake)), (o1_se_side, .inl (cI, 12, .inl f_o1_se_side)), (h_mayBegin, .inl (cI, 5, .inl f_h_mayBegin)), (h_hands, .inl (cJ, 5, .inr (.inl f_h_hands))), (o1_se_hands, .inl (cI, 12, .inl f_o1_se_hands)), (sr_rules, .inl (cI, 8, .inl f_sr_rules)), (o1_se_pitch, .inl (cI, 12, .inl f_o1_se_pitch)), (o1_se_worth, .inl (cI, 12, .inl f_o1_se_worth)), (h_tried, .inl (cI, 5, .inl f_h_tried)), (h_begins, .inl (cI, 5, .inl f_h_begins))]) (cc := cX2_make) (maxL := 4) (ret := none) (Qc := fun A => k_Qv D (k_tys cI cZ cJ cS) [(h, .inr (2, [.ref h_seam, .ref h_hours, .ref h_mayBegin, .ref h_tried, .ref h_begins, .ref h_hands, .long v_h_menShort', .int v_h_size', .int v_h_planned', .int v_h_worth', .int v_h_pitch'])), (o1, .inr (4, [.ref sr, .ref o1_th, .ref o1_ta, .ref o1_se, .int v_o1_hour, .int v_o1_heel, .int v_o1_water, .int v_o1_pitch, .int v_o1_boatUsed, .int v_o1_heelWent, .int v_o1_pitchTaken, .int v_o1_hoursOfMen, .int v_o1_parted, .int v_o1_moved])), (o1_se, .inr (3, [.ref o1_se_strake, .ref o1_se_side, .ref o1_se_hands, .ref o1_se_hours, .ref o1_se_pitch, .ref o1_se_worth, .ref o1_se_state, .ref o1_se_done, .int v_o1_se_size])), (o1_se_state, .inl (cI, 12, .inl f_o1_se_state)), (h_seam, .inl (cI, 5, .inl f_h_seam')), (o1_se_hours, .inl (cI, 12, .inl f_o1_se_hours)), (o1_se_done, .inl (cI, 12, .inl f_o1_se_done)), (h_hours, .inl (cI, 5, .inl f_h_hours')), (sr, .inr (5, [.ref sr_tide, .ref sr_rain, .ref sr_rules])), (sr_rain, .inl (cZ, 96, .inl f_sr_rain)), (sr_tide, .inl (cI, 96, .inl f_sr_tide)), (o1_se_strake, .inl (cI, 12, .inl f_o1_se_strake)), (o1_se_side, .inl (cI, 12, .inl f_o1_se_side)), (h_mayBegin, .inl (cI, 5, .inl f_h_mayBegin')), (h_hands, .inl (cJ, 5, .inr (.inl f_h_hands'))), (o1_se_hands, .inl (cI, 12, .inl f_o1_se_hands)), (sr_rules, .inl (cI, 8, .inl f_sr_rules)), (o1_se_pitch, .inl (cI, 12, .inl f_o1_se_pitch)), (o1_se_worth, .inl (cI, 12, .inl f_o1_se_worth)), (h_tried, .inl (cI, 5, .inl f_h_tried')), (h_begins, .inl (cI, 5, .inl f_h_begins'))] A) (by decide) rfl (Nat.le_of_ble_eq_true rfl) [(0, .ref h), (1, .ref o1), (2, .int a2)] rfl ?_
  intro p e s m below meth c A hx hb hml hr hlocks hnm hown hK hP hD hA hS hN ls args Q hts hl hQ
  replace hown : s.vm.findClass RX2 = some m.cls := hown
  have S0 : CallFix p m c cX2_make 4 s args wsX2_make RX2 := ⟨hx, hb, hml, hown, hts⟩
  have inX4 : ∀ w ∈ u_ws RX4 TX4 14, w ∈ wsX2_make := fun w h => List.mem_cons_of_mem _ (List.mem_append_left _ (List.mem_append_left _ (List.mem_append_left _ (List.mem_append_right _ h))))
  have inX5 : ∀ w ∈ u_ws RX5 TX5 3, w ∈ wsX2_make := fun w h => List.mem_cons_of_mem _ (List.mem_append_left _ (List.mem_append_left _ (List.mem_append_right _ h)))
  have inX2 : ∀ w ∈ u_ws RX2 TX2 11, w ∈ wsX2_make := fun w h => List.mem_cons_of_mem _ (List.mem_append_left _ (List.mem_append_right _ h))
  have wl1 : (Cond.fieldLink RX2 35 "BeachedShip$Ship" "shore" "LBeachedShip$Shore;").before args s = true := hts _ (List.mem_of_getElem? (i := 1) rfl)
  have wl2 : (Cond.fieldLink RX2 41 "BeachedShip$Shore" "rules" "[I").before args s = true := hts _ (List.mem_of_getElem? (i := 2) rfl)
  have wl3 : (Cond.constantLong RX2 46 (72340172838076673)).before args s = true := hts _ (List.mem_of_getElem? (i := 3) rfl)
  have wl4 : (Cond.fieldLink RX2 48 "BeachedShip$Planner" "menShort" "J").before args s = true := hts _ (List.mem_of_getElem? (i := 4) rfl)
  have wl5 : (Cond.fieldLink RX2 52 "BeachedShip$Planner" "planned" "I").before args s = true := hts _ (List.mem_of_getElem? (i := 5) rfl)
  have wl6 : (Cond.fieldLink RX2 56 "BeachedShip$Planner" "worth" "I").before args s = true := hts _ (List.mem_of_getElem? (i := 6) rfl)
  have wl7 : (Cond.fieldLink RX2 59 "BeachedShip$Planner" "pitch" "I").before args s = true := hts _ (List.mem_of_getElem? (i := 7) rfl)
  have wl8 : (Cond.fieldLink RX2 62 "BeachedShip$Planner" "size" "I").before args s = true := hts _ (List.mem_of_getElem? (i := 8) rfl)
  have hRet : ∀ (v_h_menShort_z : Int64) (v_h_size_z : Int32) (v_h_planned_z : Int32) (v_h_worth_z : Int32) (v_h_pitch_z : Int32) (f_h_seam_z : Nat → Int32) (f_h_hours_z : Nat → Int32) (f_h_mayBegin_z : Nat → Int32) (f_h_hands_z : Nat → Int64) (f_h_tried_z : Nat → Int32) (f_h_begins_z : Nat → Int32), some (v_h_menShort_z, v_h_size_z, v_h_planned_z, v_h_worth_z, v_h_pitch_z, f_h_seam_z, f_h_hours_z, f_h_mayBegin_z, f_h_hands_z, f_h_tried_z, f_h_begins_z) = some (v_h_menShort', v_h_size', v_h_planned', v_h_worth', v_h_pitch', f_h_seam', f_h_hours', f_h_mayBegin', f_h_hands', f_h_tried', f_h_begins') → ∀ (H : Heap) (locs : List Loc) (ls : Array Slot) (pc : Nat), va_P D vwCl [(h, .inr (2, [.ref h_seam, .ref h_hours, .ref h_mayBegin, .ref h_tried, .ref h_begins, .ref h_hands, .long v_h_menShort_z, .int v_h_size_z, .int v_h_planned_z, .int v_h_worth_z, .int v_h_pitch_z])), (o1, .inr (4, [.ref sr, .ref o1_th, .ref o1_ta, .ref o1_se, .int v_o1_hour, .int v_o1_heel, .int v_o1_water, .int v_o1_pitch, .int v_o1_boatUsed, .int v_o1_heelWent, .int v_o1_pitchTaken, .int v_o1_hoursOfMen, .int v_o1_parted, .int v_o1_moved])), (o1_se, .inr (3, [.ref o1_se_strake, .ref o1_se_side, .ref o1_se_hands, .ref o1_se_hours, .ref o1_se_pitch, .ref o1_se_worth, .ref o1_se_state, .ref o1_se_done, .int v_o1_se_size])), (o1_se_state, .inl (cI, 12, .inl f_o1_se_state)), (h_seam, .inl (cI, 5, .inl f_h_seam_z)), (o1_se_hours, .inl (cI, 12, .inl f_o1_se_hours)), (o1_se_done, .inl (cI, 12, .inl f_o1_se_done)), (h_hours, .inl (cI, 5, .inl f_h_hours_z)), (sr, .inr (5, [.ref sr_tide, .ref sr_rain, .ref sr_rules])), (sr_rain, .inl (cZ, 96, .inl f_sr_rain)), (sr_tide, .inl (cI, 96, .inl f_sr_tide)), (o1_se_strake, .inl (cI, 12, .inl f_o1_se_strake)), (o1_se_side, .inl (cI, 12, .inl f_o1_se_side)), (h_mayBegin, .inl (cI, 5, .inl f_h_mayBegin_z)), (h_hands, .inl (cJ, 5, .inr (.inl f_h_hands_z))), (o1_se_hands, .inl (cI, 12, .inl f_o1_se_hands)), (sr_rules, .inl (cI, 8, .inl f_sr_rules)), (o1_se_pitch, .inl (cI, 12, .inl f_o1_se_pitch)), (o1_se_worth, .inl (cI, 12, .inl f_o1_se_worth)), (h_tried, .inl (cI, 5, .inl f_h_tried_z)), (h_begins, .inl (cI, 5, .inl f_h_begins_z))] H → va_D A [(h, .inr (2, [.ref h_seam, .ref h_hours, .ref h_mayBegin, .ref h_tried, .ref h_begins, .ref h_hands, .long v_h_menShort_z, .int v_h_size_z, .int v_h_planned_z, .int v_h_worth_z, .int v_h_pitch_z])), (o1, .inr (4, [.ref sr, .ref o1_th, .ref o1_ta, .ref o1_se, .int v_o1_hour, .int v_o1_heel, .int v_o1_water, .int v_o1_pitch, .int v_o1_boatUsed, .int v_o1_heelWent, .int v_o1_pitchTaken, .int v_o1_hoursOfMen, .int v_o1_parted, .int v_o1_moved])), (o1_se, .inr (3, [.ref o1_se_strake, .ref o1_se_side, .ref o1_se_hands, .ref o1_se_hours, .ref o1_se_pitch, .ref o1_se_worth, .ref o1_se_state, .ref o1_se_done, .int v_o1_se_size])), (o1_se_state, .inl (cI, 12, .inl f_o1_se_state)), (h_seam, .inl (cI, 5, .inl f_h_seam_z)), (o1_se_hours, .inl (cI, 12, .inl f_o1_se_hours)), (o1_se_done, .inl (cI, 12, .inl f_o1_se_done)), (h_hours, .inl (cI, 5, .inl f_h_hours_z)), (sr, .inr (5, [.ref sr_tide, .ref sr_rain, .ref sr_rules])), (sr_rain, .inl (cZ, 96, .inl f_sr_rain)), (sr_tide, .inl (cI, 96, .inl f_sr_tide)), (o1_se_strake, .inl (cI, 12, .inl f_o1_se_strake)), (o1_se_side, .inl (cI, 12, .inl f_o1_se_side)), (h_mayBegin, .inl (cI, 5, .inl f_h_mayBegin_z)), (h_hands, .inl (cJ, 5, .inr (.inl f_h_hands_z))), (o1_se_hands, .inl (cI, 12, .inl f_o1_se_hands)), (sr_rules, .inl (cI, 8, .inl f_sr_rules)), (o1_se_pitch, .inl (cI, 12, .inl f_o1_se_pitch)), (o1_se_worth, .inl (cI, 12, .inl f_o1_se_worth)), (h_tried, .inl (cI, 5, .inl f_h_tried_z)), (h_begins, .inl (cI, 5, .inl f_h_begins_z))] → va_S A s.heap H locs → decode cX2_make pc = .ok (.return_, 1) → W p l e rm_X2_make s m args below meth c H locs 0 0 Q (F0 m pc ls []) := by
    intro v_h_menShort_z v_h_size_z v_h_planned_z v_h_worth_z v_h_pitch_z f_h_seam_z f_h_hours_z f_h_mayBegin_z f_h_hands_z f_h_tried_z f_h_begins_z hz H locs ls pc hP hD hS hd
    cases hz
    exact k_vret hx hb hr hlocks hK hP hD hS hQ hd
  unfold p_X2_make at hf
  refine lv_aload_n hx hb dX2_make_0 rfl (lv_at hl 0 rfl) ?_
  refine lv_aload_n hx hb dX2_make_1 rfl (lv_at hl 1 rfl) ?_
  refine lv_iload_n hx hb dX2_make_2 rfl (lv_at hl 2 rfl) ?_
  obtain ⟨w_h_size_1, w_h_seam_2, w_h_hours_3, w_h_mayBegin_4, w_h_hands_5, hc5, hf⟩ := k_b5_some hf
  refine k_Vv (ws2 := [(h, .inr (2, [.ref h_seam, .ref h_hours, .ref h_mayBegin, .ref h_tried, .ref h_begins, .ref h_hands, .long v_h_menShort, .int w_h_size_1, .int v_h_planned, .int v_h_worth, .int v_h_pitch])), (o1, .inr (4, [.ref sr, .ref o1_th, .ref o1_ta, .ref o1_se, .int v_o1_hour, .int v_o1_heel, .int v_o1_water, .int v_o1_pitch, .int v_o1_boatUsed, .int v_o1_heelWent, .int v_o1_pitchTaken, .int v_o1_hoursOfMen, .int v_o1_parted, .int v_o1_moved])), (o1_se, .inr (3, [.ref o1_se_strake, .ref o1_se_side, .ref o1_se_hands, .ref o1_se_hours, .ref o1_se_pitch, .ref o1_se_worth, .ref o1_se_state, .ref o1_se_done, .int v_o1_se_size])), (o1_se_state, .inl (cI, 12, .inl f_o1_se_state)), (h_seam, .inl (cI, 5, .inl w_h_seam_2)), (o1_se_hours, .inl (cI, 12, .inl f_o1_se_hours)), (o1_se_done, .inl (cI, 12, .inl f_o1_se_done)), (h_hours, .inl (cI, 5, .inl w_h_hours_3)), (sr, .inr (5, [.ref sr_tide, .ref sr_rain, .ref sr_rules])), (sr_rain, .inl (cZ, 96, .inl f_sr_rain)), (sr_tide, .inl (cI, 96, .inl f_sr_tide)), (o1_se_strake, .inl (cI, 12, .inl f_o1_se_strake)), (o1_se_side, .inl (cI, 12, .inl f_o1_se_side)), (h_mayBegin, .inl (cI, 5, .inl w_h_mayBegin_4)), (h_hands, .inl (cJ, 5, .inr (.inl w_h_hands_5))), (o1_se_hands, .inl (cI, 12, .inl f_o1_se_hands)), (sr_rules, .inl (cI, 8, .inl f_sr_rules)), (o1_se_pitch, .inl (cI, 12, .inl f_o1_se_pitch)), (o1_se_worth, .inl (cI, 12, .inl f_o1_se_worth)), (h_tried, .inl (cI, 5, .inl f_h_tried)), (h_begins, .inl (cI, 5, .inl f_h_begins))]) (q0 := 0) (As := [.ref o1, .int a2]) (rest := []) S0 (c_X2_gather l D cI cZ cJ cS h h_seam h_hours h_mayBegin h_tried h_begins h_hands o1 sr o1_th o1_ta o1_se o1_se_strake o1_se_side o1_se_hands o1_se_hours o1_se_pitch o1_se_worth o1_se_state o1_se_done sr_tide sr_rain sr_rules v_h_menShort v_h_size v_h_planned v_h_worth v_h_pitch v_o1_hour v_o1_heel v_o1_water v_o1_pitch v_o1_boatUsed v_o1_heelWent v_o1_pitchTaken v_o1_hoursOfMen v_o1_parted v_o1_moved v_o1_se_size f_o1_se_state f_h_seam f_o1_se_hours f_o1_se_done f_h_hours f_sr_rain f_sr_tide f_o1_se_strake f_o1_se_side f_h_mayBegin f_h_hands f_o1_se_hands a2 w_h_size_1 w_h_seam_2 w_h_hours_3 w_h_mayBegin_4 w_h_hands_5 hc5) (cwV 2 hts gX2_make_X2_gather rfl rfl rfl hdV_X2_gather ⟨Nat.le_of_ble_eq_true rfl, Nat.le_of_ble_eq_true rfl⟩) hK hP hD hS hA hN [0, 1, 2, 3, 4, 5, 6, 7, 8, 9, 10, 11, 12, 13, 14, 15] rfl (by decide) rfl rfl rfl rfl hl.1 rfl (Nat.le_of_ble_eq_true rfl) rfl (k_put_of [16, 17, 18, 19, 20] (by decide) rfl rfl rfl rfl rfl) rfl dX2_make_3 (fun H locs hP hD hS => ?_)
  refine lv_aload_n hx hb dX2_make_6 rfl (lv_at hl 0 rfl) ?_
  refine lv_bipush (v := 127) hx hb dX2_make_7 (by decide) ?_
  refine lv_aload_n hx hb dX2_make_9 rfl (lv_at hl 1 rfl) ?_
  refine k_get (C := RX4) (T := TX4) (N := 14) hx hb hts inX4 hown hK hP 1 rfl rfl 0 (by decide) rfl wl1 rfl dX2_make_10 ?_
  refine k_get (C := RX5) (T := TX5) (N := 3) hx hb hts inX5 hown hK hP 8 rfl rfl 2 (by decide) rfl wl2 rfl dX2_make_13 ?_
  refine lv_iconst (v := 3) hx hb dX2_make_16 (by decide) ?_
  refine k_iald (k := 3) hx hb hK hP 16 0 rfl rfl (by unfold vp_in; decide) (by decide) dX2_make_17 ?_
  refine lv_isub hx hb dX2_make_18 ?_
  refine lv_i2l (v := (127 - (f_sr_rules 3)).toInt64) hx hb dX2_make_19 rfl ?_
  refine lv_ldc2 hx hb hown wl3 dX2_make_20 ?_
  refine lv_lmul hx hb dX2_make_23 ?_
  refine k_putf (ws2 := [(h, .inr (2, [.ref h_seam, .ref h_hours, .ref h_mayBegin, .ref h_tried, .ref h_begins, .ref h_hands, .long (((127 - (f_sr_rules 3)).toInt64) * 72340172838076673), .int w_h_size_1, .int v_h_planned, .int v_h_worth, .int v_h_pitch])), (o1, .inr (4, [.ref sr, .ref o1_th, .ref o1_ta, .ref o1_se, .int v_o1_hour, .int v_o1_heel, .int v_o1_water, .int v_o1_pitch, .int v_o1_boatUsed, .int v_o1_heelWent, .int v_o1_pitchTaken, .int v_o1_hoursOfMen, .int v_o1_parted, .int v_o1_moved])), (o1_se, .inr (3, [.ref o1_se_strake, .ref o1_se_side, .ref o1_se_hands, .ref o1_se_hours, .ref o1_se_pitch, .ref o1_se_worth, .ref o1_se_state, .ref o1_se_done, .int v_o1_se_size])), (o1_se_state, .inl (cI, 12, .inl f_o1_se_state)), (h_seam, .inl (cI, 5, .inl w_h_seam_2)), (o1_se_hours, .inl (cI, 12, .inl f_o1_se_hours)), (o1_se_done, .inl (cI, 12, .inl f_o1_se_done)), (h_hours, .inl (cI, 5, .inl w_h_hours_3)), (sr, .inr (5, [.ref sr_tide, .ref sr_rain, .ref sr_rules])), (sr_rain, .inl (cZ, 96, .inl f_sr_rain)), (sr_tide, .inl (cI, 96, .inl f_sr_tide)), (o1_se_strake, .inl (cI, 12, .inl f_o1_se_strake)), (o1_se_side, .inl (cI, 12, .inl f_o1_se_side)), (h_mayBegin, .inl (cI, 5, .inl w_h_mayBegin_4)), (h_hands, .inl (cJ, 5, .inr (.inl w_h_hands_5))), (o1_se_hands, .inl (cI, 12, .inl f_o1_se_hands)), (sr_rules, .inl (cI, 8, .inl f_sr_rules)), (o1_se_pitch, .inl (cI, 12, .inl f_o1_se_pitch)), (o1_se_worth, .inl (cI, 12, .inl f_o1_se_worth)), (h_tried, .inl (cI, 5, .inl f_h_tried)), (h_begins, .inl (cI, 5, .inl f_h_begins))]) (C := RX2) (T := TX2) (N := 11) hx hb hts inX2 tyX2 tyX2_ok nmX2 hown hK hP hD hS 0 rfl rfl 6 (by decide) rfl wl4 rfl rfl rfl (Nat.le_of_ble_eq_true rfl) rfl dX2_make_24 (fun H locs hP hD hS => ?_)
  refine lv_aload_n hx hb dX2_make_27 rfl (lv_at hl 0 rfl) ?_
  refine lv_iconst (v := 0) hx hb dX2_make_28 (by decide) ?_
  refine k_putf (ws2 := [(h, .inr (2, [.ref h_seam, .ref h_hours, .ref h_mayBegin, .ref h_tried, .ref h_begins, .ref h_hands, .long (((127 - (f_sr_rules 3)).toInt64) * 72340172838076673), .int w_h_size_1, .int 0, .int v_h_worth, .int v_h_pitch])), (o1, .inr (4, [.ref sr, .ref o1_th, .ref o1_ta, .ref o1_se, .int v_o1_hour, .int v_o1_heel, .int v_o1_water, .int v_o1_pitch, .int v_o1_boatUsed, .int v_o1_heelWent, .int v_o1_pitchTaken, .int v_o1_hoursOfMen, .int v_o1_parted, .int v_o1_moved])), (o1_se, .inr (3, [.ref o1_se_strake, .ref o1_se_side, .ref o1_se_hands, .ref o1_se_hours, .ref o1_se_pitch, .ref o1_se_worth, .ref o1_se_state, .ref o1_se_done, .int v_o1_se_size])), (o1_se_state, .inl (cI, 12, .inl f_o1_se_state)), (h_seam, .inl (cI, 5, .inl w_h_seam_2)), (o1_se_hours, .inl (cI, 12, .inl f_o1_se_hours)), (o1_se_done, .inl (cI, 12, .inl f_o1_se_done)), (h_hours, .inl (cI, 5, .inl w_h_hours_3)), (sr, .inr (5, [.ref sr_tide, .ref sr_rain, .ref sr_rules])), (sr_rain, .inl (cZ, 96, .inl f_sr_rain)), (sr_tide, .inl (cI, 96, .inl f_sr_tide)), (o1_se_strake, .inl (cI, 12, .inl f_o1_se_strake)), (o1_se_side, .inl (cI, 12, .inl f_o1_se_side)), (h_mayBegin, .inl (cI, 5, .inl w_h_mayBegin_4)), (h_hands, .inl (cJ, 5, .inr (.inl w_h_hands_5))), (o1_se_hands, .inl (cI, 12, .inl f_o1_se_hands)), (sr_rules, .inl (cI, 8, .inl f_sr_rules)), (o1_se_pitch, .inl (cI, 12, .inl f_o1_se_pitch)), (o1_se_worth, .inl (cI, 12, .inl f_o1_se_worth)), (h_tried, .inl (cI, 5, .inl f_h_tried)), (h_begins, .inl (cI, 5, .inl f_h_begins))]) (C := RX2) (T := TX2) (N := 11) hx hb hts inX2 tyX2 tyX2_ok nmX2 hown hK hP hD hS 0 rfl rfl 8 (by decide) rfl wl5 rfl rfl rfl (Nat.le_of_ble_eq_true rfl) rfl dX2_make_29 (fun H locs hP hD hS => ?_)
  refine lv_aload_n hx hb dX2_make_32 rfl (lv_at hl 0 rfl) ?_
  refine lv_iconst (v := 0) hx hb dX2_make_33 (by decide) ?_
  refine k_putf (ws2 := [(h, .inr (2, [.ref h_seam, .ref h_hours, .ref h_mayBegin, .ref h_tried, .ref h_begins, .ref h_hands, .long (((127 - (f_sr_rules 3)).toInt64) * 72340172838076673), .int w_h_size_1, .int 0, .int 0, .int v_h_pitch])), (o1, .inr (4, [.ref sr, .ref o1_th, .ref o1_ta, .ref o1_se, .int v_o1_hour, .int v_o1_heel, .int v_o1_water, .int v_o1_pitch, .int v_o1_boatUsed, .int v_o1_heelWent, .int v_o1_pitchTaken, .int v_o1_hoursOfMen, .int v_o1_parted, .int v_o1_moved])), (o1_se, .inr (3, [.ref o1_se_strake, .ref o1_se_side, .ref o1_se_hands, .ref o1_se_hours, .ref o1_se_pitch, .ref o1_se_worth, .ref o1_se_state, .ref o1_se_done, .int v_o1_se_size])), (o1_se_state, .inl (cI, 12, .inl f_o1_se_state)), (h_seam, .inl (cI, 5, .inl w_h_seam_2)), (o1_se_hours, .inl (cI, 12, .inl f_o1_se_hours)), (o1_se_done, .inl (cI, 12, .inl f_o1_se_done)), (h_hours, .inl (cI, 5, .inl w_h_hours_3)), (sr, .inr (5, [.ref sr_tide, .ref sr_rain, .ref sr_rules])), (sr_rain, .inl (cZ, 96, .inl f_sr_rain)), (sr_tide, .inl (cI, 96, .inl f_sr_tide)), (o1_se_strake, .inl (cI, 12, .inl f_o1_se_strake)), (o1_se_side, .inl (cI, 12, .inl f_o1_se_side)), (h_mayBegin, .inl (cI, 5, .inl w_h_mayBegin_4)), (h_hands, .inl (cJ, 5, .inr (.inl w_h_hands_5))), (o1_se_hands, .inl (cI, 12, .inl f_o1_se_hands)), (sr_rules, .inl (cI, 8, .inl f_sr_rules)), (o1_se_pitch, .inl (cI, 12, .inl f_o1_se_pitch)), (o1_se_worth, .inl (cI, 12, .inl f_o1_se_worth)), (h_tried, .inl (cI, 5, .inl f_h_tried)), (h_begins, .inl (cI, 5, .inl f_h_begins))]) (C := RX2) (T := TX2) (N := 11) hx hb hts inX2 tyX2 tyX2_ok nmX2 hown hK hP hD hS 0 rfl rfl 9 (by decide) rfl wl6 rfl rfl rfl (Nat.le_of_ble_eq_true rfl) rfl dX2_make_34 (fun H locs hP hD hS => ?_)
  refine lv_aload_n hx hb dX2_make_37 rfl (lv_at hl 0 rfl) ?_
  refine lv_iconst (v := 0) hx hb dX2_make_38 (by decide) ?_
  refine k_putf (ws2 := [(h, .inr (2, [.ref h_seam, .ref h_hours, .ref h_mayBegin, .ref h_tried, .ref h_begins, .ref h_hands, .long (((127 - (f_sr_rules 3)).toInt64) * 72340172838076673), .int w_h_size_1, .int 0, .int 0, .int 0])), (o1, .inr (4, [.ref sr, .ref o1_th, .ref o1_ta, .ref o1_se, .int v_o1_hour, .int v_o1_heel, .int v_o1_water, .int v_o1_pitch, .int v_o1_boatUsed, .int v_o1_heelWent, .int v_o1_pitchTaken, .int v_o1_hoursOfMen, .int v_o1_parted, .int v_o1_moved])), (o1_se, .inr (3, [.ref o1_se_strake, .ref o1_se_side, .ref o1_se_hands, .ref o1_se_hours, .ref o1_se_pitch, .ref o1_se_worth, .ref o1_se_state, .ref o1_se_done, .int v_o1_se_size])), (o1_se_state, .inl (cI, 12, .inl f_o1_se_state)), (h_seam, .inl (cI, 5, .inl w_h_seam_2)), (o1_se_hours, .inl (cI, 12, .inl f_o1_se_hours)), (o1_se_done, .inl (cI, 12, .inl f_o1_se_done)), (h_hours, .inl (cI, 5, .inl w_h_hours_3)), (sr, .inr (5, [.ref sr_tide, .ref sr_rain, .ref sr_rules])), (sr_rain, .inl (cZ, 96, .inl f_sr_rain)), (sr_tide, .inl (cI, 96, .inl f_sr_tide)), (o1_se_strake, .inl (cI, 12, .inl f_o1_se_strake)), (o1_se_side, .inl (cI, 12, .inl f_o1_se_side)), (h_mayBegin, .inl (cI, 5, .inl w_h_mayBegin_4)), (h_hands, .inl (cJ, 5, .inr (.inl w_h_hands_5))), (o1_se_hands, .inl (cI, 12, .inl f_o1_se_hands)), (sr_rules, .inl (cI, 8, .inl f_sr_rules)), (o1_se_pitch, .inl (cI, 12, .inl f_o1_se_pitch)), (o1_se_worth, .inl (cI, 12, .inl f_o1_se_worth)), (h_tried, .inl (cI, 5, .inl f_h_tried)), (h_begins, .inl (cI, 5, .inl f_h_begins))]) (C := RX2) (T := TX2) (N := 11) hx hb hts inX2 tyX2 tyX2_ok nmX2 hown hK hP hD hS 0 rfl rfl 10 (by decide) rfl wl7 rfl rfl rfl (Nat.le_of_ble_eq_true rfl) rfl dX2_make_39 (fun H locs hP hD hS => ?_)
  refine lv_iconst (v := 1) hx hb dX2_make_42 (by decide) ?_
  refine lv_istore_n (lv' := [(3, .int 1), (0, .ref h), (1, .ref o1), (2, .int a2)]) hx hb dX2_make_43 rfl hl (by decide) rfl (fun ls hl => ?_)
  obtain ⟨ee24, hlp24, hfr24⟩ := k_b5_ee hf
  have hE24 : ∀ (c_h_begins_25 : Nat → Int32) (c_h_tried_26 : Nat → Int32) (c_h_pitch_27 : Int32) (c_h_planned_28 : Int32) (c_h_worth_29 : Int32), ee24 = (c_h_begins_25, c_h_tried_26, c_h_pitch_27, c_h_planned_28, c_h_worth_29) → ∀ (H : Heap) (locs : List Loc) (ls : Array Slot), va_P D vwCl [(h, .inr (2, [.ref h_seam, .ref h_hours, .ref h_mayBegin, .ref h_tried, .ref h_begins, .ref h_hands, .long (((127 - (f_sr_rules 3)).toInt64) * 72340172838076673), .int w_h_size_1, .int c_h_planned_28, .int c_h_worth_29, .int c_h_pitch_27])), (o1, .inr (4, [.ref sr, .ref o1_th, .ref o1_ta, .ref o1_se, .int v_o1_hour, .int v_o1_heel, .int v_o1_water, .int v_o1_pitch, .int v_o1_boatUsed, .int v_o1_heelWent, .int v_o1_pitchTaken, .int v_o1_hoursOfMen, .int v_o1_parted, .int v_o1_moved])), (o1_se, .inr (3, [.ref o1_se_strake, .ref o1_se_side, .ref o1_se_hands, .ref o1_se_hours, .ref o1_se_pitch, .ref o1_se_worth, .ref o1_se_state, .ref o1_se_done, .int v_o1_se_size])), (o1_se_state, .inl (cI, 12, .inl f_o1_se_state)), (h_seam, .inl (cI, 5, .inl w_h_seam_2)), (o1_se_hours, .inl (cI, 12, .inl f_o1_se_hours)), (o1_se_done, .inl (cI, 12, .inl f_o1_se_done)), (h_hours, .inl (cI, 5, .inl w_h_hours_3)), (sr, .inr (5, [.ref sr_tide, .ref sr_rain, .ref sr_rules])), (sr_rain, .inl (cZ, 96, .inl f_sr_rain)), (sr_tide, .inl (cI, 96, .inl f_sr_tide)), (o1_se_strake, .inl (cI, 12, .inl f_o1_se_strake)), (o1_se_side, .inl (cI, 12, .inl f_o1_se_side)), (h_mayBegin, .inl (cI, 5, .inl w_h_mayBegin_4)), (h_hands, .inl (cJ, 5, .inr (.inl w_h_hands_5))), (o1_se_hands, .inl (cI, 12, .inl f_o1_se_hands)), (sr_rules, .inl (cI, 8, .inl f_sr_rules)), (o1_se_pitch, .inl (cI, 12, .inl f_o1_se_pitch)), (o1_se_worth, .inl (cI, 12, .inl f_o1_se_worth)), (h_tried, .inl (cI, 5, .inl c_h_tried_26)), (h_begins, .inl (cI, 5, .inl c_h_begins_25))] H → va_D A [(h, .inr (2, [.ref h_seam, .ref h_hours, .ref h_mayBegin, .ref h_tried, .ref h_begins, .ref h_hands, .long (((127 - (f_sr_rules 3)).toInt64) * 72340172838076673), .int w_h_size_1, .int c_h_planned_28, .int c_h_worth_29, .int c_h_pitch_27])), (o1, .inr (4, [.ref sr, .ref o1_th, .ref o1_ta, .ref o1_se, .int v_o1_hour, .int v_o1_heel, .int v_o1_water, .int v_o1_pitch, .int v_o1_boatUsed, .int v_o1_heelWent, .int v_o1_pitchTaken, .int v_o1_hoursOfMen, .int v_o1_parted, .int v_o1_moved])), (o1_se, .inr (3, [.ref o1_se_strake, .ref o1_se_side, .ref o1_se_hands, .ref o1_se_hours, .ref o1_se_pitch, .ref o1_se_worth, .ref o1_se_state, .ref o1_se_done, .int v_o1_se_size])), (o1_se_state, .inl (cI, 12, .inl f_o1_se_state)), (h_seam, .inl (cI, 5, .inl w_h_seam_2)), (o1_se_hours, .inl (cI, 12, .inl f_o1_se_hours)), (o1_se_done, .inl (cI, 12, .inl f_o1_se_done)), (h_hours, .inl (cI, 5, .inl w_h_hours_3)), (sr, .inr (5, [.ref sr_tide, .ref sr_rain, .ref sr_rules])), (sr_rain, .inl (cZ, 96, .inl f_sr_rain)), (sr_tide, .inl (cI, 96, .inl f_sr_tide)), (o1_se_strake, .inl (cI, 12, .inl f_o1_se_strake)), (o1_se_side, .inl (cI, 12, .inl f_o1_se_side)), (h_mayBegin, .inl (cI, 5, .inl w_h_mayBegin_4)), (h_hands, .inl (cJ, 5, .inr (.inl w_h_hands_5))), (o1_se_hands, .inl (cI, 12, .inl f_o1_se_hands)), (sr_rules, .inl (cI, 8, .inl f_sr_rules)), (o1_se_pitch, .inl (cI, 12, .inl f_o1_se_pitch)), (o1_se_worth, .inl (cI, 12, .inl f_o1_se_worth)), (h_tried, .inl (cI, 5, .inl c_h_tried_26)), (h_begins, .inl (cI, 5, .inl c_h_begins_25))] → va_S A s.heap H locs → lv_has ls 4 [] → W p l e rm_X2_make s m args below meth c H locs 0 0 Q (F0 m 66 ls []) := by
    intro c_h_begins_25 c_h_tried_26 c_h_pitch_27 c_h_planned_28 c_h_worth_29 he H locs ls hP hD hS hl
    replace hf := hfr24 c_h_begins_25 c_h_tried_26 c_h_pitch_27 c_h_planned_28 c_h_worth_29 he
    exact hRet _ _ _ _ _ _ _ _ _ _ _ hf _ _ _ _ hP hD hS dX2_make_66
  refine (k_lp_ind (fun sx24 => ∀ (H : Heap) (locs : List Loc) (ls : Array Slot), va_P D vwCl [(h, .inr (2, [.ref h_seam, .ref h_hours, .ref h_mayBegin, .ref h_tried, .ref h_begins, .ref h_hands, .long (((127 - (f_sr_rules 3)).toInt64) * 72340172838076673), .int w_h_size_1, .int sx24.2.2.2.2.1, .int sx24.2.2.2.2.2, .int sx24.2.2.2.1])), (o1, .inr (4, [.ref sr, .ref o1_th, .ref o1_ta, .ref o1_se, .int v_o1_hour, .int v_o1_heel, .int v_o1_water, .int v_o1_pitch, .int v_o1_boatUsed, .int v_o1_heelWent, .int v_o1_pitchTaken, .int v_o1_hoursOfMen, .int v_o1_parted, .int v_o1_moved])), (o1_se, .inr (3, [.ref o1_se_strake, .ref o1_se_side, .ref o1_se_hands, .ref o1_se_hours, .ref o1_se_pitch, .ref o1_se_worth, .ref o1_se_state, .ref o1_se_done, .int v_o1_se_size])), (o1_se_state, .inl (cI, 12, .inl f_o1_se_state)), (h_seam, .inl (cI, 5, .inl w_h_seam_2)), (o1_se_hours, .inl (cI, 12, .inl f_o1_se_hours)), (o1_se_done, .inl (cI, 12, .inl f_o1_se_done)), (h_hours, .inl (cI, 5, .inl w_h_hours_3)), (sr, .inr (5, [.ref sr_tide, .ref sr_rain, .ref sr_rules])), (sr_rain, .inl (cZ, 96, .inl f_sr_rain)), (sr_tide, .inl (cI, 96, .inl f_sr_tide)), (o1_se_strake, .inl (cI, 12, .inl f_o1_se_strake)), (o1_se_side, .inl (cI, 12, .inl f_o1_se_side)), (h_mayBegin, .inl (cI, 5, .inl w_h_mayBegin_4)), (h_hands, .inl (cJ, 5, .inr (.inl w_h_hands_5))), (o1_se_hands, .inl (cI, 12, .inl f_o1_se_hands)), (sr_rules, .inl (cI, 8, .inl f_sr_rules)), (o1_se_pitch, .inl (cI, 12, .inl f_o1_se_pitch)), (o1_se_worth, .inl (cI, 12, .inl f_o1_se_worth)), (h_tried, .inl (cI, 5, .inl sx24.2.2.1)), (h_begins, .inl (cI, 5, .inl sx24.2.1))] H → va_D A [(h, .inr (2, [.ref h_seam, .ref h_hours, .ref h_mayBegin, .ref h_tried, .ref h_begins, .ref h_hands, .long (((127 - (f_sr_rules 3)).toInt64) * 72340172838076673), .int w_h_size_1, .int sx24.2.2.2.2.1, .int sx24.2.2.2.2.2, .int sx24.2.2.2.1])), (o1, .inr (4, [.ref sr, .ref o1_th, .ref o1_ta, .ref o1_se, .int v_o1_hour, .int v_o1_heel, .int v_o1_water, .int v_o1_pitch, .int v_o1_boatUsed, .int v_o1_heelWent, .int v_o1_pitchTaken, .int v_o1_hoursOfMen, .int v_o1_parted, .int v_o1_moved])), (o1_se, .inr (3, [.ref o1_se_strake, .ref o1_se_side, .ref o1_se_hands, .ref o1_se_hours, .ref o1_se_pitch, .ref o1_se_worth, .ref o1_se_state, .ref o1_se_done, .int v_o1_se_size])), (o1_se_state, .inl (cI, 12, .inl f_o1_se_state)), (h_seam, .inl (cI, 5, .inl w_h_seam_2)), (o1_se_hours, .inl (cI, 12, .inl f_o1_se_hours)), (o1_se_done, .inl (cI, 12, .inl f_o1_se_done)), (h_hours, .inl (cI, 5, .inl w_h_hours_3)), (sr, .inr (5, [.ref sr_tide, .ref sr_rain, .ref sr_rules])), (sr_rain, .inl (cZ, 96, .inl f_sr_rain)), (sr_tide, .inl (cI, 96, .inl f_sr_tide)), (o1_se_strake, .inl (cI, 12, .inl f_o1_se_strake)), (o1_se_side, .inl (cI, 12, .inl f_o1_se_side)), (h_mayBegin, .inl (cI, 5, .inl w_h_mayBegin_4)), (h_hands, .inl (cJ, 5, .inr (.inl w_h_hands_5))), (o1_se_hands, .inl (cI, 12, .inl f_o1_se_hands)), (sr_rules, .inl (cI, 8, .inl f_sr_rules)), (o1_se_pitch, .inl (cI, 12, .inl f_o1_se_pitch)), (o1_se_worth, .inl (cI, 12, .inl f_o1_se_worth)), (h_tried, .inl (cI, 5, .inl sx24.2.2.1)), (h_begins, .inl (cI, 5, .inl sx24.2.1))] → va_S A s.heap H locs → lv_has ls 4 [(3, .int sx24.1), (0, .ref h), (1, .ref o1)] → W p l e rm_X2_make s m args below meth c H locs 0 0 Q (F0 m 44 ls [])) (fun sx24 X24 hX24 hin24 hout24 => ?_) _ _ hlp24) _ _ _ hP hD hS (lv_sub hl [0, 1, 2] rfl)
  obtain ⟨x3_30, c_h_begins_31, c_h_tried_32, c_h_pitch_33, c_h_planned_34, c_h_worth_35⟩ := sx24
  intro H locs ls hP hD hS hl
  replace hP : va_P D vwCl [(h, .inr (2, [.ref h_seam, .ref h_hours, .ref h_mayBegin, .ref h_tried, .ref h_begins, .ref h_hands, .long (((127 - (f_sr_rules 3)).toInt64) * 72340172838076673), .int w_h_size_1, .int c_h_planned_34, .int c_h_worth_35, .int c_h_pitch_33])), (o1, .inr (4, [.ref sr, .ref o1_th, .ref o1_ta, .ref o1_se, .int v_o1_hour, .int v_o1_heel, .int v_o1_water, .int v_o1_pitch, .int v_o1_boatUsed, .int v_o1_heelWent, .int v_o1_pitchTaken, .int v_o1_hoursOfMen, .int v_o1_parted, .int v_o1_moved])), (o1_se, .inr (3, [.ref o1_se_strake, .ref o1_se_side, .ref o1_se_hands, .ref o1_se_hours, .ref o1_se_pitch, .ref o1_se_worth, .ref o1_se_state, .ref o1_se_done, .int v_o1_se_size])), (o1_se_state, .inl (cI, 12, .inl f_o1_se_state)), (h_seam, .inl (cI, 5, .inl w_h_seam_2)), (o1_se_hours, .inl (cI, 12, .inl f_o1_se_hours)), (o1_se_done, .inl (cI, 12, .inl f_o1_se_done)), (h_hours, .inl (cI, 5, .inl w_h_hours_3)), (sr, .inr (5, [.ref sr_tide, .ref sr_rain, .ref sr_rules])), (sr_rain, .inl (cZ, 96, .inl f_sr_rain)), (sr_tide, .inl (cI, 96, .inl f_sr_tide)), (o1_se_strake, .inl (cI, 12, .inl f_o1_se_strake)), (o1_se_side, .inl (cI, 12, .inl f_o1_se_side)), (h_mayBegin, .inl (cI, 5, .inl w_h_mayBegin_4)), (h_hands, .inl (cJ, 5, .inr (.inl w_h_hands_5))), (o1_se_hands, .inl (cI, 12, .inl f_o1_se_hands)), (sr_rules, .inl (cI, 8, .inl f_sr_rules)), (o1_se_pitch, .inl (cI, 12, .inl f_o1_se_pitch)), (o1_se_worth, .inl (cI, 12, .inl f_o1_se_worth)), (h_tried, .inl (cI, 5, .inl c_h_tried_32)), (h_begins, .inl (cI, 5, .inl c_h_begins_31))] H := hP
  replace hD : va_D A [(h, .inr (2, [.ref h_seam, .ref h_hours, .ref h_mayBegin, .ref h_tried, .ref h_begins, .ref h_hands, .long (((127 - (f_sr_rules 3)).toInt64) * 72340172838076673), .int w_h_size_1, .int c_h_planned_34, .int c_h_worth_35, .int c_h_pitch_33])), (o1, .inr (4, [.ref sr, .ref o1_th, .ref o1_ta, .ref o1_se, .int v_o1_hour, .int v_o1_heel, .int v_o1_water, .int v_o1_pitch, .int v_o1_boatUsed, .int v_o1_heelWent, .int v_o1_pitchTaken, .int v_o1_hoursOfMen, .int v_o1_parted, .int v_o1_moved])), (o1_se, .inr (3, [.ref o1_se_strake, .ref o1_se_side, .ref o1_se_hands, .ref o1_se_hours, .ref o1_se_pitch, .ref o1_se_worth, .ref o1_se_state, .ref o1_se_done, .int v_o1_se_size])), (o1_se_state, .inl (cI, 12, .inl f_o1_se_state)), (h_seam, .inl (cI, 5, .inl w_h_seam_2)), (o1_se_hours, .inl (cI, 12, .inl f_o1_se_hours)), (o1_se_done, .inl (cI, 12, .inl f_o1_se_done)), (h_hours, .inl (cI, 5, .inl w_h_hours_3)), (sr, .inr (5, [.ref sr_tide, .ref sr_rain, .ref sr_rules])), (sr_rain, .inl (cZ, 96, .inl f_sr_rain)), (sr_tide, .inl (cI, 96, .inl f_sr_tide)), (o1_se_strake, .inl (cI, 12, .inl f_o1_se_strake)), (o1_se_side, .inl (cI, 12, .inl f_o1_se_side)), (h_mayBegin, .inl (cI, 5, .inl w_h_mayBegin_4)), (h_hands, .inl (cJ, 5, .inr (.inl w_h_hands_5))), (o1_se_hands, .inl (cI, 12, .inl f_o1_se_hands)), (sr_rules, .inl (cI, 8, .inl f_sr_rules)), (o1_se_pitch, .inl (cI, 12, .inl f_o1_se_pitch)), (o1_se_worth, .inl (cI, 12, .inl f_o1_se_worth)), (h_tried, .inl (cI, 5, .inl c_h_tried_32)), (h_begins, .inl (cI, 5, .inl c_h_begins_31))] := hD
  replace hl : lv_has ls 4 [(3, .int x3_30), (0, .ref h), (1, .ref o1)] := hl
  replace hX24 : lb_X2_make_44 w_h_size_1 f_sr_rules v_o1_pitch w_h_seam_2 f_o1_se_done f_o1_se_pitch f_o1_se_worth w_h_mayBegin_4 w_h_hands_5 x3_30 c_h_begins_31 c_h_tried_32 c_h_pitch_33 c_h_planned_34 c_h_worth_35 = some X24 := hX24
  unfold lb_X2_make_44 at hX24
  refine lv_iload_n hx hb dX2_make_44 rfl (lv_at hl 0 rfl) ?_
  refine lv_iconst (v := 1) hx hb dX2_make_45 (by decide) ?_
  refine lv_aload_n hx hb dX2_make_46 rfl (lv_at hl 1 rfl) ?_
  refine k_get (C := RX2) (T := TX2) (N := 11) hx hb hts inX2 hown hK hP 0 rfl rfl 7 (by decide) rfl wl8 rfl dX2_make_47 ?_
  refine lv_ishl hx hb dX2_make_50 ?_
  refine lv_icmp_ge (tgt := 66) hx hb dX2_make_51 (by decide) (fun c36 => ?_) (fun c36 => ?_)
  · replace hX24 := k_pos hX24 c36
    exact hE24 _ _ _ _ _ (hout24 _ (Option.some.inj hX24).symm).symm _ _ _ hP hD hS (lv_sub hl [] rfl)
  · replace hX24 := k_neg hX24 c36
    refine lv_aload_n hx hb dX2_make_54 rfl (lv_at hl 1 rfl) ?_
    refine lv_iload_n hx hb dX2_make_55 rfl (lv_at hl 0 rfl) ?_
    refine lv_aload_n hx hb dX2_make_56 rfl (lv_at hl 2 rfl) ?_
    obtain ⟨w_h_planned_37, w_h_worth_38, w_h_pitch_39, w_h_tried_40, w_h_begins_41, hc41, hX24⟩ := k_b5_some hX24
    refine k_Vv (ws2 := [(h, .inr (2, [.ref h_seam, .ref h_hours, .ref h_mayBegin, .ref h_tried, .ref h_begins, .ref h_hands, .long (((127 - (f_sr_rules 3)).toInt64) * 72340172838076673), .int w_h_size_1, .int w_h_planned_37, .int w_h_worth_38, .int w_h_pitch_39])), (o1, .inr (4, [.ref sr, .ref o1_th, .ref o1_ta, .ref o1_se, .int v_o1_hour, .int v_o1_heel, .int v_o1_water, .int v_o1_pitch, .int v_o1_boatUsed, .int v_o1_heelWent, .int v_o1_pitchTaken, .int v_o1_hoursOfMen, .int v_o1_parted, .int v_o1_moved])), (o1_se, .inr (3, [.ref o1_se_strake, .ref o1_se_side, .ref o1_se_hands, .ref o1_se_hours, .ref o1_se_pitch, .ref o1_se_worth, .ref o1_se_state, .ref o1_se_done, .int v_o1_se_size])), (o1_se_state, .inl (cI, 12, .inl f_o1_se_state)), (h_seam, .inl (cI, 5, .inl w_h_seam_2)), (o1_se_hours, .inl (cI, 12, .inl f_o1_se_hours)), (o1_se_done, .inl (cI, 12, .inl f_o1_se_done)), (h_hours, .inl (cI, 5, .inl w_h_hours_3)), (sr, .inr (5, [.ref sr_tide, .ref sr_rain, .ref sr_rules])), (sr_rain, .inl (cZ, 96, .inl f_sr_rain)), (sr_tide, .inl (cI, 96, .inl f_sr_tide)), (o1_se_strake, .inl (cI, 12, .inl f_o1_se_strake)), (o1_se_side, .inl (cI, 12, .inl f_o1_se_side)), (h_mayBegin, .inl (cI, 5, .inl w_h_mayBegin_4)), (h_hands, .inl (cJ, 5, .inr (.inl w_h_hands_5))), (o1_se_hands, .inl (cI, 12, .inl f_o1_se_hands)), (sr_rules, .inl (cI, 8, .inl f_sr_rules)), (o1_se_pitch, .inl (cI, 12, .inl f_o1_se_pitch)), (o1_se_worth, .inl (cI, 12, .inl f_o1_se_worth)), (h_tried, .inl (cI, 5, .inl w_h_tried_40)), (h_begins, .inl (cI, 5, .inl w_h_begins_41))]) (q0 := 0) (As := [.int x3_30, .ref o1]) (rest := []) S0 (c_X2_tryOut l D cI cZ cJ cS h h_seam h_hours h_mayBegin h_tried h_begins h_hands o1 sr o1_th o1_ta o1_se o1_se_strake o1_se_side o1_se_hands o1_se_hours o1_se_pitch o1_se_worth o1_se_state o1_se_done (((127 - (f_sr_rules 3)).toInt64) * 72340172838076673) w_h_size_1 c_h_planned_34 c_h_worth_35 c_h_pitch_33 v_o1_hour v_o1_heel v_o1_water v_o1_pitch v_o1_boatUsed v_o1_heelWent v_o1_pitchTaken v_o1_hoursOfMen v_o1_parted v_o1_moved w_h_seam_2 v_o1_se_size f_o1_se_done f_o1_se_pitch f_o1_se_worth c_h_tried_32 w_h_mayBegin_4 w_h_hands_5 c_h_begins_31 x3_30 w_h_planned_37 w_h_worth_38 w_h_pitch_39 w_h_tried_40 w_h_begins_41 hc41) (cwV 2 hts gX2_make_X2_tryOut rfl rfl rfl hdV_X2_tryOut ⟨Nat.le_of_ble_eq_true rfl, Nat.le_of_ble_eq_true rfl⟩) hK hP hD hS hA hN [0, 1, 4, 2, 6, 17, 18, 19, 13, 14, 20] rfl (by decide) rfl rfl rfl rfl hl.1 rfl (Nat.le_of_ble_eq_true rfl) rfl rfl rfl dX2_make_57 (fun H locs hP hD hS => ?_)
    refine lv_iinc (v := x3_30 + 1) (lv' := [(3, .int (x3_30 + 1)), (0, .ref h), (1, .ref o1)]) hx hb dX2_make_60 hl (k := 0) rfl rfl (by decide) rfl (fun ls hl => ?_)
    refine lv_goto (tgt := 44) hx hb dX2_make_63 (by decide) ?_
    exact hin24 (x3_30 + 1, w_h_begins_41, w_h_tried_40, w_h_pitch_39, w_h_planned_37, w_h_worth_38) (Option.some.inj hX24).symm _ _ _ hP hD hS (lv_sub hl [0, 1, 2] rfl)

def lb_X2_seamBits_4 (v_h_size : Int32) (v_h_planned : Int32) (f_h_seam : Nat → Int32) (x1_12 : Int32) (x2_13 : Int32) : Option ((Int32 × Int32) ⊕ (Int32)) :=
  if v_h_size ≤ x2_13 then
    some (.inr x1_12)
  else
    k_b1 (p_X8_hasBit v_h_planned x2_13) fun r15 =>
    if r15 = 0 then
      some (.inl (x1_12 ||| 0, x2_13 + 1))
    else
      k_ix x2_13 5 (
        some (.inl (x1_12 ||| (1 <<< ((f_h_seam x2_13.toNatClampNeg) &&& 31)), x2_13 + 1)))
def p_X2_seamBits (v_h_size : Int32) (v_h_planned : Int32) (f_h_seam : Nat → Int32) : Option (Int32) :=
  k_b1 (k_lp (fun s => lb_X2_seamBits_4 v_h_size v_h_planned f_h_seam s.1 s.2) k_fuel (0, 0)) fun x1_11 =>
  some x1_11
abbrev rm_X2_seamBits : Room := { frames := 1, cells := 0, slots := 0, locals := 21 }
theorem hdS_X2_seamBits : yX2_seamBits.cls ≠ "java/lang/invoke/MethodHandle" ∧ yX2_seamBits.cls ≠ "java/lang/invoke/VarHandle" ∧ (parseMethodDescriptor yX2_seamBits.desc).map (fun d => d.parameters.length) = some 0 := by decide +kernel
theorem hdV_X2_seamBits : yX2_seamBits.cls = RX2 ∧ yX2_seamBits.cls ≠ "java/lang/invoke/MethodHandle" ∧ yX2_seamBits.cls ≠ "java/lang/invoke/VarHandle" ∧ (parseMethodDescriptor yX2_seamBits.desc).map (fun d => d.parameters.length) = some 0 := by decide +kernel
set_option maxHeartbeats 4000000 in
set_option maxRecDepth 100000 in
theorem c_X2_seamBits (l : Launch) (D : va_G) (cI cZ cJ cS : ClassId) (h h_seam h_hours h_mayBegin h_tried h_begins h_hands : Nat) (v_h_menShort : Int64) (v_h_size : Int32) (v_h_planned : Int32) (v_h_worth : Int32) (v_h_pitch : Int32) (f_h_seam : Nat → Int32) (r : Int32) (hf : p_X2_seamBits v_h_size v_h_planned f_h_seam = some r) : k_MI l yX2_seamBits wsX2_seamBits rm_X2_seamBits D (k_tys cI cZ cJ cS) [.ref h] [(h, .inr (2, [.ref h_seam, .ref h_hours, .ref h_mayBegin, .ref h_tried, .ref h_begins, .ref h_hands, .long v_h_menShort, .int v_h_size, .int v_h_planned, .int v_h_worth, .int v_h_pitch])), (h_seam, .inl (cI, 5, .inl f_h_seam))] [(h, .inr (2, [.ref h_seam, .ref h_hours, .ref h_mayBegin, .ref h_tried, .ref h_begins, .ref h_hands, .long v_h_menShort, .int v_h_size, .int v_h_planned, .int v_h_worth, .int v_h_pitch])), (h_seam, .inl (cI, 5, .inl f_h_seam))] r := by
  refine k_enter (y := yX2_seamBits) (wl := wsX2_seamBits) (rm := rm_X2_seamBits) (av := [.ref h]) (D := D) (tys := k_tys cI cZ cJ cS) (ws := [(h, .inr (2, [.ref h_seam, .ref h_hours, .ref h_mayBegin, .ref h_tried, .ref h_begins, .ref h_hands, .long v_h_menShort, .int v_h_size, .int v_h_planned, .int v_h_worth, .int v_h_pitch])), (h_seam, .inl (cI, 5, .inl f_h_seam))]) (cc := cX2_seamBits) (maxL := 3) (ret := (some .int)) (Qc := fun A => k_Qi D (k_tys cI cZ cJ cS) [(h, .inr (2, [.ref h_seam, .ref h_hours, .ref h_mayBegin, .ref h_tried, .ref h_begins, .ref h_hands, .long v_h_menShort, .int v_h_size, .int v_h_planned, .int v_h_worth, .int v_h_pitch])), (h_seam, .inl (cI, 5, .inl f_h_seam))] A r) (by decide) rfl (Nat.le_of_ble_eq_true rfl) [(0, .ref h)] rfl ?_
  intro p e s m below meth c A hx hb hml hr hlocks hnm hown hK hP hD hA hS hN ls args Q hts hl hQ
  replace hown : s.vm.findClass RX2 = some m.cls := hown
  have S0 : CallFix p m c cX2_seamBits 3 s args wsX2_seamBits RX2 := ⟨hx, hb, hml, hown, hts⟩
  have inX2 : ∀ w ∈ u_ws RX2 TX2 11, w ∈ wsX2_seamBits := fun w h => List.mem_cons_of_mem _ (List.mem_append_right _ h)
  have wl1 : (Cond.fieldLink RX2 62 "BeachedShip$Planner" "size" "I").before args s = true := hts _ (List.mem_of_getElem? (i := 1) rfl)
  have wl2 : (Cond.fieldLink RX2 52 "BeachedShip$Planner" "planned" "I").before args s = true := hts _ (List.mem_of_getElem? (i := 2) rfl)
  have wl5 : (Cond.initialized RX8).before args s = true := hts _ (List.mem_of_getElem? (i := 5) rfl)
  have wl4 : (Cond.static yX8_hasBit).before args s = true := hts _ (List.mem_of_getElem? (i := 4) rfl)
  have wl3 : (Cond.fieldLink RX2 9 "BeachedShip$Planner" "seam" "[I").before args s = true := hts _ (List.mem_of_getElem? (i := 3) rfl)
  have hRet : ∀ (r_z : Int32), some r_z = some r → ∀ (H : Heap) (locs : List Loc) (ls : Array Slot) (pc : Nat), va_P D vwCl [(h, .inr (2, [.ref h_seam, .ref h_hours, .ref h_mayBegin, .ref h_tried, .ref h_begins, .ref h_hands, .long v_h_menShort, .int v_h_size, .int v_h_planned, .int v_h_worth, .int v_h_pitch])), (h_seam, .inl (cI, 5, .inl f_h_seam))] H → va_D A [(h, .inr (2, [.ref h_seam, .ref h_hours, .ref h_mayBegin, .ref h_tried, .ref h_begins, .ref h_hands, .long v_h_menShort, .int v_h_size, .int v_h_planned, .int v_h_worth, .int v_h_pitch])), (h_seam, .inl (cI, 5, .inl f_h_seam))] → va_S A s.heap H locs → narrow .int (.int r_z) = .int r_z → decode cX2_seamBits pc = .ok (.ireturn, 1) → W p l e rm_X2_seamBits s m args below meth c H locs 0 0 Q (F0 m pc ls [.int r_z]) := by
    intro r_z hz H locs ls pc hP hD hS hn hd
    cases hz
    exact k_iret hx hb hr hlocks hn hK hP hD hS hQ rfl hd
  unfold p_X2_seamBits at hf
  refine lv_iconst (v := 0) hx hb dX2_seamBits_0 (by decide) ?_
  refine lv_istore_n (lv' := [(1, .int 0), (0, .ref h)]) hx hb dX2_seamBits_1 rfl hl (by decide) rfl (fun ls hl => ?_)
  refine lv_iconst (v := 0) hx hb dX2_seamBits_2 (by decide) ?_
  refine lv_istore_n (lv' := [(2, .int 0), (1, .int 0), (0, .ref h)]) hx hb dX2_seamBits_3 rfl hl (by decide) rfl (fun ls hl => ?_)
  obtain ⟨ee10, hlp10, hfr10⟩ := k_b1_ee hf
  have hE10 : ∀ (x1_11 : Int32), ee10 = x1_11 → ∀ (H : Heap) (locs : List Loc) (ls : Array Slot), va_P D vwCl [(h, .inr (2, [.ref h_seam, .ref h_hours, .ref h_mayBegin, .ref h_tried, .ref h_begins, .ref h_hands, .long v_h_menShort, .int v_h_size, .int v_h_planned, .int v_h_worth, .int v_h_pitch])), (h_seam, .inl (cI, 5, .inl f_h_seam))] H → va_D A [(h, .inr (2, [.ref h_seam, .ref h_hours, .ref h_mayBegin, .ref h_tried, .ref h_begins, .ref h_hands, .long v_h_menShort, .int v_h_size, .int v_h_planned, .int v_h_worth, .int v_h_pitch])), (h_seam, .inl (cI, 5, .inl f_h_seam))] → va_S A s.heap H locs → lv_has ls 3 [(1, .int x1_11)] → W p l e rm_X2_seamBits s m args below meth c H locs 0 0 Q (F0 m 44 ls []) := by
    intro x1_11 he H locs ls hP hD hS hl
    replace hf := hfr10 x1_11 he
    refine lv_iload_n hx hb dX2_seamBits_44 rfl (lv_at hl 0 rfl) ?_
    exact hRet _ hf _ _ _ _ hP hD hS rfl dX2_seamBits_45
  refine (k_lp_ind (fun sx10 => ∀ (H : Heap) (locs : List Loc) (ls : Array Slot), va_P D vwCl [(h, .inr (2, [.ref h_seam, .ref h_hours, .ref h_mayBegin, .ref h_tried, .ref h_begins, .ref h_hands, .long v_h_menShort, .int v_h_size, .int v_h_planned, .int v_h_worth, .int v_h_pitch])), (h_seam, .inl (cI, 5, .inl f_h_seam))] H → va_D A [(h, .inr (2, [.ref h_seam, .ref h_hours, .ref h_mayBegin, .ref h_tried, .ref h_begins, .ref h_hands, .long v_h_menShort, .int v_h_size, .int v_h_planned, .int v_h_worth, .int v_h_pitch])), (h_seam, .inl (cI, 5, .inl f_h_seam))] → va_S A s.heap H locs → lv_has ls 3 [(2, .int sx10.2), (1, .int sx10.1), (0, .ref h)] → W p l e rm_X2_seamBits s m args below meth c H locs 0 0 Q (F0 m 4 ls [])) (fun sx10 X10 hX10 hin10 hout10 => ?_) _ _ hlp10) _ _ _ hP hD hS (lv_sub hl [0, 1, 2] rfl)
  obtain ⟨x1_12, x2_13⟩ := sx10
  intro H locs ls hP hD hS hl
  replace hP : va_P D vwCl [(h, .inr (2, [.ref h_seam, .ref h_hours, .ref h_mayBegin, .ref h_tried, .ref h_begins, .ref h_hands, .long v_h_menShort, .int v_h_size, .int v_h_planned, .int v_h_worth, .int v_h_pitch])), (h_seam, .inl (cI, 5, .inl f_h_seam))] H := hP
  replace hD : va_D A [(h, .inr (2, [.ref h_seam, .ref h_hours, .ref h_mayBegin, .ref h_tried, .ref h_begins, .ref h_hands, .long v_h_menShort, .int v_h_size, .int v_h_planned, .int v_h_worth, .int v_h_pitch])), (h_seam, .inl (cI, 5, .inl f_h_seam))] := hD
  replace hl : lv_has ls 3 [(2, .int x2_13), (1, .int x1_12), (0, .ref h)] := hl
  replace hX10 : lb_X2_seamBits_4 v_h_size v_h_planned f_h_seam x1_12 x2_13 = some X10 := hX10
  unfold lb_X2_seamBits_4 at hX10
  refine lv_iload_n hx hb dX2_seamBits_4 rfl (lv_at hl 0 rfl) ?_
  refine lv_aload_n hx hb dX2_seamBits_5 rfl (lv_at hl 2 rfl) ?_
  refine k_get (C := RX2) (T := TX2) (N := 11) hx hb hts inX2 hown hK hP 0 rfl rfl 7 (by decide) rfl wl1 rfl dX2_seamBits_6 ?_
  refine lv_icmp_ge (tgt := 44) hx hb dX2_seamBits_9 (by decide) (fun c14 => ?_) (fun c14 => ?_)
  · replace hX10 := k_pos hX10 c14
    exact hE10 _ (hout10 _ (Option.some.inj hX10).symm).symm _ _ _ hP hD hS (lv_sub hl [1] rfl)
  · replace hX10 := k_neg hX10 c14
    refine lv_iload_n hx hb dX2_seamBits_12 rfl (lv_at hl 1 rfl) ?_
    refine lv_aload_n hx hb dX2_seamBits_13 rfl (lv_at hl 2 rfl) ?_
    refine k_get (C := RX2) (T := TX2) (N := 11) hx hb hts inX2 hown hK hP 0 rfl rfl 8 (by decide) rfl wl2 rfl dX2_seamBits_14 ?_
    refine lv_iload_n hx hb dX2_seamBits_17 rfl (lv_at hl 0 rfl) ?_
    obtain ⟨r15, hc15, hX10⟩ := k_b1_some hX10
    refine k_NiR (As := [.int v_h_planned, .int x2_13]) (rest := [.int x1_12]) S0 (c_X8_hasBit l D cI cZ cJ cS v_h_planned x2_13 r15 hc15) ⟨va_cnB 2 hts gX2_seamBits_X8_hasBit_n100 rfl rfl rfl (hN _ (List.mem_of_getElem? (i := 9) rfl)) wl5 hdS_X8_hasBit ⟨Nat.le_of_ble_eq_true rfl, Nat.le_of_ble_eq_true rfl⟩, wl4, trivial⟩ hK hP hD hS hA hN [] rfl (by decide) rfl hl.1 rfl (Nat.le_of_ble_eq_true rfl) dX2_seamBits_18 (fun H locs hP hS => ?_)
    refine lv_if_eq (tgt := 35) hx hb dX2_seamBits_21 (by decide) (fun c16 => ?_) (fun c16 => ?_)
    · replace hX10 := k_pos hX10 c16
      refine lv_iconst (v := 0) hx hb dX2_seamBits_35 (by decide) ?_
      refine lv_ior hx hb dX2_seamBits_36 ?_
      refine lv_istore_n (lv' := [(1, .int (x1_12 ||| 0)), (2, .int x2_13), (0, .ref h)]) hx hb dX2_seamBits_37 rfl hl (by decide) rfl (fun ls hl => ?_)
      refine lv_iinc (v := x2_13 + 1) (lv' := [(2, .int (x2_13 + 1)), (1, .int (x1_12 ||| 0)), (0, .ref h)]) hx hb dX2_seamBits_38 hl (k := 1) rfl rfl (by decide) rfl (fun ls hl => ?_)
      refine lv_goto (tgt := 4) hx hb dX2_seamBits_41 (by decide) ?_
      exact hin10 (x1_12 ||| 0, x2_13 + 1) (Option.some.inj hX10).symm _ _ _ hP hD hS (lv_sub hl [0, 1, 2] rfl)
    · replace hX10 := k_neg hX10 c16
      refine lv_iconst (v := 1) hx hb dX2_seamBits_24 (by decide) ?_
      refine lv_aload_n hx hb dX2_seamBits_25 rfl (lv_at hl 2 rfl) ?_
      refine k_get (C := RX2) (T := TX2) (N := 11) hx hb hts inX2 hown hK hP 0 rfl rfl 0 (by decide) rfl wl3 rfl dX2_seamBits_26 ?_
      refine lv_iload_n hx hb dX2_seamBits_29 rfl (lv_at hl 0 rfl) ?_
      obtain ⟨hi17, hX10⟩ := k_ix_some hX10
      refine k_iald (k := x2_13.toNatClampNeg) hx hb hK hP 1 0 rfl rfl hi17 rfl dX2_seamBits_30 ?_
      refine lv_ishl hx hb dX2_seamBits_31 ?_
      refine lv_goto (tgt := 36) hx hb dX2_seamBits_32 (by decide) ?_
      refine lv_ior hx hb dX2_seamBits_36 ?_
      refine lv_istore_n (lv' := [(1, .int (x1_12 ||| (1 <<< ((f_h_seam x2_13.toNatClampNeg) &&& 31)))), (2, .int x2_13), (0, .ref h)]) hx hb dX2_seamBits_37 rfl hl (by decide) rfl (fun ls hl => ?_)
      refine lv_iinc (v := x2_13 + 1) (lv' := [(2, .int (x2_13 + 1)), (1, .int (x1_12 ||| (1 <<< ((f_h_seam x2_13.toNatClampNeg) &&& 31)))), (0, .ref h)]) hx hb dX2_seamBits_38 hl (k := 1) rfl rfl (by decide) rfl (fun ls hl => ?_)
      refine lv_goto (tgt := 4) hx hb dX2_seamBits_41 (by decide) ?_
      exact hin10 (x1_12 ||| (1 <<< ((f_h_seam x2_13.toNatClampNeg) &&& 31)), x2_13 + 1) (Option.some.inj hX10).symm _ _ _ hP hD hS (lv_sub hl [0, 1, 2] rfl)

def lb_X2_beginningOf_2 (v_h_size : Int32) (v_h_planned : Int32) (f_h_seam : Nat → Int32) (a1 : Int32) (f_h_begins : Nat → Int32) (x2_13 : Int32) : Option ((Int32) ⊕ ((Int32) ⊕ (Unit))) :=
  if v_h_size ≤ x2_13 then
    some (.inr (.inr ()))
  else
    k_b1 (p_X8_hasBit v_h_planned x2_13) fun r15 =>
    if r15 = 0 then
      some (.inl (x2_13 + 1))
    else
      k_ix x2_13 5 (
        if (f_h_seam x2_13.toNatClampNeg) = a1 then
          k_ix x2_13 5 (
            some (.inr (.inl (f_h_begins x2_13.toNatClampNeg))))
        else
          some (.inl (x2_13 + 1)))
def p_X2_beginningOf (v_h_size : Int32) (v_h_planned : Int32) (f_h_seam : Nat → Int32) (f_h_begins : Nat → Int32) (a1 : Int32) : Option (Int32) :=
  k_bx0 (k_lp (fun s => lb_X2_beginningOf_2 v_h_size v_h_planned f_h_seam a1 f_h_begins s) k_fuel 0) (fun q => some q) (
    some (-4))
abbrev rm_X2_beginningOf : Room := { frames := 1, cells := 0, slots := 0, locals := 21 }
theorem hdS_X2_beginningOf : yX2_beginningOf.cls ≠ "java/lang/invoke/MethodHandle" ∧ yX2_beginningOf.cls ≠ "java/lang/invoke/VarHandle" ∧ (parseMethodDescriptor yX2_beginningOf.desc).map (fun d => d.parameters.length) = some 1 := by decide +kernel
theorem hdV_X2_beginningOf : yX2_beginningOf.cls = RX2 ∧ yX2_beginningOf.cls ≠ "java/lang/invoke/MethodHandle" ∧ yX2_beginningOf.cls ≠ "java/lang/invoke/VarHandle" ∧ (parseMethodDescriptor yX2_beginningOf.desc).map (fun d => d.parameters.length) = some 1 := by decide +kernel
set_option maxHeartbeats 4000000 in
set_option maxRecDepth 100000 in
theorem c_X2_beginningOf (l : Launch) (D : va_G) (cI cZ cJ cS : ClassId) (h h_seam h_hours h_mayBegin h_tried h_begins h_hands : Nat) (v_h_menShort : Int64) (v_h_size : Int32) (v_h_planned : Int32) (v_h_worth : Int32) (v_h_pitch : Int32) (f_h_seam : Nat → Int32) (f_h_begins : Nat → Int32) (a1 : Int32) (r : Int32) (hf : p_X2_beginningOf v_h_size v_h_planned f_h_seam f_h_begins a1 = some r) : k_MI l yX2_beginningOf wsX2_beginningOf rm_X2_beginningOf D (k_tys cI cZ cJ cS) [.ref h, .int a1] [(h, .inr (2, [.ref h_seam, .ref h_hours, .ref h_mayBegin, .ref h_tried, .ref h_begins, .ref h_hands, .long v_h_menShort, .int v_h_size, .int v_h_planned, .int v_h_worth, .int v_h_pitch])), (h_seam, .inl (cI, 5, .inl f_h_seam)), (h_begins, .inl (cI, 5, .inl f_h_begins))] [(h, .inr (2, [.ref h_seam, .ref h_hours, .ref h_mayBegin, .ref h_tried, .ref h_begins, .ref h_hands, .long v_h_menShort, .int v_h_size, .int v_h_planned, .int v_h_worth, .int v_h_pitch])), (h_seam, .inl (cI, 5, .inl f_h_seam)), (h_begins, .inl (cI, 5, .inl f_h_begins))] r := by
  refine k_enter (y := yX2_beginningOf) (wl := wsX2_beginningOf) (rm := rm_X2_beginningOf) (av := [.ref h, .int a1]) (D := D) (tys := k_tys cI cZ cJ cS) (ws := [(h, .inr (2, [.ref h_seam, .ref h_hours, .ref h_mayBegin, .ref h_tried, .ref h_begins, .ref h_hands, .long v_h_menShort, .int v_h_size, .int v_h_planned, .int v_h_worth, .int v_h_pitch])), (h_seam, .inl (cI, 5, .inl f_h_seam)), (h_begins, .inl (cI, 5, .inl f_h_begins))]) (cc := cX2_beginningOf) (maxL := 3) (ret := (some .int)) (Qc := fun A => k_Qi D (k_tys cI cZ cJ cS) [(h, .inr (2, [.ref h_seam, .ref h_hours, .ref h_mayBegin, .ref h_tried, .ref h_begins, .ref h_hands, .long v_h_menShort, .int v_h_size, .int v_h_planned, .int v_h_worth, .int v_h_pitch])), (h_seam, .inl (cI, 5, .inl f_h_seam)), (h_begins, .inl (cI, 5, .inl f_h_begins))] A r) (by decide) rfl (Nat.le_of_ble_eq_true rfl) [(0, .ref h), (1, .int a1)] rfl ?_
  intro p e s m below meth c A hx hb hml hr hlocks hnm hown hK hP hD hA hS hN ls args Q hts hl hQ
  replace hown : s.vm.findClass RX2 = some m.cls := hown
  have S0 : CallFix p m c cX2_beginningOf 3 s args wsX2_beginningOf RX2 := ⟨hx, hb, hml, hown, hts⟩
  have inX2 : ∀ w ∈ u_ws RX2 TX2 11, w ∈ wsX2_beginningOf := fun w h => List.mem_cons_of_mem _ (List.mem_append_right _ h)
  have wl1 : (Cond.fieldLink RX2 62 "BeachedShip$Planner" "size" "I").before args s = true := hts _ (List.mem_of_getElem? (i := 1) rfl)
  have wl2 : (Cond.fieldLink RX2 52 "BeachedShip$Planner" "planned" "I").before args s = true := hts _ (List.mem_of_getElem? (i := 2) rfl)
  have wl6 : (Cond.initialized RX8).before args s = true := hts _ (List.mem_of_getElem? (i := 6) rfl)
  have wl5 : (Cond.static yX8_hasBit).before args s = true := hts _ (List.mem_of_getElem? (i := 5) rfl)
  have wl3 : (Cond.fieldLink RX2 9 "BeachedShip$Planner" "seam" "[I").before args s = true := hts _ (List.mem_of_getElem? (i := 3) rfl)
  have wl4 : (Cond.fieldLink RX2 24 "BeachedShip$Planner" "begins" "[I").before args s = true := hts _ (List.mem_of_getElem? (i := 4) rfl)
  have hRet : ∀ (r_z : Int32), some r_z = some r → ∀ (H : Heap) (locs : List Loc) (ls : Array Slot) (pc : Nat), va_P D vwCl [(h, .inr (2, [.ref h_seam, .ref h_hours, .ref h_mayBegin, .ref h_tried, .ref h_begins, .ref h_hands, .long v_h_menShort, .int v_h_size, .int v_h_planned, .int v_h_worth, .int v_h_pitch])), (h_seam, .inl (cI, 5, .inl f_h_seam)), (h_begins, .inl (cI, 5, .inl f_h_begins))] H → va_D A [(h, .inr (2, [.ref h_seam, .ref h_hours, .ref h_mayBegin, .ref h_tried, .ref h_begins, .ref h_hands, .long v_h_menShort, .int v_h_size, .int v_h_planned, .int v_h_worth, .int v_h_pitch])), (h_seam, .inl (cI, 5, .inl f_h_seam)), (h_begins, .inl (cI, 5, .inl f_h_begins))] → va_S A s.heap H locs → narrow .int (.int r_z) = .int r_z → decode cX2_beginningOf pc = .ok (.ireturn, 1) → W p l e rm_X2_beginningOf s m args below meth c H locs 0 0 Q (F0 m pc ls [.int r_z]) := by
    intro r_z hz H locs ls pc hP hD hS hn hd
    cases hz
    exact k_iret hx hb hr hlocks hn hK hP hD hS hQ rfl hd
  unfold p_X2_beginningOf at hf
  refine lv_iconst (v := 0) hx hb dX2_beginningOf_0 (by decide) ?_
  refine lv_istore_n (lv' := [(2, .int 0), (0, .ref h), (1, .int a1)]) hx hb dX2_beginningOf_1 rfl hl (by decide) rfl (fun ls hl => ?_)
  obtain ⟨ee12, hlp12, hfl12, hfr12⟩ := k_bx0_some hf
  have hE12 : ee12 = .inr () → ∀ (H : Heap) (locs : List Loc) (ls : Array Slot), va_P D vwCl [(h, .inr (2, [.ref h_seam, .ref h_hours, .ref h_mayBegin, .ref h_tried, .ref h_begins, .ref h_hands, .long v_h_menShort, .int v_h_size, .int v_h_planned, .int v_h_worth, .int v_h_pitch])), (h_seam, .inl (cI, 5, .inl f_h_seam)), (h_begins, .inl (cI, 5, .inl f_h_begins))] H → va_D A [(h, .inr (2, [.ref h_seam, .ref h_hours, .ref h_mayBegin, .ref h_tried, .ref h_begins, .ref h_hands, .long v_h_menShort, .int v_h_size, .int v_h_planned, .int v_h_worth, .int v_h_pitch])), (h_seam, .inl (cI, 5, .inl f_h_seam)), (h_begins, .inl (cI, 5, .inl f_h_begins))] → va_S A s.heap H locs → lv_has ls 3 [] → W p l e rm_X2_beginningOf s m args below meth c H locs 0 0 Q (F0 m 44 ls []) := by
    intro  he H locs ls hP hD hS hl
    replace hf := hfr12  he
    refine lv_bipush (v := (-4)) hx hb dX2_beginningOf_44 (by decide) ?_
    exact hRet _ hf _ _ _ _ hP hD hS rfl dX2_beginningOf_46
  refine (k_lp_ind (fun sx12 => ∀ (H : Heap) (locs : List Loc) (ls : Array Slot), va_P D vwCl [(h, .inr (2, [.ref h_seam, .ref h_hours, .ref h_mayBegin, .ref h_tried, .ref h_begins, .ref h_hands, .long v_h_menShort, .int v_h_size, .int v_h_planned, .int v_h_worth, .int v_h_pitch])), (h_seam, .inl (cI, 5, .inl f_h_seam)), (h_begins, .inl (cI, 5, .inl f_h_begins))] H → va_D A [(h, .inr (2, [.ref h_seam, .ref h_hours, .ref h_mayBegin, .ref h_tried, .ref h_begins, .ref h_hands, .long v_h_menShort, .int v_h_size, .int v_h_planned, .int v_h_worth, .int v_h_pitch])), (h_seam, .inl (cI, 5, .inl f_h_seam)), (h_begins, .inl (cI, 5, .inl f_h_begins))] → va_S A s.heap H locs → lv_has ls 3 [(2, .int sx12), (0, .ref h), (1, .int a1)] → W p l e rm_X2_beginningOf s m args below meth c H locs 0 0 Q (F0 m 2 ls [])) (fun sx12 X12 hX12 hin12 hout12 => ?_) _ _ hlp12) _ _ _ hP hD hS (lv_sub hl [0, 1, 2] rfl)
  obtain ⟨x2_13, rfl⟩ : ∃ z, z = sx12 := ⟨_, rfl⟩
  intro H locs ls hP hD hS hl
  replace hP : va_P D vwCl [(h, .inr (2, [.ref h_seam, .ref h_hours, .ref h_mayBegin, .ref h_tried, .ref h_begins, .ref h_hands, .long v_h_menShort, .int v_h_size, .int v_h_planned, .int v_h_worth, .int v_h_pitch])), (h_seam, .inl (cI, 5, .inl f_h_seam)), (h_begins, .inl (cI, 5, .inl f_h_begins))] H := hP
  replace hD : va_D A [(h, .inr (2, [.ref h_seam, .ref h_hours, .ref h_mayBegin, .ref h_tried, .ref h_begins, .ref h_hands, .long v_h_menShort, .int v_h_size, .int v_h_planned, .int v_h_worth, .int v_h_pitch])), (h_seam, .inl (cI, 5, .inl f_h_seam)), (h_begins, .inl (cI, 5, .inl f_h_begins))] := hD
  replace hl : lv_has ls 3 [(2, .int x2_13), (0, .ref h), (1, .int a1)] := hl
  replace hX12 : lb_X2_beginningOf_2 v_h_size v_h_planned f_h_seam a1 f_h_begins x2_13 = some X12 := hX12
  unfold lb_X2_beginningOf_2 at hX12
  refine lv_iload_n hx hb dX2_beginningOf_2 rfl (lv_at hl 0 rfl) ?_
  refine lv_aload_n hx hb dX2_beginningOf_3 rfl (lv_at hl 1 rfl) ?_
  refine k_get (C := RX2) (T := TX2) (N := 11) hx hb hts inX2 hown hK hP 0 rfl rfl 7 (by decide) rfl wl1 rfl dX2_beginningOf_4 ?_
  refine lv_icmp_ge (tgt := 44) hx hb dX2_beginningOf_7 (by decide) (fun c14 => ?_) (fun c14 => ?_)
  · replace hX12 := k_pos hX12 c14
    exact hE12  (hout12 _ (Option.some.inj hX12).symm).symm _ _ _ hP hD hS (lv_sub hl [] rfl)
  · replace hX12 := k_neg hX12 c14
    refine lv_aload_n hx hb dX2_beginningOf_10 rfl (lv_at hl 1 rfl) ?_
    refine k_get (C := RX2) (T := TX2) (N := 11) hx hb hts inX2 hown hK hP 0 rfl rfl 8 (by decide) rfl wl2 rfl dX2_beginningOf_11 ?_
    refine lv_iload_n hx hb dX2_beginningOf_14 rfl (lv_at hl 0 rfl) ?_
    obtain ⟨r15, hc15, hX12⟩ := k_b1_some hX12
    refine k_NiR (As := [.int v_h_planned, .int x2_13]) (rest := []) S0 (c_X8_hasBit l D cI cZ cJ cS v_h_planned x2_13 r15 hc15) ⟨va_cnB 2 hts gX2_beginningOf_X8_hasBit_n100 rfl rfl rfl (hN _ (List.mem_of_getElem? (i := 9) rfl)) wl6 hdS_X8_hasBit ⟨Nat.le_of_ble_eq_true rfl, Nat.le_of_ble_eq_true rfl⟩, wl5, trivial⟩ hK hP hD hS hA hN [] rfl (by decide) rfl hl.1 rfl (Nat.le_of_ble_eq_true rfl) dX2_beginningOf_15 (fun H locs hP hS => ?_)
    refine lv_if_eq (tgt := 38) hx hb dX2_beginningOf_18 (by decide) (fun c16 => ?_) (fun c16 => ?_)
    · replace hX12 := k_pos hX12 c16
      refine lv_iinc (v := x2_13 + 1) (lv' := [(2, .int (x2_13 + 1)), (0, .ref h), (1, .int a1)]) hx hb dX2_beginningOf_38 hl (k := 0) rfl rfl (by decide) rfl (fun ls hl => ?_)
      refine lv_goto (tgt := 2) hx hb dX2_beginningOf_41 (by decide) ?_
      exact hin12 (x2_13 + 1) (Option.some.inj hX12).symm _ _ _ hP hD hS (lv_sub hl [0, 1, 2] rfl)
    · replace hX12 := k_neg hX12 c16
      refine lv_aload_n hx hb dX2_beginningOf_21 rfl (lv_at hl 1 rfl) ?_
      refine k_get (C := RX2) (T := TX2) (N := 11) hx hb hts inX2 hown hK hP 0 rfl rfl 0 (by decide) rfl wl3 rfl dX2_beginningOf_22 ?_
      refine lv_iload_n hx hb dX2_beginningOf_25 rfl (lv_at hl 0 rfl) ?_
      obtain ⟨hi17, hX12⟩ := k_ix_some hX12
      refine k_iald (k := x2_13.toNatClampNeg) hx hb hK hP 1 0 rfl rfl hi17 rfl dX2_beginningOf_26 ?_
      refine lv_iload_n hx hb dX2_beginningOf_27 rfl (lv_at hl 2 rfl) ?_
      refine lv_icmp_ne (tgt := 38) hx hb dX2_beginningOf_28 (by decide) (fun c18 => ?_) (fun c18 => ?_)
      · replace hX12 := k_neg hX12 c18
        refine lv_iinc (v := x2_13 + 1) (lv' := [(2, .int (x2_13 + 1)), (0, .ref h), (1, .int a1)]) hx hb dX2_beginningOf_38 hl (k := 0) rfl rfl (by decide) rfl (fun ls hl => ?_)
        refine lv_goto (tgt := 2) hx hb dX2_beginningOf_41 (by decide) ?_
        exact hin12 (x2_13 + 1) (Option.some.inj hX12).symm _ _ _ hP hD hS (lv_sub hl [0, 1, 2] rfl)
      · replace hX12 := k_pos hX12 c18
        refine lv_aload_n hx hb dX2_beginningOf_31 rfl (lv_at hl 1 rfl) ?_
        refine k_get (C := RX2) (T := TX2) (N := 11) hx hb hts inX2 hown hK hP 0 rfl rfl 4 (by decide) rfl wl4 rfl dX2_beginningOf_32 ?_
        refine lv_iload_n hx hb dX2_beginningOf_35 rfl (lv_at hl 0 rfl) ?_
        obtain ⟨hi19, hX12⟩ := k_ix_some hX12
        refine k_iald (k := x2_13.toNatClampNeg) hx hb hK hP 2 0 rfl rfl hi19 rfl dX2_beginningOf_36 ?_
        have he := hout12 _ (Option.some.inj hX12).symm
        replace hf := hfl12 _ he.symm
        exact hRet _ hf _ _ _ _ hP hD hS rfl dX2_beginningOf_37

def lb_X2_ordersOf_4 (v_h_size : Int32) (v_h_planned : Int32) (a1 : Int32) (f_h_begins : Nat → Int32) (f_h_hours : Nat → Int32) (f_h_seam : Nat → Int32) (x2_19 : Int32) (x3_20 : Int32) : Option ((Int32 × Int32) ⊕ (Int32)) :=
  if v_h_size ≤ x3_20 then
    some (.inr x2_19)
  else
    k_b1 (p_X8_hasBit v_h_planned x3_20) fun r22 =>
    if r22 = 0 then
      some (.inl (x2_19 ||| 0, x3_20 + 1))
    else
      k_ix x3_20 5 (
        if a1 < (f_h_begins x3_20.toNatClampNeg) then
          some (.inl (x2_19 ||| 0, x3_20 + 1))
        else
          k_ix x3_20 5 (
            k_ix x3_20 5 (
              if ((f_h_begins x3_20.toNatClampNeg) + (f_h_hours x3_20.toNatClampNeg)) ≤ a1 then
                some (.inl (x2_19 ||| 0, x3_20 + 1))
              else
                k_ix x3_20 5 (
                  some (.inl (x2_19 ||| (1 <<< ((f_h_seam x3_20.toNatClampNeg) &&& 31)), x3_20 + 1))))))
def p_X2_ordersOf (v_h_size : Int32) (v_h_planned : Int32) (f_h_begins : Nat → Int32) (f_h_hours : Nat → Int32) (f_h_seam : Nat → Int32) (a1 : Int32) : Option (Int32) :=
  k_b1 (k_lp (fun s => lb_X2_ordersOf_4 v_h_size v_h_planned a1 f_h_begins f_h_hours f_h_seam s.1 s.2) k_fuel (0, 0)) fun x2_18 =>
  some x2_18
abbrev rm_X2_ordersOf : Room := { frames := 1, cells := 0, slots := 0, locals := 21 }
theorem hdS_X2_ordersOf : yX2_ordersOf.cls ≠ "java/lang/invoke/MethodHandle" ∧ yX2_ordersOf.cls ≠ "java/lang/invoke/VarHandle" ∧ (parseMethodDescriptor yX2_ordersOf.desc).map (fun d => d.parameters.length) = some 1 := by decide +kernel
theorem hdV_X2_ordersOf : yX2_ordersOf.cls = RX2 ∧ yX2_ordersOf.cls ≠ "java/lang/invoke/MethodHandle" ∧ yX2_ordersOf.cls ≠ "java/lang/invoke/VarHandle" ∧ (parseMethodDescriptor yX2_ordersOf.desc).map (fun d => d.parameters.length) = some 1 := by decide +kernel
set_option maxHeartbeats 4000000 in
set_option maxRecDepth 100000 in
theorem c_X2_ordersOf (l : Launch) (D : va_G) (cI cZ cJ cS : ClassId) (h h_seam h_hours h_mayBegin h_tried h_begins h_hands : Nat) (v_h_menShort : Int64) (v_h_size : Int32) (v_h_planned : Int32) (v_h_worth : Int32) (v_h_pitch : Int32) (f_h_begins : Nat → Int32) (f_h_hours : Nat → Int32) (f_h_seam : Nat → Int32) (a1 : Int32) (r : Int32) (hf : p_X2_ordersOf v_h_size v_h_planned f_h_begins f_h_hours f_h_seam a1 = some r) : k_MI l yX2_ordersOf wsX2_ordersOf rm_X2_ordersOf D (k_tys cI cZ cJ cS) [.ref h, .int a1] [(h, .inr (2, [.ref h_seam, .ref h_hours, .ref h_mayBegin, .ref h_tried, .ref h_begins, .ref h_hands, .long v_h_menShort, .int v_h_size, .int v_h_planned, .int v_h_worth, .int v_h_pitch])), (h_begins, .inl (cI, 5, .inl f_h_begins)), (h_hours, .inl (cI, 5, .inl f_h_hours)), (h_seam, .inl (cI, 5, .inl f_h_seam))] [(h, .inr (2, [.ref h_seam, .ref h_hours, .ref h_mayBegin, .ref h_tried, .ref h_begins, .ref h_hands, .long v_h_menShort, .int v_h_size, .int v_h_planned, .int v_h_worth, .int v_h_pitch])), (h_begins, .inl (cI, 5, .inl f_h_begins)), (h_hours, .inl (cI, 5, .inl f_h_hours)), (h_seam, .inl (cI, 5, .inl f_h_seam))] r := by
  refine k_enter (y := yX2_ordersOf) (wl := wsX2_ordersOf) (rm := rm_X2_ordersOf) (av := [.ref h, .int a1]) (D := D) (tys := k_tys cI cZ cJ cS) (ws := [(h, .inr (2, [.ref h_seam, .ref h_hours, .ref h_mayBegin, .ref h_tried, .ref h_begins, .ref h_hands, .long v_h_menShort, .int v_h_size, .int v_h_planned, .int v_h_worth, .int v_h_pitch])), (h_begins, .inl (cI, 5, .inl f_h_begins)), (h_hours, .inl (cI, 5, .inl f_h_hours)), (h_seam, .inl (cI, 5, .inl f_h_seam))]) (cc := cX2_ordersOf) (maxL := 5) (ret := (some .int)) (Qc := fun A => k_Qi D (k_tys cI cZ cJ cS) [(h, .inr (2, [.ref h_seam, .ref h_hours, .ref h_mayBegin, .ref h_tried, .ref h_begins, .ref h_hands, .long v_h_menShort, .int v_h_size, .int v_h_planned, .int v_h_worth, .int v_h_pitch])), (h_begins, .inl (cI, 5, .inl f_h_begins)), (h_hours, .inl (cI, 5, .inl f_h_hours)), (h_seam, .inl (cI, 5, .inl f_h_seam))] A r) (by decide) rfl (Nat.le_of_ble_eq_true rfl) [(0, .ref h), (1, .int a1)] rfl ?_
  intro p e s m below meth c A hx hb hml hr hlocks hnm hown hK hP hD hA hS hN ls args Q hts hl hQ
  replace hown : s.vm.findClass RX2 = some m.cls := hown
  have S0 : CallFix p m c cX2_ordersOf 5 s args wsX2_ordersOf RX2 := ⟨hx, hb, hml, hown, hts⟩
  have inX2 : ∀ w ∈ u_ws RX2 TX2 11, w ∈ wsX2_ordersOf := fun w h => List.mem_cons_of_mem _ (List.mem_append_right _ h)
  have wl1 : (Cond.fieldLink RX2 62 "BeachedShip$Planner" "size" "I").before args s = true := hts _ (List.mem_of_getElem? (i := 1) rfl)
  have wl2 : (Cond.fieldLink RX2 52 "BeachedShip$Planner" "planned" "I").before args s = true := hts _ (List.mem_of_getElem? (i := 2) rfl)
  have wl7 : (Cond.initialized RX8).before args s = true := hts _ (List.mem_of_getElem? (i := 7) rfl)
  have wl6 : (Cond.static yX8_hasBit).before args s = true := hts _ (List.mem_of_getElem? (i := 6) rfl)
  have wl3 : (Cond.fieldLink RX2 24 "BeachedShip$Planner" "begins" "[I").before args s = true := hts _ (List.mem_of_getElem? (i := 3) rfl)
  have wl4 : (Cond.fieldLink RX2 15 "BeachedShip$Planner" "hours" "[I").before args s = true := hts _ (List.mem_of_getElem? (i := 4) rfl)
  have wl5 : (Cond.fieldLink RX2 9 "BeachedShip$Planner" "seam" "[I").before args s = true := hts _ (List.mem_of_getElem? (i := 5) rfl)
  have hRet : ∀ (r_z : Int32), some r_z = some r → ∀ (H : Heap) (locs : List Loc) (ls : Array Slot) (pc : Nat), va_P D vwCl [(h, .inr (2, [.ref h_seam, .ref h_hours, .ref h_mayBegin, .ref h_tried, .ref h_begins, .ref h_hands, .long v_h_menShort, .int v_h_size, .int v_h_planned, .int v_h_worth, .int v_h_pitch])), (h_begins, .inl (cI, 5, .inl f_h_begins)), (h_hours, .inl (cI, 5, .inl f_h_hours)), (h_seam, .inl (cI, 5, .inl f_h_seam))] H → va_D A [(h, .inr (2, [.ref h_seam, .ref h_hours, .ref h_mayBegin, .ref h_tried, .ref h_begins, .ref h_hands, .long v_h_menShort, .int v_h_size, .int v_h_planned, .int v_h_worth, .int v_h_pitch])), (h_begins, .inl (cI, 5, .inl f_h_begins)), (h_hours, .inl (cI, 5, .inl f_h_hours)), (h_seam, .inl (cI, 5, .inl f_h_seam))] → va_S A s.heap H locs → narrow .int (.int r_z) = .int r_z → decode cX2_ordersOf pc = .ok (.ireturn, 1) → W p l e rm_X2_ordersOf s m args below meth c H locs 0 0 Q (F0 m pc ls [.int r_z]) := by
    intro r_z hz H locs ls pc hP hD hS hn hd
    cases hz
    exact k_iret hx hb hr hlocks hn hK hP hD hS hQ rfl hd
  unfold p_X2_ordersOf at hf
  refine lv_iconst (v := 0) hx hb dX2_ordersOf_0 (by decide) ?_
  refine lv_istore_n (lv' := [(2, .int 0), (0, .ref h), (1, .int a1)]) hx hb dX2_ordersOf_1 rfl hl (by decide) rfl (fun ls hl => ?_)
  refine lv_iconst (v := 0) hx hb dX2_ordersOf_2 (by decide) ?_
  refine lv_istore_n (lv' := [(3, .int 0), (2, .int 0), (0, .ref h), (1, .int a1)]) hx hb dX2_ordersOf_3 rfl hl (by decide) rfl (fun ls hl => ?_)
  obtain ⟨ee17, hlp17, hfr17⟩ := k_b1_ee hf
  have hE17 : ∀ (x2_18 : Int32), ee17 = x2_18 → ∀ (H : Heap) (locs : List Loc) (ls : Array Slot), va_P D vwCl [(h, .inr (2, [.ref h_seam, .ref h_hours, .ref h_mayBegin, .ref h_tried, .ref h_begins, .ref h_hands, .long v_h_menShort, .int v_h_size, .int v_h_planned, .int v_h_worth, .int v_h_pitch])), (h_begins, .inl (cI, 5, .inl f_h_begins)), (h_hours, .inl (cI, 5, .inl f_h_hours)), (h_seam, .inl (cI, 5, .inl f_h_seam))] H → va_D A [(h, .inr (2, [.ref h_seam, .ref h_hours, .ref h_mayBegin, .ref h_tried, .ref h_begins, .ref h_hands, .long v_h_menShort, .int v_h_size, .int v_h_planned, .int v_h_worth, .int v_h_pitch])), (h_begins, .inl (cI, 5, .inl f_h_begins)), (h_hours, .inl (cI, 5, .inl f_h_hours)), (h_seam, .inl (cI, 5, .inl f_h_seam))] → va_S A s.heap H locs → lv_has ls 5 [(2, .int x2_18)] → W p l e rm_X2_ordersOf s m args below meth c H locs 0 0 Q (F0 m 83 ls []) := by
    intro x2_18 he H locs ls hP hD hS hl
    replace hf := hfr17 x2_18 he
    refine lv_iload_n hx hb dX2_ordersOf_83 rfl (lv_at hl 0 rfl) ?_
    exact hRet _ hf _ _ _ _ hP hD hS rfl dX2_ordersOf_84
  refine (k_lp_ind (fun sx17 => ∀ (H : Heap) (locs : List Loc) (ls : Array Slot), va_P D vwCl [(h, .inr (2, [.ref h_seam, .ref h_hours, .ref h_mayBegin, .ref h_tried, .ref h_begins, .ref h_hands, .long v_h_menShort, .int v_h_size, .int v_h_planned, .int v_h_worth, .int v_h_pitch])), (h_begins, .inl (cI, 5, .inl f_h_begins)), (h_hours, .inl (cI, 5, .inl f_h_hours)), (h_seam, .inl (cI, 5, .inl f_h_seam))] H → va_D A [(h, .inr (2, [.ref h_seam, .ref h_hours, .ref h_mayBegin, .ref h_tried, .ref h_begins, .ref h_hands, .long v_h_menShort, .int v_h_size, .int v_h_planned, .int v_h_worth, .int v_h_pitch])), (h_begins, .inl (cI, 5, .inl f_h_begins)), (h_hours, .inl (cI, 5, .inl f_h_hours)), (h_seam, .inl (cI, 5, .inl f_h_seam))] → va_S A s.heap H locs → lv_has ls 5 [(3, .int sx17.2), (2, .int sx17.1), (0, .ref h), (1, .int a1)] → W p l e rm_X2_ordersOf s m args below meth c H locs 0 0 Q (F0 m 4 ls [])) (fun sx17 X17 hX17 hin17 hout17 => ?_) _ _ hlp17) _ _ _ hP hD hS (lv_sub hl [0, 1, 2, 3] rfl)
  obtain ⟨x2_19, x3_20⟩ := sx17
  intro H locs ls hP hD hS hl
  replace hP : va_P D vwCl [(h, .inr (2, [.ref h_seam, .ref h_hours, .ref h_mayBegin, .ref h_tried, .ref h_begins, .ref h_hands, .long v_h_menShort, .int v_h_size, .int v_h_planned, .int v_h_worth, .int v_h_pitch])), (h_begins, .inl (cI, 5, .inl f_h_begins)), (h_hours, .inl (cI, 5, .inl f_h_hours)), (h_seam, .inl (cI, 5, .inl f_h_seam))] H := hP
  replace hD : va_D A [(h, .inr (2, [.ref h_seam, .ref h_hours, .ref h_mayBegin, .ref h_tried, .ref h_begins, .ref h_hands, .long v_h_menShort, .int v_h_size, .int v_h_planned, .int v_h_worth, .int v_h_pitch])), (h_begins, .inl (cI, 5, .inl f_h_begins)), (h_hours, .inl (cI, 5, .inl f_h_hours)), (h_seam, .inl (cI, 5, .inl f_h_seam))] := hD
  replace hl : lv_has ls 5 [(3, .int x3_20), (2, .int x2_19), (0, .ref h), (1, .int a1)] := hl
  replace hX17 : lb_X2_ordersOf_4 v_h_size v_h_planned a1 f_h_begins f_h_hours f_h_seam x2_19 x3_20 = some X17 := hX17
  unfold lb_X2_ordersOf_4 at hX17
  refine lv_iload_n hx hb dX2_ordersOf_4 rfl (lv_at hl 0 rfl) ?_
  refine lv_aload_n hx hb dX2_ordersOf_5 rfl (lv_at hl 2 rfl) ?_
  refine k_get (C := RX2) (T := TX2) (N := 11) hx hb hts inX2 hown hK hP 0 rfl rfl 7 (by decide) rfl wl1 rfl dX2_ordersOf_6 ?_
  refine lv_icmp_ge (tgt := 83) hx hb dX2_ordersOf_9 (by decide) (fun c21 => ?_) (fun c21 => ?_)
  · replace hX17 := k_pos hX17 c21
    exact hE17 _ (hout17 _ (Option.some.inj hX17).symm).symm _ _ _ hP hD hS (lv_sub hl [1] rfl)
  · replace hX17 := k_neg hX17 c21
    refine lv_aload_n hx hb dX2_ordersOf_12 rfl (lv_at hl 2 rfl) ?_
    refine k_get (C := RX2) (T := TX2) (N := 11) hx hb hts inX2 hown hK hP 0 rfl rfl 8 (by decide) rfl wl2 rfl dX2_ordersOf_13 ?_
    refine lv_iload_n hx hb dX2_ordersOf_16 rfl (lv_at hl 0 rfl) ?_
    obtain ⟨r22, hc22, hX17⟩ := k_b1_some hX17
    refine k_NiR (As := [.int v_h_planned, .int x3_20]) (rest := []) S0 (c_X8_hasBit l D cI cZ cJ cS v_h_planned x3_20 r22 hc22) ⟨va_cnB 2 hts gX2_ordersOf_X8_hasBit_n100 rfl rfl rfl (hN _ (List.mem_of_getElem? (i := 9) rfl)) wl7 hdS_X8_hasBit ⟨Nat.le_of_ble_eq_true rfl, Nat.le_of_ble_eq_true rfl⟩, wl6, trivial⟩ hK hP hD hS hA hN [] rfl (by decide) rfl hl.1 rfl (Nat.le_of_ble_eq_true rfl) dX2_ordersOf_17 (fun H locs hP hS => ?_)
    refine lv_if_eq (tgt := 54) hx hb dX2_ordersOf_20 (by decide) (fun c23 => ?_) (fun c23 => ?_)
    · replace hX17 := k_pos hX17 c23
      refine lv_iconst (v := 0) hx hb dX2_ordersOf_54 (by decide) ?_
      refine lv_istore (lv' := [(4, .int 0), (3, .int x3_20), (2, .int x2_19), (0, .ref h), (1, .int a1)]) hx hb dX2_ordersOf_55 hl (by decide) rfl (fun ls hl => ?_)
      refine lv_iload_n hx hb dX2_ordersOf_57 rfl (lv_at hl 2 rfl) ?_
      refine lv_iload hx hb dX2_ordersOf_58 (lv_at hl 0 rfl) ?_
      refine lv_if_eq (tgt := 74) hx hb dX2_ordersOf_60 (by decide) (fun _ => ?_) (fun c => absurd (by decide) c)
      refine lv_iconst (v := 0) hx hb dX2_ordersOf_74 (by decide) ?_
      refine lv_ior hx hb dX2_ordersOf_75 ?_
      refine lv_istore_n (lv' := [(2, .int (x2_19 ||| 0)), (4, .int 0), (3, .int x3_20), (0, .ref h), (1, .int a1)]) hx hb dX2_ordersOf_76 rfl hl (by decide) rfl (fun ls hl => ?_)
      refine lv_iinc (v := x3_20 + 1) (lv' := [(3, .int (x3_20 + 1)), (2, .int (x2_19 ||| 0)), (4, .int 0), (0, .ref h), (1, .int a1)]) hx hb dX2_ordersOf_77 hl (k := 2) rfl rfl (by decide) rfl (fun ls hl => ?_)
      refine lv_goto (tgt := 4) hx hb dX2_ordersOf_80 (by decide) ?_
      exact hin17 (x2_19 ||| 0, x3_20 + 1) (Option.some.inj hX17).symm _ _ _ hP hD hS (lv_sub hl [0, 1, 3, 4] rfl)
    · replace hX17 := k_neg hX17 c23
      refine lv_aload_n hx hb dX2_ordersOf_23 rfl (lv_at hl 2 rfl) ?_
      refine k_get (C := RX2) (T := TX2) (N := 11) hx hb hts inX2 hown hK hP 0 rfl rfl 4 (by decide) rfl wl3 rfl dX2_ordersOf_24 ?_
      refine lv_iload_n hx hb dX2_ordersOf_27 rfl (lv_at hl 0 rfl) ?_
      obtain ⟨hi24, hX17⟩ := k_ix_some hX17
      refine k_iald (k := x3_20.toNatClampNeg) hx hb hK hP 1 0 rfl rfl hi24 rfl dX2_ordersOf_28 ?_
      refine lv_iload_n hx hb dX2_ordersOf_29 rfl (lv_at hl 3 rfl) ?_
      refine lv_icmp_gt (tgt := 54) hx hb dX2_ordersOf_30 (by decide) (fun c25 => ?_) (fun c25 => ?_)
      · replace hX17 := k_pos hX17 c25
        refine lv_iconst (v := 0) hx hb dX2_ordersOf_54 (by decide) ?_
        refine lv_istore (lv' := [(4, .int 0), (3, .int x3_20), (2, .int x2_19), (0, .ref h), (1, .int a1)]) hx hb dX2_ordersOf_55 hl (by decide) rfl (fun ls hl => ?_)
        refine lv_iload_n hx hb dX2_ordersOf_57 rfl (lv_at hl 2 rfl) ?_
        refine lv_iload hx hb dX2_ordersOf_58 (lv_at hl 0 rfl) ?_
        refine lv_if_eq (tgt := 74) hx hb dX2_ordersOf_60 (by decide) (fun _ => ?_) (fun c => absurd (by decide) c)
        refine lv_iconst (v := 0) hx hb dX2_ordersOf_74 (by decide) ?_
        refine lv_ior hx hb dX2_ordersOf_75 ?_
        refine lv_istore_n (lv' := [(2, .int (x2_19 ||| 0)), (4, .int 0), (3, .int x3_20), (0, .ref h), (1, .int a1)]) hx hb dX2_ordersOf_76 rfl hl (by decide) rfl (fun ls hl => ?_)
        refine lv_iinc (v := x3_20 + 1) (lv' := [(3, .int (x3_20 + 1)), (2, .int (x2_19 ||| 0)), (4, .int 0), (0, .ref h), (1, .int a1)]) hx hb dX2_ordersOf_77 hl (k := 2) rfl rfl (by decide) rfl (fun ls hl => ?_)
        refine lv_goto (tgt := 4) hx hb dX2_ordersOf_80 (by decide) ?_
        exact hin17 (x2_19 ||| 0, x3_20 + 1) (Option.some.inj hX17).symm _ _ _ hP hD hS (lv_sub hl [0, 1, 3, 4] rfl)
      · replace hX17 := k_neg hX17 c25
        refine lv_iload_n hx hb dX2_ordersOf_33 rfl (lv_at hl 3 rfl) ?_
        refine lv_aload_n hx hb dX2_ordersOf_34 rfl (lv_at hl 2 rfl) ?_
        refine k_get (C := RX2) (T := TX2) (N := 11) hx hb hts inX2 hown hK hP 0 rfl rfl 4 (by decide) rfl wl3 rfl dX2_ordersOf_35 ?_
        refine lv_iload_n hx hb dX2_ordersOf_38 rfl (lv_at hl 0 rfl) ?_
        obtain ⟨hi26, hX17⟩ := k_ix_some hX17
        refine k_iald (k := x3_20.toNatClampNeg) hx hb hK hP 1 0 rfl rfl hi26 rfl dX2_ordersOf_39 ?_
        refine lv_aload_n hx hb dX2_ordersOf_40 rfl (lv_at hl 2 rfl) ?_
        refine k_get (C := RX2) (T := TX2) (N := 11) hx hb hts inX2 hown hK hP 0 rfl rfl 1 (by decide) rfl wl4 rfl dX2_ordersOf_41 ?_
        refine lv_iload_n hx hb dX2_ordersOf_44 rfl (lv_at hl 0 rfl) ?_
        obtain ⟨hi27, hX17⟩ := k_ix_some hX17
        refine k_iald (k := x3_20.toNatClampNeg) hx hb hK hP 2 0 rfl rfl hi27 rfl dX2_ordersOf_45 ?_
        refine lv_iadd hx hb dX2_ordersOf_46 ?_
        refine lv_icmp_ge (tgt := 54) hx hb dX2_ordersOf_47 (by decide) (fun c28 => ?_) (fun c28 => ?_)
        · replace hX17 := k_pos hX17 c28
          refine lv_iconst (v := 0) hx hb dX2_ordersOf_54 (by decide) ?_
          refine lv_istore (lv' := [(4, .int 0), (3, .int x3_20), (2, .int x2_19), (0, .ref h), (1, .int a1)]) hx hb dX2_ordersOf_55 hl (by decide) rfl (fun ls hl => ?_)
          refine lv_iload_n hx hb dX2_ordersOf_57 rfl (lv_at hl 2 rfl) ?_
          refine lv_iload hx hb dX2_ordersOf_58 (lv_at hl 0 rfl) ?_
          refine lv_if_eq (tgt := 74) hx hb dX2_ordersOf_60 (by decide) (fun _ => ?_) (fun c => absurd (by decide) c)
          refine lv_iconst (v := 0) hx hb dX2_ordersOf_74 (by decide) ?_
          refine lv_ior hx hb dX2_ordersOf_75 ?_
          refine lv_istore_n (lv' := [(2, .int (x2_19 ||| 0)), (4, .int 0), (3, .int x3_20), (0, .ref h), (1, .int a1)]) hx hb dX2_ordersOf_76 rfl hl (by decide) rfl (fun ls hl => ?_)
          refine lv_iinc (v := x3_20 + 1) (lv' := [(3, .int (x3_20 + 1)), (2, .int (x2_19 ||| 0)), (4, .int 0), (0, .ref h), (1, .int a1)]) hx hb dX2_ordersOf_77 hl (k := 2) rfl rfl (by decide) rfl (fun ls hl => ?_)
          refine lv_goto (tgt := 4) hx hb dX2_ordersOf_80 (by decide) ?_
          exact hin17 (x2_19 ||| 0, x3_20 + 1) (Option.some.inj hX17).symm _ _ _ hP hD hS (lv_sub hl [0, 1, 3, 4] rfl)
        · replace hX17 := k_neg hX17 c28
          refine lv_iconst (v := 1) hx hb dX2_ordersOf_50 (by decide) ?_
          refine lv_goto (tgt := 55) hx hb dX2_ordersOf_51 (by decide) ?_
          refine lv_istore (lv' := [(4, .int 1), (3, .int x3_20), (2, .int x2_19), (0, .ref h), (1, .int a1)]) hx hb dX2_ordersOf_55 hl (by decide) rfl (fun ls hl => ?_)
          refine lv_iload_n hx hb dX2_ordersOf_57 rfl (lv_at hl 2 rfl) ?_
          refine lv_iload hx hb dX2_ordersOf_58 (lv_at hl 0 rfl) ?_
          refine lv_if_eq (tgt := 74) hx hb dX2_ordersOf_60 (by decide) (fun c => absurd c (by decide)) (fun _ => ?_)
          refine lv_iconst (v := 1) hx hb dX2_ordersOf_63 (by decide) ?_
          refine lv_aload_n hx hb dX2_ordersOf_64 rfl (lv_at hl 3 rfl) ?_
          refine k_get (C := RX2) (T := TX2) (N := 11) hx hb hts inX2 hown hK hP 0 rfl rfl 0 (by decide) rfl wl5 rfl dX2_ordersOf_65 ?_
          refine lv_iload_n hx hb dX2_ordersOf_68 rfl (lv_at hl 1 rfl) ?_
          obtain ⟨hi29, hX17⟩ := k_ix_some hX17
          refine k_iald (k := x3_20.toNatClampNeg) hx hb hK hP 3 0 rfl rfl hi29 rfl dX2_ordersOf_69 ?_
          refine lv_ishl hx hb dX2_ordersOf_70 ?_
          refine lv_goto (tgt := 75) hx hb dX2_ordersOf_71 (by decide) ?_
          refine lv_ior hx hb dX2_ordersOf_75 ?_
          refine lv_istore_n (lv' := [(2, .int (x2_19 ||| (1 <<< ((f_h_seam x3_20.toNatClampNeg) &&& 31)))), (4, .int 1), (3, .int x3_20), (0, .ref h), (1, .int a1)]) hx hb dX2_ordersOf_76 rfl hl (by decide) rfl (fun ls hl => ?_)
          refine lv_iinc (v := x3_20 + 1) (lv' := [(3, .int (x3_20 + 1)), (2, .int (x2_19 ||| (1 <<< ((f_h_seam x3_20.toNatClampNeg) &&& 31)))), (4, .int 1), (0, .ref h), (1, .int a1)]) hx hb dX2_ordersOf_77 hl (k := 2) rfl rfl (by decide) rfl (fun ls hl => ?_)
          refine lv_goto (tgt := 4) hx hb dX2_ordersOf_80 (by decide) ?_
          exact hin17 (x2_19 ||| (1 <<< ((f_h_seam x3_20.toNatClampNeg) &&& 31)), x3_20 + 1) (Option.some.inj hX17).symm _ _ _ hP hD hS (lv_sub hl [0, 1, 3, 4] rfl)

