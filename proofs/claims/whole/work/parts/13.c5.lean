def p_X9_in (a0 : Int64) (a2 : Int64) (a4 : Int64) : Option (Int32) :=
  if (lg_cmp a0 a2) < 0 then
    some 0
  else
    if 0 < (lg_cmp a0 a4) then
      some 0
    else
      some 1
abbrev rm_X9_in : Room := { frames := 0, cells := 0, slots := 0, locals := 0 }
theorem hdS_X9_in : yX9_in.cls ≠ "java/lang/invoke/MethodHandle" ∧ yX9_in.cls ≠ "java/lang/invoke/VarHandle" ∧ (parseMethodDescriptor yX9_in.desc).map (fun d => d.parameters.length) = some 3 := by decide +kernel
theorem hdV_X9_in : yX9_in.cls = RX9 ∧ yX9_in.cls ≠ "java/lang/invoke/MethodHandle" ∧ yX9_in.cls ≠ "java/lang/invoke/VarHandle" ∧ (parseMethodDescriptor yX9_in.desc).map (fun d => d.parameters.length) = some 3 := by decide +kernel
set_option maxHeartbeats 4000000 in
set_option maxRecDepth 100000 in
theorem c_X9_in (l : Launch) (D : va_G) (cI cZ cJ cS : ClassId) (a0 : Int64) (a2 : Int64) (a4 : Int64) (r : Int32) (hf : p_X9_in a0 a2 a4 = some r) : k_MI l yX9_in wsX9_in rm_X9_in D (k_tys cI cZ cJ cS) [.long a0, .long a2, .long a4] [] [] r := by
  refine k_enter (y := yX9_in) (wl := wsX9_in) (rm := rm_X9_in) (av := [.long a0, .long a2, .long a4]) (D := D) (tys := k_tys cI cZ cJ cS) (ws := []) (cc := cX9_in) (maxL := 6) (ret := (some .boolean)) (Qc := fun A => k_Qi D (k_tys cI cZ cJ cS) [] A r) (by decide) rfl (Nat.le_of_ble_eq_true rfl) [(0, .long a0), (2, .long a2), (4, .long a4)] rfl ?_
  intro p e s m below meth c A hx hb hml hr hlocks hnm hown hK hP hD hA hS hN ls args Q hts hl hQ
  replace hown : s.vm.findClass RX9 = some m.cls := hown
  have hRet : ∀ (r_z : Int32), some r_z = some r → ∀ (H : Heap) (locs : List Loc) (ls : Array Slot) (pc : Nat), va_P D vwCl [] H → va_D A [] → va_S A s.heap H locs → narrow .boolean (.int r_z) = .int r_z → decode cX9_in pc = .ok (.ireturn, 1) → W p l e rm_X9_in s m args below meth c H locs 0 0 Q (F0 m pc ls [.int r_z]) := by
    intro r_z hz H locs ls pc hP hD hS hn hd
    cases hz
    exact k_iret hx hb hr hlocks hn hK hP hD hS hQ rfl hd
  unfold p_X9_in at hf
  refine lv_lload_n hx hb dX9_in_0 rfl (lv_at hl 0 rfl) ?_
  refine lv_lload_n hx hb dX9_in_1 rfl (lv_at hl 1 rfl) ?_
  refine W.lcmp hx hb dX9_in_2 ?_
  refine lv_if_lt (tgt := 17) hx hb dX9_in_3 (by decide) (fun c1 => ?_) (fun c1 => ?_)
  · replace hf := k_pos hf c1
    refine lv_iconst (v := 0) hx hb dX9_in_17 (by decide) ?_
    exact hRet _ hf _ _ _ _ hP hD hS rfl dX9_in_18
  · replace hf := k_neg hf c1
    refine lv_lload_n hx hb dX9_in_6 rfl (lv_at hl 0 rfl) ?_
    refine lv_lload hx hb dX9_in_7 (lv_at hl 2 rfl) ?_
    refine W.lcmp hx hb dX9_in_9 ?_
    refine lv_if_gt (tgt := 17) hx hb dX9_in_10 (by decide) (fun c2 => ?_) (fun c2 => ?_)
    · replace hf := k_pos hf c2
      refine lv_iconst (v := 0) hx hb dX9_in_17 (by decide) ?_
      exact hRet _ hf _ _ _ _ hP hD hS rfl dX9_in_18
    · replace hf := k_neg hf c2
      refine lv_iconst (v := 1) hx hb dX9_in_13 (by decide) ?_
      refine lv_goto (tgt := 18) hx hb dX9_in_14 (by decide) ?_
      exact hRet _ hf _ _ _ _ hP hD hS rfl dX9_in_18

def p_X9_isHour (a0 : Int32) : Option (Int32) :=
  k_b1 (p_X9_in ((a0).toInt64) 0 95) fun r1 =>
  k_ck (r1 = 0 ∨ r1 = 1) (some r1)
abbrev rm_X9_isHour : Room := { frames := 1, cells := 0, slots := 0, locals := 25 }
theorem hdS_X9_isHour : yX9_isHour.cls ≠ "java/lang/invoke/MethodHandle" ∧ yX9_isHour.cls ≠ "java/lang/invoke/VarHandle" ∧ (parseMethodDescriptor yX9_isHour.desc).map (fun d => d.parameters.length) = some 1 := by decide +kernel
theorem hdV_X9_isHour : yX9_isHour.cls = RX9 ∧ yX9_isHour.cls ≠ "java/lang/invoke/MethodHandle" ∧ yX9_isHour.cls ≠ "java/lang/invoke/VarHandle" ∧ (parseMethodDescriptor yX9_isHour.desc).map (fun d => d.parameters.length) = some 1 := by decide +kernel
set_option maxHeartbeats 4000000 in
set_option maxRecDepth 100000 in
theorem c_X9_isHour (l : Launch) (D : va_G) (cI cZ cJ cS : ClassId) (a0 : Int32) (r : Int32) (hf : p_X9_isHour a0 = some r) : k_MI l yX9_isHour wsX9_isHour rm_X9_isHour D (k_tys cI cZ cJ cS) [.int a0] [] [] r := by
  refine k_enter (y := yX9_isHour) (wl := wsX9_isHour) (rm := rm_X9_isHour) (av := [.int a0]) (D := D) (tys := k_tys cI cZ cJ cS) (ws := []) (cc := cX9_isHour) (maxL := 1) (ret := (some .boolean)) (Qc := fun A => k_Qi D (k_tys cI cZ cJ cS) [] A r) (by decide) rfl (Nat.le_of_ble_eq_true rfl) [(0, .int a0)] rfl ?_
  intro p e s m below meth c A hx hb hml hr hlocks hnm hown hK hP hD hA hS hN ls args Q hts hl hQ
  replace hown : s.vm.findClass RX9 = some m.cls := hown
  have S0 : CallFix p m c cX9_isHour 1 s args wsX9_isHour RX9 := ⟨hx, hb, hml, hown, hts⟩
  have wl1 : (Cond.constantLong RX9 44 (95)).before args s = true := hts _ (List.mem_of_getElem? (i := 1) rfl)
  have hRet : ∀ (r_z : Int32), some r_z = some r → ∀ (H : Heap) (locs : List Loc) (ls : Array Slot) (pc : Nat), va_P D vwCl [] H → va_D A [] → va_S A s.heap H locs → narrow .boolean (.int r_z) = .int r_z → decode cX9_isHour pc = .ok (.ireturn, 1) → W p l e rm_X9_isHour s m args below meth c H locs 0 0 Q (F0 m pc ls [.int r_z]) := by
    intro r_z hz H locs ls pc hP hD hS hn hd
    cases hz
    exact k_iret hx hb hr hlocks hn hK hP hD hS hQ rfl hd
  unfold p_X9_isHour at hf
  refine lv_iload_n hx hb dX9_isHour_0 rfl (lv_at hl 0 rfl) ?_
  refine lv_i2l (v := (a0).toInt64) hx hb dX9_isHour_1 rfl ?_
  refine lv_lconst (v := 0) hx hb dX9_isHour_2 (by decide) ?_
  refine lv_ldc2 hx hb hown wl1 dX9_isHour_3 ?_
  obtain ⟨r1, hc1, hf⟩ := k_b1_some hf
  refine k_SiR (As := [.long ((a0).toInt64), .long 0, .long 95]) (rest := []) S0 (c_X9_in l D cI cZ cJ cS ((a0).toInt64) 0 95 r1 hc1) (va_cwS 3 hts gX9_isHour_X9_in rfl rfl rfl hdS_X9_in ⟨Nat.le_of_ble_eq_true rfl, Nat.le_of_ble_eq_true rfl⟩) hK hP hD hS hA hN [] rfl (by decide) rfl hl.1 rfl (Nat.le_of_ble_eq_true rfl) dX9_isHour_6 (fun H locs hP hS => ?_)
  obtain ⟨hk2, hf⟩ := k_ck_some hf
  exact hRet _ hf _ _ _ _ hP hD hS (k_bool hk2).1 dX9_isHour_9

def p_X9_tideIn (f_h_tide : Nat → Int32) (a1 : Int32) : Option (Int32) :=
  if a1 ≤ 95 then
    k_ix a1 96 (
      some (f_h_tide a1.toNatClampNeg))
  else
    some (f_h_tide 95)
abbrev rm_X9_tideIn : Room := { frames := 0, cells := 0, slots := 0, locals := 0 }
theorem hdS_X9_tideIn : yX9_tideIn.cls ≠ "java/lang/invoke/MethodHandle" ∧ yX9_tideIn.cls ≠ "java/lang/invoke/VarHandle" ∧ (parseMethodDescriptor yX9_tideIn.desc).map (fun d => d.parameters.length) = some 1 := by decide +kernel
theorem hdV_X9_tideIn : yX9_tideIn.cls = RX9 ∧ yX9_tideIn.cls ≠ "java/lang/invoke/MethodHandle" ∧ yX9_tideIn.cls ≠ "java/lang/invoke/VarHandle" ∧ (parseMethodDescriptor yX9_tideIn.desc).map (fun d => d.parameters.length) = some 1 := by decide +kernel
set_option maxHeartbeats 4000000 in
set_option maxRecDepth 100000 in
theorem c_X9_tideIn (l : Launch) (D : va_G) (cI cZ cJ cS : ClassId) (h h_now h_aside h_books h_tide h_rain h_rule h_counts h_begins h_best h_planks : Nat) (v_h_thrown : Int32) (v_h_kept : Int32) (v_h_counted : Int32) (v_h_bestWorth : Int32) (v_h_bestPitch : Int32) (v_h_bestBits : Int32) (v_h_leastHour : Int32) (v_h_leastSet : Int32) (v_h_shut : Int32) (f_h_tide : Nat → Int32) (a1 : Int32) (r : Int32) (hf : p_X9_tideIn f_h_tide a1 = some r) : k_MI l yX9_tideIn wsX9_tideIn rm_X9_tideIn D (k_tys cI cZ cJ cS) [.ref h, .int a1] [(h, .inr (9, [.int v_h_thrown, .ref h_now, .ref h_aside, .int v_h_kept, .ref h_books, .ref h_tide, .ref h_rain, .ref h_rule, .int v_h_counted, .ref h_counts, .ref h_begins, .ref h_best, .int v_h_bestWorth, .int v_h_bestPitch, .int v_h_bestBits, .int v_h_leastHour, .int v_h_leastSet, .int v_h_shut, .ref h_planks])), (h_tide, .inl (cI, 96, .inl f_h_tide))] [(h, .inr (9, [.int v_h_thrown, .ref h_now, .ref h_aside, .int v_h_kept, .ref h_books, .ref h_tide, .ref h_rain, .ref h_rule, .int v_h_counted, .ref h_counts, .ref h_begins, .ref h_best, .int v_h_bestWorth, .int v_h_bestPitch, .int v_h_bestBits, .int v_h_leastHour, .int v_h_leastSet, .int v_h_shut, .ref h_planks])), (h_tide, .inl (cI, 96, .inl f_h_tide))] r := by
  refine k_enter (y := yX9_tideIn) (wl := wsX9_tideIn) (rm := rm_X9_tideIn) (av := [.ref h, .int a1]) (D := D) (tys := k_tys cI cZ cJ cS) (ws := [(h, .inr (9, [.int v_h_thrown, .ref h_now, .ref h_aside, .int v_h_kept, .ref h_books, .ref h_tide, .ref h_rain, .ref h_rule, .int v_h_counted, .ref h_counts, .ref h_begins, .ref h_best, .int v_h_bestWorth, .int v_h_bestPitch, .int v_h_bestBits, .int v_h_leastHour, .int v_h_leastSet, .int v_h_shut, .ref h_planks])), (h_tide, .inl (cI, 96, .inl f_h_tide))]) (cc := cX9_tideIn) (maxL := 2) (ret := (some .int)) (Qc := fun A => k_Qi D (k_tys cI cZ cJ cS) [(h, .inr (9, [.int v_h_thrown, .ref h_now, .ref h_aside, .int v_h_kept, .ref h_books, .ref h_tide, .ref h_rain, .ref h_rule, .int v_h_counted, .ref h_counts, .ref h_begins, .ref h_best, .int v_h_bestWorth, .int v_h_bestPitch, .int v_h_bestBits, .int v_h_leastHour, .int v_h_leastSet, .int v_h_shut, .ref h_planks])), (h_tide, .inl (cI, 96, .inl f_h_tide))] A r) (by decide) rfl (Nat.le_of_ble_eq_true rfl) [(0, .ref h), (1, .int a1)] rfl ?_
  intro p e s m below meth c A hx hb hml hr hlocks hnm hown hK hP hD hA hS hN ls args Q hts hl hQ
  replace hown : s.vm.findClass RX9 = some m.cls := hown
  have inX9 : ∀ w ∈ u_ws RX9 TX9 19, w ∈ wsX9_tideIn := fun w h => List.mem_cons_of_mem _ (List.mem_append_right _ h)
  have wl1 : (Cond.fieldLink RX9 23 "BeachedShipModel" "tide" "[I").before args s = true := hts _ (List.mem_of_getElem? (i := 1) rfl)
  have hRet : ∀ (r_z : Int32), some r_z = some r → ∀ (H : Heap) (locs : List Loc) (ls : Array Slot) (pc : Nat), va_P D vwCl [(h, .inr (9, [.int v_h_thrown, .ref h_now, .ref h_aside, .int v_h_kept, .ref h_books, .ref h_tide, .ref h_rain, .ref h_rule, .int v_h_counted, .ref h_counts, .ref h_begins, .ref h_best, .int v_h_bestWorth, .int v_h_bestPitch, .int v_h_bestBits, .int v_h_leastHour, .int v_h_leastSet, .int v_h_shut, .ref h_planks])), (h_tide, .inl (cI, 96, .inl f_h_tide))] H → va_D A [(h, .inr (9, [.int v_h_thrown, .ref h_now, .ref h_aside, .int v_h_kept, .ref h_books, .ref h_tide, .ref h_rain, .ref h_rule, .int v_h_counted, .ref h_counts, .ref h_begins, .ref h_best, .int v_h_bestWorth, .int v_h_bestPitch, .int v_h_bestBits, .int v_h_leastHour, .int v_h_leastSet, .int v_h_shut, .ref h_planks])), (h_tide, .inl (cI, 96, .inl f_h_tide))] → va_S A s.heap H locs → narrow .int (.int r_z) = .int r_z → decode cX9_tideIn pc = .ok (.ireturn, 1) → W p l e rm_X9_tideIn s m args below meth c H locs 0 0 Q (F0 m pc ls [.int r_z]) := by
    intro r_z hz H locs ls pc hP hD hS hn hd
    cases hz
    exact k_iret hx hb hr hlocks hn hK hP hD hS hQ rfl hd
  unfold p_X9_tideIn at hf
  refine lv_aload_n hx hb dX9_tideIn_0 rfl (lv_at hl 0 rfl) ?_
  refine k_get (C := RX9) (T := TX9) (N := 19) hx hb hts inX9 hown hK hP 0 rfl rfl 5 (by decide) rfl wl1 rfl dX9_tideIn_1 ?_
  refine lv_iload_n hx hb dX9_tideIn_4 rfl (lv_at hl 1 rfl) ?_
  refine lv_bipush (v := 95) hx hb dX9_tideIn_5 (by decide) ?_
  refine lv_icmp_le (tgt := 15) hx hb dX9_tideIn_7 (by decide) (fun c1 => ?_) (fun c1 => ?_)
  · replace hf := k_pos hf c1
    refine lv_iload_n hx hb dX9_tideIn_15 rfl (lv_at hl 1 rfl) ?_
    obtain ⟨hi2, hf⟩ := k_ix_some hf
    refine k_iald (k := a1.toNatClampNeg) hx hb hK hP 1 0 rfl rfl hi2 rfl dX9_tideIn_16 ?_
    exact hRet _ hf _ _ _ _ hP hD hS rfl dX9_tideIn_17
  · replace hf := k_neg hf c1
    refine lv_bipush (v := 95) hx hb dX9_tideIn_10 (by decide) ?_
    refine lv_goto (tgt := 16) hx hb dX9_tideIn_12 (by decide) ?_
    refine k_iald (k := 95) hx hb hK hP 1 0 rfl rfl (by unfold vp_in; decide) (by decide) dX9_tideIn_16 ?_
    exact hRet _ hf _ _ _ _ hP hD hS rfl dX9_tideIn_17

def p_X9_rains (f_h_rain : Nat → Int32) (a1 : Int32) : Option (Int32) :=
  if a1 ≤ 95 then
    k_ix a1 96 (
      if (f_h_rain a1.toNatClampNeg) = 1 then
        some 1
      else
        some 0)
  else
    if (f_h_rain 95) = 1 then
      some 1
    else
      some 0
abbrev rm_X9_rains : Room := { frames := 0, cells := 0, slots := 0, locals := 0 }
theorem hdS_X9_rains : yX9_rains.cls ≠ "java/lang/invoke/MethodHandle" ∧ yX9_rains.cls ≠ "java/lang/invoke/VarHandle" ∧ (parseMethodDescriptor yX9_rains.desc).map (fun d => d.parameters.length) = some 1 := by decide +kernel
theorem hdV_X9_rains : yX9_rains.cls = RX9 ∧ yX9_rains.cls ≠ "java/lang/invoke/MethodHandle" ∧ yX9_rains.cls ≠ "java/lang/invoke/VarHandle" ∧ (parseMethodDescriptor yX9_rains.desc).map (fun d => d.parameters.length) = some 1 := by decide +kernel
set_option maxHeartbeats 4000000 in
set_option maxRecDepth 100000 in
theorem c_X9_rains (l : Launch) (D : va_G) (cI cZ cJ cS : ClassId) (h h_now h_aside h_books h_tide h_rain h_rule h_counts h_begins h_best h_planks : Nat) (v_h_thrown : Int32) (v_h_kept : Int32) (v_h_counted : Int32) (v_h_bestWorth : Int32) (v_h_bestPitch : Int32) (v_h_bestBits : Int32) (v_h_leastHour : Int32) (v_h_leastSet : Int32) (v_h_shut : Int32) (f_h_rain : Nat → Int32) (a1 : Int32) (r : Int32) (hf : p_X9_rains f_h_rain a1 = some r) : k_MI l yX9_rains wsX9_rains rm_X9_rains D (k_tys cI cZ cJ cS) [.ref h, .int a1] [(h, .inr (9, [.int v_h_thrown, .ref h_now, .ref h_aside, .int v_h_kept, .ref h_books, .ref h_tide, .ref h_rain, .ref h_rule, .int v_h_counted, .ref h_counts, .ref h_begins, .ref h_best, .int v_h_bestWorth, .int v_h_bestPitch, .int v_h_bestBits, .int v_h_leastHour, .int v_h_leastSet, .int v_h_shut, .ref h_planks])), (h_rain, .inl (cI, 96, .inl f_h_rain))] [(h, .inr (9, [.int v_h_thrown, .ref h_now, .ref h_aside, .int v_h_kept, .ref h_books, .ref h_tide, .ref h_rain, .ref h_rule, .int v_h_counted, .ref h_counts, .ref h_begins, .ref h_best, .int v_h_bestWorth, .int v_h_bestPitch, .int v_h_bestBits, .int v_h_leastHour, .int v_h_leastSet, .int v_h_shut, .ref h_planks])), (h_rain, .inl (cI, 96, .inl f_h_rain))] r := by
  refine k_enter (y := yX9_rains) (wl := wsX9_rains) (rm := rm_X9_rains) (av := [.ref h, .int a1]) (D := D) (tys := k_tys cI cZ cJ cS) (ws := [(h, .inr (9, [.int v_h_thrown, .ref h_now, .ref h_aside, .int v_h_kept, .ref h_books, .ref h_tide, .ref h_rain, .ref h_rule, .int v_h_counted, .ref h_counts, .ref h_begins, .ref h_best, .int v_h_bestWorth, .int v_h_bestPitch, .int v_h_bestBits, .int v_h_leastHour, .int v_h_leastSet, .int v_h_shut, .ref h_planks])), (h_rain, .inl (cI, 96, .inl f_h_rain))]) (cc := cX9_rains) (maxL := 2) (ret := (some .boolean)) (Qc := fun A => k_Qi D (k_tys cI cZ cJ cS) [(h, .inr (9, [.int v_h_thrown, .ref h_now, .ref h_aside, .int v_h_kept, .ref h_books, .ref h_tide, .ref h_rain, .ref h_rule, .int v_h_counted, .ref h_counts, .ref h_begins, .ref h_best, .int v_h_bestWorth, .int v_h_bestPitch, .int v_h_bestBits, .int v_h_leastHour, .int v_h_leastSet, .int v_h_shut, .ref h_planks])), (h_rain, .inl (cI, 96, .inl f_h_rain))] A r) (by decide) rfl (Nat.le_of_ble_eq_true rfl) [(0, .ref h), (1, .int a1)] rfl ?_
  intro p e s m below meth c A hx hb hml hr hlocks hnm hown hK hP hD hA hS hN ls args Q hts hl hQ
  replace hown : s.vm.findClass RX9 = some m.cls := hown
  have inX9 : ∀ w ∈ u_ws RX9 TX9 19, w ∈ wsX9_rains := fun w h => List.mem_cons_of_mem _ (List.mem_append_right _ h)
  have wl1 : (Cond.fieldLink RX9 26 "BeachedShipModel" "rain" "[I").before args s = true := hts _ (List.mem_of_getElem? (i := 1) rfl)
  have hRet : ∀ (r_z : Int32), some r_z = some r → ∀ (H : Heap) (locs : List Loc) (ls : Array Slot) (pc : Nat), va_P D vwCl [(h, .inr (9, [.int v_h_thrown, .ref h_now, .ref h_aside, .int v_h_kept, .ref h_books, .ref h_tide, .ref h_rain, .ref h_rule, .int v_h_counted, .ref h_counts, .ref h_begins, .ref h_best, .int v_h_bestWorth, .int v_h_bestPitch, .int v_h_bestBits, .int v_h_leastHour, .int v_h_leastSet, .int v_h_shut, .ref h_planks])), (h_rain, .inl (cI, 96, .inl f_h_rain))] H → va_D A [(h, .inr (9, [.int v_h_thrown, .ref h_now, .ref h_aside, .int v_h_kept, .ref h_books, .ref h_tide, .ref h_rain, .ref h_rule, .int v_h_counted, .ref h_counts, .ref h_begins, .ref h_best, .int v_h_bestWorth, .int v_h_bestPitch, .int v_h_bestBits, .int v_h_leastHour, .int v_h_leastSet, .int v_h_shut, .ref h_planks])), (h_rain, .inl (cI, 96, .inl f_h_rain))] → va_S A s.heap H locs → narrow .boolean (.int r_z) = .int r_z → decode cX9_rains pc = .ok (.ireturn, 1) → W p l e rm_X9_rains s m args below meth c H locs 0 0 Q (F0 m pc ls [.int r_z]) := by
    intro r_z hz H locs ls pc hP hD hS hn hd
    cases hz
    exact k_iret hx hb hr hlocks hn hK hP hD hS hQ rfl hd
  unfold p_X9_rains at hf
  refine lv_aload_n hx hb dX9_rains_0 rfl (lv_at hl 0 rfl) ?_
  refine k_get (C := RX9) (T := TX9) (N := 19) hx hb hts inX9 hown hK hP 0 rfl rfl 6 (by decide) rfl wl1 rfl dX9_rains_1 ?_
  refine lv_iload_n hx hb dX9_rains_4 rfl (lv_at hl 1 rfl) ?_
  refine lv_bipush (v := 95) hx hb dX9_rains_5 (by decide) ?_
  refine lv_icmp_le (tgt := 15) hx hb dX9_rains_7 (by decide) (fun c1 => ?_) (fun c1 => ?_)
  · replace hf := k_pos hf c1
    refine lv_iload_n hx hb dX9_rains_15 rfl (lv_at hl 1 rfl) ?_
    obtain ⟨hi2, hf⟩ := k_ix_some hf
    refine k_iald (k := a1.toNatClampNeg) hx hb hK hP 1 0 rfl rfl hi2 rfl dX9_rains_16 ?_
    refine lv_iconst (v := 1) hx hb dX9_rains_17 (by decide) ?_
    refine lv_icmp_ne (tgt := 25) hx hb dX9_rains_18 (by decide) (fun c3 => ?_) (fun c3 => ?_)
    · replace hf := k_neg hf c3
      refine lv_iconst (v := 0) hx hb dX9_rains_25 (by decide) ?_
      exact hRet _ hf _ _ _ _ hP hD hS rfl dX9_rains_26
    · replace hf := k_pos hf c3
      refine lv_iconst (v := 1) hx hb dX9_rains_21 (by decide) ?_
      refine lv_goto (tgt := 26) hx hb dX9_rains_22 (by decide) ?_
      exact hRet _ hf _ _ _ _ hP hD hS rfl dX9_rains_26
  · replace hf := k_neg hf c1
    refine lv_bipush (v := 95) hx hb dX9_rains_10 (by decide) ?_
    refine lv_goto (tgt := 16) hx hb dX9_rains_12 (by decide) ?_
    refine k_iald (k := 95) hx hb hK hP 1 0 rfl rfl (by unfold vp_in; decide) (by decide) dX9_rains_16 ?_
    refine lv_iconst (v := 1) hx hb dX9_rains_17 (by decide) ?_
    refine lv_icmp_ne (tgt := 25) hx hb dX9_rains_18 (by decide) (fun c4 => ?_) (fun c4 => ?_)
    · replace hf := k_neg hf c4
      refine lv_iconst (v := 0) hx hb dX9_rains_25 (by decide) ?_
      exact hRet _ hf _ _ _ _ hP hD hS rfl dX9_rains_26
    · replace hf := k_pos hf c4
      refine lv_iconst (v := 1) hx hb dX9_rains_21 (by decide) ?_
      refine lv_goto (tgt := 26) hx hb dX9_rains_22 (by decide) ?_
      exact hRet _ hf _ _ _ _ hP hD hS rfl dX9_rains_26

def p_X9_tide (f_h_tide : Nat → Int32) (a1 : Int32) (a2 : Int32) : Option (Int32 × Int32 × (Nat → Int32)) :=
  k_b1 (p_X9_isHour a1) fun r1 =>
  if r1 = 0 then
    some ((-1), 0, f_h_tide)
  else
    k_b1 (p_X9_in ((a2).toInt64) 0 60) fun r3 =>
    if r3 = 0 then
      some ((-1), 0, f_h_tide)
    else
      k_ix a1 96 (
        k_ix a1 96 (
          some (f_h_tide a1.toNatClampNeg, 0, upd f_h_tide a1.toNatClampNeg a2)))
abbrev rm_X9_tide : Room := { frames := 2, cells := 0, slots := 0, locals := 45 }
theorem hdS_X9_tide : yX9_tide.cls ≠ "java/lang/invoke/MethodHandle" ∧ yX9_tide.cls ≠ "java/lang/invoke/VarHandle" ∧ (parseMethodDescriptor yX9_tide.desc).map (fun d => d.parameters.length) = some 2 := by decide +kernel
theorem hdV_X9_tide : yX9_tide.cls = RX9 ∧ yX9_tide.cls ≠ "java/lang/invoke/MethodHandle" ∧ yX9_tide.cls ≠ "java/lang/invoke/VarHandle" ∧ (parseMethodDescriptor yX9_tide.desc).map (fun d => d.parameters.length) = some 2 := by decide +kernel
set_option maxHeartbeats 4000000 in
set_option maxRecDepth 100000 in
theorem c_X9_tide (l : Launch) (D : va_G) (cI cZ cJ cS : ClassId) (h h_now h_aside h_books h_tide h_rain h_rule h_counts h_begins h_best h_planks : Nat) (v_h_thrown : Int32) (v_h_kept : Int32) (v_h_counted : Int32) (v_h_bestWorth : Int32) (v_h_bestPitch : Int32) (v_h_bestBits : Int32) (v_h_leastHour : Int32) (v_h_leastSet : Int32) (v_h_shut : Int32) (f_h_tide : Nat → Int32) (a1 : Int32) (a2 : Int32) (r : Int32) (v_h_thrown' : Int32) (f_h_tide' : Nat → Int32) (hf : p_X9_tide f_h_tide a1 a2 = some (r, v_h_thrown', f_h_tide')) : k_MI l yX9_tide wsX9_tide rm_X9_tide D (k_tys cI cZ cJ cS) [.ref h, .int a1, .int a2] [(h, .inr (9, [.int v_h_thrown, .ref h_now, .ref h_aside, .int v_h_kept, .ref h_books, .ref h_tide, .ref h_rain, .ref h_rule, .int v_h_counted, .ref h_counts, .ref h_begins, .ref h_best, .int v_h_bestWorth, .int v_h_bestPitch, .int v_h_bestBits, .int v_h_leastHour, .int v_h_leastSet, .int v_h_shut, .ref h_planks])), (h_tide, .inl (cI, 96, .inl f_h_tide))] [(h, .inr (9, [.int v_h_thrown', .ref h_now, .ref h_aside, .int v_h_kept, .ref h_books, .ref h_tide, .ref h_rain, .ref h_rule, .int v_h_counted, .ref h_counts, .ref h_begins, .ref h_best, .int v_h_bestWorth, .int v_h_bestPitch, .int v_h_bestBits, .int v_h_leastHour, .int v_h_leastSet, .int v_h_shut, .ref h_planks])), (h_tide, .inl (cI, 96, .inl f_h_tide'))] r := by
  refine k_enter (y := yX9_tide) (wl := wsX9_tide) (rm := rm_X9_tide) (av := [.ref h, .int a1, .int a2]) (D := D) (tys := k_tys cI cZ cJ cS) (ws := [(h, .inr (9, [.int v_h_thrown, .ref h_now, .ref h_aside, .int v_h_kept, .ref h_books, .ref h_tide, .ref h_rain, .ref h_rule, .int v_h_counted, .ref h_counts, .ref h_begins, .ref h_best, .int v_h_bestWorth, .int v_h_bestPitch, .int v_h_bestBits, .int v_h_leastHour, .int v_h_leastSet, .int v_h_shut, .ref h_planks])), (h_tide, .inl (cI, 96, .inl f_h_tide))]) (cc := cX9_tide) (maxL := 4) (ret := (some .int)) (Qc := fun A => k_Qi D (k_tys cI cZ cJ cS) [(h, .inr (9, [.int v_h_thrown', .ref h_now, .ref h_aside, .int v_h_kept, .ref h_books, .ref h_tide, .ref h_rain, .ref h_rule, .int v_h_counted, .ref h_counts, .ref h_begins, .ref h_best, .int v_h_bestWorth, .int v_h_bestPitch, .int v_h_bestBits, .int v_h_leastHour, .int v_h_leastSet, .int v_h_shut, .ref h_planks])), (h_tide, .inl (cI, 96, .inl f_h_tide'))] A r) (by decide) rfl (Nat.le_of_ble_eq_true rfl) [(0, .ref h), (1, .int a1), (2, .int a2)] rfl ?_
  intro p e s m below meth c A hx hb hml hr hlocks hnm hown hK hP hD hA hS hN ls args Q hts hl hQ
  replace hown : s.vm.findClass RX9 = some m.cls := hown
  have S0 : CallFix p m c cX9_tide 4 s args wsX9_tide RX9 := ⟨hx, hb, hml, hown, hts⟩
  have inX9 : ∀ w ∈ u_ws RX9 TX9 19, w ∈ wsX9_tide := fun w h => List.mem_cons_of_mem _ (List.mem_append_right _ h)
  have wl1 : (Cond.fieldLink RX9 1 "BeachedShipModel" "thrown" "I").before args s = true := hts _ (List.mem_of_getElem? (i := 1) rfl)
  have wl2 : (Cond.constantLong RX9 54 (60)).before args s = true := hts _ (List.mem_of_getElem? (i := 2) rfl)
  have wl3 : (Cond.fieldLink RX9 23 "BeachedShipModel" "tide" "[I").before args s = true := hts _ (List.mem_of_getElem? (i := 3) rfl)
  have hRet : ∀ (r_z : Int32) (v_h_thrown_z : Int32) (f_h_tide_z : Nat → Int32), some (r_z, v_h_thrown_z, f_h_tide_z) = some (r, v_h_thrown', f_h_tide') → ∀ (H : Heap) (locs : List Loc) (ls : Array Slot) (pc : Nat), va_P D vwCl [(h, .inr (9, [.int v_h_thrown_z, .ref h_now, .ref h_aside, .int v_h_kept, .ref h_books, .ref h_tide, .ref h_rain, .ref h_rule, .int v_h_counted, .ref h_counts, .ref h_begins, .ref h_best, .int v_h_bestWorth, .int v_h_bestPitch, .int v_h_bestBits, .int v_h_leastHour, .int v_h_leastSet, .int v_h_shut, .ref h_planks])), (h_tide, .inl (cI, 96, .inl f_h_tide_z))] H → va_D A [(h, .inr (9, [.int v_h_thrown_z, .ref h_now, .ref h_aside, .int v_h_kept, .ref h_books, .ref h_tide, .ref h_rain, .ref h_rule, .int v_h_counted, .ref h_counts, .ref h_begins, .ref h_best, .int v_h_bestWorth, .int v_h_bestPitch, .int v_h_bestBits, .int v_h_leastHour, .int v_h_leastSet, .int v_h_shut, .ref h_planks])), (h_tide, .inl (cI, 96, .inl f_h_tide_z))] → va_S A s.heap H locs → narrow .int (.int r_z) = .int r_z → decode cX9_tide pc = .ok (.ireturn, 1) → W p l e rm_X9_tide s m args below meth c H locs 0 0 Q (F0 m pc ls [.int r_z]) := by
    intro r_z v_h_thrown_z f_h_tide_z hz H locs ls pc hP hD hS hn hd
    cases hz
    exact k_iret hx hb hr hlocks hn hK hP hD hS hQ rfl hd
  unfold p_X9_tide at hf
  refine lv_aload_n hx hb dX9_tide_0 rfl (lv_at hl 0 rfl) ?_
  refine lv_iconst (v := 0) hx hb dX9_tide_1 (by decide) ?_
  refine k_putf (ws2 := [(h, .inr (9, [.int 0, .ref h_now, .ref h_aside, .int v_h_kept, .ref h_books, .ref h_tide, .ref h_rain, .ref h_rule, .int v_h_counted, .ref h_counts, .ref h_begins, .ref h_best, .int v_h_bestWorth, .int v_h_bestPitch, .int v_h_bestBits, .int v_h_leastHour, .int v_h_leastSet, .int v_h_shut, .ref h_planks])), (h_tide, .inl (cI, 96, .inl f_h_tide))]) (C := RX9) (T := TX9) (N := 19) hx hb hts inX9 tyX9 tyX9_ok nmX9 hown hK hP hD hS 0 rfl rfl 0 (by decide) rfl wl1 rfl rfl rfl (Nat.le_of_ble_eq_true rfl) rfl dX9_tide_2 (fun H locs hP hD hS => ?_)
  refine lv_iload_n hx hb dX9_tide_5 rfl (lv_at hl 1 rfl) ?_
  obtain ⟨r1, hc1, hf⟩ := k_b1_some hf
  refine k_SiR (As := [.int a1]) (rest := []) S0 (c_X9_isHour l D cI cZ cJ cS a1 r1 hc1) (va_cwS 1 hts gX9_tide_X9_isHour rfl rfl rfl hdS_X9_isHour ⟨Nat.le_of_ble_eq_true rfl, Nat.le_of_ble_eq_true rfl⟩) hK hP hD hS hA hN [] rfl (by decide) rfl hl.1 rfl (Nat.le_of_ble_eq_true rfl) dX9_tide_6 (fun H locs hP hS => ?_)
  refine lv_if_eq (tgt := 24) hx hb dX9_tide_9 (by decide) (fun c2 => ?_) (fun c2 => ?_)
  · replace hf := k_pos hf c2
    refine lv_iconst (v := (-1)) hx hb dX9_tide_24 (by decide) ?_
    exact hRet _ _ _ hf _ _ _ _ hP hD hS rfl dX9_tide_25
  · replace hf := k_neg hf c2
    refine lv_iload_n hx hb dX9_tide_12 rfl (lv_at hl 2 rfl) ?_
    refine lv_i2l (v := (a2).toInt64) hx hb dX9_tide_13 rfl ?_
    refine lv_lconst (v := 0) hx hb dX9_tide_14 (by decide) ?_
    refine lv_ldc2 hx hb hown wl2 dX9_tide_15 ?_
    obtain ⟨r3, hc3, hf⟩ := k_b1_some hf
    refine k_SiR (As := [.long ((a2).toInt64), .long 0, .long 60]) (rest := []) S0 (c_X9_in l D cI cZ cJ cS ((a2).toInt64) 0 60 r3 hc3) (va_cwS 3 hts gX9_tide_X9_in rfl rfl rfl hdS_X9_in ⟨Nat.le_of_ble_eq_true rfl, Nat.le_of_ble_eq_true rfl⟩) hK hP hD hS hA hN [] rfl (by decide) rfl hl.1 rfl (Nat.le_of_ble_eq_true rfl) dX9_tide_18 (fun H locs hP hS => ?_)
    refine lv_if_ne (tgt := 26) hx hb dX9_tide_21 (by decide) (fun c4 => ?_) (fun c4 => ?_)
    · replace hf := k_neg hf c4
      refine lv_aload_n hx hb dX9_tide_26 rfl (lv_at hl 0 rfl) ?_
      refine k_get (C := RX9) (T := TX9) (N := 19) hx hb hts inX9 hown hK hP 0 rfl rfl 5 (by decide) rfl wl3 rfl dX9_tide_27 ?_
      refine lv_iload_n hx hb dX9_tide_30 rfl (lv_at hl 1 rfl) ?_
      obtain ⟨hi5, hf⟩ := k_ix_some hf
      refine k_iald (k := a1.toNatClampNeg) hx hb hK hP 1 0 rfl rfl hi5 rfl dX9_tide_31 ?_
      refine lv_istore_n (lv' := [(3, .int (f_h_tide a1.toNatClampNeg)), (0, .ref h), (1, .int a1), (2, .int a2)]) hx hb dX9_tide_32 rfl hl (by decide) rfl (fun ls hl => ?_)
      refine lv_aload_n hx hb dX9_tide_33 rfl (lv_at hl 1 rfl) ?_
      refine k_get (C := RX9) (T := TX9) (N := 19) hx hb hts inX9 hown hK hP 0 rfl rfl 5 (by decide) rfl wl3 rfl dX9_tide_34 ?_
      refine lv_iload_n hx hb dX9_tide_37 rfl (lv_at hl 2 rfl) ?_
      refine lv_iload_n hx hb dX9_tide_38 rfl (lv_at hl 3 rfl) ?_
      obtain ⟨hi6, hf⟩ := k_ix_some hf
      refine k_iast (ws2 := [(h, .inr (9, [.int 0, .ref h_now, .ref h_aside, .int v_h_kept, .ref h_books, .ref h_tide, .ref h_rain, .ref h_rule, .int v_h_counted, .ref h_counts, .ref h_begins, .ref h_best, .int v_h_bestWorth, .int v_h_bestPitch, .int v_h_bestBits, .int v_h_leastHour, .int v_h_leastSet, .int v_h_shut, .ref h_planks])), (h_tide, .inl (cI, 96, .inl (upd f_h_tide a1.toNatClampNeg a2)))]) (k := a1.toNatClampNeg) hx hb hK hP hD hS 1 0 rfl rfl hi6 rfl rfl dX9_tide_39 (fun H locs hP hD hS => ?_)
      refine lv_iload_n hx hb dX9_tide_40 rfl (lv_at hl 0 rfl) ?_
      exact hRet _ _ _ hf _ _ _ _ hP hD hS rfl dX9_tide_41
    · replace hf := k_pos hf c4
      refine lv_iconst (v := (-1)) hx hb dX9_tide_24 (by decide) ?_
      exact hRet _ _ _ hf _ _ _ _ hP hD hS rfl dX9_tide_25

def lb_X9_tides_89 (a2 : Int32) (a1 : Int32) (a3 : Int64) (x5_23 : Int32) (c_h_tide_24 : Nat → Int32) : Option ((Int32 × (Nat → Int32)) ⊕ ((Nat → Int32))) :=
  if a2 ≤ x5_23 then
    some (.inr c_h_tide_24)
  else
    k_ix (a1 + x5_23) 96 (
      some (.inl (x5_23 + 1, upd c_h_tide_24 (a1 + x5_23).toNatClampNeg (((a3 >>> ((8 * x5_23).toInt64 &&& 63)) &&& 255).toInt32))))
def lb_X9_tides_54 (a2 : Int32) (a3 : Int64) (f_h_tide : Nat → Int32) (x5_27 : Int32) : Option ((Int32) ⊕ ((Int32 × Int32 × (Nat → Int32)) ⊕ (Unit))) :=
  if a2 ≤ x5_27 then
    some (.inr (.inr ()))
  else
    if (lg_cmp ((a3 >>> ((8 * x5_27).toInt64 &&& 63)) &&& 255) 60) ≤ 0 then
      some (.inl (x5_27 + 1))
    else
      some (.inr (.inl ((-1), 0, f_h_tide)))
def lj_X9_tides_51 (a2 : Int32) (a3 : Int64) (f_h_tide : Nat → Int32) (a1 : Int32)  : Option (Int32 × Int32 × (Nat → Int32)) :=
  k_bx0 (k_lp (fun s => lb_X9_tides_54 a2 a3 f_h_tide s) k_fuel 0) (fun q => some q) (
    k_b1 (k_lp (fun s => lb_X9_tides_89 a2 a1 a3 s.1 s.2) k_fuel (0, f_h_tide)) fun c_h_tide_22 =>
    some (a2, 0, c_h_tide_22))
def p_X9_tides (f_h_tide : Nat → Int32) (a1 : Int32) (a2 : Int32) (a3 : Int64) : Option (Int32 × Int32 × (Nat → Int32)) :=
  k_b1 (p_X9_isHour a1) fun r1 =>
  if r1 = 0 then
    some ((-1), 0, f_h_tide)
  else
    k_b1 (p_X9_in ((a2).toInt64) 1 8) fun r3 =>
    if r3 = 0 then
      some ((-1), 0, f_h_tide)
    else
      if 96 < (a1 + a2) then
        some ((-1), 0, f_h_tide)
      else
        if 8 ≤ a2 then
          lj_X9_tides_51 a2 a3 f_h_tide a1
        else
          if (lg_cmp (((a3).toUInt64 >>> ((8 * a2).toInt64.toUInt64 &&& Int64.toUInt64 63)).toInt64) 0) = 0 then
            lj_X9_tides_51 a2 a3 f_h_tide a1
          else
            some ((-1), 0, f_h_tide)
abbrev rm_X9_tides : Room := { frames := 2, cells := 0, slots := 0, locals := 45 }
theorem hdS_X9_tides : yX9_tides.cls ≠ "java/lang/invoke/MethodHandle" ∧ yX9_tides.cls ≠ "java/lang/invoke/VarHandle" ∧ (parseMethodDescriptor yX9_tides.desc).map (fun d => d.parameters.length) = some 3 := by decide +kernel
theorem hdV_X9_tides : yX9_tides.cls = RX9 ∧ yX9_tides.cls ≠ "java/lang/invoke/MethodHandle" ∧ yX9_tides.cls ≠ "java/lang/invoke/VarHandle" ∧ (parseMethodDescriptor yX9_tides.desc).map (fun d => d.parameters.length) = some 3 := by decide +kernel
set_option maxHeartbeats 4000000 in
set_option maxRecDepth 100000 in
theorem c_X9_tides (l : Launch) (D : va_G) (cI cZ cJ cS : ClassId) (h h_now h_aside h_books h_tide h_rain h_rule h_counts h_begins h_best h_planks : Nat) (v_h_thrown : Int32) (v_h_kept : Int32) (v_h_counted : Int32) (v_h_bestWorth : Int32) (v_h_bestPitch : Int32) (v_h_bestBits : Int32) (v_h_leastHour : Int32) (v_h_leastSet : Int32) (v_h_shut : Int32) (f_h_tide : Nat → Int32) (a1 : Int32) (a2 : Int32) (a3 : Int64) (r : Int32) (v_h_thrown' : Int32) (f_h_tide' : Nat → Int32) (hf : p_X9_tides f_h_tide a1 a2 a3 = some (r, v_h_thrown', f_h_tide')) : k_MI l yX9_tides wsX9_tides rm_X9_tides D (k_tys cI cZ cJ cS) [.ref h, .int a1, .int a2, .long a3] [(h, .inr (9, [.int v_h_thrown, .ref h_now, .ref h_aside, .int v_h_kept, .ref h_books, .ref h_tide, .ref h_rain, .ref h_rule, .int v_h_counted, .ref h_counts, .ref h_begins, .ref h_best, .int v_h_bestWorth, .int v_h_bestPitch, .int v_h_bestBits, .int v_h_leastHour, .int v_h_leastSet, .int v_h_shut, .ref h_planks])), (h_tide, .inl (cI, 96, .inl f_h_tide))] [(h, .inr (9, [.int v_h_thrown', .ref h_now, .ref h_aside, .int v_h_kept, .ref h_books, .ref h_tide, .ref h_rain, .ref h_rule, .int v_h_counted, .ref h_counts, .ref h_begins, .ref h_best, .int v_h_bestWorth, .int v_h_bestPitch, .int v_h_bestBits, .int v_h_leastHour, .int v_h_leastSet, .int v_h_shut, .ref h_planks])), (h_tide, .inl (cI, 96, .inl f_h_tide'))] r := by
  refine k_enter (y := yX9_tides) (wl := wsX9_tides) (rm := rm_X9_tides) (av := [.ref h, .int a1, .int a2, .long a3]) (D := D) (tys := k_tys cI cZ cJ cS) (ws := [(h, .inr (9, [.int v_h_thrown, .ref h_now, .ref h_aside, .int v_h_kept, .ref h_books, .ref h_tide, .ref h_rain, .ref h_rule, .int v_h_counted, .ref h_counts, .ref h_begins, .ref h_best, .int v_h_bestWorth, .int v_h_bestPitch, .int v_h_bestBits, .int v_h_leastHour, .int v_h_leastSet, .int v_h_shut, .ref h_planks])), (h_tide, .inl (cI, 96, .inl f_h_tide))]) (cc := cX9_tides) (maxL := 6) (ret := (some .int)) (Qc := fun A => k_Qi D (k_tys cI cZ cJ cS) [(h, .inr (9, [.int v_h_thrown', .ref h_now, .ref h_aside, .int v_h_kept, .ref h_books, .ref h_tide, .ref h_rain, .ref h_rule, .int v_h_counted, .ref h_counts, .ref h_begins, .ref h_best, .int v_h_bestWorth, .int v_h_bestPitch, .int v_h_bestBits, .int v_h_leastHour, .int v_h_leastSet, .int v_h_shut, .ref h_planks])), (h_tide, .inl (cI, 96, .inl f_h_tide'))] A r) (by decide) rfl (Nat.le_of_ble_eq_true rfl) [(0, .ref h), (1, .int a1), (2, .int a2), (3, .long a3)] rfl ?_
  intro p e s m below meth c A hx hb hml hr hlocks hnm hown hK hP hD hA hS hN ls args Q hts hl hQ
  replace hown : s.vm.findClass RX9 = some m.cls := hown
  have S0 : CallFix p m c cX9_tides 6 s args wsX9_tides RX9 := ⟨hx, hb, hml, hown, hts⟩
  have inX9 : ∀ w ∈ u_ws RX9 TX9 19, w ∈ wsX9_tides := fun w h => List.mem_cons_of_mem _ (List.mem_append_right _ h)
  have wl1 : (Cond.fieldLink RX9 1 "BeachedShipModel" "thrown" "I").before args s = true := hts _ (List.mem_of_getElem? (i := 1) rfl)
  have wl2 : (Cond.constantLong RX9 56 (8)).before args s = true := hts _ (List.mem_of_getElem? (i := 2) rfl)
  have wl3 : (Cond.constantLong RX9 58 (255)).before args s = true := hts _ (List.mem_of_getElem? (i := 3) rfl)
  have wl4 : (Cond.constantLong RX9 54 (60)).before args s = true := hts _ (List.mem_of_getElem? (i := 4) rfl)
  have wl5 : (Cond.fieldLink RX9 23 "BeachedShipModel" "tide" "[I").before args s = true := hts _ (List.mem_of_getElem? (i := 5) rfl)
  have hRet : ∀ (r_z : Int32) (v_h_thrown_z : Int32) (f_h_tide_z : Nat → Int32), some (r_z, v_h_thrown_z, f_h_tide_z) = some (r, v_h_thrown', f_h_tide') → ∀ (H : Heap) (locs : List Loc) (ls : Array Slot) (pc : Nat), va_P D vwCl [(h, .inr (9, [.int v_h_thrown_z, .ref h_now, .ref h_aside, .int v_h_kept, .ref h_books, .ref h_tide, .ref h_rain, .ref h_rule, .int v_h_counted, .ref h_counts, .ref h_begins, .ref h_best, .int v_h_bestWorth, .int v_h_bestPitch, .int v_h_bestBits, .int v_h_leastHour, .int v_h_leastSet, .int v_h_shut, .ref h_planks])), (h_tide, .inl (cI, 96, .inl f_h_tide_z))] H → va_D A [(h, .inr (9, [.int v_h_thrown_z, .ref h_now, .ref h_aside, .int v_h_kept, .ref h_books, .ref h_tide, .ref h_rain, .ref h_rule, .int v_h_counted, .ref h_counts, .ref h_begins, .ref h_best, .int v_h_bestWorth, .int v_h_bestPitch, .int v_h_bestBits, .int v_h_leastHour, .int v_h_leastSet, .int v_h_shut, .ref h_planks])), (h_tide, .inl (cI, 96, .inl f_h_tide_z))] → va_S A s.heap H locs → narrow .int (.int r_z) = .int r_z → decode cX9_tides pc = .ok (.ireturn, 1) → W p l e rm_X9_tides s m args below meth c H locs 0 0 Q (F0 m pc ls [.int r_z]) := by
    intro r_z v_h_thrown_z f_h_tide_z hz H locs ls pc hP hD hS hn hd
    cases hz
    exact k_iret hx hb hr hlocks hn hK hP hD hS hQ rfl hd
  unfold p_X9_tides at hf
  refine lv_aload_n hx hb dX9_tides_0 rfl (lv_at hl 0 rfl) ?_
  refine lv_iconst (v := 0) hx hb dX9_tides_1 (by decide) ?_
  refine k_putf (ws2 := [(h, .inr (9, [.int 0, .ref h_now, .ref h_aside, .int v_h_kept, .ref h_books, .ref h_tide, .ref h_rain, .ref h_rule, .int v_h_counted, .ref h_counts, .ref h_begins, .ref h_best, .int v_h_bestWorth, .int v_h_bestPitch, .int v_h_bestBits, .int v_h_leastHour, .int v_h_leastSet, .int v_h_shut, .ref h_planks])), (h_tide, .inl (cI, 96, .inl f_h_tide))]) (C := RX9) (T := TX9) (N := 19) hx hb hts inX9 tyX9 tyX9_ok nmX9 hown hK hP hD hS 0 rfl rfl 0 (by decide) rfl wl1 rfl rfl rfl (Nat.le_of_ble_eq_true rfl) rfl dX9_tides_2 (fun H locs hP hD hS => ?_)
  refine lv_iload_n hx hb dX9_tides_5 rfl (lv_at hl 1 rfl) ?_
  obtain ⟨r1, hc1, hf⟩ := k_b1_some hf
  refine k_SiR (As := [.int a1]) (rest := []) S0 (c_X9_isHour l D cI cZ cJ cS a1 r1 hc1) (va_cwS 1 hts gX9_tides_X9_isHour rfl rfl rfl hdS_X9_isHour ⟨Nat.le_of_ble_eq_true rfl, Nat.le_of_ble_eq_true rfl⟩) hK hP hD hS hA hN [] rfl (by decide) rfl hl.1 rfl (Nat.le_of_ble_eq_true rfl) dX9_tides_6 (fun H locs hP hS => ?_)
  refine lv_if_eq (tgt := 49) hx hb dX9_tides_9 (by decide) (fun c2 => ?_) (fun c2 => ?_)
  · replace hf := k_pos hf c2
    refine lv_iconst (v := (-1)) hx hb dX9_tides_49 (by decide) ?_
    exact hRet _ _ _ hf _ _ _ _ hP hD hS rfl dX9_tides_50
  · replace hf := k_neg hf c2
    refine lv_iload_n hx hb dX9_tides_12 rfl (lv_at hl 2 rfl) ?_
    refine lv_i2l (v := (a2).toInt64) hx hb dX9_tides_13 rfl ?_
    refine lv_lconst (v := 1) hx hb dX9_tides_14 (by decide) ?_
    refine lv_ldc2 hx hb hown wl2 dX9_tides_15 ?_
    obtain ⟨r3, hc3, hf⟩ := k_b1_some hf
    refine k_SiR (As := [.long ((a2).toInt64), .long 1, .long 8]) (rest := []) S0 (c_X9_in l D cI cZ cJ cS ((a2).toInt64) 1 8 r3 hc3) (va_cwS 3 hts gX9_tides_X9_in rfl rfl rfl hdS_X9_in ⟨Nat.le_of_ble_eq_true rfl, Nat.le_of_ble_eq_true rfl⟩) hK hP hD hS hA hN [] rfl (by decide) rfl hl.1 rfl (Nat.le_of_ble_eq_true rfl) dX9_tides_18 (fun H locs hP hS => ?_)
    refine lv_if_eq (tgt := 49) hx hb dX9_tides_21 (by decide) (fun c4 => ?_) (fun c4 => ?_)
    · replace hf := k_pos hf c4
      refine lv_iconst (v := (-1)) hx hb dX9_tides_49 (by decide) ?_
      exact hRet _ _ _ hf _ _ _ _ hP hD hS rfl dX9_tides_50
    · replace hf := k_neg hf c4
      refine lv_iload_n hx hb dX9_tides_24 rfl (lv_at hl 1 rfl) ?_
      refine lv_iload_n hx hb dX9_tides_25 rfl (lv_at hl 2 rfl) ?_
      refine lv_iadd hx hb dX9_tides_26 ?_
      refine lv_bipush (v := 96) hx hb dX9_tides_27 (by decide) ?_
      refine lv_icmp_gt (tgt := 49) hx hb dX9_tides_29 (by decide) (fun c5 => ?_) (fun c5 => ?_)
      · replace hf := k_pos hf c5
        refine lv_iconst (v := (-1)) hx hb dX9_tides_49 (by decide) ?_
        exact hRet _ _ _ hf _ _ _ _ hP hD hS rfl dX9_tides_50
      · replace hf := k_neg hf c5
        have hJ8 : lj_X9_tides_51 a2 a3 f_h_tide a1 = some (r, v_h_thrown', f_h_tide') → ∀ (H : Heap) (locs : List Loc) (ls : Array Slot), va_P D vwCl [(h, .inr (9, [.int 0, .ref h_now, .ref h_aside, .int v_h_kept, .ref h_books, .ref h_tide, .ref h_rain, .ref h_rule, .int v_h_counted, .ref h_counts, .ref h_begins, .ref h_best, .int v_h_bestWorth, .int v_h_bestPitch, .int v_h_bestBits, .int v_h_leastHour, .int v_h_leastSet, .int v_h_shut, .ref h_planks])), (h_tide, .inl (cI, 96, .inl f_h_tide))] H → va_D A [(h, .inr (9, [.int 0, .ref h_now, .ref h_aside, .int v_h_kept, .ref h_books, .ref h_tide, .ref h_rain, .ref h_rule, .int v_h_counted, .ref h_counts, .ref h_begins, .ref h_best, .int v_h_bestWorth, .int v_h_bestPitch, .int v_h_bestBits, .int v_h_leastHour, .int v_h_leastSet, .int v_h_shut, .ref h_planks])), (h_tide, .inl (cI, 96, .inl f_h_tide))] → va_S A s.heap H locs → lv_has ls 6 [(0, .ref h), (1, .int a1), (2, .int a2), (3, .long a3)] → W p l e rm_X9_tides s m args below meth c H locs 0 0 Q (F0 m 51 ls []) := by
          intro  hf_j H locs ls hP hD hS hl
          replace hf := hf_j
          unfold lj_X9_tides_51 at hf
          refine lv_iconst (v := 0) hx hb dX9_tides_51 (by decide) ?_
          refine lv_istore (lv' := [(5, .int 0), (0, .ref h), (1, .int a1), (2, .int a2), (3, .long a3)]) hx hb dX9_tides_52 hl (by decide) rfl (fun ls hl => ?_)
          obtain ⟨ee14, hlp14, hfl14, hfr14⟩ := k_bx0_some hf
          have hE14 : ee14 = .inr () → ∀ (H : Heap) (locs : List Loc) (ls : Array Slot), va_P D vwCl [(h, .inr (9, [.int 0, .ref h_now, .ref h_aside, .int v_h_kept, .ref h_books, .ref h_tide, .ref h_rain, .ref h_rule, .int v_h_counted, .ref h_counts, .ref h_begins, .ref h_best, .int v_h_bestWorth, .int v_h_bestPitch, .int v_h_bestBits, .int v_h_leastHour, .int v_h_leastSet, .int v_h_shut, .ref h_planks])), (h_tide, .inl (cI, 96, .inl f_h_tide))] H → va_D A [(h, .inr (9, [.int 0, .ref h_now, .ref h_aside, .int v_h_kept, .ref h_books, .ref h_tide, .ref h_rain, .ref h_rule, .int v_h_counted, .ref h_counts, .ref h_begins, .ref h_best, .int v_h_bestWorth, .int v_h_bestPitch, .int v_h_bestBits, .int v_h_leastHour, .int v_h_leastSet, .int v_h_shut, .ref h_planks])), (h_tide, .inl (cI, 96, .inl f_h_tide))] → va_S A s.heap H locs → lv_has ls 6 [(0, .ref h), (1, .int a1), (2, .int a2), (3, .long a3)] → W p l e rm_X9_tides s m args below meth c H locs 0 0 Q (F0 m 86 ls []) := by
            intro  he H locs ls hP hD hS hl
            replace hf := hfr14  he
            refine lv_iconst (v := 0) hx hb dX9_tides_86 (by decide) ?_
            refine lv_istore (lv' := [(5, .int 0), (0, .ref h), (1, .int a1), (2, .int a2), (3, .long a3)]) hx hb dX9_tides_87 hl (by decide) rfl (fun ls hl => ?_)
            obtain ⟨ee21, hlp21, hfr21⟩ := k_b1_ee hf
            have hE21 : ∀ (c_h_tide_22 : Nat → Int32), ee21 = c_h_tide_22 → ∀ (H : Heap) (locs : List Loc) (ls : Array Slot), va_P D vwCl [(h, .inr (9, [.int 0, .ref h_now, .ref h_aside, .int v_h_kept, .ref h_books, .ref h_tide, .ref h_rain, .ref h_rule, .int v_h_counted, .ref h_counts, .ref h_begins, .ref h_best, .int v_h_bestWorth, .int v_h_bestPitch, .int v_h_bestBits, .int v_h_leastHour, .int v_h_leastSet, .int v_h_shut, .ref h_planks])), (h_tide, .inl (cI, 96, .inl c_h_tide_22))] H → va_D A [(h, .inr (9, [.int 0, .ref h_now, .ref h_aside, .int v_h_kept, .ref h_books, .ref h_tide, .ref h_rain, .ref h_rule, .int v_h_counted, .ref h_counts, .ref h_begins, .ref h_best, .int v_h_bestWorth, .int v_h_bestPitch, .int v_h_bestBits, .int v_h_leastHour, .int v_h_leastSet, .int v_h_shut, .ref h_planks])), (h_tide, .inl (cI, 96, .inl c_h_tide_22))] → va_S A s.heap H locs → lv_has ls 6 [(2, .int a2)] → W p l e rm_X9_tides s m args below meth c H locs 0 0 Q (F0 m 122 ls []) := by
              intro c_h_tide_22 he H locs ls hP hD hS hl
              replace hf := hfr21 c_h_tide_22 he
              refine lv_iload_n hx hb dX9_tides_122 rfl (lv_at hl 0 rfl) ?_
              exact hRet _ _ _ hf _ _ _ _ hP hD hS rfl dX9_tides_123
            refine (k_lp_ind (fun sx21 => ∀ (H : Heap) (locs : List Loc) (ls : Array Slot), va_P D vwCl [(h, .inr (9, [.int 0, .ref h_now, .ref h_aside, .int v_h_kept, .ref h_books, .ref h_tide, .ref h_rain, .ref h_rule, .int v_h_counted, .ref h_counts, .ref h_begins, .ref h_best, .int v_h_bestWorth, .int v_h_bestPitch, .int v_h_bestBits, .int v_h_leastHour, .int v_h_leastSet, .int v_h_shut, .ref h_planks])), (h_tide, .inl (cI, 96, .inl sx21.2))] H → va_D A [(h, .inr (9, [.int 0, .ref h_now, .ref h_aside, .int v_h_kept, .ref h_books, .ref h_tide, .ref h_rain, .ref h_rule, .int v_h_counted, .ref h_counts, .ref h_begins, .ref h_best, .int v_h_bestWorth, .int v_h_bestPitch, .int v_h_bestBits, .int v_h_leastHour, .int v_h_leastSet, .int v_h_shut, .ref h_planks])), (h_tide, .inl (cI, 96, .inl sx21.2))] → va_S A s.heap H locs → lv_has ls 6 [(5, .int sx21.1), (0, .ref h), (1, .int a1), (2, .int a2), (3, .long a3)] → W p l e rm_X9_tides s m args below meth c H locs 0 0 Q (F0 m 89 ls [])) (fun sx21 X21 hX21 hin21 hout21 => ?_) _ _ hlp21) _ _ _ hP hD hS (lv_sub hl [0, 1, 2, 3, 4] rfl)
            obtain ⟨x5_23, c_h_tide_24⟩ := sx21
            intro H locs ls hP hD hS hl
            replace hP : va_P D vwCl [(h, .inr (9, [.int 0, .ref h_now, .ref h_aside, .int v_h_kept, .ref h_books, .ref h_tide, .ref h_rain, .ref h_rule, .int v_h_counted, .ref h_counts, .ref h_begins, .ref h_best, .int v_h_bestWorth, .int v_h_bestPitch, .int v_h_bestBits, .int v_h_leastHour, .int v_h_leastSet, .int v_h_shut, .ref h_planks])), (h_tide, .inl (cI, 96, .inl c_h_tide_24))] H := hP
            replace hD : va_D A [(h, .inr (9, [.int 0, .ref h_now, .ref h_aside, .int v_h_kept, .ref h_books, .ref h_tide, .ref h_rain, .ref h_rule, .int v_h_counted, .ref h_counts, .ref h_begins, .ref h_best, .int v_h_bestWorth, .int v_h_bestPitch, .int v_h_bestBits, .int v_h_leastHour, .int v_h_leastSet, .int v_h_shut, .ref h_planks])), (h_tide, .inl (cI, 96, .inl c_h_tide_24))] := hD
            replace hl : lv_has ls 6 [(5, .int x5_23), (0, .ref h), (1, .int a1), (2, .int a2), (3, .long a3)] := hl
            replace hX21 : lb_X9_tides_89 a2 a1 a3 x5_23 c_h_tide_24 = some X21 := hX21
            unfold lb_X9_tides_89 at hX21
            refine lv_iload hx hb dX9_tides_89 (lv_at hl 0 rfl) ?_
            refine lv_iload_n hx hb dX9_tides_91 rfl (lv_at hl 3 rfl) ?_
            refine lv_icmp_ge (tgt := 122) hx hb dX9_tides_92 (by decide) (fun c25 => ?_) (fun c25 => ?_)
            · replace hX21 := k_pos hX21 c25
              exact hE21 _ (hout21 _ (Option.some.inj hX21).symm).symm _ _ _ hP hD hS (lv_sub hl [3] rfl)
            · replace hX21 := k_neg hX21 c25
              refine lv_aload_n hx hb dX9_tides_95 rfl (lv_at hl 1 rfl) ?_
              refine k_get (C := RX9) (T := TX9) (N := 19) hx hb hts inX9 hown hK hP 0 rfl rfl 5 (by decide) rfl wl5 rfl dX9_tides_96 ?_
              refine lv_iload_n hx hb dX9_tides_99 rfl (lv_at hl 2 rfl) ?_
              refine lv_iload hx hb dX9_tides_100 (lv_at hl 0 rfl) ?_
              refine lv_iadd hx hb dX9_tides_102 ?_
              refine lv_lload_n hx hb dX9_tides_103 rfl (lv_at hl 4 rfl) ?_
              refine lv_bipush (v := 8) hx hb dX9_tides_104 (by decide) ?_
              refine lv_iload hx hb dX9_tides_106 (lv_at hl 0 rfl) ?_
              refine lv_imul hx hb dX9_tides_108 ?_
              refine lv_lshr (v := a3 >>> ((8 * x5_23).toInt64 &&& 63)) hx hb dX9_tides_109 rfl ?_
              refine lv_ldc2 hx hb hown wl3 dX9_tides_110 ?_
              refine lv_land hx hb dX9_tides_113 ?_
              refine lv_l2i (v := ((a3 >>> ((8 * x5_23).toInt64 &&& 63)) &&& 255).toInt32) hx hb dX9_tides_114 rfl ?_
              obtain ⟨hi26, hX21⟩ := k_ix_some hX21
              refine k_iast (ws2 := [(h, .inr (9, [.int 0, .ref h_now, .ref h_aside, .int v_h_kept, .ref h_books, .ref h_tide, .ref h_rain, .ref h_rule, .int v_h_counted, .ref h_counts, .ref h_begins, .ref h_best, .int v_h_bestWorth, .int v_h_bestPitch, .int v_h_bestBits, .int v_h_leastHour, .int v_h_leastSet, .int v_h_shut, .ref h_planks])), (h_tide, .inl (cI, 96, .inl (upd c_h_tide_24 (a1 + x5_23).toNatClampNeg (((a3 >>> ((8 * x5_23).toInt64 &&& 63)) &&& 255).toInt32))))]) (k := (a1 + x5_23).toNatClampNeg) hx hb hK hP hD hS 1 0 rfl rfl hi26 rfl rfl dX9_tides_115 (fun H locs hP hD hS => ?_)
              refine lv_iinc (v := x5_23 + 1) (lv' := [(5, .int (x5_23 + 1)), (0, .ref h), (1, .int a1), (2, .int a2), (3, .long a3)]) hx hb dX9_tides_116 hl (k := 0) rfl rfl (by decide) rfl (fun ls hl => ?_)
              refine lv_goto (tgt := 89) hx hb dX9_tides_119 (by decide) ?_
              exact hin21 (x5_23 + 1, upd c_h_tide_24 (a1 + x5_23).toNatClampNeg (((a3 >>> ((8 * x5_23).toInt64 &&& 63)) &&& 255).toInt32)) (Option.some.inj hX21).symm _ _ _ hP hD hS (lv_sub hl [0, 1, 2, 3, 4] rfl)
          refine (k_lp_ind (fun sx14 => ∀ (H : Heap) (locs : List Loc) (ls : Array Slot), va_P D vwCl [(h, .inr (9, [.int 0, .ref h_now, .ref h_aside, .int v_h_kept, .ref h_books, .ref h_tide, .ref h_rain, .ref h_rule, .int v_h_counted, .ref h_counts, .ref h_begins, .ref h_best, .int v_h_bestWorth, .int v_h_bestPitch, .int v_h_bestBits, .int v_h_leastHour, .int v_h_leastSet, .int v_h_shut, .ref h_planks])), (h_tide, .inl (cI, 96, .inl f_h_tide))] H → va_D A [(h, .inr (9, [.int 0, .ref h_now, .ref h_aside, .int v_h_kept, .ref h_books, .ref h_tide, .ref h_rain, .ref h_rule, .int v_h_counted, .ref h_counts, .ref h_begins, .ref h_best, .int v_h_bestWorth, .int v_h_bestPitch, .int v_h_bestBits, .int v_h_leastHour, .int v_h_leastSet, .int v_h_shut, .ref h_planks])), (h_tide, .inl (cI, 96, .inl f_h_tide))] → va_S A s.heap H locs → lv_has ls 6 [(5, .int sx14), (0, .ref h), (1, .int a1), (2, .int a2), (3, .long a3)] → W p l e rm_X9_tides s m args below meth c H locs 0 0 Q (F0 m 54 ls [])) (fun sx14 X14 hX14 hin14 hout14 => ?_) _ _ hlp14) _ _ _ hP hD hS (lv_sub hl [0, 1, 2, 3, 4] rfl)
          obtain ⟨x5_27, rfl⟩ : ∃ z, z = sx14 := ⟨_, rfl⟩
          intro H locs ls hP hD hS hl
          replace hP : va_P D vwCl [(h, .inr (9, [.int 0, .ref h_now, .ref h_aside, .int v_h_kept, .ref h_books, .ref h_tide, .ref h_rain, .ref h_rule, .int v_h_counted, .ref h_counts, .ref h_begins, .ref h_best, .int v_h_bestWorth, .int v_h_bestPitch, .int v_h_bestBits, .int v_h_leastHour, .int v_h_leastSet, .int v_h_shut, .ref h_planks])), (h_tide, .inl (cI, 96, .inl f_h_tide))] H := hP
          replace hD : va_D A [(h, .inr (9, [.int 0, .ref h_now, .ref h_aside, .int v_h_kept, .ref h_books, .ref h_tide, .ref h_rain, .ref h_rule, .int v_h_counted, .ref h_counts, .ref h_begins, .ref h_best, .int v_h_bestWorth, .int v_h_bestPitch, .int v_h_bestBits, .int v_h_leastHour, .int v_h_leastSet, .int v_h_shut, .ref h_planks])), (h_tide, .inl (cI, 96, .inl f_h_tide))] := hD
          replace hl : lv_has ls 6 [(5, .int x5_27), (0, .ref h), (1, .int a1), (2, .int a2), (3, .long a3)] := hl
          replace hX14 : lb_X9_tides_54 a2 a3 f_h_tide x5_27 = some X14 := hX14
          unfold lb_X9_tides_54 at hX14
          refine lv_iload hx hb dX9_tides_54 (lv_at hl 0 rfl) ?_
          refine lv_iload_n hx hb dX9_tides_56 rfl (lv_at hl 3 rfl) ?_
          refine lv_icmp_ge (tgt := 86) hx hb dX9_tides_57 (by decide) (fun c28 => ?_) (fun c28 => ?_)
          · replace hX14 := k_pos hX14 c28
            exact hE14  (hout14 _ (Option.some.inj hX14).symm).symm _ _ _ hP hD hS (lv_sub hl [1, 2, 3, 4] rfl)
          · replace hX14 := k_neg hX14 c28
            refine lv_lload_n hx hb dX9_tides_60 rfl (lv_at hl 4 rfl) ?_
            refine lv_bipush (v := 8) hx hb dX9_tides_61 (by decide) ?_
            refine lv_iload hx hb dX9_tides_63 (lv_at hl 0 rfl) ?_
            refine lv_imul hx hb dX9_tides_65 ?_
            refine lv_lshr (v := a3 >>> ((8 * x5_27).toInt64 &&& 63)) hx hb dX9_tides_66 rfl ?_
            refine lv_ldc2 hx hb hown wl3 dX9_tides_67 ?_
            refine lv_land hx hb dX9_tides_70 ?_
            refine lv_ldc2 hx hb hown wl4 dX9_tides_71 ?_
            refine W.lcmp hx hb dX9_tides_74 ?_
            refine lv_if_le (tgt := 80) hx hb dX9_tides_75 (by decide) (fun c29 => ?_) (fun c29 => ?_)
            · replace hX14 := k_pos hX14 c29
              refine lv_iinc (v := x5_27 + 1) (lv' := [(5, .int (x5_27 + 1)), (0, .ref h), (1, .int a1), (2, .int a2), (3, .long a3)]) hx hb dX9_tides_80 hl (k := 0) rfl rfl (by decide) rfl (fun ls hl => ?_)
              refine lv_goto (tgt := 54) hx hb dX9_tides_83 (by decide) ?_
              exact hin14 (x5_27 + 1) (Option.some.inj hX14).symm _ _ _ hP hD hS (lv_sub hl [0, 1, 2, 3, 4] rfl)
            · replace hX14 := k_neg hX14 c29
              refine lv_iconst (v := (-1)) hx hb dX9_tides_78 (by decide) ?_
              have he := hout14 _ (Option.some.inj hX14).symm
              replace hf := hfl14 _ he.symm
              exact hRet _ _ _ hf _ _ _ _ hP hD hS rfl dX9_tides_79
        refine lv_iload_n hx hb dX9_tides_32 rfl (lv_at hl 2 rfl) ?_
        refine lv_bipush (v := 8) hx hb dX9_tides_33 (by decide) ?_
        refine lv_icmp_ge (tgt := 51) hx hb dX9_tides_35 (by decide) (fun c30 => ?_) (fun c30 => ?_)
        · replace hf := k_pos hf c30
          exact hJ8  hf _ _ _ hP hD hS (lv_sub hl [0, 1, 2, 3] rfl)
        · replace hf := k_neg hf c30
          refine lv_lload_n hx hb dX9_tides_38 rfl (lv_at hl 3 rfl) ?_
          refine lv_bipush (v := 8) hx hb dX9_tides_39 (by decide) ?_
          refine lv_iload_n hx hb dX9_tides_41 rfl (lv_at hl 2 rfl) ?_
          refine lv_imul hx hb dX9_tides_42 ?_
          refine lv_lushr (v := ((a3).toUInt64 >>> ((8 * a2).toInt64.toUInt64 &&& Int64.toUInt64 63)).toInt64) hx hb dX9_tides_43 rfl ?_
          refine lv_lconst (v := 0) hx hb dX9_tides_44 (by decide) ?_
          refine W.lcmp hx hb dX9_tides_45 ?_
          refine lv_if_eq (tgt := 51) hx hb dX9_tides_46 (by decide) (fun c31 => ?_) (fun c31 => ?_)
          · replace hf := k_pos hf c31
            exact hJ8  hf _ _ _ hP hD hS (lv_sub hl [0, 1, 2, 3] rfl)
          · replace hf := k_neg hf c31
            refine lv_iconst (v := (-1)) hx hb dX9_tides_49 (by decide) ?_
            exact hRet _ _ _ hf _ _ _ _ hP hD hS rfl dX9_tides_50

def p_X9_rain (f_h_rain : Nat → Int32) (a1 : Int32) (a2 : Int32) : Option (Int32 × Int32 × (Nat → Int32)) :=
  k_b1 (p_X9_isHour a1) fun r1 =>
  if r1 = 0 then
    some ((-1), 0, f_h_rain)
  else
    k_ix a1 96 (
      if a2 = 0 then
        k_ix a1 96 (
          some (f_h_rain a1.toNatClampNeg, 0, upd f_h_rain a1.toNatClampNeg 0))
      else
        k_ix a1 96 (
          some (f_h_rain a1.toNatClampNeg, 0, upd f_h_rain a1.toNatClampNeg 1)))
abbrev rm_X9_rain : Room := { frames := 2, cells := 0, slots := 0, locals := 45 }
theorem hdS_X9_rain : yX9_rain.cls ≠ "java/lang/invoke/MethodHandle" ∧ yX9_rain.cls ≠ "java/lang/invoke/VarHandle" ∧ (parseMethodDescriptor yX9_rain.desc).map (fun d => d.parameters.length) = some 2 := by decide +kernel
theorem hdV_X9_rain : yX9_rain.cls = RX9 ∧ yX9_rain.cls ≠ "java/lang/invoke/MethodHandle" ∧ yX9_rain.cls ≠ "java/lang/invoke/VarHandle" ∧ (parseMethodDescriptor yX9_rain.desc).map (fun d => d.parameters.length) = some 2 := by decide +kernel
set_option maxHeartbeats 4000000 in
set_option maxRecDepth 100000 in
theorem c_X9_rain (l : Launch) (D : va_G) (cI cZ cJ cS : ClassId) (h h_now h_aside h_books h_tide h_rain h_rule h_counts h_begins h_best h_planks : Nat) (v_h_thrown : Int32) (v_h_kept : Int32) (v_h_counted : Int32) (v_h_bestWorth : Int32) (v_h_bestPitch : Int32) (v_h_bestBits : Int32) (v_h_leastHour : Int32) (v_h_leastSet : Int32) (v_h_shut : Int32) (f_h_rain : Nat → Int32) (a1 : Int32) (a2 : Int32) (r : Int32) (v_h_thrown' : Int32) (f_h_rain' : Nat → Int32) (hf : p_X9_rain f_h_rain a1 a2 = some (r, v_h_thrown', f_h_rain')) : k_MI l yX9_rain wsX9_rain rm_X9_rain D (k_tys cI cZ cJ cS) [.ref h, .int a1, .int a2] [(h, .inr (9, [.int v_h_thrown, .ref h_now, .ref h_aside, .int v_h_kept, .ref h_books, .ref h_tide, .ref h_rain, .ref h_rule, .int v_h_counted, .ref h_counts, .ref h_begins, .ref h_best, .int v_h_bestWorth, .int v_h_bestPitch, .int v_h_bestBits, .int v_h_leastHour, .int v_h_leastSet, .int v_h_shut, .ref h_planks])), (h_rain, .inl (cI, 96, .inl f_h_rain))] [(h, .inr (9, [.int v_h_thrown', .ref h_now, .ref h_aside, .int v_h_kept, .ref h_books, .ref h_tide, .ref h_rain, .ref h_rule, .int v_h_counted, .ref h_counts, .ref h_begins, .ref h_best, .int v_h_bestWorth, .int v_h_bestPitch, .int v_h_bestBits, .int v_h_leastHour, .int v_h_leastSet, .int v_h_shut, .ref h_planks])), (h_rain, .inl (cI, 96, .inl f_h_rain'))] r := by
  refine k_enter (y := yX9_rain) (wl := wsX9_rain) (rm := rm_X9_rain) (av := [.ref h, .int a1, .int a2]) (D := D) (tys := k_tys cI cZ cJ cS) (ws := [(h, .inr (9, [.int v_h_thrown, .ref h_now, .ref h_aside, .int v_h_kept, .ref h_books, .ref h_tide, .ref h_rain, .ref h_rule, .int v_h_counted, .ref h_counts, .ref h_begins, .ref h_best, .int v_h_bestWorth, .int v_h_bestPitch, .int v_h_bestBits, .int v_h_leastHour, .int v_h_leastSet, .int v_h_shut, .ref h_planks])), (h_rain, .inl (cI, 96, .inl f_h_rain))]) (cc := cX9_rain) (maxL := 4) (ret := (some .int)) (Qc := fun A => k_Qi D (k_tys cI cZ cJ cS) [(h, .inr (9, [.int v_h_thrown', .ref h_now, .ref h_aside, .int v_h_kept, .ref h_books, .ref h_tide, .ref h_rain, .ref h_rule, .int v_h_counted, .ref h_counts, .ref h_begins, .ref h_best, .int v_h_bestWorth, .int v_h_bestPitch, .int v_h_bestBits, .int v_h_leastHour, .int v_h_leastSet, .int v_h_shut, .ref h_planks])), (h_rain, .inl (cI, 96, .inl f_h_rain'))] A r) (by decide) rfl (Nat.le_of_ble_eq_true rfl) [(0, .ref h), (1, .int a1), (2, .int a2)] rfl ?_
  intro p e s m below meth c A hx hb hml hr hlocks hnm hown hK hP hD hA hS hN ls args Q hts hl hQ
  replace hown : s.vm.findClass RX9 = some m.cls := hown
  have S0 : CallFix p m c cX9_rain 4 s args wsX9_rain RX9 := ⟨hx, hb, hml, hown, hts⟩
  have inX9 : ∀ w ∈ u_ws RX9 TX9 19, w ∈ wsX9_rain := fun w h => List.mem_cons_of_mem _ (List.mem_append_right _ h)
  have wl1 : (Cond.fieldLink RX9 1 "BeachedShipModel" "thrown" "I").before args s = true := hts _ (List.mem_of_getElem? (i := 1) rfl)
  have wl2 : (Cond.fieldLink RX9 26 "BeachedShipModel" "rain" "[I").before args s = true := hts _ (List.mem_of_getElem? (i := 2) rfl)
  have hRet : ∀ (r_z : Int32) (v_h_thrown_z : Int32) (f_h_rain_z : Nat → Int32), some (r_z, v_h_thrown_z, f_h_rain_z) = some (r, v_h_thrown', f_h_rain') → ∀ (H : Heap) (locs : List Loc) (ls : Array Slot) (pc : Nat), va_P D vwCl [(h, .inr (9, [.int v_h_thrown_z, .ref h_now, .ref h_aside, .int v_h_kept, .ref h_books, .ref h_tide, .ref h_rain, .ref h_rule, .int v_h_counted, .ref h_counts, .ref h_begins, .ref h_best, .int v_h_bestWorth, .int v_h_bestPitch, .int v_h_bestBits, .int v_h_leastHour, .int v_h_leastSet, .int v_h_shut, .ref h_planks])), (h_rain, .inl (cI, 96, .inl f_h_rain_z))] H → va_D A [(h, .inr (9, [.int v_h_thrown_z, .ref h_now, .ref h_aside, .int v_h_kept, .ref h_books, .ref h_tide, .ref h_rain, .ref h_rule, .int v_h_counted, .ref h_counts, .ref h_begins, .ref h_best, .int v_h_bestWorth, .int v_h_bestPitch, .int v_h_bestBits, .int v_h_leastHour, .int v_h_leastSet, .int v_h_shut, .ref h_planks])), (h_rain, .inl (cI, 96, .inl f_h_rain_z))] → va_S A s.heap H locs → narrow .int (.int r_z) = .int r_z → decode cX9_rain pc = .ok (.ireturn, 1) → W p l e rm_X9_rain s m args below meth c H locs 0 0 Q (F0 m pc ls [.int r_z]) := by
    intro r_z v_h_thrown_z f_h_rain_z hz H locs ls pc hP hD hS hn hd
    cases hz
    exact k_iret hx hb hr hlocks hn hK hP hD hS hQ rfl hd
  unfold p_X9_rain at hf
  refine lv_aload_n hx hb dX9_rain_0 rfl (lv_at hl 0 rfl) ?_
  refine lv_iconst (v := 0) hx hb dX9_rain_1 (by decide) ?_
  refine k_putf (ws2 := [(h, .inr (9, [.int 0, .ref h_now, .ref h_aside, .int v_h_kept, .ref h_books, .ref h_tide, .ref h_rain, .ref h_rule, .int v_h_counted, .ref h_counts, .ref h_begins, .ref h_best, .int v_h_bestWorth, .int v_h_bestPitch, .int v_h_bestBits, .int v_h_leastHour, .int v_h_leastSet, .int v_h_shut, .ref h_planks])), (h_rain, .inl (cI, 96, .inl f_h_rain))]) (C := RX9) (T := TX9) (N := 19) hx hb hts inX9 tyX9 tyX9_ok nmX9 hown hK hP hD hS 0 rfl rfl 0 (by decide) rfl wl1 rfl rfl rfl (Nat.le_of_ble_eq_true rfl) rfl dX9_rain_2 (fun H locs hP hD hS => ?_)
  refine lv_iload_n hx hb dX9_rain_5 rfl (lv_at hl 1 rfl) ?_
  obtain ⟨r1, hc1, hf⟩ := k_b1_some hf
  refine k_SiR (As := [.int a1]) (rest := []) S0 (c_X9_isHour l D cI cZ cJ cS a1 r1 hc1) (va_cwS 1 hts gX9_rain_X9_isHour rfl rfl rfl hdS_X9_isHour ⟨Nat.le_of_ble_eq_true rfl, Nat.le_of_ble_eq_true rfl⟩) hK hP hD hS hA hN [] rfl (by decide) rfl hl.1 rfl (Nat.le_of_ble_eq_true rfl) dX9_rain_6 (fun H locs hP hS => ?_)
  refine lv_if_ne (tgt := 14) hx hb dX9_rain_9 (by decide) (fun c2 => ?_) (fun c2 => ?_)
  · replace hf := k_neg hf c2
    refine lv_aload_n hx hb dX9_rain_14 rfl (lv_at hl 0 rfl) ?_
    refine k_get (C := RX9) (T := TX9) (N := 19) hx hb hts inX9 hown hK hP 0 rfl rfl 6 (by decide) rfl wl2 rfl dX9_rain_15 ?_
    refine lv_iload_n hx hb dX9_rain_18 rfl (lv_at hl 1 rfl) ?_
    obtain ⟨hi3, hf⟩ := k_ix_some hf
    refine k_iald (k := a1.toNatClampNeg) hx hb hK hP 1 0 rfl rfl hi3 rfl dX9_rain_19 ?_
    refine lv_istore_n (lv' := [(3, .int (f_h_rain a1.toNatClampNeg)), (0, .ref h), (1, .int a1), (2, .int a2)]) hx hb dX9_rain_20 rfl hl (by decide) rfl (fun ls hl => ?_)
    refine lv_aload_n hx hb dX9_rain_21 rfl (lv_at hl 1 rfl) ?_
    refine k_get (C := RX9) (T := TX9) (N := 19) hx hb hts inX9 hown hK hP 0 rfl rfl 6 (by decide) rfl wl2 rfl dX9_rain_22 ?_
    refine lv_iload_n hx hb dX9_rain_25 rfl (lv_at hl 2 rfl) ?_
    refine lv_iload_n hx hb dX9_rain_26 rfl (lv_at hl 3 rfl) ?_
    refine lv_if_eq (tgt := 34) hx hb dX9_rain_27 (by decide) (fun c4 => ?_) (fun c4 => ?_)
    · replace hf := k_pos hf c4
      refine lv_iconst (v := 0) hx hb dX9_rain_34 (by decide) ?_
      obtain ⟨hi5, hf⟩ := k_ix_some hf
      refine k_iast (ws2 := [(h, .inr (9, [.int 0, .ref h_now, .ref h_aside, .int v_h_kept, .ref h_books, .ref h_tide, .ref h_rain, .ref h_rule, .int v_h_counted, .ref h_counts, .ref h_begins, .ref h_best, .int v_h_bestWorth, .int v_h_bestPitch, .int v_h_bestBits, .int v_h_leastHour, .int v_h_leastSet, .int v_h_shut, .ref h_planks])), (h_rain, .inl (cI, 96, .inl (upd f_h_rain a1.toNatClampNeg 0)))]) (k := a1.toNatClampNeg) hx hb hK hP hD hS 1 0 rfl rfl hi5 rfl rfl dX9_rain_35 (fun H locs hP hD hS => ?_)
      refine lv_iload_n hx hb dX9_rain_36 rfl (lv_at hl 0 rfl) ?_
      exact hRet _ _ _ hf _ _ _ _ hP hD hS rfl dX9_rain_37
    · replace hf := k_neg hf c4
      refine lv_iconst (v := 1) hx hb dX9_rain_30 (by decide) ?_
      refine lv_goto (tgt := 35) hx hb dX9_rain_31 (by decide) ?_
      obtain ⟨hi6, hf⟩ := k_ix_some hf
      refine k_iast (ws2 := [(h, .inr (9, [.int 0, .ref h_now, .ref h_aside, .int v_h_kept, .ref h_books, .ref h_tide, .ref h_rain, .ref h_rule, .int v_h_counted, .ref h_counts, .ref h_begins, .ref h_best, .int v_h_bestWorth, .int v_h_bestPitch, .int v_h_bestBits, .int v_h_leastHour, .int v_h_leastSet, .int v_h_shut, .ref h_planks])), (h_rain, .inl (cI, 96, .inl (upd f_h_rain a1.toNatClampNeg 1)))]) (k := a1.toNatClampNeg) hx hb hK hP hD hS 1 0 rfl rfl hi6 rfl rfl dX9_rain_35 (fun H locs hP hD hS => ?_)
      refine lv_iload_n hx hb dX9_rain_36 rfl (lv_at hl 0 rfl) ?_
      exact hRet _ _ _ hf _ _ _ _ hP hD hS rfl dX9_rain_37
  · replace hf := k_pos hf c2
    refine lv_iconst (v := (-1)) hx hb dX9_rain_12 (by decide) ?_
    exact hRet _ _ _ hf _ _ _ _ hP hD hS rfl dX9_rain_13

def lj_X9_rule_110 (a1 : Int32) (f_h_rule : Nat → Int32) (a2 : Int32) (f_h_now : Nat → Int32) (t16 : Int32) : Option (Int32 × Int32 × (Nat → Int32) × (Nat → Int32)) :=
  k_ix a1 8 (
    if a1 = 4 then
      some (t16, 0, upd f_h_rule a1.toNatClampNeg a2, upd f_h_now 5 a2)
    else
      some (t16, 0, upd f_h_rule a1.toNatClampNeg a2, f_h_now))
def lj_X9_rule_73 (a2 : Int32) (t5 : Int32) (f_h_rule : Nat → Int32) (f_h_now : Nat → Int32) (a1 : Int32) (t10 : Int32) : Option (Int32 × Int32 × (Nat → Int32) × (Nat → Int32)) :=
  k_b1 (p_X9_in ((a2).toInt64) ((t5).toInt64) ((t10).toInt64)) fun r12 =>
  if r12 = 0 then
    some ((-1), 0, f_h_rule, f_h_now)
  else
    if a1 = 4 then
      lj_X9_rule_110 a1 f_h_rule a2 f_h_now (f_h_now 5)
    else
      k_ix a1 8 (
        lj_X9_rule_110 a1 f_h_rule a2 f_h_now (f_h_rule a1.toNatClampNeg))
def lj_X9_rule_39 (a1 : Int32) (a2 : Int32) (f_h_rule : Nat → Int32) (f_h_now : Nat → Int32) (t5 : Int32) : Option (Int32 × Int32 × (Nat → Int32) × (Nat → Int32)) :=
  if a1 = 0 then
    lj_X9_rule_73 a2 t5 f_h_rule f_h_now a1 40
  else
    if a1 = 2 then
      lj_X9_rule_73 a2 t5 f_h_rule f_h_now a1 2000
    else
      if a1 = 3 then
        lj_X9_rule_73 a2 t5 f_h_rule f_h_now a1 20
      else
        lj_X9_rule_73 a2 t5 f_h_rule f_h_now a1 1000
def p_X9_rule (f_h_rule : Nat → Int32) (f_h_now : Nat → Int32) (a1 : Int32) (a2 : Int32) : Option (Int32 × Int32 × (Nat → Int32) × (Nat → Int32)) :=
  k_b1 (p_X9_in ((a1).toInt64) 0 7) fun r1 =>
  if r1 = 0 then
    some ((-1), 0, f_h_rule, f_h_now)
  else
    if a1 = 1 then
      lj_X9_rule_39 a1 a2 f_h_rule f_h_now 100
    else
      if a1 = 3 then
        lj_X9_rule_39 a1 a2 f_h_rule f_h_now 1
      else
        lj_X9_rule_39 a1 a2 f_h_rule f_h_now 0
abbrev rm_X9_rule : Room := { frames := 1, cells := 0, slots := 0, locals := 25 }
theorem hdS_X9_rule : yX9_rule.cls ≠ "java/lang/invoke/MethodHandle" ∧ yX9_rule.cls ≠ "java/lang/invoke/VarHandle" ∧ (parseMethodDescriptor yX9_rule.desc).map (fun d => d.parameters.length) = some 2 := by decide +kernel
theorem hdV_X9_rule : yX9_rule.cls = RX9 ∧ yX9_rule.cls ≠ "java/lang/invoke/MethodHandle" ∧ yX9_rule.cls ≠ "java/lang/invoke/VarHandle" ∧ (parseMethodDescriptor yX9_rule.desc).map (fun d => d.parameters.length) = some 2 := by decide +kernel
set_option maxHeartbeats 4000000 in
set_option maxRecDepth 100000 in
theorem c_X9_rule (l : Launch) (D : va_G) (cI cZ cJ cS : ClassId) (h h_now h_aside h_books h_tide h_rain h_rule h_counts h_begins h_best h_planks : Nat) (v_h_thrown : Int32) (v_h_kept : Int32) (v_h_counted : Int32) (v_h_bestWorth : Int32) (v_h_bestPitch : Int32) (v_h_bestBits : Int32) (v_h_leastHour : Int32) (v_h_leastSet : Int32) (v_h_shut : Int32) (f_h_rule : Nat → Int32) (f_h_now : Nat → Int32) (a1 : Int32) (a2 : Int32) (r : Int32) (v_h_thrown' : Int32) (f_h_rule' : Nat → Int32) (f_h_now' : Nat → Int32) (hf : p_X9_rule f_h_rule f_h_now a1 a2 = some (r, v_h_thrown', f_h_rule', f_h_now')) : k_MI l yX9_rule wsX9_rule rm_X9_rule D (k_tys cI cZ cJ cS) [.ref h, .int a1, .int a2] [(h, .inr (9, [.int v_h_thrown, .ref h_now, .ref h_aside, .int v_h_kept, .ref h_books, .ref h_tide, .ref h_rain, .ref h_rule, .int v_h_counted, .ref h_counts, .ref h_begins, .ref h_best, .int v_h_bestWorth, .int v_h_bestPitch, .int v_h_bestBits, .int v_h_leastHour, .int v_h_leastSet, .int v_h_shut, .ref h_planks])), (h_rule, .inl (cI, 8, .inl f_h_rule)), (h_now, .inl (cI, 169, .inl f_h_now))] [(h, .inr (9, [.int v_h_thrown', .ref h_now, .ref h_aside, .int v_h_kept, .ref h_books, .ref h_tide, .ref h_rain, .ref h_rule, .int v_h_counted, .ref h_counts, .ref h_begins, .ref h_best, .int v_h_bestWorth, .int v_h_bestPitch, .int v_h_bestBits, .int v_h_leastHour, .int v_h_leastSet, .int v_h_shut, .ref h_planks])), (h_rule, .inl (cI, 8, .inl f_h_rule')), (h_now, .inl (cI, 169, .inl f_h_now'))] r := by
  refine k_enter (y := yX9_rule) (wl := wsX9_rule) (rm := rm_X9_rule) (av := [.ref h, .int a1, .int a2]) (D := D) (tys := k_tys cI cZ cJ cS) (ws := [(h, .inr (9, [.int v_h_thrown, .ref h_now, .ref h_aside, .int v_h_kept, .ref h_books, .ref h_tide, .ref h_rain, .ref h_rule, .int v_h_counted, .ref h_counts, .ref h_begins, .ref h_best, .int v_h_bestWorth, .int v_h_bestPitch, .int v_h_bestBits, .int v_h_leastHour, .int v_h_leastSet, .int v_h_shut, .ref h_planks])), (h_rule, .inl (cI, 8, .inl f_h_rule)), (h_now, .inl (cI, 169, .inl f_h_now))]) (cc := cX9_rule) (maxL := 6) (ret := (some .int)) (Qc := fun A => k_Qi D (k_tys cI cZ cJ cS) [(h, .inr (9, [.int v_h_thrown', .ref h_now, .ref h_aside, .int v_h_kept, .ref h_books, .ref h_tide, .ref h_rain, .ref h_rule, .int v_h_counted, .ref h_counts, .ref h_begins, .ref h_best, .int v_h_bestWorth, .int v_h_bestPitch, .int v_h_bestBits, .int v_h_leastHour, .int v_h_leastSet, .int v_h_shut, .ref h_planks])), (h_rule, .inl (cI, 8, .inl f_h_rule')), (h_now, .inl (cI, 169, .inl f_h_now'))] A r) (by decide) rfl (Nat.le_of_ble_eq_true rfl) [(0, .ref h), (1, .int a1), (2, .int a2)] rfl ?_
  intro p e s m below meth c A hx hb hml hr hlocks hnm hown hK hP hD hA hS hN ls args Q hts hl hQ
  replace hown : s.vm.findClass RX9 = some m.cls := hown
  have S0 : CallFix p m c cX9_rule 6 s args wsX9_rule RX9 := ⟨hx, hb, hml, hown, hts⟩
  have inX9 : ∀ w ∈ u_ws RX9 TX9 19, w ∈ wsX9_rule := fun w h => List.mem_cons_of_mem _ (List.mem_append_right _ h)
  have wl1 : (Cond.fieldLink RX9 1 "BeachedShipModel" "thrown" "I").before args s = true := hts _ (List.mem_of_getElem? (i := 1) rfl)
  have wl2 : (Cond.constantLong RX9 60 (7)).before args s = true := hts _ (List.mem_of_getElem? (i := 2) rfl)
  have wl4 : (Cond.fieldLink RX9 29 "BeachedShipModel" "rule" "[I").before args s = true := hts _ (List.mem_of_getElem? (i := 4) rfl)
  have wl3 : (Cond.fieldLink RX9 13 "BeachedShipModel" "now" "[I").before args s = true := hts _ (List.mem_of_getElem? (i := 3) rfl)
  have hRet : ∀ (r_z : Int32) (v_h_thrown_z : Int32) (f_h_rule_z : Nat → Int32) (f_h_now_z : Nat → Int32), some (r_z, v_h_thrown_z, f_h_rule_z, f_h_now_z) = some (r, v_h_thrown', f_h_rule', f_h_now') → ∀ (H : Heap) (locs : List Loc) (ls : Array Slot) (pc : Nat), va_P D vwCl [(h, .inr (9, [.int v_h_thrown_z, .ref h_now, .ref h_aside, .int v_h_kept, .ref h_books, .ref h_tide, .ref h_rain, .ref h_rule, .int v_h_counted, .ref h_counts, .ref h_begins, .ref h_best, .int v_h_bestWorth, .int v_h_bestPitch, .int v_h_bestBits, .int v_h_leastHour, .int v_h_leastSet, .int v_h_shut, .ref h_planks])), (h_rule, .inl (cI, 8, .inl f_h_rule_z)), (h_now, .inl (cI, 169, .inl f_h_now_z))] H → va_D A [(h, .inr (9, [.int v_h_thrown_z, .ref h_now, .ref h_aside, .int v_h_kept, .ref h_books, .ref h_tide, .ref h_rain, .ref h_rule, .int v_h_counted, .ref h_counts, .ref h_begins, .ref h_best, .int v_h_bestWorth, .int v_h_bestPitch, .int v_h_bestBits, .int v_h_leastHour, .int v_h_leastSet, .int v_h_shut, .ref h_planks])), (h_rule, .inl (cI, 8, .inl f_h_rule_z)), (h_now, .inl (cI, 169, .inl f_h_now_z))] → va_S A s.heap H locs → narrow .int (.int r_z) = .int r_z → decode cX9_rule pc = .ok (.ireturn, 1) → W p l e rm_X9_rule s m args below meth c H locs 0 0 Q (F0 m pc ls [.int r_z]) := by
    intro r_z v_h_thrown_z f_h_rule_z f_h_now_z hz H locs ls pc hP hD hS hn hd
    cases hz
    exact k_iret hx hb hr hlocks hn hK hP hD hS hQ rfl hd
  unfold p_X9_rule at hf
  refine lv_aload_n hx hb dX9_rule_0 rfl (lv_at hl 0 rfl) ?_
  refine lv_iconst (v := 0) hx hb dX9_rule_1 (by decide) ?_
  refine k_putf (ws2 := [(h, .inr (9, [.int 0, .ref h_now, .ref h_aside, .int v_h_kept, .ref h_books, .ref h_tide, .ref h_rain, .ref h_rule, .int v_h_counted, .ref h_counts, .ref h_begins, .ref h_best, .int v_h_bestWorth, .int v_h_bestPitch, .int v_h_bestBits, .int v_h_leastHour, .int v_h_leastSet, .int v_h_shut, .ref h_planks])), (h_rule, .inl (cI, 8, .inl f_h_rule)), (h_now, .inl (cI, 169, .inl f_h_now))]) (C := RX9) (T := TX9) (N := 19) hx hb hts inX9 tyX9 tyX9_ok nmX9 hown hK hP hD hS 0 rfl rfl 0 (by decide) rfl wl1 rfl rfl rfl (Nat.le_of_ble_eq_true rfl) rfl dX9_rule_2 (fun H locs hP hD hS => ?_)
  refine lv_iload_n hx hb dX9_rule_5 rfl (lv_at hl 1 rfl) ?_
  refine lv_i2l (v := (a1).toInt64) hx hb dX9_rule_6 rfl ?_
  refine lv_lconst (v := 0) hx hb dX9_rule_7 (by decide) ?_
  refine lv_ldc2 hx hb hown wl2 dX9_rule_8 ?_
  obtain ⟨r1, hc1, hf⟩ := k_b1_some hf
  refine k_SiR (As := [.long ((a1).toInt64), .long 0, .long 7]) (rest := []) S0 (c_X9_in l D cI cZ cJ cS ((a1).toInt64) 0 7 r1 hc1) (va_cwS 3 hts gX9_rule_X9_in rfl rfl rfl hdS_X9_in ⟨Nat.le_of_ble_eq_true rfl, Nat.le_of_ble_eq_true rfl⟩) hK hP hD hS hA hN [] rfl (by decide) rfl hl.1 rfl (Nat.le_of_ble_eq_true rfl) dX9_rule_11 (fun H locs hP hS => ?_)
  refine lv_if_ne (tgt := 19) hx hb dX9_rule_14 (by decide) (fun c2 => ?_) (fun c2 => ?_)
  · replace hf := k_neg hf c2
    have hJ6 : ∀ (t5 : Int32), lj_X9_rule_39 a1 a2 f_h_rule f_h_now t5 = some (r, v_h_thrown', f_h_rule', f_h_now') → ∀ (H : Heap) (locs : List Loc) (ls : Array Slot), va_P D vwCl [(h, .inr (9, [.int 0, .ref h_now, .ref h_aside, .int v_h_kept, .ref h_books, .ref h_tide, .ref h_rain, .ref h_rule, .int v_h_counted, .ref h_counts, .ref h_begins, .ref h_best, .int v_h_bestWorth, .int v_h_bestPitch, .int v_h_bestBits, .int v_h_leastHour, .int v_h_leastSet, .int v_h_shut, .ref h_planks])), (h_rule, .inl (cI, 8, .inl f_h_rule)), (h_now, .inl (cI, 169, .inl f_h_now))] H → va_D A [(h, .inr (9, [.int 0, .ref h_now, .ref h_aside, .int v_h_kept, .ref h_books, .ref h_tide, .ref h_rain, .ref h_rule, .int v_h_counted, .ref h_counts, .ref h_begins, .ref h_best, .int v_h_bestWorth, .int v_h_bestPitch, .int v_h_bestBits, .int v_h_leastHour, .int v_h_leastSet, .int v_h_shut, .ref h_planks])), (h_rule, .inl (cI, 8, .inl f_h_rule)), (h_now, .inl (cI, 169, .inl f_h_now))] → va_S A s.heap H locs → lv_has ls 6 [(0, .ref h), (1, .int a1), (2, .int a2)] → W p l e rm_X9_rule s m args below meth c H locs 0 0 Q (F0 m 39 ls [.int t5]) := by
      intro t5 hf_j H locs ls hP hD hS hl
      replace hf := hf_j
      unfold lj_X9_rule_39 at hf
      refine lv_istore_n (lv' := [(3, .int t5), (0, .ref h), (1, .int a1), (2, .int a2)]) hx hb dX9_rule_39 rfl hl (by decide) rfl (fun ls hl => ?_)
      have hJ11 : ∀ (t10 : Int32), lj_X9_rule_73 a2 t5 f_h_rule f_h_now a1 t10 = some (r, v_h_thrown', f_h_rule', f_h_now') → ∀ (H : Heap) (locs : List Loc) (ls : Array Slot), va_P D vwCl [(h, .inr (9, [.int 0, .ref h_now, .ref h_aside, .int v_h_kept, .ref h_books, .ref h_tide, .ref h_rain, .ref h_rule, .int v_h_counted, .ref h_counts, .ref h_begins, .ref h_best, .int v_h_bestWorth, .int v_h_bestPitch, .int v_h_bestBits, .int v_h_leastHour, .int v_h_leastSet, .int v_h_shut, .ref h_planks])), (h_rule, .inl (cI, 8, .inl f_h_rule)), (h_now, .inl (cI, 169, .inl f_h_now))] H → va_D A [(h, .inr (9, [.int 0, .ref h_now, .ref h_aside, .int v_h_kept, .ref h_books, .ref h_tide, .ref h_rain, .ref h_rule, .int v_h_counted, .ref h_counts, .ref h_begins, .ref h_best, .int v_h_bestWorth, .int v_h_bestPitch, .int v_h_bestBits, .int v_h_leastHour, .int v_h_leastSet, .int v_h_shut, .ref h_planks])), (h_rule, .inl (cI, 8, .inl f_h_rule)), (h_now, .inl (cI, 169, .inl f_h_now))] → va_S A s.heap H locs → lv_has ls 6 [(3, .int t5), (0, .ref h), (1, .int a1), (2, .int a2)] → W p l e rm_X9_rule s m args below meth c H locs 0 0 Q (F0 m 73 ls [.int t10]) := by
        intro t10 hf_j H locs ls hP hD hS hl
        replace hf := hf_j
        unfold lj_X9_rule_73 at hf
        refine lv_istore (lv' := [(4, .int t10), (3, .int t5), (0, .ref h), (1, .int a1), (2, .int a2)]) hx hb dX9_rule_73 hl (by decide) rfl (fun ls hl => ?_)
        refine lv_iload_n hx hb dX9_rule_75 rfl (lv_at hl 4 rfl) ?_
        refine lv_i2l (v := (a2).toInt64) hx hb dX9_rule_76 rfl ?_
        refine lv_iload_n hx hb dX9_rule_77 rfl (lv_at hl 1 rfl) ?_
        refine lv_i2l (v := (t5).toInt64) hx hb dX9_rule_78 rfl ?_
        refine lv_iload hx hb dX9_rule_79 (lv_at hl 0 rfl) ?_
        refine lv_i2l (v := (t10).toInt64) hx hb dX9_rule_81 rfl ?_
        obtain ⟨r12, hc12, hf⟩ := k_b1_some hf
        refine k_SiR (As := [.long ((a2).toInt64), .long ((t5).toInt64), .long ((t10).toInt64)]) (rest := []) S0 (c_X9_in l D cI cZ cJ cS ((a2).toInt64) ((t5).toInt64) ((t10).toInt64) r12 hc12) (va_cwS 3 hts gX9_rule_X9_in rfl rfl rfl hdS_X9_in ⟨Nat.le_of_ble_eq_true rfl, Nat.le_of_ble_eq_true rfl⟩) hK hP hD hS hA hN [] rfl (by decide) rfl hl.1 rfl (Nat.le_of_ble_eq_true rfl) dX9_rule_82 (fun H locs hP hS => ?_)
        refine lv_if_ne (tgt := 90) hx hb dX9_rule_85 (by decide) (fun c13 => ?_) (fun c13 => ?_)
        · replace hf := k_neg hf c13
          have hJ17 : ∀ (t16 : Int32), lj_X9_rule_110 a1 f_h_rule a2 f_h_now t16 = some (r, v_h_thrown', f_h_rule', f_h_now') → ∀ (H : Heap) (locs : List Loc) (ls : Array Slot), va_P D vwCl [(h, .inr (9, [.int 0, .ref h_now, .ref h_aside, .int v_h_kept, .ref h_books, .ref h_tide, .ref h_rain, .ref h_rule, .int v_h_counted, .ref h_counts, .ref h_begins, .ref h_best, .int v_h_bestWorth, .int v_h_bestPitch, .int v_h_bestBits, .int v_h_leastHour, .int v_h_leastSet, .int v_h_shut, .ref h_planks])), (h_rule, .inl (cI, 8, .inl f_h_rule)), (h_now, .inl (cI, 169, .inl f_h_now))] H → va_D A [(h, .inr (9, [.int 0, .ref h_now, .ref h_aside, .int v_h_kept, .ref h_books, .ref h_tide, .ref h_rain, .ref h_rule, .int v_h_counted, .ref h_counts, .ref h_begins, .ref h_best, .int v_h_bestWorth, .int v_h_bestPitch, .int v_h_bestBits, .int v_h_leastHour, .int v_h_leastSet, .int v_h_shut, .ref h_planks])), (h_rule, .inl (cI, 8, .inl f_h_rule)), (h_now, .inl (cI, 169, .inl f_h_now))] → va_S A s.heap H locs → lv_has ls 6 [(0, .ref h), (1, .int a1), (2, .int a2)] → W p l e rm_X9_rule s m args below meth c H locs 0 0 Q (F0 m 110 ls [.int t16]) := by
            intro t16 hf_j H locs ls hP hD hS hl
            replace hf := hf_j
            unfold lj_X9_rule_110 at hf
            refine lv_istore (lv' := [(5, .int t16), (0, .ref h), (1, .int a1), (2, .int a2)]) hx hb dX9_rule_110 hl (by decide) rfl (fun ls hl => ?_)
            refine lv_aload_n hx hb dX9_rule_112 rfl (lv_at hl 1 rfl) ?_
            refine k_get (C := RX9) (T := TX9) (N := 19) hx hb hts inX9 hown hK hP 0 rfl rfl 7 (by decide) rfl wl4 rfl dX9_rule_113 ?_
            refine lv_iload_n hx hb dX9_rule_116 rfl (lv_at hl 2 rfl) ?_
            refine lv_iload_n hx hb dX9_rule_117 rfl (lv_at hl 3 rfl) ?_
            obtain ⟨hi18, hf⟩ := k_ix_some hf
            refine k_iast (ws2 := [(h, .inr (9, [.int 0, .ref h_now, .ref h_aside, .int v_h_kept, .ref h_books, .ref h_tide, .ref h_rain, .ref h_rule, .int v_h_counted, .ref h_counts, .ref h_begins, .ref h_best, .int v_h_bestWorth, .int v_h_bestPitch, .int v_h_bestBits, .int v_h_leastHour, .int v_h_leastSet, .int v_h_shut, .ref h_planks])), (h_rule, .inl (cI, 8, .inl (upd f_h_rule a1.toNatClampNeg a2))), (h_now, .inl (cI, 169, .inl f_h_now))]) (k := a1.toNatClampNeg) hx hb hK hP hD hS 1 0 rfl rfl hi18 rfl rfl dX9_rule_118 (fun H locs hP hD hS => ?_)
            refine lv_iload_n hx hb dX9_rule_119 rfl (lv_at hl 2 rfl) ?_
            refine lv_iconst (v := 4) hx hb dX9_rule_120 (by decide) ?_
            refine lv_icmp_ne (tgt := 131) hx hb dX9_rule_121 (by decide) (fun c19 => ?_) (fun c19 => ?_)
            · replace hf := k_neg hf c19
              refine lv_iload hx hb dX9_rule_131 (lv_at hl 0 rfl) ?_
              exact hRet _ _ _ _ hf _ _ _ _ hP hD hS rfl dX9_rule_133
            · replace hf := k_pos hf c19
              refine lv_aload_n hx hb dX9_rule_124 rfl (lv_at hl 1 rfl) ?_
              refine k_get (C := RX9) (T := TX9) (N := 19) hx hb hts inX9 hown hK hP 0 rfl rfl 1 (by decide) rfl wl3 rfl dX9_rule_125 ?_
              refine lv_iconst (v := 5) hx hb dX9_rule_128 (by decide) ?_
              refine lv_iload_n hx hb dX9_rule_129 rfl (lv_at hl 3 rfl) ?_
              refine k_iast (ws2 := [(h, .inr (9, [.int 0, .ref h_now, .ref h_aside, .int v_h_kept, .ref h_books, .ref h_tide, .ref h_rain, .ref h_rule, .int v_h_counted, .ref h_counts, .ref h_begins, .ref h_best, .int v_h_bestWorth, .int v_h_bestPitch, .int v_h_bestBits, .int v_h_leastHour, .int v_h_leastSet, .int v_h_shut, .ref h_planks])), (h_rule, .inl (cI, 8, .inl (upd f_h_rule a1.toNatClampNeg a2))), (h_now, .inl (cI, 169, .inl (upd f_h_now 5 a2)))]) (k := 5) hx hb hK hP hD hS 2 0 rfl rfl (by unfold vp_in; decide) (by decide) rfl dX9_rule_130 (fun H locs hP hD hS => ?_)
              refine lv_iload hx hb dX9_rule_131 (lv_at hl 0 rfl) ?_
              exact hRet _ _ _ _ hf _ _ _ _ hP hD hS rfl dX9_rule_133
          refine lv_iload_n hx hb dX9_rule_90 rfl (lv_at hl 3 rfl) ?_
          refine lv_iconst (v := 4) hx hb dX9_rule_91 (by decide) ?_
          refine lv_icmp_ne (tgt := 104) hx hb dX9_rule_92 (by decide) (fun c20 => ?_) (fun c20 => ?_)
          · replace hf := k_neg hf c20
            refine lv_aload_n hx hb dX9_rule_104 rfl (lv_at hl 2 rfl) ?_
            refine k_get (C := RX9) (T := TX9) (N := 19) hx hb hts inX9 hown hK hP 0 rfl rfl 7 (by decide) rfl wl4 rfl dX9_rule_105 ?_
            refine lv_iload_n hx hb dX9_rule_108 rfl (lv_at hl 3 rfl) ?_
            obtain ⟨hi21, hf⟩ := k_ix_some hf
            refine k_iald (k := a1.toNatClampNeg) hx hb hK hP 1 0 rfl rfl hi21 rfl dX9_rule_109 ?_
            exact hJ17 _ hf _ _ _ hP hD hS (lv_sub hl [2, 3, 4] rfl)
          · replace hf := k_pos hf c20
            refine lv_aload_n hx hb dX9_rule_95 rfl (lv_at hl 2 rfl) ?_
            refine k_get (C := RX9) (T := TX9) (N := 19) hx hb hts inX9 hown hK hP 0 rfl rfl 1 (by decide) rfl wl3 rfl dX9_rule_96 ?_
            refine lv_iconst (v := 5) hx hb dX9_rule_99 (by decide) ?_
            refine k_iald (k := 5) hx hb hK hP 2 0 rfl rfl (by unfold vp_in; decide) (by decide) dX9_rule_100 ?_
            refine lv_goto (tgt := 110) hx hb dX9_rule_101 (by decide) ?_
            exact hJ17 _ hf _ _ _ hP hD hS (lv_sub hl [2, 3, 4] rfl)
        · replace hf := k_pos hf c13
          refine lv_iconst (v := (-1)) hx hb dX9_rule_88 (by decide) ?_
          exact hRet _ _ _ _ hf _ _ _ _ hP hD hS rfl dX9_rule_89
      refine lv_iload_n hx hb dX9_rule_40 rfl (lv_at hl 2 rfl) ?_
      refine lv_if_ne (tgt := 49) hx hb dX9_rule_41 (by decide) (fun c22 => ?_) (fun c22 => ?_)
      · replace hf := k_neg hf c22
        refine lv_iload_n hx hb dX9_rule_49 rfl (lv_at hl 2 rfl) ?_
        refine lv_iconst (v := 2) hx hb dX9_rule_50 (by decide) ?_
        refine lv_icmp_ne (tgt := 60) hx hb dX9_rule_51 (by decide) (fun c23 => ?_) (fun c23 => ?_)
        · replace hf := k_neg hf c23
          refine lv_iload_n hx hb dX9_rule_60 rfl (lv_at hl 2 rfl) ?_
          refine lv_iconst (v := 3) hx hb dX9_rule_61 (by decide) ?_
          refine lv_icmp_ne (tgt := 70) hx hb dX9_rule_62 (by decide) (fun c24 => ?_) (fun c24 => ?_)
          · replace hf := k_neg hf c24
            refine lv_sipush (v := 1000) hx hb dX9_rule_70 (by decide) ?_
            exact hJ11 _ hf _ _ _ hP hD hS (lv_sub hl [0, 1, 2, 3] rfl)
          · replace hf := k_pos hf c24
            refine lv_bipush (v := 20) hx hb dX9_rule_65 (by decide) ?_
            refine lv_goto (tgt := 73) hx hb dX9_rule_67 (by decide) ?_
            exact hJ11 _ hf _ _ _ hP hD hS (lv_sub hl [0, 1, 2, 3] rfl)
        · replace hf := k_pos hf c23
          refine lv_sipush (v := 2000) hx hb dX9_rule_54 (by decide) ?_
          refine lv_goto (tgt := 73) hx hb dX9_rule_57 (by decide) ?_
          exact hJ11 _ hf _ _ _ hP hD hS (lv_sub hl [0, 1, 2, 3] rfl)
      · replace hf := k_pos hf c22
        refine lv_bipush (v := 40) hx hb dX9_rule_44 (by decide) ?_
        refine lv_goto (tgt := 73) hx hb dX9_rule_46 (by decide) ?_
        exact hJ11 _ hf _ _ _ hP hD hS (lv_sub hl [0, 1, 2, 3] rfl)
    refine lv_iload_n hx hb dX9_rule_19 rfl (lv_at hl 1 rfl) ?_
    refine lv_iconst (v := 1) hx hb dX9_rule_20 (by decide) ?_
    refine lv_icmp_ne (tgt := 29) hx hb dX9_rule_21 (by decide) (fun c25 => ?_) (fun c25 => ?_)
    · replace hf := k_neg hf c25
      refine lv_iload_n hx hb dX9_rule_29 rfl (lv_at hl 1 rfl) ?_
      refine lv_iconst (v := 3) hx hb dX9_rule_30 (by decide) ?_
      refine lv_icmp_ne (tgt := 38) hx hb dX9_rule_31 (by decide) (fun c26 => ?_) (fun c26 => ?_)
      · replace hf := k_neg hf c26
        refine lv_iconst (v := 0) hx hb dX9_rule_38 (by decide) ?_
        exact hJ6 _ hf _ _ _ hP hD hS (lv_sub hl [0, 1, 2] rfl)
      · replace hf := k_pos hf c26
        refine lv_iconst (v := 1) hx hb dX9_rule_34 (by decide) ?_
        refine lv_goto (tgt := 39) hx hb dX9_rule_35 (by decide) ?_
        exact hJ6 _ hf _ _ _ hP hD hS (lv_sub hl [0, 1, 2] rfl)
    · replace hf := k_pos hf c25
      refine lv_bipush (v := 100) hx hb dX9_rule_24 (by decide) ?_
      refine lv_goto (tgt := 39) hx hb dX9_rule_26 (by decide) ?_
      exact hJ6 _ hf _ _ _ hP hD hS (lv_sub hl [0, 1, 2] rfl)
  · replace hf := k_pos hf c2
    refine lv_iconst (v := (-1)) hx hb dX9_rule_17 (by decide) ?_
    exact hRet _ _ _ _ hf _ _ _ _ hP hD hS rfl dX9_rule_18

def p_X9_thing (f_h_now : Nat → Int32) (a1 : Int32) (a2 : Int32) : Option (Int32 × Int32 × (Nat → Int32)) :=
  k_b1 (p_X9_in ((a1).toInt64) 1 100) fun r1 =>
  if r1 = 0 then
    some ((-1), 0, f_h_now)
  else
    k_b1 (p_X9_in ((a2).toInt64) (-1) (((f_h_now 10) - 1).toInt64)) fun r3 =>
    if r3 = 0 then
      some ((-1), 0, f_h_now)
    else
      if a2 < 0 then
        if (f_h_now 10) = 12 then
          some ((-3), 0, f_h_now)
        else
          k_ix (13 + (f_h_now 10)) 169 (
            k_ix (25 + (f_h_now 10)) 169 (
              k_ix (37 + (f_h_now 10)) 169 (
                some (f_h_now 10, 0, upd (upd (upd (upd f_h_now (13 + (f_h_now 10)).toNatClampNeg a1) (25 + (f_h_now 10)).toNatClampNeg a2) (37 + (f_h_now 10)).toNatClampNeg 1) 10 (((upd (upd (upd f_h_now (13 + (f_h_now 10)).toNatClampNeg a1) (25 + (f_h_now 10)).toNatClampNeg a2) (37 + (f_h_now 10)).toNatClampNeg 1) 10) + 1)))))
      else
        k_ix (37 + a2) 169 (
          if (f_h_now (37 + a2).toNatClampNeg) = 0 then
            some ((-2), 0, f_h_now)
          else
            if (f_h_now 10) = 12 then
              some ((-3), 0, f_h_now)
            else
              k_ix (13 + (f_h_now 10)) 169 (
                k_ix (25 + (f_h_now 10)) 169 (
                  k_ix (37 + (f_h_now 10)) 169 (
                    some (f_h_now 10, 0, upd (upd (upd (upd f_h_now (13 + (f_h_now 10)).toNatClampNeg a1) (25 + (f_h_now 10)).toNatClampNeg a2) (37 + (f_h_now 10)).toNatClampNeg 1) 10 (((upd (upd (upd f_h_now (13 + (f_h_now 10)).toNatClampNeg a1) (25 + (f_h_now 10)).toNatClampNeg a2) (37 + (f_h_now 10)).toNatClampNeg 1) 10) + 1))))))
abbrev rm_X9_thing : Room := { frames := 1, cells := 0, slots := 0, locals := 25 }
theorem hdS_X9_thing : yX9_thing.cls ≠ "java/lang/invoke/MethodHandle" ∧ yX9_thing.cls ≠ "java/lang/invoke/VarHandle" ∧ (parseMethodDescriptor yX9_thing.desc).map (fun d => d.parameters.length) = some 2 := by decide +kernel
theorem hdV_X9_thing : yX9_thing.cls = RX9 ∧ yX9_thing.cls ≠ "java/lang/invoke/MethodHandle" ∧ yX9_thing.cls ≠ "java/lang/invoke/VarHandle" ∧ (parseMethodDescriptor yX9_thing.desc).map (fun d => d.parameters.length) = some 2 := by decide +kernel
set_option maxHeartbeats 4000000 in
set_option maxRecDepth 100000 in
theorem c_X9_thing (l : Launch) (D : va_G) (cI cZ cJ cS : ClassId) (h h_now h_aside h_books h_tide h_rain h_rule h_counts h_begins h_best h_planks : Nat) (v_h_thrown : Int32) (v_h_kept : Int32) (v_h_counted : Int32) (v_h_bestWorth : Int32) (v_h_bestPitch : Int32) (v_h_bestBits : Int32) (v_h_leastHour : Int32) (v_h_leastSet : Int32) (v_h_shut : Int32) (f_h_now : Nat → Int32) (a1 : Int32) (a2 : Int32) (r : Int32) (v_h_thrown' : Int32) (f_h_now' : Nat → Int32) (hf : p_X9_thing f_h_now a1 a2 = some (r, v_h_thrown', f_h_now')) : k_MI l yX9_thing wsX9_thing rm_X9_thing D (k_tys cI cZ cJ cS) [.ref h, .int a1, .int a2] [(h, .inr (9, [.int v_h_thrown, .ref h_now, .ref h_aside, .int v_h_kept, .ref h_books, .ref h_tide, .ref h_rain, .ref h_rule, .int v_h_counted, .ref h_counts, .ref h_begins, .ref h_best, .int v_h_bestWorth, .int v_h_bestPitch, .int v_h_bestBits, .int v_h_leastHour, .int v_h_leastSet, .int v_h_shut, .ref h_planks])), (h_now, .inl (cI, 169, .inl f_h_now))] [(h, .inr (9, [.int v_h_thrown', .ref h_now, .ref h_aside, .int v_h_kept, .ref h_books, .ref h_tide, .ref h_rain, .ref h_rule, .int v_h_counted, .ref h_counts, .ref h_begins, .ref h_best, .int v_h_bestWorth, .int v_h_bestPitch, .int v_h_bestBits, .int v_h_leastHour, .int v_h_leastSet, .int v_h_shut, .ref h_planks])), (h_now, .inl (cI, 169, .inl f_h_now'))] r := by
  refine k_enter (y := yX9_thing) (wl := wsX9_thing) (rm := rm_X9_thing) (av := [.ref h, .int a1, .int a2]) (D := D) (tys := k_tys cI cZ cJ cS) (ws := [(h, .inr (9, [.int v_h_thrown, .ref h_now, .ref h_aside, .int v_h_kept, .ref h_books, .ref h_tide, .ref h_rain, .ref h_rule, .int v_h_counted, .ref h_counts, .ref h_begins, .ref h_best, .int v_h_bestWorth, .int v_h_bestPitch, .int v_h_bestBits, .int v_h_leastHour, .int v_h_leastSet, .int v_h_shut, .ref h_planks])), (h_now, .inl (cI, 169, .inl f_h_now))]) (cc := cX9_thing) (maxL := 4) (ret := (some .int)) (Qc := fun A => k_Qi D (k_tys cI cZ cJ cS) [(h, .inr (9, [.int v_h_thrown', .ref h_now, .ref h_aside, .int v_h_kept, .ref h_books, .ref h_tide, .ref h_rain, .ref h_rule, .int v_h_counted, .ref h_counts, .ref h_begins, .ref h_best, .int v_h_bestWorth, .int v_h_bestPitch, .int v_h_bestBits, .int v_h_leastHour, .int v_h_leastSet, .int v_h_shut, .ref h_planks])), (h_now, .inl (cI, 169, .inl f_h_now'))] A r) (by decide) rfl (Nat.le_of_ble_eq_true rfl) [(0, .ref h), (1, .int a1), (2, .int a2)] rfl ?_
  intro p e s m below meth c A hx hb hml hr hlocks hnm hown hK hP hD hA hS hN ls args Q hts hl hQ
  replace hown : s.vm.findClass RX9 = some m.cls := hown
  have S0 : CallFix p m c cX9_thing 4 s args wsX9_thing RX9 := ⟨hx, hb, hml, hown, hts⟩
  have inX9 : ∀ w ∈ u_ws RX9 TX9 19, w ∈ wsX9_thing := fun w h => List.mem_cons_of_mem _ (List.mem_append_right _ h)
  have wl1 : (Cond.fieldLink RX9 1 "BeachedShipModel" "thrown" "I").before args s = true := hts _ (List.mem_of_getElem? (i := 1) rfl)
  have wl2 : (Cond.fieldLink RX9 13 "BeachedShipModel" "now" "[I").before args s = true := hts _ (List.mem_of_getElem? (i := 2) rfl)
  have wl3 : (Cond.constantLong RX9 62 (100)).before args s = true := hts _ (List.mem_of_getElem? (i := 3) rfl)
  have wl4 : (Cond.constantLong RX9 64 (-1)).before args s = true := hts _ (List.mem_of_getElem? (i := 4) rfl)
  have hRet : ∀ (r_z : Int32) (v_h_thrown_z : Int32) (f_h_now_z : Nat → Int32), some (r_z, v_h_thrown_z, f_h_now_z) = some (r, v_h_thrown', f_h_now') → ∀ (H : Heap) (locs : List Loc) (ls : Array Slot) (pc : Nat), va_P D vwCl [(h, .inr (9, [.int v_h_thrown_z, .ref h_now, .ref h_aside, .int v_h_kept, .ref h_books, .ref h_tide, .ref h_rain, .ref h_rule, .int v_h_counted, .ref h_counts, .ref h_begins, .ref h_best, .int v_h_bestWorth, .int v_h_bestPitch, .int v_h_bestBits, .int v_h_leastHour, .int v_h_leastSet, .int v_h_shut, .ref h_planks])), (h_now, .inl (cI, 169, .inl f_h_now_z))] H → va_D A [(h, .inr (9, [.int v_h_thrown_z, .ref h_now, .ref h_aside, .int v_h_kept, .ref h_books, .ref h_tide, .ref h_rain, .ref h_rule, .int v_h_counted, .ref h_counts, .ref h_begins, .ref h_best, .int v_h_bestWorth, .int v_h_bestPitch, .int v_h_bestBits, .int v_h_leastHour, .int v_h_leastSet, .int v_h_shut, .ref h_planks])), (h_now, .inl (cI, 169, .inl f_h_now_z))] → va_S A s.heap H locs → narrow .int (.int r_z) = .int r_z → decode cX9_thing pc = .ok (.ireturn, 1) → W p l e rm_X9_thing s m args below meth c H locs 0 0 Q (F0 m pc ls [.int r_z]) := by
    intro r_z v_h_thrown_z f_h_now_z hz H locs ls pc hP hD hS hn hd
    cases hz
    exact k_iret hx hb hr hlocks hn hK hP hD hS hQ rfl hd
  unfold p_X9_thing at hf
  refine lv_aload_n hx hb dX9_thing_0 rfl (lv_at hl 0 rfl) ?_
  refine lv_iconst (v := 0) hx hb dX9_thing_1 (by decide) ?_
  refine k_putf (ws2 := [(h, .inr (9, [.int 0, .ref h_now, .ref h_aside, .int v_h_kept, .ref h_books, .ref h_tide, .ref h_rain, .ref h_rule, .int v_h_counted, .ref h_counts, .ref h_begins, .ref h_best, .int v_h_bestWorth, .int v_h_bestPitch, .int v_h_bestBits, .int v_h_leastHour, .int v_h_leastSet, .int v_h_shut, .ref h_planks])), (h_now, .inl (cI, 169, .inl f_h_now))]) (C := RX9) (T := TX9) (N := 19) hx hb hts inX9 tyX9 tyX9_ok nmX9 hown hK hP hD hS 0 rfl rfl 0 (by decide) rfl wl1 rfl rfl rfl (Nat.le_of_ble_eq_true rfl) rfl dX9_thing_2 (fun H locs hP hD hS => ?_)
  refine lv_aload_n hx hb dX9_thing_5 rfl (lv_at hl 0 rfl) ?_
  refine k_get (C := RX9) (T := TX9) (N := 19) hx hb hts inX9 hown hK hP 0 rfl rfl 1 (by decide) rfl wl2 rfl dX9_thing_6 ?_
  refine lv_bipush (v := 10) hx hb dX9_thing_9 (by decide) ?_
  refine k_iald (k := 10) hx hb hK hP 1 0 rfl rfl (by unfold vp_in; decide) (by decide) dX9_thing_11 ?_
  refine lv_istore_n (lv' := [(3, .int (f_h_now 10)), (0, .ref h), (1, .int a1), (2, .int a2)]) hx hb dX9_thing_12 rfl hl (by decide) rfl (fun ls hl => ?_)
  refine lv_iload_n hx hb dX9_thing_13 rfl (lv_at hl 2 rfl) ?_
  refine lv_i2l (v := (a1).toInt64) hx hb dX9_thing_14 rfl ?_
  refine lv_lconst (v := 1) hx hb dX9_thing_15 (by decide) ?_
  refine lv_ldc2 hx hb hown wl3 dX9_thing_16 ?_
  obtain ⟨r1, hc1, hf⟩ := k_b1_some hf
  refine k_SiR (As := [.long ((a1).toInt64), .long 1, .long 100]) (rest := []) S0 (c_X9_in l D cI cZ cJ cS ((a1).toInt64) 1 100 r1 hc1) (va_cwS 3 hts gX9_thing_X9_in rfl rfl rfl hdS_X9_in ⟨Nat.le_of_ble_eq_true rfl, Nat.le_of_ble_eq_true rfl⟩) hK hP hD hS hA hN [] rfl (by decide) rfl hl.1 rfl (Nat.le_of_ble_eq_true rfl) dX9_thing_19 (fun H locs hP hS => ?_)
  refine lv_if_eq (tgt := 40) hx hb dX9_thing_22 (by decide) (fun c2 => ?_) (fun c2 => ?_)
  · replace hf := k_pos hf c2
    refine lv_iconst (v := (-1)) hx hb dX9_thing_40 (by decide) ?_
    exact hRet _ _ _ hf _ _ _ _ hP hD hS rfl dX9_thing_41
  · replace hf := k_neg hf c2
    refine lv_iload_n hx hb dX9_thing_25 rfl (lv_at hl 3 rfl) ?_
    refine lv_i2l (v := (a2).toInt64) hx hb dX9_thing_26 rfl ?_
    refine lv_ldc2 hx hb hown wl4 dX9_thing_27 ?_
    refine lv_iload_n hx hb dX9_thing_30 rfl (lv_at hl 0 rfl) ?_
    refine lv_iconst (v := 1) hx hb dX9_thing_31 (by decide) ?_
    refine lv_isub hx hb dX9_thing_32 ?_
    refine lv_i2l (v := ((f_h_now 10) - 1).toInt64) hx hb dX9_thing_33 rfl ?_
    obtain ⟨r3, hc3, hf⟩ := k_b1_some hf
    refine k_SiR (As := [.long ((a2).toInt64), .long (-1), .long (((f_h_now 10) - 1).toInt64)]) (rest := []) S0 (c_X9_in l D cI cZ cJ cS ((a2).toInt64) (-1) (((f_h_now 10) - 1).toInt64) r3 hc3) (va_cwS 3 hts gX9_thing_X9_in rfl rfl rfl hdS_X9_in ⟨Nat.le_of_ble_eq_true rfl, Nat.le_of_ble_eq_true rfl⟩) hK hP hD hS hA hN [] rfl (by decide) rfl hl.1 rfl (Nat.le_of_ble_eq_true rfl) dX9_thing_34 (fun H locs hP hS => ?_)
    refine lv_if_ne (tgt := 42) hx hb dX9_thing_37 (by decide) (fun c4 => ?_) (fun c4 => ?_)
    · replace hf := k_neg hf c4
      refine lv_iload_n hx hb dX9_thing_42 rfl (lv_at hl 3 rfl) ?_
      refine lv_if_lt (tgt := 61) hx hb dX9_thing_43 (by decide) (fun c5 => ?_) (fun c5 => ?_)
      · replace hf := k_pos hf c5
        refine lv_iload_n hx hb dX9_thing_61 rfl (lv_at hl 0 rfl) ?_
        refine lv_bipush (v := 12) hx hb dX9_thing_62 (by decide) ?_
        refine lv_icmp_ne (tgt := 70) hx hb dX9_thing_64 (by decide) (fun c6 => ?_) (fun c6 => ?_)
        · replace hf := k_neg hf c6
          refine lv_aload_n hx hb dX9_thing_70 rfl (lv_at hl 1 rfl) ?_
          refine k_get (C := RX9) (T := TX9) (N := 19) hx hb hts inX9 hown hK hP 0 rfl rfl 1 (by decide) rfl wl2 rfl dX9_thing_71 ?_
          refine lv_bipush (v := 13) hx hb dX9_thing_74 (by decide) ?_
          refine lv_iload_n hx hb dX9_thing_76 rfl (lv_at hl 0 rfl) ?_
          refine lv_iadd hx hb dX9_thing_77 ?_
          refine lv_iload_n hx hb dX9_thing_78 rfl (lv_at hl 2 rfl) ?_
          obtain ⟨hi7, hf⟩ := k_ix_some hf
          refine k_iast (ws2 := [(h, .inr (9, [.int 0, .ref h_now, .ref h_aside, .int v_h_kept, .ref h_books, .ref h_tide, .ref h_rain, .ref h_rule, .int v_h_counted, .ref h_counts, .ref h_begins, .ref h_best, .int v_h_bestWorth, .int v_h_bestPitch, .int v_h_bestBits, .int v_h_leastHour, .int v_h_leastSet, .int v_h_shut, .ref h_planks])), (h_now, .inl (cI, 169, .inl (upd f_h_now (13 + (f_h_now 10)).toNatClampNeg a1)))]) (k := (13 + (f_h_now 10)).toNatClampNeg) hx hb hK hP hD hS 1 0 rfl rfl hi7 rfl rfl dX9_thing_79 (fun H locs hP hD hS => ?_)
          refine lv_aload_n hx hb dX9_thing_80 rfl (lv_at hl 1 rfl) ?_
          refine k_get (C := RX9) (T := TX9) (N := 19) hx hb hts inX9 hown hK hP 0 rfl rfl 1 (by decide) rfl wl2 rfl dX9_thing_81 ?_
          refine lv_bipush (v := 25) hx hb dX9_thing_84 (by decide) ?_
          refine lv_iload_n hx hb dX9_thing_86 rfl (lv_at hl 0 rfl) ?_
          refine lv_iadd hx hb dX9_thing_87 ?_
          refine lv_iload_n hx hb dX9_thing_88 rfl (lv_at hl 3 rfl) ?_
          obtain ⟨hi8, hf⟩ := k_ix_some hf
          refine k_iast (ws2 := [(h, .inr (9, [.int 0, .ref h_now, .ref h_aside, .int v_h_kept, .ref h_books, .ref h_tide, .ref h_rain, .ref h_rule, .int v_h_counted, .ref h_counts, .ref h_begins, .ref h_best, .int v_h_bestWorth, .int v_h_bestPitch, .int v_h_bestBits, .int v_h_leastHour, .int v_h_leastSet, .int v_h_shut, .ref h_planks])), (h_now, .inl (cI, 169, .inl (upd (upd f_h_now (13 + (f_h_now 10)).toNatClampNeg a1) (25 + (f_h_now 10)).toNatClampNeg a2)))]) (k := (25 + (f_h_now 10)).toNatClampNeg) hx hb hK hP hD hS 1 0 rfl rfl hi8 rfl rfl dX9_thing_89 (fun H locs hP hD hS => ?_)
          refine lv_aload_n hx hb dX9_thing_90 rfl (lv_at hl 1 rfl) ?_
          refine k_get (C := RX9) (T := TX9) (N := 19) hx hb hts inX9 hown hK hP 0 rfl rfl 1 (by decide) rfl wl2 rfl dX9_thing_91 ?_
          refine lv_bipush (v := 37) hx hb dX9_thing_94 (by decide) ?_
          refine lv_iload_n hx hb dX9_thing_96 rfl (lv_at hl 0 rfl) ?_
          refine lv_iadd hx hb dX9_thing_97 ?_
          refine lv_iconst (v := 1) hx hb dX9_thing_98 (by decide) ?_
          obtain ⟨hi9, hf⟩ := k_ix_some hf
          refine k_iast (ws2 := [(h, .inr (9, [.int 0, .ref h_now, .ref h_aside, .int v_h_kept, .ref h_books, .ref h_tide, .ref h_rain, .ref h_rule, .int v_h_counted, .ref h_counts, .ref h_begins, .ref h_best, .int v_h_bestWorth, .int v_h_bestPitch, .int v_h_bestBits, .int v_h_leastHour, .int v_h_leastSet, .int v_h_shut, .ref h_planks])), (h_now, .inl (cI, 169, .inl (upd (upd (upd f_h_now (13 + (f_h_now 10)).toNatClampNeg a1) (25 + (f_h_now 10)).toNatClampNeg a2) (37 + (f_h_now 10)).toNatClampNeg 1)))]) (k := (37 + (f_h_now 10)).toNatClampNeg) hx hb hK hP hD hS 1 0 rfl rfl hi9 rfl rfl dX9_thing_99 (fun H locs hP hD hS => ?_)
          refine lv_aload_n hx hb dX9_thing_100 rfl (lv_at hl 1 rfl) ?_
          refine k_get (C := RX9) (T := TX9) (N := 19) hx hb hts inX9 hown hK hP 0 rfl rfl 1 (by decide) rfl wl2 rfl dX9_thing_101 ?_
          refine lv_bipush (v := 10) hx hb dX9_thing_104 (by decide) ?_
          refine lv_dup2_11 hx hb dX9_thing_106 rfl rfl ?_
          refine k_iald (k := 10) hx hb hK hP 1 0 rfl rfl (by unfold vp_in; decide) (by decide) dX9_thing_107 ?_
          refine lv_iconst (v := 1) hx hb dX9_thing_108 (by decide) ?_
          refine lv_iadd hx hb dX9_thing_109 ?_
          refine k_iast (ws2 := [(h, .inr (9, [.int 0, .ref h_now, .ref h_aside, .int v_h_kept, .ref h_books, .ref h_tide, .ref h_rain, .ref h_rule, .int v_h_counted, .ref h_counts, .ref h_begins, .ref h_best, .int v_h_bestWorth, .int v_h_bestPitch, .int v_h_bestBits, .int v_h_leastHour, .int v_h_leastSet, .int v_h_shut, .ref h_planks])), (h_now, .inl (cI, 169, .inl (upd (upd (upd (upd f_h_now (13 + (f_h_now 10)).toNatClampNeg a1) (25 + (f_h_now 10)).toNatClampNeg a2) (37 + (f_h_now 10)).toNatClampNeg 1) 10 (((upd (upd (upd f_h_now (13 + (f_h_now 10)).toNatClampNeg a1) (25 + (f_h_now 10)).toNatClampNeg a2) (37 + (f_h_now 10)).toNatClampNeg 1) 10) + 1))))]) (k := 10) hx hb hK hP hD hS 1 0 rfl rfl (by unfold vp_in; decide) (by decide) rfl dX9_thing_110 (fun H locs hP hD hS => ?_)
          refine lv_iload_n hx hb dX9_thing_111 rfl (lv_at hl 0 rfl) ?_
          exact hRet _ _ _ hf _ _ _ _ hP hD hS rfl dX9_thing_112
        · replace hf := k_pos hf c6
          refine lv_bipush (v := (-3)) hx hb dX9_thing_67 (by decide) ?_
          exact hRet _ _ _ hf _ _ _ _ hP hD hS rfl dX9_thing_69
      · replace hf := k_neg hf c5
        refine lv_aload_n hx hb dX9_thing_46 rfl (lv_at hl 1 rfl) ?_
        refine k_get (C := RX9) (T := TX9) (N := 19) hx hb hts inX9 hown hK hP 0 rfl rfl 1 (by decide) rfl wl2 rfl dX9_thing_47 ?_
        refine lv_bipush (v := 37) hx hb dX9_thing_50 (by decide) ?_
        refine lv_iload_n hx hb dX9_thing_52 rfl (lv_at hl 3 rfl) ?_
        refine lv_iadd hx hb dX9_thing_53 ?_
        obtain ⟨hi10, hf⟩ := k_ix_some hf
        refine k_iald (k := (37 + a2).toNatClampNeg) hx hb hK hP 1 0 rfl rfl hi10 rfl dX9_thing_54 ?_
        refine lv_if_ne (tgt := 61) hx hb dX9_thing_55 (by decide) (fun c11 => ?_) (fun c11 => ?_)
        · replace hf := k_neg hf c11
          refine lv_iload_n hx hb dX9_thing_61 rfl (lv_at hl 0 rfl) ?_
          refine lv_bipush (v := 12) hx hb dX9_thing_62 (by decide) ?_
          refine lv_icmp_ne (tgt := 70) hx hb dX9_thing_64 (by decide) (fun c12 => ?_) (fun c12 => ?_)
          · replace hf := k_neg hf c12
            refine lv_aload_n hx hb dX9_thing_70 rfl (lv_at hl 1 rfl) ?_
            refine k_get (C := RX9) (T := TX9) (N := 19) hx hb hts inX9 hown hK hP 0 rfl rfl 1 (by decide) rfl wl2 rfl dX9_thing_71 ?_
            refine lv_bipush (v := 13) hx hb dX9_thing_74 (by decide) ?_
            refine lv_iload_n hx hb dX9_thing_76 rfl (lv_at hl 0 rfl) ?_
            refine lv_iadd hx hb dX9_thing_77 ?_
            refine lv_iload_n hx hb dX9_thing_78 rfl (lv_at hl 2 rfl) ?_
            obtain ⟨hi13, hf⟩ := k_ix_some hf
            refine k_iast (ws2 := [(h, .inr (9, [.int 0, .ref h_now, .ref h_aside, .int v_h_kept, .ref h_books, .ref h_tide, .ref h_rain, .ref h_rule, .int v_h_counted, .ref h_counts, .ref h_begins, .ref h_best, .int v_h_bestWorth, .int v_h_bestPitch, .int v_h_bestBits, .int v_h_leastHour, .int v_h_leastSet, .int v_h_shut, .ref h_planks])), (h_now, .inl (cI, 169, .inl (upd f_h_now (13 + (f_h_now 10)).toNatClampNeg a1)))]) (k := (13 + (f_h_now 10)).toNatClampNeg) hx hb hK hP hD hS 1 0 rfl rfl hi13 rfl rfl dX9_thing_79 (fun H locs hP hD hS => ?_)
            refine lv_aload_n hx hb dX9_thing_80 rfl (lv_at hl 1 rfl) ?_
            refine k_get (C := RX9) (T := TX9) (N := 19) hx hb hts inX9 hown hK hP 0 rfl rfl 1 (by decide) rfl wl2 rfl dX9_thing_81 ?_
            refine lv_bipush (v := 25) hx hb dX9_thing_84 (by decide) ?_
            refine lv_iload_n hx hb dX9_thing_86 rfl (lv_at hl 0 rfl) ?_
            refine lv_iadd hx hb dX9_thing_87 ?_
            refine lv_iload_n hx hb dX9_thing_88 rfl (lv_at hl 3 rfl) ?_
            obtain ⟨hi14, hf⟩ := k_ix_some hf
            refine k_iast (ws2 := [(h, .inr (9, [.int 0, .ref h_now, .ref h_aside, .int v_h_kept, .ref h_books, .ref h_tide, .ref h_rain, .ref h_rule, .int v_h_counted, .ref h_counts, .ref h_begins, .ref h_best, .int v_h_bestWorth, .int v_h_bestPitch, .int v_h_bestBits, .int v_h_leastHour, .int v_h_leastSet, .int v_h_shut, .ref h_planks])), (h_now, .inl (cI, 169, .inl (upd (upd f_h_now (13 + (f_h_now 10)).toNatClampNeg a1) (25 + (f_h_now 10)).toNatClampNeg a2)))]) (k := (25 + (f_h_now 10)).toNatClampNeg) hx hb hK hP hD hS 1 0 rfl rfl hi14 rfl rfl dX9_thing_89 (fun H locs hP hD hS => ?_)
            refine lv_aload_n hx hb dX9_thing_90 rfl (lv_at hl 1 rfl) ?_
            refine k_get (C := RX9) (T := TX9) (N := 19) hx hb hts inX9 hown hK hP 0 rfl rfl 1 (by decide) rfl wl2 rfl dX9_thing_91 ?_
            refine lv_bipush (v := 37) hx hb dX9_thing_94 (by decide) ?_
            refine lv_iload_n hx hb dX9_thing_96 rfl (lv_at hl 0 rfl) ?_
            refine lv_iadd hx hb dX9_thing_97 ?_
            refine lv_iconst (v := 1) hx hb dX9_thing_98 (by decide) ?_
            obtain ⟨hi15, hf⟩ := k_ix_some hf
            refine k_iast (ws2 := [(h, .inr (9, [.int 0, .ref h_now, .ref h_aside, .int v_h_kept, .ref h_books, .ref h_tide, .ref h_rain, .ref h_rule, .int v_h_counted, .ref h_counts, .ref h_begins, .ref h_best, .int v_h_bestWorth, .int v_h_bestPitch, .int v_h_bestBits, .int v_h_leastHour, .int v_h_leastSet, .int v_h_shut, .ref h_planks])), (h_now, .inl (cI, 169, .inl (upd (upd (upd f_h_now (13 + (f_h_now 10)).toNatClampNeg a1) (25 + (f_h_now 10)).toNatClampNeg a2) (37 + (f_h_now 10)).toNatClampNeg 1)))]) (k := (37 + (f_h_now 10)).toNatClampNeg) hx hb hK hP hD hS 1 0 rfl rfl hi15 rfl rfl dX9_thing_99 (fun H locs hP hD hS => ?_)
            refine lv_aload_n hx hb dX9_thing_100 rfl (lv_at hl 1 rfl) ?_
            refine k_get (C := RX9) (T := TX9) (N := 19) hx hb hts inX9 hown hK hP 0 rfl rfl 1 (by decide) rfl wl2 rfl dX9_thing_101 ?_
            refine lv_bipush (v := 10) hx hb dX9_thing_104 (by decide) ?_
            refine lv_dup2_11 hx hb dX9_thing_106 rfl rfl ?_
            refine k_iald (k := 10) hx hb hK hP 1 0 rfl rfl (by unfold vp_in; decide) (by decide) dX9_thing_107 ?_
            refine lv_iconst (v := 1) hx hb dX9_thing_108 (by decide) ?_
            refine lv_iadd hx hb dX9_thing_109 ?_
            refine k_iast (ws2 := [(h, .inr (9, [.int 0, .ref h_now, .ref h_aside, .int v_h_kept, .ref h_books, .ref h_tide, .ref h_rain, .ref h_rule, .int v_h_counted, .ref h_counts, .ref h_begins, .ref h_best, .int v_h_bestWorth, .int v_h_bestPitch, .int v_h_bestBits, .int v_h_leastHour, .int v_h_leastSet, .int v_h_shut, .ref h_planks])), (h_now, .inl (cI, 169, .inl (upd (upd (upd (upd f_h_now (13 + (f_h_now 10)).toNatClampNeg a1) (25 + (f_h_now 10)).toNatClampNeg a2) (37 + (f_h_now 10)).toNatClampNeg 1) 10 (((upd (upd (upd f_h_now (13 + (f_h_now 10)).toNatClampNeg a1) (25 + (f_h_now 10)).toNatClampNeg a2) (37 + (f_h_now 10)).toNatClampNeg 1) 10) + 1))))]) (k := 10) hx hb hK hP hD hS 1 0 rfl rfl (by unfold vp_in; decide) (by decide) rfl dX9_thing_110 (fun H locs hP hD hS => ?_)
            refine lv_iload_n hx hb dX9_thing_111 rfl (lv_at hl 0 rfl) ?_
            exact hRet _ _ _ hf _ _ _ _ hP hD hS rfl dX9_thing_112
          · replace hf := k_pos hf c12
            refine lv_bipush (v := (-3)) hx hb dX9_thing_67 (by decide) ?_
            exact hRet _ _ _ hf _ _ _ _ hP hD hS rfl dX9_thing_69
        · replace hf := k_pos hf c11
          refine lv_bipush (v := (-2)) hx hb dX9_thing_58 (by decide) ?_
          exact hRet _ _ _ hf _ _ _ _ hP hD hS rfl dX9_thing_60
    · replace hf := k_pos hf c4
      refine lv_iconst (v := (-1)) hx hb dX9_thing_40 (by decide) ?_
      exact hRet _ _ _ hf _ _ _ _ hP hD hS rfl dX9_thing_41

def p_X9_tackle (f_h_now : Nat → Int32) (a1 : Int32) (a2 : Int32) (a3 : Int32) : Option (Int32 × Int32 × (Nat → Int32)) :=
  k_b1 (p_X9_in ((a1).toInt64) 0 2) fun r1 =>
  if r1 = 0 then
    some ((-1), 0, f_h_now)
  else
    k_b1 (p_X9_in ((a2).toInt64) 1 6) fun r3 =>
    if r3 = 0 then
      some ((-1), 0, f_h_now)
    else
      k_b1 (p_X9_in ((a3).toInt64) 1 400) fun r5 =>
      if r5 = 0 then
        some ((-1), 0, f_h_now)
      else
        if (f_h_now 11) = 6 then
          some ((-3), 0, f_h_now)
        else
          k_ix (49 + (f_h_now 11)) 169 (
            k_ix (55 + (f_h_now 11)) 169 (
              k_ix (61 + (f_h_now 11)) 169 (
                k_ix (67 + (f_h_now 11)) 169 (
                  some (f_h_now 11, 0, upd (upd (upd (upd (upd f_h_now (49 + (f_h_now 11)).toNatClampNeg a1) (55 + (f_h_now 11)).toNatClampNeg a2) (61 + (f_h_now 11)).toNatClampNeg a3) (67 + (f_h_now 11)).toNatClampNeg 1) 11 (((upd (upd (upd (upd f_h_now (49 + (f_h_now 11)).toNatClampNeg a1) (55 + (f_h_now 11)).toNatClampNeg a2) (61 + (f_h_now 11)).toNatClampNeg a3) (67 + (f_h_now 11)).toNatClampNeg 1) 11) + 1))))))
abbrev rm_X9_tackle : Room := { frames := 1, cells := 0, slots := 0, locals := 25 }
theorem hdS_X9_tackle : yX9_tackle.cls ≠ "java/lang/invoke/MethodHandle" ∧ yX9_tackle.cls ≠ "java/lang/invoke/VarHandle" ∧ (parseMethodDescriptor yX9_tackle.desc).map (fun d => d.parameters.length) = some 3 := by decide +kernel
theorem hdV_X9_tackle : yX9_tackle.cls = RX9 ∧ yX9_tackle.cls ≠ "java/lang/invoke/MethodHandle" ∧ yX9_tackle.cls ≠ "java/lang/invoke/VarHandle" ∧ (parseMethodDescriptor yX9_tackle.desc).map (fun d => d.parameters.length) = some 3 := by decide +kernel
set_option maxHeartbeats 4000000 in
set_option maxRecDepth 100000 in
theorem c_X9_tackle (l : Launch) (D : va_G) (cI cZ cJ cS : ClassId) (h h_now h_aside h_books h_tide h_rain h_rule h_counts h_begins h_best h_planks : Nat) (v_h_thrown : Int32) (v_h_kept : Int32) (v_h_counted : Int32) (v_h_bestWorth : Int32) (v_h_bestPitch : Int32) (v_h_bestBits : Int32) (v_h_leastHour : Int32) (v_h_leastSet : Int32) (v_h_shut : Int32) (f_h_now : Nat → Int32) (a1 : Int32) (a2 : Int32) (a3 : Int32) (r : Int32) (v_h_thrown' : Int32) (f_h_now' : Nat → Int32) (hf : p_X9_tackle f_h_now a1 a2 a3 = some (r, v_h_thrown', f_h_now')) : k_MI l yX9_tackle wsX9_tackle rm_X9_tackle D (k_tys cI cZ cJ cS) [.ref h, .int a1, .int a2, .int a3] [(h, .inr (9, [.int v_h_thrown, .ref h_now, .ref h_aside, .int v_h_kept, .ref h_books, .ref h_tide, .ref h_rain, .ref h_rule, .int v_h_counted, .ref h_counts, .ref h_begins, .ref h_best, .int v_h_bestWorth, .int v_h_bestPitch, .int v_h_bestBits, .int v_h_leastHour, .int v_h_leastSet, .int v_h_shut, .ref h_planks])), (h_now, .inl (cI, 169, .inl f_h_now))] [(h, .inr (9, [.int v_h_thrown', .ref h_now, .ref h_aside, .int v_h_kept, .ref h_books, .ref h_tide, .ref h_rain, .ref h_rule, .int v_h_counted, .ref h_counts, .ref h_begins, .ref h_best, .int v_h_bestWorth, .int v_h_bestPitch, .int v_h_bestBits, .int v_h_leastHour, .int v_h_leastSet, .int v_h_shut, .ref h_planks])), (h_now, .inl (cI, 169, .inl f_h_now'))] r := by
  refine k_enter (y := yX9_tackle) (wl := wsX9_tackle) (rm := rm_X9_tackle) (av := [.ref h, .int a1, .int a2, .int a3]) (D := D) (tys := k_tys cI cZ cJ cS) (ws := [(h, .inr (9, [.int v_h_thrown, .ref h_now, .ref h_aside, .int v_h_kept, .ref h_books, .ref h_tide, .ref h_rain, .ref h_rule, .int v_h_counted, .ref h_counts, .ref h_begins, .ref h_best, .int v_h_bestWorth, .int v_h_bestPitch, .int v_h_bestBits, .int v_h_leastHour, .int v_h_leastSet, .int v_h_shut, .ref h_planks])), (h_now, .inl (cI, 169, .inl f_h_now))]) (cc := cX9_tackle) (maxL := 5) (ret := (some .int)) (Qc := fun A => k_Qi D (k_tys cI cZ cJ cS) [(h, .inr (9, [.int v_h_thrown', .ref h_now, .ref h_aside, .int v_h_kept, .ref h_books, .ref h_tide, .ref h_rain, .ref h_rule, .int v_h_counted, .ref h_counts, .ref h_begins, .ref h_best, .int v_h_bestWorth, .int v_h_bestPitch, .int v_h_bestBits, .int v_h_leastHour, .int v_h_leastSet, .int v_h_shut, .ref h_planks])), (h_now, .inl (cI, 169, .inl f_h_now'))] A r) (by decide) rfl (Nat.le_of_ble_eq_true rfl) [(0, .ref h), (1, .int a1), (2, .int a2), (3, .int a3)] rfl ?_
  intro p e s m below meth c A hx hb hml hr hlocks hnm hown hK hP hD hA hS hN ls args Q hts hl hQ
  replace hown : s.vm.findClass RX9 = some m.cls := hown
  have S0 : CallFix p m c cX9_tackle 5 s args wsX9_tackle RX9 := ⟨hx, hb, hml, hown, hts⟩
  have inX9 : ∀ w ∈ u_ws RX9 TX9 19, w ∈ wsX9_tackle := fun w h => List.mem_cons_of_mem _ (List.mem_append_right _ h)
  have wl1 : (Cond.fieldLink RX9 1 "BeachedShipModel" "thrown" "I").before args s = true := hts _ (List.mem_of_getElem? (i := 1) rfl)
  have wl2 : (Cond.constantLong RX9 66 (2)).before args s = true := hts _ (List.mem_of_getElem? (i := 2) rfl)
  have wl3 : (Cond.constantLong RX9 68 (6)).before args s = true := hts _ (List.mem_of_getElem? (i := 3) rfl)
  have wl4 : (Cond.constantLong RX9 70 (400)).before args s = true := hts _ (List.mem_of_getElem? (i := 4) rfl)
  have wl5 : (Cond.fieldLink RX9 13 "BeachedShipModel" "now" "[I").before args s = true := hts _ (List.mem_of_getElem? (i := 5) rfl)
  have hRet : ∀ (r_z : Int32) (v_h_thrown_z : Int32) (f_h_now_z : Nat → Int32), some (r_z, v_h_thrown_z, f_h_now_z) = some (r, v_h_thrown', f_h_now') → ∀ (H : Heap) (locs : List Loc) (ls : Array Slot) (pc : Nat), va_P D vwCl [(h, .inr (9, [.int v_h_thrown_z, .ref h_now, .ref h_aside, .int v_h_kept, .ref h_books, .ref h_tide, .ref h_rain, .ref h_rule, .int v_h_counted, .ref h_counts, .ref h_begins, .ref h_best, .int v_h_bestWorth, .int v_h_bestPitch, .int v_h_bestBits, .int v_h_leastHour, .int v_h_leastSet, .int v_h_shut, .ref h_planks])), (h_now, .inl (cI, 169, .inl f_h_now_z))] H → va_D A [(h, .inr (9, [.int v_h_thrown_z, .ref h_now, .ref h_aside, .int v_h_kept, .ref h_books, .ref h_tide, .ref h_rain, .ref h_rule, .int v_h_counted, .ref h_counts, .ref h_begins, .ref h_best, .int v_h_bestWorth, .int v_h_bestPitch, .int v_h_bestBits, .int v_h_leastHour, .int v_h_leastSet, .int v_h_shut, .ref h_planks])), (h_now, .inl (cI, 169, .inl f_h_now_z))] → va_S A s.heap H locs → narrow .int (.int r_z) = .int r_z → decode cX9_tackle pc = .ok (.ireturn, 1) → W p l e rm_X9_tackle s m args below meth c H locs 0 0 Q (F0 m pc ls [.int r_z]) := by
    intro r_z v_h_thrown_z f_h_now_z hz H locs ls pc hP hD hS hn hd
    cases hz
    exact k_iret hx hb hr hlocks hn hK hP hD hS hQ rfl hd
  unfold p_X9_tackle at hf
  refine lv_aload_n hx hb dX9_tackle_0 rfl (lv_at hl 0 rfl) ?_
  refine lv_iconst (v := 0) hx hb dX9_tackle_1 (by decide) ?_
  refine k_putf (ws2 := [(h, .inr (9, [.int 0, .ref h_now, .ref h_aside, .int v_h_kept, .ref h_books, .ref h_tide, .ref h_rain, .ref h_rule, .int v_h_counted, .ref h_counts, .ref h_begins, .ref h_best, .int v_h_bestWorth, .int v_h_bestPitch, .int v_h_bestBits, .int v_h_leastHour, .int v_h_leastSet, .int v_h_shut, .ref h_planks])), (h_now, .inl (cI, 169, .inl f_h_now))]) (C := RX9) (T := TX9) (N := 19) hx hb hts inX9 tyX9 tyX9_ok nmX9 hown hK hP hD hS 0 rfl rfl 0 (by decide) rfl wl1 rfl rfl rfl (Nat.le_of_ble_eq_true rfl) rfl dX9_tackle_2 (fun H locs hP hD hS => ?_)
  refine lv_iload_n hx hb dX9_tackle_5 rfl (lv_at hl 1 rfl) ?_
  refine lv_i2l (v := (a1).toInt64) hx hb dX9_tackle_6 rfl ?_
  refine lv_lconst (v := 0) hx hb dX9_tackle_7 (by decide) ?_
  refine lv_ldc2 hx hb hown wl2 dX9_tackle_8 ?_
  obtain ⟨r1, hc1, hf⟩ := k_b1_some hf
  refine k_SiR (As := [.long ((a1).toInt64), .long 0, .long 2]) (rest := []) S0 (c_X9_in l D cI cZ cJ cS ((a1).toInt64) 0 2 r1 hc1) (va_cwS 3 hts gX9_tackle_X9_in rfl rfl rfl hdS_X9_in ⟨Nat.le_of_ble_eq_true rfl, Nat.le_of_ble_eq_true rfl⟩) hK hP hD hS hA hN [] rfl (by decide) rfl hl.1 rfl (Nat.le_of_ble_eq_true rfl) dX9_tackle_11 (fun H locs hP hS => ?_)
  refine lv_if_eq (tgt := 41) hx hb dX9_tackle_14 (by decide) (fun c2 => ?_) (fun c2 => ?_)
  · replace hf := k_pos hf c2
    refine lv_iconst (v := (-1)) hx hb dX9_tackle_41 (by decide) ?_
    exact hRet _ _ _ hf _ _ _ _ hP hD hS rfl dX9_tackle_42
  · replace hf := k_neg hf c2
    refine lv_iload_n hx hb dX9_tackle_17 rfl (lv_at hl 2 rfl) ?_
    refine lv_i2l (v := (a2).toInt64) hx hb dX9_tackle_18 rfl ?_
    refine lv_lconst (v := 1) hx hb dX9_tackle_19 (by decide) ?_
    refine lv_ldc2 hx hb hown wl3 dX9_tackle_20 ?_
    obtain ⟨r3, hc3, hf⟩ := k_b1_some hf
    refine k_SiR (As := [.long ((a2).toInt64), .long 1, .long 6]) (rest := []) S0 (c_X9_in l D cI cZ cJ cS ((a2).toInt64) 1 6 r3 hc3) (va_cwS 3 hts gX9_tackle_X9_in rfl rfl rfl hdS_X9_in ⟨Nat.le_of_ble_eq_true rfl, Nat.le_of_ble_eq_true rfl⟩) hK hP hD hS hA hN [] rfl (by decide) rfl hl.1 rfl (Nat.le_of_ble_eq_true rfl) dX9_tackle_23 (fun H locs hP hS => ?_)
    refine lv_if_eq (tgt := 41) hx hb dX9_tackle_26 (by decide) (fun c4 => ?_) (fun c4 => ?_)
    · replace hf := k_pos hf c4
      refine lv_iconst (v := (-1)) hx hb dX9_tackle_41 (by decide) ?_
      exact hRet _ _ _ hf _ _ _ _ hP hD hS rfl dX9_tackle_42
    · replace hf := k_neg hf c4
      refine lv_iload_n hx hb dX9_tackle_29 rfl (lv_at hl 3 rfl) ?_
      refine lv_i2l (v := (a3).toInt64) hx hb dX9_tackle_30 rfl ?_
      refine lv_lconst (v := 1) hx hb dX9_tackle_31 (by decide) ?_
      refine lv_ldc2 hx hb hown wl4 dX9_tackle_32 ?_
      obtain ⟨r5, hc5, hf⟩ := k_b1_some hf
      refine k_SiR (As := [.long ((a3).toInt64), .long 1, .long 400]) (rest := []) S0 (c_X9_in l D cI cZ cJ cS ((a3).toInt64) 1 400 r5 hc5) (va_cwS 3 hts gX9_tackle_X9_in rfl rfl rfl hdS_X9_in ⟨Nat.le_of_ble_eq_true rfl, Nat.le_of_ble_eq_true rfl⟩) hK hP hD hS hA hN [] rfl (by decide) rfl hl.1 rfl (Nat.le_of_ble_eq_true rfl) dX9_tackle_35 (fun H locs hP hS => ?_)
      refine lv_if_ne (tgt := 43) hx hb dX9_tackle_38 (by decide) (fun c6 => ?_) (fun c6 => ?_)
      · replace hf := k_neg hf c6
        refine lv_aload_n hx hb dX9_tackle_43 rfl (lv_at hl 0 rfl) ?_
        refine k_get (C := RX9) (T := TX9) (N := 19) hx hb hts inX9 hown hK hP 0 rfl rfl 1 (by decide) rfl wl5 rfl dX9_tackle_44 ?_
        refine lv_bipush (v := 11) hx hb dX9_tackle_47 (by decide) ?_
        refine k_iald (k := 11) hx hb hK hP 1 0 rfl rfl (by unfold vp_in; decide) (by decide) dX9_tackle_49 ?_
        refine lv_istore (lv' := [(4, .int (f_h_now 11)), (0, .ref h), (1, .int a1), (2, .int a2), (3, .int a3)]) hx hb dX9_tackle_50 hl (by decide) rfl (fun ls hl => ?_)
        refine lv_iload hx hb dX9_tackle_52 (lv_at hl 0 rfl) ?_
        refine lv_bipush (v := 6) hx hb dX9_tackle_54 (by decide) ?_
        refine lv_icmp_ne (tgt := 62) hx hb dX9_tackle_56 (by decide) (fun c7 => ?_) (fun c7 => ?_)
        · replace hf := k_neg hf c7
          refine lv_aload_n hx hb dX9_tackle_62 rfl (lv_at hl 1 rfl) ?_
          refine k_get (C := RX9) (T := TX9) (N := 19) hx hb hts inX9 hown hK hP 0 rfl rfl 1 (by decide) rfl wl5 rfl dX9_tackle_63 ?_
          refine lv_bipush (v := 49) hx hb dX9_tackle_66 (by decide) ?_
          refine lv_iload hx hb dX9_tackle_68 (lv_at hl 0 rfl) ?_
          refine lv_iadd hx hb dX9_tackle_70 ?_
          refine lv_iload_n hx hb dX9_tackle_71 rfl (lv_at hl 2 rfl) ?_
          obtain ⟨hi8, hf⟩ := k_ix_some hf
          refine k_iast (ws2 := [(h, .inr (9, [.int 0, .ref h_now, .ref h_aside, .int v_h_kept, .ref h_books, .ref h_tide, .ref h_rain, .ref h_rule, .int v_h_counted, .ref h_counts, .ref h_begins, .ref h_best, .int v_h_bestWorth, .int v_h_bestPitch, .int v_h_bestBits, .int v_h_leastHour, .int v_h_leastSet, .int v_h_shut, .ref h_planks])), (h_now, .inl (cI, 169, .inl (upd f_h_now (49 + (f_h_now 11)).toNatClampNeg a1)))]) (k := (49 + (f_h_now 11)).toNatClampNeg) hx hb hK hP hD hS 1 0 rfl rfl hi8 rfl rfl dX9_tackle_72 (fun H locs hP hD hS => ?_)
          refine lv_aload_n hx hb dX9_tackle_73 rfl (lv_at hl 1 rfl) ?_
          refine k_get (C := RX9) (T := TX9) (N := 19) hx hb hts inX9 hown hK hP 0 rfl rfl 1 (by decide) rfl wl5 rfl dX9_tackle_74 ?_
          refine lv_bipush (v := 55) hx hb dX9_tackle_77 (by decide) ?_
          refine lv_iload hx hb dX9_tackle_79 (lv_at hl 0 rfl) ?_
          refine lv_iadd hx hb dX9_tackle_81 ?_
          refine lv_iload_n hx hb dX9_tackle_82 rfl (lv_at hl 3 rfl) ?_
          obtain ⟨hi9, hf⟩ := k_ix_some hf
          refine k_iast (ws2 := [(h, .inr (9, [.int 0, .ref h_now, .ref h_aside, .int v_h_kept, .ref h_books, .ref h_tide, .ref h_rain, .ref h_rule, .int v_h_counted, .ref h_counts, .ref h_begins, .ref h_best, .int v_h_bestWorth, .int v_h_bestPitch, .int v_h_bestBits, .int v_h_leastHour, .int v_h_leastSet, .int v_h_shut, .ref h_planks])), (h_now, .inl (cI, 169, .inl (upd (upd f_h_now (49 + (f_h_now 11)).toNatClampNeg a1) (55 + (f_h_now 11)).toNatClampNeg a2)))]) (k := (55 + (f_h_now 11)).toNatClampNeg) hx hb hK hP hD hS 1 0 rfl rfl hi9 rfl rfl dX9_tackle_83 (fun H locs hP hD hS => ?_)
          refine lv_aload_n hx hb dX9_tackle_84 rfl (lv_at hl 1 rfl) ?_
          refine k_get (C := RX9) (T := TX9) (N := 19) hx hb hts inX9 hown hK hP 0 rfl rfl 1 (by decide) rfl wl5 rfl dX9_tackle_85 ?_
          refine lv_bipush (v := 61) hx hb dX9_tackle_88 (by decide) ?_
          refine lv_iload hx hb dX9_tackle_90 (lv_at hl 0 rfl) ?_
          refine lv_iadd hx hb dX9_tackle_92 ?_
          refine lv_iload_n hx hb dX9_tackle_93 rfl (lv_at hl 4 rfl) ?_
          obtain ⟨hi10, hf⟩ := k_ix_some hf
          refine k_iast (ws2 := [(h, .inr (9, [.int 0, .ref h_now, .ref h_aside, .int v_h_kept, .ref h_books, .ref h_tide, .ref h_rain, .ref h_rule, .int v_h_counted, .ref h_counts, .ref h_begins, .ref h_best, .int v_h_bestWorth, .int v_h_bestPitch, .int v_h_bestBits, .int v_h_leastHour, .int v_h_leastSet, .int v_h_shut, .ref h_planks])), (h_now, .inl (cI, 169, .inl (upd (upd (upd f_h_now (49 + (f_h_now 11)).toNatClampNeg a1) (55 + (f_h_now 11)).toNatClampNeg a2) (61 + (f_h_now 11)).toNatClampNeg a3)))]) (k := (61 + (f_h_now 11)).toNatClampNeg) hx hb hK hP hD hS 1 0 rfl rfl hi10 rfl rfl dX9_tackle_94 (fun H locs hP hD hS => ?_)
          refine lv_aload_n hx hb dX9_tackle_95 rfl (lv_at hl 1 rfl) ?_
          refine k_get (C := RX9) (T := TX9) (N := 19) hx hb hts inX9 hown hK hP 0 rfl rfl 1 (by decide) rfl wl5 rfl dX9_tackle_96 ?_
          refine lv_bipush (v := 67) hx hb dX9_tackle_99 (by decide) ?_
          refine lv_iload hx hb dX9_tackle_101 (lv_at hl 0 rfl) ?_
          refine lv_iadd hx hb dX9_tackle_103 ?_
          refine lv_iconst (v := 1) hx hb dX9_tackle_104 (by decide) ?_
          obtain ⟨hi11, hf⟩ := k_ix_some hf
          refine k_iast (ws2 := [(h, .inr (9, [.int 0, .ref h_now, .ref h_aside, .int v_h_kept, .ref h_books, .ref h_tide, .ref h_rain, .ref h_rule, .int v_h_counted, .ref h_counts, .ref h_begins, .ref h_best, .int v_h_bestWorth, .int v_h_bestPitch, .int v_h_bestBits, .int v_h_leastHour, .int v_h_leastSet, .int v_h_shut, .ref h_planks])), (h_now, .inl (cI, 169, .inl (upd (upd (upd (upd f_h_now (49 + (f_h_now 11)).toNatClampNeg a1) (55 + (f_h_now 11)).toNatClampNeg a2) (61 + (f_h_now 11)).toNatClampNeg a3) (67 + (f_h_now 11)).toNatClampNeg 1)))]) (k := (67 + (f_h_now 11)).toNatClampNeg) hx hb hK hP hD hS 1 0 rfl rfl hi11 rfl rfl dX9_tackle_105 (fun H locs hP hD hS => ?_)
          refine lv_aload_n hx hb dX9_tackle_106 rfl (lv_at hl 1 rfl) ?_
          refine k_get (C := RX9) (T := TX9) (N := 19) hx hb hts inX9 hown hK hP 0 rfl rfl 1 (by decide) rfl wl5 rfl dX9_tackle_107 ?_
          refine lv_bipush (v := 11) hx hb dX9_tackle_110 (by decide) ?_
          refine lv_dup2_11 hx hb dX9_tackle_112 rfl rfl ?_
          refine k_iald (k := 11) hx hb hK hP 1 0 rfl rfl (by unfold vp_in; decide) (by decide) dX9_tackle_113 ?_
          refine lv_iconst (v := 1) hx hb dX9_tackle_114 (by decide) ?_
          refine lv_iadd hx hb dX9_tackle_115 ?_
          refine k_iast (ws2 := [(h, .inr (9, [.int 0, .ref h_now, .ref h_aside, .int v_h_kept, .ref h_books, .ref h_tide, .ref h_rain, .ref h_rule, .int v_h_counted, .ref h_counts, .ref h_begins, .ref h_best, .int v_h_bestWorth, .int v_h_bestPitch, .int v_h_bestBits, .int v_h_leastHour, .int v_h_leastSet, .int v_h_shut, .ref h_planks])), (h_now, .inl (cI, 169, .inl (upd (upd (upd (upd (upd f_h_now (49 + (f_h_now 11)).toNatClampNeg a1) (55 + (f_h_now 11)).toNatClampNeg a2) (61 + (f_h_now 11)).toNatClampNeg a3) (67 + (f_h_now 11)).toNatClampNeg 1) 11 (((upd (upd (upd (upd f_h_now (49 + (f_h_now 11)).toNatClampNeg a1) (55 + (f_h_now 11)).toNatClampNeg a2) (61 + (f_h_now 11)).toNatClampNeg a3) (67 + (f_h_now 11)).toNatClampNeg 1) 11) + 1))))]) (k := 11) hx hb hK hP hD hS 1 0 rfl rfl (by unfold vp_in; decide) (by decide) rfl dX9_tackle_116 (fun H locs hP hD hS => ?_)
          refine lv_iload hx hb dX9_tackle_117 (lv_at hl 0 rfl) ?_
          exact hRet _ _ _ hf _ _ _ _ hP hD hS rfl dX9_tackle_119
        · replace hf := k_pos hf c7
          refine lv_bipush (v := (-3)) hx hb dX9_tackle_59 (by decide) ?_
          exact hRet _ _ _ hf _ _ _ _ hP hD hS rfl dX9_tackle_61
      · replace hf := k_pos hf c6
        refine lv_iconst (v := (-1)) hx hb dX9_tackle_41 (by decide) ?_
        exact hRet _ _ _ hf _ _ _ _ hP hD hS rfl dX9_tackle_42

def p_X9_seam (f_h_now : Nat → Int32) (a1 : Int32) (a2 : Int32) (a3 : Int32) (a4 : Int32) (a5 : Int32) (a6 : Int32) : Option (Int32 × Int32 × (Nat → Int32)) :=
  k_b1 (p_X9_in ((a1).toInt64) 1 10) fun r1 =>
  if r1 = 0 then
    some ((-1), 0, f_h_now)
  else
    k_b1 (p_X9_in ((a2).toInt64) 0 1) fun r3 =>
    if r3 = 0 then
      some ((-1), 0, f_h_now)
    else
      k_b1 (p_X9_in ((a3).toInt64) 1 6) fun r5 =>
      if r5 = 0 then
        some ((-1), 0, f_h_now)
      else
        k_b1 (p_X9_in ((a4).toInt64) 1 4) fun r7 =>
        if r7 = 0 then
          some ((-1), 0, f_h_now)
        else
          k_b1 (p_X9_in ((a5).toInt64) 0 50) fun r9 =>
          if r9 = 0 then
            some ((-1), 0, f_h_now)
          else
            k_b1 (p_X9_in ((a6).toInt64) 1 100) fun r11 =>
            if r11 = 0 then
              some ((-1), 0, f_h_now)
            else
              if (f_h_now 12) = 12 then
                some ((-3), 0, f_h_now)
              else
                k_ix (73 + (f_h_now 12)) 169 (
                  k_ix (85 + (f_h_now 12)) 169 (
                    k_ix (97 + (f_h_now 12)) 169 (
                      k_ix (109 + (f_h_now 12)) 169 (
                        k_ix (121 + (f_h_now 12)) 169 (
                          k_ix (133 + (f_h_now 12)) 169 (
                            k_ix (145 + (f_h_now 12)) 169 (
                              k_ix (157 + (f_h_now 12)) 169 (
                                some (f_h_now 12, 0, upd (upd (upd (upd (upd (upd (upd (upd (upd f_h_now (73 + (f_h_now 12)).toNatClampNeg a1) (85 + (f_h_now 12)).toNatClampNeg a2) (97 + (f_h_now 12)).toNatClampNeg a3) (109 + (f_h_now 12)).toNatClampNeg a4) (121 + (f_h_now 12)).toNatClampNeg a5) (133 + (f_h_now 12)).toNatClampNeg a6) (145 + (f_h_now 12)).toNatClampNeg 0) (157 + (f_h_now 12)).toNatClampNeg 0) 12 (((upd (upd (upd (upd (upd (upd (upd (upd f_h_now (73 + (f_h_now 12)).toNatClampNeg a1) (85 + (f_h_now 12)).toNatClampNeg a2) (97 + (f_h_now 12)).toNatClampNeg a3) (109 + (f_h_now 12)).toNatClampNeg a4) (121 + (f_h_now 12)).toNatClampNeg a5) (133 + (f_h_now 12)).toNatClampNeg a6) (145 + (f_h_now 12)).toNatClampNeg 0) (157 + (f_h_now 12)).toNatClampNeg 0) 12) + 1))))))))))
abbrev rm_X9_seam : Room := { frames := 1, cells := 0, slots := 0, locals := 25 }
theorem hdS_X9_seam : yX9_seam.cls ≠ "java/lang/invoke/MethodHandle" ∧ yX9_seam.cls ≠ "java/lang/invoke/VarHandle" ∧ (parseMethodDescriptor yX9_seam.desc).map (fun d => d.parameters.length) = some 6 := by decide +kernel
theorem hdV_X9_seam : yX9_seam.cls = RX9 ∧ yX9_seam.cls ≠ "java/lang/invoke/MethodHandle" ∧ yX9_seam.cls ≠ "java/lang/invoke/VarHandle" ∧ (parseMethodDescriptor yX9_seam.desc).map (fun d => d.parameters.length) = some 6 := by decide +kernel
set_option maxHeartbeats 4000000 in
set_option maxRecDepth 100000 in
theorem c_X9_seam (l : Launch) (D : va_G) (cI cZ cJ cS : ClassId) (h h_now h_aside h_books h_tide h_rain h_rule h_counts h_begins h_best h_planks : Nat) (v_h_thrown : Int32) (v_h_kept : Int32) (v_h_counted : Int32) (v_h_bestWorth : Int32) (v_h_bestPitch : Int32) (v_h_bestBits : Int32) (v_h_leastHour : Int32) (v_h_leastSet : Int32) (v_h_shut : Int32) (f_h_now : Nat → Int32) (a1 : Int32) (a2 : Int32) (a3 : Int32) (a4 : Int32) (a5 : Int32) (a6 : Int32) (r : Int32) (v_h_thrown' : Int32) (f_h_now' : Nat → Int32) (hf : p_X9_seam f_h_now a1 a2 a3 a4 a5 a6 = some (r, v_h_thrown', f_h_now')) : k_MI l yX9_seam wsX9_seam rm_X9_seam D (k_tys cI cZ cJ cS) [.ref h, .int a1, .int a2, .int a3, .int a4, .int a5, .int a6] [(h, .inr (9, [.int v_h_thrown, .ref h_now, .ref h_aside, .int v_h_kept, .ref h_books, .ref h_tide, .ref h_rain, .ref h_rule, .int v_h_counted, .ref h_counts, .ref h_begins, .ref h_best, .int v_h_bestWorth, .int v_h_bestPitch, .int v_h_bestBits, .int v_h_leastHour, .int v_h_leastSet, .int v_h_shut, .ref h_planks])), (h_now, .inl (cI, 169, .inl f_h_now))] [(h, .inr (9, [.int v_h_thrown', .ref h_now, .ref h_aside, .int v_h_kept, .ref h_books, .ref h_tide, .ref h_rain, .ref h_rule, .int v_h_counted, .ref h_counts, .ref h_begins, .ref h_best, .int v_h_bestWorth, .int v_h_bestPitch, .int v_h_bestBits, .int v_h_leastHour, .int v_h_leastSet, .int v_h_shut, .ref h_planks])), (h_now, .inl (cI, 169, .inl f_h_now'))] r := by
  refine k_enter (y := yX9_seam) (wl := wsX9_seam) (rm := rm_X9_seam) (av := [.ref h, .int a1, .int a2, .int a3, .int a4, .int a5, .int a6]) (D := D) (tys := k_tys cI cZ cJ cS) (ws := [(h, .inr (9, [.int v_h_thrown, .ref h_now, .ref h_aside, .int v_h_kept, .ref h_books, .ref h_tide, .ref h_rain, .ref h_rule, .int v_h_counted, .ref h_counts, .ref h_begins, .ref h_best, .int v_h_bestWorth, .int v_h_bestPitch, .int v_h_bestBits, .int v_h_leastHour, .int v_h_leastSet, .int v_h_shut, .ref h_planks])), (h_now, .inl (cI, 169, .inl f_h_now))]) (cc := cX9_seam) (maxL := 8) (ret := (some .int)) (Qc := fun A => k_Qi D (k_tys cI cZ cJ cS) [(h, .inr (9, [.int v_h_thrown', .ref h_now, .ref h_aside, .int v_h_kept, .ref h_books, .ref h_tide, .ref h_rain, .ref h_rule, .int v_h_counted, .ref h_counts, .ref h_begins, .ref h_best, .int v_h_bestWorth, .int v_h_bestPitch, .int v_h_bestBits, .int v_h_leastHour, .int v_h_leastSet, .int v_h_shut, .ref h_planks])), (h_now, .inl (cI, 169, .inl f_h_now'))] A r) (by decide) rfl (Nat.le_of_ble_eq_true rfl) [(0, .ref h), (1, .int a1), (2, .int a2), (3, .int a3), (4, .int a4), (5, .int a5), (6, .int a6)] rfl ?_
  intro p e s m below meth c A hx hb hml hr hlocks hnm hown hK hP hD hA hS hN ls args Q hts hl hQ
  replace hown : s.vm.findClass RX9 = some m.cls := hown
  have S0 : CallFix p m c cX9_seam 8 s args wsX9_seam RX9 := ⟨hx, hb, hml, hown, hts⟩
  have inX9 : ∀ w ∈ u_ws RX9 TX9 19, w ∈ wsX9_seam := fun w h => List.mem_cons_of_mem _ (List.mem_append_right _ h)
  have wl1 : (Cond.fieldLink RX9 1 "BeachedShipModel" "thrown" "I").before args s = true := hts _ (List.mem_of_getElem? (i := 1) rfl)
  have wl2 : (Cond.constantLong RX9 72 (10)).before args s = true := hts _ (List.mem_of_getElem? (i := 2) rfl)
  have wl3 : (Cond.constantLong RX9 68 (6)).before args s = true := hts _ (List.mem_of_getElem? (i := 3) rfl)
  have wl4 : (Cond.constantLong RX9 74 (4)).before args s = true := hts _ (List.mem_of_getElem? (i := 4) rfl)
  have wl5 : (Cond.constantLong RX9 76 (50)).before args s = true := hts _ (List.mem_of_getElem? (i := 5) rfl)
  have wl6 : (Cond.constantLong RX9 62 (100)).before args s = true := hts _ (List.mem_of_getElem? (i := 6) rfl)
  have wl7 : (Cond.fieldLink RX9 13 "BeachedShipModel" "now" "[I").before args s = true := hts _ (List.mem_of_getElem? (i := 7) rfl)
  have hRet : ∀ (r_z : Int32) (v_h_thrown_z : Int32) (f_h_now_z : Nat → Int32), some (r_z, v_h_thrown_z, f_h_now_z) = some (r, v_h_thrown', f_h_now') → ∀ (H : Heap) (locs : List Loc) (ls : Array Slot) (pc : Nat), va_P D vwCl [(h, .inr (9, [.int v_h_thrown_z, .ref h_now, .ref h_aside, .int v_h_kept, .ref h_books, .ref h_tide, .ref h_rain, .ref h_rule, .int v_h_counted, .ref h_counts, .ref h_begins, .ref h_best, .int v_h_bestWorth, .int v_h_bestPitch, .int v_h_bestBits, .int v_h_leastHour, .int v_h_leastSet, .int v_h_shut, .ref h_planks])), (h_now, .inl (cI, 169, .inl f_h_now_z))] H → va_D A [(h, .inr (9, [.int v_h_thrown_z, .ref h_now, .ref h_aside, .int v_h_kept, .ref h_books, .ref h_tide, .ref h_rain, .ref h_rule, .int v_h_counted, .ref h_counts, .ref h_begins, .ref h_best, .int v_h_bestWorth, .int v_h_bestPitch, .int v_h_bestBits, .int v_h_leastHour, .int v_h_leastSet, .int v_h_shut, .ref h_planks])), (h_now, .inl (cI, 169, .inl f_h_now_z))] → va_S A s.heap H locs → narrow .int (.int r_z) = .int r_z → decode cX9_seam pc = .ok (.ireturn, 1) → W p l e rm_X9_seam s m args below meth c H locs 0 0 Q (F0 m pc ls [.int r_z]) := by
    intro r_z v_h_thrown_z f_h_now_z hz H locs ls pc hP hD hS hn hd
    cases hz
    exact k_iret hx hb hr hlocks hn hK hP hD hS hQ rfl hd
  unfold p_X9_seam at hf
  refine lv_aload_n hx hb dX9_seam_0 rfl (lv_at hl 0 rfl) ?_
  refine lv_iconst (v := 0) hx hb dX9_seam_1 (by decide) ?_
  refine k_putf (ws2 := [(h, .inr (9, [.int 0, .ref h_now, .ref h_aside, .int v_h_kept, .ref h_books, .ref h_tide, .ref h_rain, .ref h_rule, .int v_h_counted, .ref h_counts, .ref h_begins, .ref h_best, .int v_h_bestWorth, .int v_h_bestPitch, .int v_h_bestBits, .int v_h_leastHour, .int v_h_leastSet, .int v_h_shut, .ref h_planks])), (h_now, .inl (cI, 169, .inl f_h_now))]) (C := RX9) (T := TX9) (N := 19) hx hb hts inX9 tyX9 tyX9_ok nmX9 hown hK hP hD hS 0 rfl rfl 0 (by decide) rfl wl1 rfl rfl rfl (Nat.le_of_ble_eq_true rfl) rfl dX9_seam_2 (fun H locs hP hD hS => ?_)
  refine lv_iload_n hx hb dX9_seam_5 rfl (lv_at hl 1 rfl) ?_
  refine lv_i2l (v := (a1).toInt64) hx hb dX9_seam_6 rfl ?_
  refine lv_lconst (v := 1) hx hb dX9_seam_7 (by decide) ?_
  refine lv_ldc2 hx hb hown wl2 dX9_seam_8 ?_
  obtain ⟨r1, hc1, hf⟩ := k_b1_some hf
  refine k_SiR (As := [.long ((a1).toInt64), .long 1, .long 10]) (rest := []) S0 (c_X9_in l D cI cZ cJ cS ((a1).toInt64) 1 10 r1 hc1) (va_cwS 3 hts gX9_seam_X9_in rfl rfl rfl hdS_X9_in ⟨Nat.le_of_ble_eq_true rfl, Nat.le_of_ble_eq_true rfl⟩) hK hP hD hS hA hN [] rfl (by decide) rfl hl.1 rfl (Nat.le_of_ble_eq_true rfl) dX9_seam_11 (fun H locs hP hS => ?_)
  refine lv_if_eq (tgt := 78) hx hb dX9_seam_14 (by decide) (fun c2 => ?_) (fun c2 => ?_)
  · replace hf := k_pos hf c2
    refine lv_iconst (v := (-1)) hx hb dX9_seam_78 (by decide) ?_
    exact hRet _ _ _ hf _ _ _ _ hP hD hS rfl dX9_seam_79
  · replace hf := k_neg hf c2
    refine lv_iload_n hx hb dX9_seam_17 rfl (lv_at hl 2 rfl) ?_
    refine lv_i2l (v := (a2).toInt64) hx hb dX9_seam_18 rfl ?_
    refine lv_lconst (v := 0) hx hb dX9_seam_19 (by decide) ?_
    refine lv_lconst (v := 1) hx hb dX9_seam_20 (by decide) ?_
    obtain ⟨r3, hc3, hf⟩ := k_b1_some hf
    refine k_SiR (As := [.long ((a2).toInt64), .long 0, .long 1]) (rest := []) S0 (c_X9_in l D cI cZ cJ cS ((a2).toInt64) 0 1 r3 hc3) (va_cwS 3 hts gX9_seam_X9_in rfl rfl rfl hdS_X9_in ⟨Nat.le_of_ble_eq_true rfl, Nat.le_of_ble_eq_true rfl⟩) hK hP hD hS hA hN [] rfl (by decide) rfl hl.1 rfl (Nat.le_of_ble_eq_true rfl) dX9_seam_21 (fun H locs hP hS => ?_)
    refine lv_if_eq (tgt := 78) hx hb dX9_seam_24 (by decide) (fun c4 => ?_) (fun c4 => ?_)
    · replace hf := k_pos hf c4
      refine lv_iconst (v := (-1)) hx hb dX9_seam_78 (by decide) ?_
      exact hRet _ _ _ hf _ _ _ _ hP hD hS rfl dX9_seam_79
    · replace hf := k_neg hf c4
      refine lv_iload_n hx hb dX9_seam_27 rfl (lv_at hl 3 rfl) ?_
      refine lv_i2l (v := (a3).toInt64) hx hb dX9_seam_28 rfl ?_
      refine lv_lconst (v := 1) hx hb dX9_seam_29 (by decide) ?_
      refine lv_ldc2 hx hb hown wl3 dX9_seam_30 ?_
      obtain ⟨r5, hc5, hf⟩ := k_b1_some hf
      refine k_SiR (As := [.long ((a3).toInt64), .long 1, .long 6]) (rest := []) S0 (c_X9_in l D cI cZ cJ cS ((a3).toInt64) 1 6 r5 hc5) (va_cwS 3 hts gX9_seam_X9_in rfl rfl rfl hdS_X9_in ⟨Nat.le_of_ble_eq_true rfl, Nat.le_of_ble_eq_true rfl⟩) hK hP hD hS hA hN [] rfl (by decide) rfl hl.1 rfl (Nat.le_of_ble_eq_true rfl) dX9_seam_33 (fun H locs hP hS => ?_)
      refine lv_if_eq (tgt := 78) hx hb dX9_seam_36 (by decide) (fun c6 => ?_) (fun c6 => ?_)
      · replace hf := k_pos hf c6
        refine lv_iconst (v := (-1)) hx hb dX9_seam_78 (by decide) ?_
        exact hRet _ _ _ hf _ _ _ _ hP hD hS rfl dX9_seam_79
      · replace hf := k_neg hf c6
        refine lv_iload hx hb dX9_seam_39 (lv_at hl 4 rfl) ?_
        refine lv_i2l (v := (a4).toInt64) hx hb dX9_seam_41 rfl ?_
        refine lv_lconst (v := 1) hx hb dX9_seam_42 (by decide) ?_
        refine lv_ldc2 hx hb hown wl4 dX9_seam_43 ?_
        obtain ⟨r7, hc7, hf⟩ := k_b1_some hf
        refine k_SiR (As := [.long ((a4).toInt64), .long 1, .long 4]) (rest := []) S0 (c_X9_in l D cI cZ cJ cS ((a4).toInt64) 1 4 r7 hc7) (va_cwS 3 hts gX9_seam_X9_in rfl rfl rfl hdS_X9_in ⟨Nat.le_of_ble_eq_true rfl, Nat.le_of_ble_eq_true rfl⟩) hK hP hD hS hA hN [] rfl (by decide) rfl hl.1 rfl (Nat.le_of_ble_eq_true rfl) dX9_seam_46 (fun H locs hP hS => ?_)
        refine lv_if_eq (tgt := 78) hx hb dX9_seam_49 (by decide) (fun c8 => ?_) (fun c8 => ?_)
        · replace hf := k_pos hf c8
          refine lv_iconst (v := (-1)) hx hb dX9_seam_78 (by decide) ?_
          exact hRet _ _ _ hf _ _ _ _ hP hD hS rfl dX9_seam_79
        · replace hf := k_neg hf c8
          refine lv_iload hx hb dX9_seam_52 (lv_at hl 5 rfl) ?_
          refine lv_i2l (v := (a5).toInt64) hx hb dX9_seam_54 rfl ?_
          refine lv_lconst (v := 0) hx hb dX9_seam_55 (by decide) ?_
          refine lv_ldc2 hx hb hown wl5 dX9_seam_56 ?_
          obtain ⟨r9, hc9, hf⟩ := k_b1_some hf
          refine k_SiR (As := [.long ((a5).toInt64), .long 0, .long 50]) (rest := []) S0 (c_X9_in l D cI cZ cJ cS ((a5).toInt64) 0 50 r9 hc9) (va_cwS 3 hts gX9_seam_X9_in rfl rfl rfl hdS_X9_in ⟨Nat.le_of_ble_eq_true rfl, Nat.le_of_ble_eq_true rfl⟩) hK hP hD hS hA hN [] rfl (by decide) rfl hl.1 rfl (Nat.le_of_ble_eq_true rfl) dX9_seam_59 (fun H locs hP hS => ?_)
          refine lv_if_eq (tgt := 78) hx hb dX9_seam_62 (by decide) (fun c10 => ?_) (fun c10 => ?_)
          · replace hf := k_pos hf c10
            refine lv_iconst (v := (-1)) hx hb dX9_seam_78 (by decide) ?_
            exact hRet _ _ _ hf _ _ _ _ hP hD hS rfl dX9_seam_79
          · replace hf := k_neg hf c10
            refine lv_iload hx hb dX9_seam_65 (lv_at hl 6 rfl) ?_
            refine lv_i2l (v := (a6).toInt64) hx hb dX9_seam_67 rfl ?_
            refine lv_lconst (v := 1) hx hb dX9_seam_68 (by decide) ?_
            refine lv_ldc2 hx hb hown wl6 dX9_seam_69 ?_
            obtain ⟨r11, hc11, hf⟩ := k_b1_some hf
            refine k_SiR (As := [.long ((a6).toInt64), .long 1, .long 100]) (rest := []) S0 (c_X9_in l D cI cZ cJ cS ((a6).toInt64) 1 100 r11 hc11) (va_cwS 3 hts gX9_seam_X9_in rfl rfl rfl hdS_X9_in ⟨Nat.le_of_ble_eq_true rfl, Nat.le_of_ble_eq_true rfl⟩) hK hP hD hS hA hN [] rfl (by decide) rfl hl.1 rfl (Nat.le_of_ble_eq_true rfl) dX9_seam_72 (fun H locs hP hS => ?_)
            refine lv_if_ne (tgt := 80) hx hb dX9_seam_75 (by decide) (fun c12 => ?_) (fun c12 => ?_)
            · replace hf := k_neg hf c12
              refine lv_aload_n hx hb dX9_seam_80 rfl (lv_at hl 0 rfl) ?_
              refine k_get (C := RX9) (T := TX9) (N := 19) hx hb hts inX9 hown hK hP 0 rfl rfl 1 (by decide) rfl wl7 rfl dX9_seam_81 ?_
              refine lv_bipush (v := 12) hx hb dX9_seam_84 (by decide) ?_
              refine k_iald (k := 12) hx hb hK hP 1 0 rfl rfl (by unfold vp_in; decide) (by decide) dX9_seam_86 ?_
              refine lv_istore (lv' := [(7, .int (f_h_now 12)), (0, .ref h), (1, .int a1), (2, .int a2), (3, .int a3), (4, .int a4), (5, .int a5), (6, .int a6)]) hx hb dX9_seam_87 hl (by decide) rfl (fun ls hl => ?_)
              refine lv_iload hx hb dX9_seam_89 (lv_at hl 0 rfl) ?_
              refine lv_bipush (v := 12) hx hb dX9_seam_91 (by decide) ?_
              refine lv_icmp_ne (tgt := 99) hx hb dX9_seam_93 (by decide) (fun c13 => ?_) (fun c13 => ?_)
              · replace hf := k_neg hf c13
                refine lv_aload_n hx hb dX9_seam_99 rfl (lv_at hl 1 rfl) ?_
                refine k_get (C := RX9) (T := TX9) (N := 19) hx hb hts inX9 hown hK hP 0 rfl rfl 1 (by decide) rfl wl7 rfl dX9_seam_100 ?_
                refine lv_bipush (v := 73) hx hb dX9_seam_103 (by decide) ?_
                refine lv_iload hx hb dX9_seam_105 (lv_at hl 0 rfl) ?_
                refine lv_iadd hx hb dX9_seam_107 ?_
                refine lv_iload_n hx hb dX9_seam_108 rfl (lv_at hl 2 rfl) ?_
                obtain ⟨hi14, hf⟩ := k_ix_some hf
                refine k_iast (ws2 := [(h, .inr (9, [.int 0, .ref h_now, .ref h_aside, .int v_h_kept, .ref h_books, .ref h_tide, .ref h_rain, .ref h_rule, .int v_h_counted, .ref h_counts, .ref h_begins, .ref h_best, .int v_h_bestWorth, .int v_h_bestPitch, .int v_h_bestBits, .int v_h_leastHour, .int v_h_leastSet, .int v_h_shut, .ref h_planks])), (h_now, .inl (cI, 169, .inl (upd f_h_now (73 + (f_h_now 12)).toNatClampNeg a1)))]) (k := (73 + (f_h_now 12)).toNatClampNeg) hx hb hK hP hD hS 1 0 rfl rfl hi14 rfl rfl dX9_seam_109 (fun H locs hP hD hS => ?_)
                refine lv_aload_n hx hb dX9_seam_110 rfl (lv_at hl 1 rfl) ?_
                refine k_get (C := RX9) (T := TX9) (N := 19) hx hb hts inX9 hown hK hP 0 rfl rfl 1 (by decide) rfl wl7 rfl dX9_seam_111 ?_
                refine lv_bipush (v := 85) hx hb dX9_seam_114 (by decide) ?_
                refine lv_iload hx hb dX9_seam_116 (lv_at hl 0 rfl) ?_
                refine lv_iadd hx hb dX9_seam_118 ?_
                refine lv_iload_n hx hb dX9_seam_119 rfl (lv_at hl 3 rfl) ?_
                obtain ⟨hi15, hf⟩ := k_ix_some hf
                refine k_iast (ws2 := [(h, .inr (9, [.int 0, .ref h_now, .ref h_aside, .int v_h_kept, .ref h_books, .ref h_tide, .ref h_rain, .ref h_rule, .int v_h_counted, .ref h_counts, .ref h_begins, .ref h_best, .int v_h_bestWorth, .int v_h_bestPitch, .int v_h_bestBits, .int v_h_leastHour, .int v_h_leastSet, .int v_h_shut, .ref h_planks])), (h_now, .inl (cI, 169, .inl (upd (upd f_h_now (73 + (f_h_now 12)).toNatClampNeg a1) (85 + (f_h_now 12)).toNatClampNeg a2)))]) (k := (85 + (f_h_now 12)).toNatClampNeg) hx hb hK hP hD hS 1 0 rfl rfl hi15 rfl rfl dX9_seam_120 (fun H locs hP hD hS => ?_)
                refine lv_aload_n hx hb dX9_seam_121 rfl (lv_at hl 1 rfl) ?_
                refine k_get (C := RX9) (T := TX9) (N := 19) hx hb hts inX9 hown hK hP 0 rfl rfl 1 (by decide) rfl wl7 rfl dX9_seam_122 ?_
                refine lv_bipush (v := 97) hx hb dX9_seam_125 (by decide) ?_
                refine lv_iload hx hb dX9_seam_127 (lv_at hl 0 rfl) ?_
                refine lv_iadd hx hb dX9_seam_129 ?_
                refine lv_iload_n hx hb dX9_seam_130 rfl (lv_at hl 4 rfl) ?_
                obtain ⟨hi16, hf⟩ := k_ix_some hf
                refine k_iast (ws2 := [(h, .inr (9, [.int 0, .ref h_now, .ref h_aside, .int v_h_kept, .ref h_books, .ref h_tide, .ref h_rain, .ref h_rule, .int v_h_counted, .ref h_counts, .ref h_begins, .ref h_best, .int v_h_bestWorth, .int v_h_bestPitch, .int v_h_bestBits, .int v_h_leastHour, .int v_h_leastSet, .int v_h_shut, .ref h_planks])), (h_now, .inl (cI, 169, .inl (upd (upd (upd f_h_now (73 + (f_h_now 12)).toNatClampNeg a1) (85 + (f_h_now 12)).toNatClampNeg a2) (97 + (f_h_now 12)).toNatClampNeg a3)))]) (k := (97 + (f_h_now 12)).toNatClampNeg) hx hb hK hP hD hS 1 0 rfl rfl hi16 rfl rfl dX9_seam_131 (fun H locs hP hD hS => ?_)
                refine lv_aload_n hx hb dX9_seam_132 rfl (lv_at hl 1 rfl) ?_
                refine k_get (C := RX9) (T := TX9) (N := 19) hx hb hts inX9 hown hK hP 0 rfl rfl 1 (by decide) rfl wl7 rfl dX9_seam_133 ?_
                refine lv_bipush (v := 109) hx hb dX9_seam_136 (by decide) ?_
                refine lv_iload hx hb dX9_seam_138 (lv_at hl 0 rfl) ?_
                refine lv_iadd hx hb dX9_seam_140 ?_
                refine lv_iload hx hb dX9_seam_141 (lv_at hl 5 rfl) ?_
                obtain ⟨hi17, hf⟩ := k_ix_some hf
                refine k_iast (ws2 := [(h, .inr (9, [.int 0, .ref h_now, .ref h_aside, .int v_h_kept, .ref h_books, .ref h_tide, .ref h_rain, .ref h_rule, .int v_h_counted, .ref h_counts, .ref h_begins, .ref h_best, .int v_h_bestWorth, .int v_h_bestPitch, .int v_h_bestBits, .int v_h_leastHour, .int v_h_leastSet, .int v_h_shut, .ref h_planks])), (h_now, .inl (cI, 169, .inl (upd (upd (upd (upd f_h_now (73 + (f_h_now 12)).toNatClampNeg a1) (85 + (f_h_now 12)).toNatClampNeg a2) (97 + (f_h_now 12)).toNatClampNeg a3) (109 + (f_h_now 12)).toNatClampNeg a4)))]) (k := (109 + (f_h_now 12)).toNatClampNeg) hx hb hK hP hD hS 1 0 rfl rfl hi17 rfl rfl dX9_seam_143 (fun H locs hP hD hS => ?_)
                refine lv_aload_n hx hb dX9_seam_144 rfl (lv_at hl 1 rfl) ?_
                refine k_get (C := RX9) (T := TX9) (N := 19) hx hb hts inX9 hown hK hP 0 rfl rfl 1 (by decide) rfl wl7 rfl dX9_seam_145 ?_
                refine lv_bipush (v := 121) hx hb dX9_seam_148 (by decide) ?_
                refine lv_iload hx hb dX9_seam_150 (lv_at hl 0 rfl) ?_
                refine lv_iadd hx hb dX9_seam_152 ?_
                refine lv_iload hx hb dX9_seam_153 (lv_at hl 6 rfl) ?_
                obtain ⟨hi18, hf⟩ := k_ix_some hf
                refine k_iast (ws2 := [(h, .inr (9, [.int 0, .ref h_now, .ref h_aside, .int v_h_kept, .ref h_books, .ref h_tide, .ref h_rain, .ref h_rule, .int v_h_counted, .ref h_counts, .ref h_begins, .ref h_best, .int v_h_bestWorth, .int v_h_bestPitch, .int v_h_bestBits, .int v_h_leastHour, .int v_h_leastSet, .int v_h_shut, .ref h_planks])), (h_now, .inl (cI, 169, .inl (upd (upd (upd (upd (upd f_h_now (73 + (f_h_now 12)).toNatClampNeg a1) (85 + (f_h_now 12)).toNatClampNeg a2) (97 + (f_h_now 12)).toNatClampNeg a3) (109 + (f_h_now 12)).toNatClampNeg a4) (121 + (f_h_now 12)).toNatClampNeg a5)))]) (k := (121 + (f_h_now 12)).toNatClampNeg) hx hb hK hP hD hS 1 0 rfl rfl hi18 rfl rfl dX9_seam_155 (fun H locs hP hD hS => ?_)
                refine lv_aload_n hx hb dX9_seam_156 rfl (lv_at hl 1 rfl) ?_
                refine k_get (C := RX9) (T := TX9) (N := 19) hx hb hts inX9 hown hK hP 0 rfl rfl 1 (by decide) rfl wl7 rfl dX9_seam_157 ?_
                refine lv_sipush (v := 133) hx hb dX9_seam_160 (by decide) ?_
                refine lv_iload hx hb dX9_seam_163 (lv_at hl 0 rfl) ?_
                refine lv_iadd hx hb dX9_seam_165 ?_
                refine lv_iload hx hb dX9_seam_166 (lv_at hl 7 rfl) ?_
                obtain ⟨hi19, hf⟩ := k_ix_some hf
                refine k_iast (ws2 := [(h, .inr (9, [.int 0, .ref h_now, .ref h_aside, .int v_h_kept, .ref h_books, .ref h_tide, .ref h_rain, .ref h_rule, .int v_h_counted, .ref h_counts, .ref h_begins, .ref h_best, .int v_h_bestWorth, .int v_h_bestPitch, .int v_h_bestBits, .int v_h_leastHour, .int v_h_leastSet, .int v_h_shut, .ref h_planks])), (h_now, .inl (cI, 169, .inl (upd (upd (upd (upd (upd (upd f_h_now (73 + (f_h_now 12)).toNatClampNeg a1) (85 + (f_h_now 12)).toNatClampNeg a2) (97 + (f_h_now 12)).toNatClampNeg a3) (109 + (f_h_now 12)).toNatClampNeg a4) (121 + (f_h_now 12)).toNatClampNeg a5) (133 + (f_h_now 12)).toNatClampNeg a6)))]) (k := (133 + (f_h_now 12)).toNatClampNeg) hx hb hK hP hD hS 1 0 rfl rfl hi19 rfl rfl dX9_seam_168 (fun H locs hP hD hS => ?_)
                refine lv_aload_n hx hb dX9_seam_169 rfl (lv_at hl 1 rfl) ?_
                refine k_get (C := RX9) (T := TX9) (N := 19) hx hb hts inX9 hown hK hP 0 rfl rfl 1 (by decide) rfl wl7 rfl dX9_seam_170 ?_
                refine lv_sipush (v := 145) hx hb dX9_seam_173 (by decide) ?_
                refine lv_iload hx hb dX9_seam_176 (lv_at hl 0 rfl) ?_
                refine lv_iadd hx hb dX9_seam_178 ?_
                refine lv_iconst (v := 0) hx hb dX9_seam_179 (by decide) ?_
                obtain ⟨hi20, hf⟩ := k_ix_some hf
                refine k_iast (ws2 := [(h, .inr (9, [.int 0, .ref h_now, .ref h_aside, .int v_h_kept, .ref h_books, .ref h_tide, .ref h_rain, .ref h_rule, .int v_h_counted, .ref h_counts, .ref h_begins, .ref h_best, .int v_h_bestWorth, .int v_h_bestPitch, .int v_h_bestBits, .int v_h_leastHour, .int v_h_leastSet, .int v_h_shut, .ref h_planks])), (h_now, .inl (cI, 169, .inl (upd (upd (upd (upd (upd (upd (upd f_h_now (73 + (f_h_now 12)).toNatClampNeg a1) (85 + (f_h_now 12)).toNatClampNeg a2) (97 + (f_h_now 12)).toNatClampNeg a3) (109 + (f_h_now 12)).toNatClampNeg a4) (121 + (f_h_now 12)).toNatClampNeg a5) (133 + (f_h_now 12)).toNatClampNeg a6) (145 + (f_h_now 12)).toNatClampNeg 0)))]) (k := (145 + (f_h_now 12)).toNatClampNeg) hx hb hK hP hD hS 1 0 rfl rfl hi20 rfl rfl dX9_seam_180 (fun H locs hP hD hS => ?_)
                refine lv_aload_n hx hb dX9_seam_181 rfl (lv_at hl 1 rfl) ?_
                refine k_get (C := RX9) (T := TX9) (N := 19) hx hb hts inX9 hown hK hP 0 rfl rfl 1 (by decide) rfl wl7 rfl dX9_seam_182 ?_
                refine lv_sipush (v := 157) hx hb dX9_seam_185 (by decide) ?_
                refine lv_iload hx hb dX9_seam_188 (lv_at hl 0 rfl) ?_
                refine lv_iadd hx hb dX9_seam_190 ?_
                refine lv_iconst (v := 0) hx hb dX9_seam_191 (by decide) ?_
                obtain ⟨hi21, hf⟩ := k_ix_some hf
                refine k_iast (ws2 := [(h, .inr (9, [.int 0, .ref h_now, .ref h_aside, .int v_h_kept, .ref h_books, .ref h_tide, .ref h_rain, .ref h_rule, .int v_h_counted, .ref h_counts, .ref h_begins, .ref h_best, .int v_h_bestWorth, .int v_h_bestPitch, .int v_h_bestBits, .int v_h_leastHour, .int v_h_leastSet, .int v_h_shut, .ref h_planks])), (h_now, .inl (cI, 169, .inl (upd (upd (upd (upd (upd (upd (upd (upd f_h_now (73 + (f_h_now 12)).toNatClampNeg a1) (85 + (f_h_now 12)).toNatClampNeg a2) (97 + (f_h_now 12)).toNatClampNeg a3) (109 + (f_h_now 12)).toNatClampNeg a4) (121 + (f_h_now 12)).toNatClampNeg a5) (133 + (f_h_now 12)).toNatClampNeg a6) (145 + (f_h_now 12)).toNatClampNeg 0) (157 + (f_h_now 12)).toNatClampNeg 0)))]) (k := (157 + (f_h_now 12)).toNatClampNeg) hx hb hK hP hD hS 1 0 rfl rfl hi21 rfl rfl dX9_seam_192 (fun H locs hP hD hS => ?_)
                refine lv_aload_n hx hb dX9_seam_193 rfl (lv_at hl 1 rfl) ?_
                refine k_get (C := RX9) (T := TX9) (N := 19) hx hb hts inX9 hown hK hP 0 rfl rfl 1 (by decide) rfl wl7 rfl dX9_seam_194 ?_
                refine lv_bipush (v := 12) hx hb dX9_seam_197 (by decide) ?_
                refine lv_dup2_11 hx hb dX9_seam_199 rfl rfl ?_
                refine k_iald (k := 12) hx hb hK hP 1 0 rfl rfl (by unfold vp_in; decide) (by decide) dX9_seam_200 ?_
                refine lv_iconst (v := 1) hx hb dX9_seam_201 (by decide) ?_
                refine lv_iadd hx hb dX9_seam_202 ?_
                refine k_iast (ws2 := [(h, .inr (9, [.int 0, .ref h_now, .ref h_aside, .int v_h_kept, .ref h_books, .ref h_tide, .ref h_rain, .ref h_rule, .int v_h_counted, .ref h_counts, .ref h_begins, .ref h_best, .int v_h_bestWorth, .int v_h_bestPitch, .int v_h_bestBits, .int v_h_leastHour, .int v_h_leastSet, .int v_h_shut, .ref h_planks])), (h_now, .inl (cI, 169, .inl (upd (upd (upd (upd (upd (upd (upd (upd (upd f_h_now (73 + (f_h_now 12)).toNatClampNeg a1) (85 + (f_h_now 12)).toNatClampNeg a2) (97 + (f_h_now 12)).toNatClampNeg a3) (109 + (f_h_now 12)).toNatClampNeg a4) (121 + (f_h_now 12)).toNatClampNeg a5) (133 + (f_h_now 12)).toNatClampNeg a6) (145 + (f_h_now 12)).toNatClampNeg 0) (157 + (f_h_now 12)).toNatClampNeg 0) 12 (((upd (upd (upd (upd (upd (upd (upd (upd f_h_now (73 + (f_h_now 12)).toNatClampNeg a1) (85 + (f_h_now 12)).toNatClampNeg a2) (97 + (f_h_now 12)).toNatClampNeg a3) (109 + (f_h_now 12)).toNatClampNeg a4) (121 + (f_h_now 12)).toNatClampNeg a5) (133 + (f_h_now 12)).toNatClampNeg a6) (145 + (f_h_now 12)).toNatClampNeg 0) (157 + (f_h_now 12)).toNatClampNeg 0) 12) + 1))))]) (k := 12) hx hb hK hP hD hS 1 0 rfl rfl (by unfold vp_in; decide) (by decide) rfl dX9_seam_203 (fun H locs hP hD hS => ?_)
                refine lv_iload hx hb dX9_seam_204 (lv_at hl 0 rfl) ?_
                exact hRet _ _ _ hf _ _ _ _ hP hD hS rfl dX9_seam_206
              · replace hf := k_pos hf c13
                refine lv_bipush (v := (-3)) hx hb dX9_seam_96 (by decide) ?_
                exact hRet _ _ _ hf _ _ _ _ hP hD hS rfl dX9_seam_98
            · replace hf := k_pos hf c12
              refine lv_iconst (v := (-1)) hx hb dX9_seam_78 (by decide) ?_
              exact hRet _ _ _ hf _ _ _ _ hP hD hS rfl dX9_seam_79

def lb_X9_total_9 (f_h_now : Nat → Int32) (x1_13 : Int32) (x2_14 : Int32) : Option ((Int32 × Int32) ⊕ (Int32)) :=
  if (f_h_now 10) ≤ x2_14 then
    some (.inr x1_13)
  else
    k_ix (37 + x2_14) 169 (
      if (f_h_now (37 + x2_14).toNatClampNeg) = 1 then
        k_ix (13 + x2_14) 169 (
          some (.inl (x1_13 + (f_h_now (13 + x2_14).toNatClampNeg), x2_14 + 1)))
      else
        some (.inl (x1_13 + 0, x2_14 + 1)))
def p_X9_total (f_h_rule : Nat → Int32) (f_h_now : Nat → Int32) : Option (Int32) :=
  k_b1 (k_lp (fun s => lb_X9_total_9 f_h_now s.1 s.2) k_fuel (f_h_rule 1, 0)) fun x1_12 =>
  some x1_12
abbrev rm_X9_total : Room := { frames := 0, cells := 0, slots := 0, locals := 0 }
theorem hdS_X9_total : yX9_total.cls ≠ "java/lang/invoke/MethodHandle" ∧ yX9_total.cls ≠ "java/lang/invoke/VarHandle" ∧ (parseMethodDescriptor yX9_total.desc).map (fun d => d.parameters.length) = some 0 := by decide +kernel
theorem hdV_X9_total : yX9_total.cls = RX9 ∧ yX9_total.cls ≠ "java/lang/invoke/MethodHandle" ∧ yX9_total.cls ≠ "java/lang/invoke/VarHandle" ∧ (parseMethodDescriptor yX9_total.desc).map (fun d => d.parameters.length) = some 0 := by decide +kernel
set_option maxHeartbeats 4000000 in
set_option maxRecDepth 100000 in
theorem c_X9_total (l : Launch) (D : va_G) (cI cZ cJ cS : ClassId) (h h_now h_aside h_books h_tide h_rain h_rule h_counts h_begins h_best h_planks : Nat) (v_h_thrown : Int32) (v_h_kept : Int32) (v_h_counted : Int32) (v_h_bestWorth : Int32) (v_h_bestPitch : Int32) (v_h_bestBits : Int32) (v_h_leastHour : Int32) (v_h_leastSet : Int32) (v_h_shut : Int32) (f_h_rule : Nat → Int32) (f_h_now : Nat → Int32) (r : Int32) (hf : p_X9_total f_h_rule f_h_now = some r) : k_MI l yX9_total wsX9_total rm_X9_total D (k_tys cI cZ cJ cS) [.ref h] [(h, .inr (9, [.int v_h_thrown, .ref h_now, .ref h_aside, .int v_h_kept, .ref h_books, .ref h_tide, .ref h_rain, .ref h_rule, .int v_h_counted, .ref h_counts, .ref h_begins, .ref h_best, .int v_h_bestWorth, .int v_h_bestPitch, .int v_h_bestBits, .int v_h_leastHour, .int v_h_leastSet, .int v_h_shut, .ref h_planks])), (h_rule, .inl (cI, 8, .inl f_h_rule)), (h_now, .inl (cI, 169, .inl f_h_now))] [(h, .inr (9, [.int v_h_thrown, .ref h_now, .ref h_aside, .int v_h_kept, .ref h_books, .ref h_tide, .ref h_rain, .ref h_rule, .int v_h_counted, .ref h_counts, .ref h_begins, .ref h_best, .int v_h_bestWorth, .int v_h_bestPitch, .int v_h_bestBits, .int v_h_leastHour, .int v_h_leastSet, .int v_h_shut, .ref h_planks])), (h_rule, .inl (cI, 8, .inl f_h_rule)), (h_now, .inl (cI, 169, .inl f_h_now))] r := by
  refine k_enter (y := yX9_total) (wl := wsX9_total) (rm := rm_X9_total) (av := [.ref h]) (D := D) (tys := k_tys cI cZ cJ cS) (ws := [(h, .inr (9, [.int v_h_thrown, .ref h_now, .ref h_aside, .int v_h_kept, .ref h_books, .ref h_tide, .ref h_rain, .ref h_rule, .int v_h_counted, .ref h_counts, .ref h_begins, .ref h_best, .int v_h_bestWorth, .int v_h_bestPitch, .int v_h_bestBits, .int v_h_leastHour, .int v_h_leastSet, .int v_h_shut, .ref h_planks])), (h_rule, .inl (cI, 8, .inl f_h_rule)), (h_now, .inl (cI, 169, .inl f_h_now))]) (cc := cX9_total) (maxL := 3) (ret := (some .int)) (Qc := fun A => k_Qi D (k_tys cI cZ cJ cS) [(h, .inr (9, [.int v_h_thrown, .ref h_now, .ref h_aside, .int v_h_kept, .ref h_books, .ref h_tide, .ref h_rain, .ref h_rule, .int v_h_counted, .ref h_counts, .ref h_begins, .ref h_best, .int v_h_bestWorth, .int v_h_bestPitch, .int v_h_bestBits, .int v_h_leastHour, .int v_h_leastSet, .int v_h_shut, .ref h_planks])), (h_rule, .inl (cI, 8, .inl f_h_rule)), (h_now, .inl (cI, 169, .inl f_h_now))] A r) (by decide) rfl (Nat.le_of_ble_eq_true rfl) [(0, .ref h)] rfl ?_
  intro p e s m below meth c A hx hb hml hr hlocks hnm hown hK hP hD hA hS hN ls args Q hts hl hQ
  replace hown : s.vm.findClass RX9 = some m.cls := hown
  have inX9 : ∀ w ∈ u_ws RX9 TX9 19, w ∈ wsX9_total := fun w h => List.mem_cons_of_mem _ (List.mem_append_right _ h)
  have wl1 : (Cond.fieldLink RX9 29 "BeachedShipModel" "rule" "[I").before args s = true := hts _ (List.mem_of_getElem? (i := 1) rfl)
  have wl2 : (Cond.fieldLink RX9 13 "BeachedShipModel" "now" "[I").before args s = true := hts _ (List.mem_of_getElem? (i := 2) rfl)
  have hRet : ∀ (r_z : Int32), some r_z = some r → ∀ (H : Heap) (locs : List Loc) (ls : Array Slot) (pc : Nat), va_P D vwCl [(h, .inr (9, [.int v_h_thrown, .ref h_now, .ref h_aside, .int v_h_kept, .ref h_books, .ref h_tide, .ref h_rain, .ref h_rule, .int v_h_counted, .ref h_counts, .ref h_begins, .ref h_best, .int v_h_bestWorth, .int v_h_bestPitch, .int v_h_bestBits, .int v_h_leastHour, .int v_h_leastSet, .int v_h_shut, .ref h_planks])), (h_rule, .inl (cI, 8, .inl f_h_rule)), (h_now, .inl (cI, 169, .inl f_h_now))] H → va_D A [(h, .inr (9, [.int v_h_thrown, .ref h_now, .ref h_aside, .int v_h_kept, .ref h_books, .ref h_tide, .ref h_rain, .ref h_rule, .int v_h_counted, .ref h_counts, .ref h_begins, .ref h_best, .int v_h_bestWorth, .int v_h_bestPitch, .int v_h_bestBits, .int v_h_leastHour, .int v_h_leastSet, .int v_h_shut, .ref h_planks])), (h_rule, .inl (cI, 8, .inl f_h_rule)), (h_now, .inl (cI, 169, .inl f_h_now))] → va_S A s.heap H locs → narrow .int (.int r_z) = .int r_z → decode cX9_total pc = .ok (.ireturn, 1) → W p l e rm_X9_total s m args below meth c H locs 0 0 Q (F0 m pc ls [.int r_z]) := by
    intro r_z hz H locs ls pc hP hD hS hn hd
    cases hz
    exact k_iret hx hb hr hlocks hn hK hP hD hS hQ rfl hd
  unfold p_X9_total at hf
  refine lv_aload_n hx hb dX9_total_0 rfl (lv_at hl 0 rfl) ?_
  refine k_get (C := RX9) (T := TX9) (N := 19) hx hb hts inX9 hown hK hP 0 rfl rfl 7 (by decide) rfl wl1 rfl dX9_total_1 ?_
  refine lv_iconst (v := 1) hx hb dX9_total_4 (by decide) ?_
  refine k_iald (k := 1) hx hb hK hP 1 0 rfl rfl (by unfold vp_in; decide) (by decide) dX9_total_5 ?_
  refine lv_istore_n (lv' := [(1, .int (f_h_rule 1)), (0, .ref h)]) hx hb dX9_total_6 rfl hl (by decide) rfl (fun ls hl => ?_)
  refine lv_iconst (v := 0) hx hb dX9_total_7 (by decide) ?_
  refine lv_istore_n (lv' := [(2, .int 0), (1, .int (f_h_rule 1)), (0, .ref h)]) hx hb dX9_total_8 rfl hl (by decide) rfl (fun ls hl => ?_)
  obtain ⟨ee11, hlp11, hfr11⟩ := k_b1_ee hf
  have hE11 : ∀ (x1_12 : Int32), ee11 = x1_12 → ∀ (H : Heap) (locs : List Loc) (ls : Array Slot), va_P D vwCl [(h, .inr (9, [.int v_h_thrown, .ref h_now, .ref h_aside, .int v_h_kept, .ref h_books, .ref h_tide, .ref h_rain, .ref h_rule, .int v_h_counted, .ref h_counts, .ref h_begins, .ref h_best, .int v_h_bestWorth, .int v_h_bestPitch, .int v_h_bestBits, .int v_h_leastHour, .int v_h_leastSet, .int v_h_shut, .ref h_planks])), (h_rule, .inl (cI, 8, .inl f_h_rule)), (h_now, .inl (cI, 169, .inl f_h_now))] H → va_D A [(h, .inr (9, [.int v_h_thrown, .ref h_now, .ref h_aside, .int v_h_kept, .ref h_books, .ref h_tide, .ref h_rain, .ref h_rule, .int v_h_counted, .ref h_counts, .ref h_begins, .ref h_best, .int v_h_bestWorth, .int v_h_bestPitch, .int v_h_bestBits, .int v_h_leastHour, .int v_h_leastSet, .int v_h_shut, .ref h_planks])), (h_rule, .inl (cI, 8, .inl f_h_rule)), (h_now, .inl (cI, 169, .inl f_h_now))] → va_S A s.heap H locs → lv_has ls 3 [(1, .int x1_12)] → W p l e rm_X9_total s m args below meth c H locs 0 0 Q (F0 m 55 ls []) := by
    intro x1_12 he H locs ls hP hD hS hl
    replace hf := hfr11 x1_12 he
    refine lv_iload_n hx hb dX9_total_55 rfl (lv_at hl 0 rfl) ?_
    exact hRet _ hf _ _ _ _ hP hD hS rfl dX9_total_56
  refine (k_lp_ind (fun sx11 => ∀ (H : Heap) (locs : List Loc) (ls : Array Slot), va_P D vwCl [(h, .inr (9, [.int v_h_thrown, .ref h_now, .ref h_aside, .int v_h_kept, .ref h_books, .ref h_tide, .ref h_rain, .ref h_rule, .int v_h_counted, .ref h_counts, .ref h_begins, .ref h_best, .int v_h_bestWorth, .int v_h_bestPitch, .int v_h_bestBits, .int v_h_leastHour, .int v_h_leastSet, .int v_h_shut, .ref h_planks])), (h_rule, .inl (cI, 8, .inl f_h_rule)), (h_now, .inl (cI, 169, .inl f_h_now))] H → va_D A [(h, .inr (9, [.int v_h_thrown, .ref h_now, .ref h_aside, .int v_h_kept, .ref h_books, .ref h_tide, .ref h_rain, .ref h_rule, .int v_h_counted, .ref h_counts, .ref h_begins, .ref h_best, .int v_h_bestWorth, .int v_h_bestPitch, .int v_h_bestBits, .int v_h_leastHour, .int v_h_leastSet, .int v_h_shut, .ref h_planks])), (h_rule, .inl (cI, 8, .inl f_h_rule)), (h_now, .inl (cI, 169, .inl f_h_now))] → va_S A s.heap H locs → lv_has ls 3 [(2, .int sx11.2), (1, .int sx11.1), (0, .ref h)] → W p l e rm_X9_total s m args below meth c H locs 0 0 Q (F0 m 9 ls [])) (fun sx11 X11 hX11 hin11 hout11 => ?_) _ _ hlp11) _ _ _ hP hD hS (lv_sub hl [0, 1, 2] rfl)
  obtain ⟨x1_13, x2_14⟩ := sx11
  intro H locs ls hP hD hS hl
  replace hP : va_P D vwCl [(h, .inr (9, [.int v_h_thrown, .ref h_now, .ref h_aside, .int v_h_kept, .ref h_books, .ref h_tide, .ref h_rain, .ref h_rule, .int v_h_counted, .ref h_counts, .ref h_begins, .ref h_best, .int v_h_bestWorth, .int v_h_bestPitch, .int v_h_bestBits, .int v_h_leastHour, .int v_h_leastSet, .int v_h_shut, .ref h_planks])), (h_rule, .inl (cI, 8, .inl f_h_rule)), (h_now, .inl (cI, 169, .inl f_h_now))] H := hP
  replace hD : va_D A [(h, .inr (9, [.int v_h_thrown, .ref h_now, .ref h_aside, .int v_h_kept, .ref h_books, .ref h_tide, .ref h_rain, .ref h_rule, .int v_h_counted, .ref h_counts, .ref h_begins, .ref h_best, .int v_h_bestWorth, .int v_h_bestPitch, .int v_h_bestBits, .int v_h_leastHour, .int v_h_leastSet, .int v_h_shut, .ref h_planks])), (h_rule, .inl (cI, 8, .inl f_h_rule)), (h_now, .inl (cI, 169, .inl f_h_now))] := hD
  replace hl : lv_has ls 3 [(2, .int x2_14), (1, .int x1_13), (0, .ref h)] := hl
  replace hX11 : lb_X9_total_9 f_h_now x1_13 x2_14 = some X11 := hX11
  unfold lb_X9_total_9 at hX11
  refine lv_iload_n hx hb dX9_total_9 rfl (lv_at hl 0 rfl) ?_
  refine lv_aload_n hx hb dX9_total_10 rfl (lv_at hl 2 rfl) ?_
  refine k_get (C := RX9) (T := TX9) (N := 19) hx hb hts inX9 hown hK hP 0 rfl rfl 1 (by decide) rfl wl2 rfl dX9_total_11 ?_
  refine lv_bipush (v := 10) hx hb dX9_total_14 (by decide) ?_
  refine k_iald (k := 10) hx hb hK hP 2 0 rfl rfl (by unfold vp_in; decide) (by decide) dX9_total_16 ?_
  refine lv_icmp_ge (tgt := 55) hx hb dX9_total_17 (by decide) (fun c15 => ?_) (fun c15 => ?_)
  · replace hX11 := k_pos hX11 c15
    exact hE11 _ (hout11 _ (Option.some.inj hX11).symm).symm _ _ _ hP hD hS (lv_sub hl [1] rfl)
  · replace hX11 := k_neg hX11 c15
    refine lv_iload_n hx hb dX9_total_20 rfl (lv_at hl 1 rfl) ?_
    refine lv_aload_n hx hb dX9_total_21 rfl (lv_at hl 2 rfl) ?_
    refine k_get (C := RX9) (T := TX9) (N := 19) hx hb hts inX9 hown hK hP 0 rfl rfl 1 (by decide) rfl wl2 rfl dX9_total_22 ?_
    refine lv_bipush (v := 37) hx hb dX9_total_25 (by decide) ?_
    refine lv_iload_n hx hb dX9_total_27 rfl (lv_at hl 0 rfl) ?_
    refine lv_iadd hx hb dX9_total_28 ?_
    obtain ⟨hi16, hX11⟩ := k_ix_some hX11
    refine k_iald (k := (37 + x2_14).toNatClampNeg) hx hb hK hP 2 0 rfl rfl hi16 rfl dX9_total_29 ?_
    refine lv_iconst (v := 1) hx hb dX9_total_30 (by decide) ?_
    refine lv_icmp_ne (tgt := 46) hx hb dX9_total_31 (by decide) (fun c17 => ?_) (fun c17 => ?_)
    · replace hX11 := k_neg hX11 c17
      refine lv_iconst (v := 0) hx hb dX9_total_46 (by decide) ?_
      refine lv_iadd hx hb dX9_total_47 ?_
      refine lv_istore_n (lv' := [(1, .int (x1_13 + 0)), (2, .int x2_14), (0, .ref h)]) hx hb dX9_total_48 rfl hl (by decide) rfl (fun ls hl => ?_)
      refine lv_iinc (v := x2_14 + 1) (lv' := [(2, .int (x2_14 + 1)), (1, .int (x1_13 + 0)), (0, .ref h)]) hx hb dX9_total_49 hl (k := 1) rfl rfl (by decide) rfl (fun ls hl => ?_)
      refine lv_goto (tgt := 9) hx hb dX9_total_52 (by decide) ?_
      exact hin11 (x1_13 + 0, x2_14 + 1) (Option.some.inj hX11).symm _ _ _ hP hD hS (lv_sub hl [0, 1, 2] rfl)
    · replace hX11 := k_pos hX11 c17
      refine lv_aload_n hx hb dX9_total_34 rfl (lv_at hl 2 rfl) ?_
      refine k_get (C := RX9) (T := TX9) (N := 19) hx hb hts inX9 hown hK hP 0 rfl rfl 1 (by decide) rfl wl2 rfl dX9_total_35 ?_
      refine lv_bipush (v := 13) hx hb dX9_total_38 (by decide) ?_
      refine lv_iload_n hx hb dX9_total_40 rfl (lv_at hl 0 rfl) ?_
      refine lv_iadd hx hb dX9_total_41 ?_
      obtain ⟨hi18, hX11⟩ := k_ix_some hX11
      refine k_iald (k := (13 + x2_14).toNatClampNeg) hx hb hK hP 2 0 rfl rfl hi18 rfl dX9_total_42 ?_
      refine lv_goto (tgt := 47) hx hb dX9_total_43 (by decide) ?_
      refine lv_iadd hx hb dX9_total_47 ?_
      refine lv_istore_n (lv' := [(1, .int (x1_13 + (f_h_now (13 + x2_14).toNatClampNeg))), (2, .int x2_14), (0, .ref h)]) hx hb dX9_total_48 rfl hl (by decide) rfl (fun ls hl => ?_)
      refine lv_iinc (v := x2_14 + 1) (lv' := [(2, .int (x2_14 + 1)), (1, .int (x1_13 + (f_h_now (13 + x2_14).toNatClampNeg))), (0, .ref h)]) hx hb dX9_total_49 hl (k := 1) rfl rfl (by decide) rfl (fun ls hl => ?_)
      refine lv_goto (tgt := 9) hx hb dX9_total_52 (by decide) ?_
      exact hin11 (x1_13 + (f_h_now (13 + x2_14).toNatClampNeg), x2_14 + 1) (Option.some.inj hX11).symm _ _ _ hP hD hS (lv_sub hl [0, 1, 2] rfl)

def p_X9_force (f_h_rule : Nat → Int32) (f_h_now : Nat → Int32) (a1 : Int32) : Option (Int32) :=
  k_b1 (p_X9_total f_h_rule f_h_now) fun r1 =>
  if 0 ≤ a1 then
    some ((r1 * a1) / 10)
  else
    some ((r1 * (-a1)) / 10)
abbrev rm_X9_force : Room := { frames := 1, cells := 0, slots := 0, locals := 22 }
theorem hdS_X9_force : yX9_force.cls ≠ "java/lang/invoke/MethodHandle" ∧ yX9_force.cls ≠ "java/lang/invoke/VarHandle" ∧ (parseMethodDescriptor yX9_force.desc).map (fun d => d.parameters.length) = some 1 := by decide +kernel
theorem hdV_X9_force : yX9_force.cls = RX9 ∧ yX9_force.cls ≠ "java/lang/invoke/MethodHandle" ∧ yX9_force.cls ≠ "java/lang/invoke/VarHandle" ∧ (parseMethodDescriptor yX9_force.desc).map (fun d => d.parameters.length) = some 1 := by decide +kernel
set_option maxHeartbeats 4000000 in
set_option maxRecDepth 100000 in
theorem c_X9_force (l : Launch) (D : va_G) (cI cZ cJ cS : ClassId) (h h_now h_aside h_books h_tide h_rain h_rule h_counts h_begins h_best h_planks : Nat) (v_h_thrown : Int32) (v_h_kept : Int32) (v_h_counted : Int32) (v_h_bestWorth : Int32) (v_h_bestPitch : Int32) (v_h_bestBits : Int32) (v_h_leastHour : Int32) (v_h_leastSet : Int32) (v_h_shut : Int32) (f_h_rule : Nat → Int32) (f_h_now : Nat → Int32) (a1 : Int32) (r : Int32) (hf : p_X9_force f_h_rule f_h_now a1 = some r) : k_MI l yX9_force wsX9_force rm_X9_force D (k_tys cI cZ cJ cS) [.ref h, .int a1] [(h, .inr (9, [.int v_h_thrown, .ref h_now, .ref h_aside, .int v_h_kept, .ref h_books, .ref h_tide, .ref h_rain, .ref h_rule, .int v_h_counted, .ref h_counts, .ref h_begins, .ref h_best, .int v_h_bestWorth, .int v_h_bestPitch, .int v_h_bestBits, .int v_h_leastHour, .int v_h_leastSet, .int v_h_shut, .ref h_planks])), (h_rule, .inl (cI, 8, .inl f_h_rule)), (h_now, .inl (cI, 169, .inl f_h_now))] [(h, .inr (9, [.int v_h_thrown, .ref h_now, .ref h_aside, .int v_h_kept, .ref h_books, .ref h_tide, .ref h_rain, .ref h_rule, .int v_h_counted, .ref h_counts, .ref h_begins, .ref h_best, .int v_h_bestWorth, .int v_h_bestPitch, .int v_h_bestBits, .int v_h_leastHour, .int v_h_leastSet, .int v_h_shut, .ref h_planks])), (h_rule, .inl (cI, 8, .inl f_h_rule)), (h_now, .inl (cI, 169, .inl f_h_now))] r := by
  refine k_enter (y := yX9_force) (wl := wsX9_force) (rm := rm_X9_force) (av := [.ref h, .int a1]) (D := D) (tys := k_tys cI cZ cJ cS) (ws := [(h, .inr (9, [.int v_h_thrown, .ref h_now, .ref h_aside, .int v_h_kept, .ref h_books, .ref h_tide, .ref h_rain, .ref h_rule, .int v_h_counted, .ref h_counts, .ref h_begins, .ref h_best, .int v_h_bestWorth, .int v_h_bestPitch, .int v_h_bestBits, .int v_h_leastHour, .int v_h_leastSet, .int v_h_shut, .ref h_planks])), (h_rule, .inl (cI, 8, .inl f_h_rule)), (h_now, .inl (cI, 169, .inl f_h_now))]) (cc := cX9_force) (maxL := 2) (ret := (some .int)) (Qc := fun A => k_Qi D (k_tys cI cZ cJ cS) [(h, .inr (9, [.int v_h_thrown, .ref h_now, .ref h_aside, .int v_h_kept, .ref h_books, .ref h_tide, .ref h_rain, .ref h_rule, .int v_h_counted, .ref h_counts, .ref h_begins, .ref h_best, .int v_h_bestWorth, .int v_h_bestPitch, .int v_h_bestBits, .int v_h_leastHour, .int v_h_leastSet, .int v_h_shut, .ref h_planks])), (h_rule, .inl (cI, 8, .inl f_h_rule)), (h_now, .inl (cI, 169, .inl f_h_now))] A r) (by decide) rfl (Nat.le_of_ble_eq_true rfl) [(0, .ref h), (1, .int a1)] rfl ?_
  intro p e s m below meth c A hx hb hml hr hlocks hnm hown hK hP hD hA hS hN ls args Q hts hl hQ
  replace hown : s.vm.findClass RX9 = some m.cls := hown
  have S0 : CallFix p m c cX9_force 2 s args wsX9_force RX9 := ⟨hx, hb, hml, hown, hts⟩
  have hRet : ∀ (r_z : Int32), some r_z = some r → ∀ (H : Heap) (locs : List Loc) (ls : Array Slot) (pc : Nat), va_P D vwCl [(h, .inr (9, [.int v_h_thrown, .ref h_now, .ref h_aside, .int v_h_kept, .ref h_books, .ref h_tide, .ref h_rain, .ref h_rule, .int v_h_counted, .ref h_counts, .ref h_begins, .ref h_best, .int v_h_bestWorth, .int v_h_bestPitch, .int v_h_bestBits, .int v_h_leastHour, .int v_h_leastSet, .int v_h_shut, .ref h_planks])), (h_rule, .inl (cI, 8, .inl f_h_rule)), (h_now, .inl (cI, 169, .inl f_h_now))] H → va_D A [(h, .inr (9, [.int v_h_thrown, .ref h_now, .ref h_aside, .int v_h_kept, .ref h_books, .ref h_tide, .ref h_rain, .ref h_rule, .int v_h_counted, .ref h_counts, .ref h_begins, .ref h_best, .int v_h_bestWorth, .int v_h_bestPitch, .int v_h_bestBits, .int v_h_leastHour, .int v_h_leastSet, .int v_h_shut, .ref h_planks])), (h_rule, .inl (cI, 8, .inl f_h_rule)), (h_now, .inl (cI, 169, .inl f_h_now))] → va_S A s.heap H locs → narrow .int (.int r_z) = .int r_z → decode cX9_force pc = .ok (.ireturn, 1) → W p l e rm_X9_force s m args below meth c H locs 0 0 Q (F0 m pc ls [.int r_z]) := by
    intro r_z hz H locs ls pc hP hD hS hn hd
    cases hz
    exact k_iret hx hb hr hlocks hn hK hP hD hS hQ rfl hd
  unfold p_X9_force at hf
  refine lv_aload_n hx hb dX9_force_0 rfl (lv_at hl 0 rfl) ?_
  obtain ⟨r1, hc1, hf⟩ := k_b1_some hf
  refine k_ViR (q0 := 0) (As := []) (rest := []) S0 (c_X9_total l D cI cZ cJ cS h h_now h_aside h_books h_tide h_rain h_rule h_counts h_begins h_best h_planks v_h_thrown v_h_kept v_h_counted v_h_bestWorth v_h_bestPitch v_h_bestBits v_h_leastHour v_h_leastSet v_h_shut f_h_rule f_h_now r1 hc1) (cwV 0 hts gX9_force_X9_total rfl rfl rfl hdV_X9_total ⟨Nat.le_of_ble_eq_true rfl, Nat.le_of_ble_eq_true rfl⟩) hK hP hD hS hA hN [0, 1, 2] rfl (by decide) rfl rfl rfl rfl hl.1 rfl (Nat.le_of_ble_eq_true rfl) dX9_force_1 (fun H locs hP hS => ?_)
  refine lv_iload_n hx hb dX9_force_4 rfl (lv_at hl 1 rfl) ?_
  refine lv_if_ge (tgt := 13) hx hb dX9_force_5 (by decide) (fun c2 => ?_) (fun c2 => ?_)
  · replace hf := k_pos hf c2
    refine lv_iload_n hx hb dX9_force_13 rfl (lv_at hl 1 rfl) ?_
    refine lv_imul hx hb dX9_force_14 ?_
    refine lv_bipush (v := 10) hx hb dX9_force_15 (by decide) ?_
    refine lv_idiv hx hb dX9_force_17 (by decide) ?_
    exact hRet _ hf _ _ _ _ hP hD hS rfl dX9_force_18
  · replace hf := k_neg hf c2
    refine lv_iload_n hx hb dX9_force_8 rfl (lv_at hl 1 rfl) ?_
    refine lv_ineg hx hb dX9_force_9 ?_
    refine lv_goto (tgt := 14) hx hb dX9_force_10 (by decide) ?_
    refine lv_imul hx hb dX9_force_14 ?_
    refine lv_bipush (v := 10) hx hb dX9_force_15 (by decide) ?_
    refine lv_idiv hx hb dX9_force_17 (by decide) ?_
    exact hRet _ hf _ _ _ _ hP hD hS rfl dX9_force_18

def lb_X9_wholes_4 (f_h_now : Nat → Int32) (x1_9 : Int32) (x2_10 : Int32) : Option ((Int32 × Int32) ⊕ (Int32)) :=
  if (f_h_now 11) ≤ x2_10 then
    some (.inr x1_9)
  else
    k_ix (67 + x2_10) 169 (
      some (.inl (x1_9 + (f_h_now (67 + x2_10).toNatClampNeg), x2_10 + 1)))
def p_X9_wholes (f_h_now : Nat → Int32) : Option (Int32) :=
  k_b1 (k_lp (fun s => lb_X9_wholes_4 f_h_now s.1 s.2) k_fuel (0, 0)) fun x1_8 =>
  some x1_8
abbrev rm_X9_wholes : Room := { frames := 0, cells := 0, slots := 0, locals := 0 }
theorem hdS_X9_wholes : yX9_wholes.cls ≠ "java/lang/invoke/MethodHandle" ∧ yX9_wholes.cls ≠ "java/lang/invoke/VarHandle" ∧ (parseMethodDescriptor yX9_wholes.desc).map (fun d => d.parameters.length) = some 0 := by decide +kernel
theorem hdV_X9_wholes : yX9_wholes.cls = RX9 ∧ yX9_wholes.cls ≠ "java/lang/invoke/MethodHandle" ∧ yX9_wholes.cls ≠ "java/lang/invoke/VarHandle" ∧ (parseMethodDescriptor yX9_wholes.desc).map (fun d => d.parameters.length) = some 0 := by decide +kernel
set_option maxHeartbeats 4000000 in
set_option maxRecDepth 100000 in
theorem c_X9_wholes (l : Launch) (D : va_G) (cI cZ cJ cS : ClassId) (h h_now h_aside h_books h_tide h_rain h_rule h_counts h_begins h_best h_planks : Nat) (v_h_thrown : Int32) (v_h_kept : Int32) (v_h_counted : Int32) (v_h_bestWorth : Int32) (v_h_bestPitch : Int32) (v_h_bestBits : Int32) (v_h_leastHour : Int32) (v_h_leastSet : Int32) (v_h_shut : Int32) (f_h_now : Nat → Int32) (r : Int32) (hf : p_X9_wholes f_h_now = some r) : k_MI l yX9_wholes wsX9_wholes rm_X9_wholes D (k_tys cI cZ cJ cS) [.ref h] [(h, .inr (9, [.int v_h_thrown, .ref h_now, .ref h_aside, .int v_h_kept, .ref h_books, .ref h_tide, .ref h_rain, .ref h_rule, .int v_h_counted, .ref h_counts, .ref h_begins, .ref h_best, .int v_h_bestWorth, .int v_h_bestPitch, .int v_h_bestBits, .int v_h_leastHour, .int v_h_leastSet, .int v_h_shut, .ref h_planks])), (h_now, .inl (cI, 169, .inl f_h_now))] [(h, .inr (9, [.int v_h_thrown, .ref h_now, .ref h_aside, .int v_h_kept, .ref h_books, .ref h_tide, .ref h_rain, .ref h_rule, .int v_h_counted, .ref h_counts, .ref h_begins, .ref h_best, .int v_h_bestWorth, .int v_h_bestPitch, .int v_h_bestBits, .int v_h_leastHour, .int v_h_leastSet, .int v_h_shut, .ref h_planks])), (h_now, .inl (cI, 169, .inl f_h_now))] r := by
  refine k_enter (y := yX9_wholes) (wl := wsX9_wholes) (rm := rm_X9_wholes) (av := [.ref h]) (D := D) (tys := k_tys cI cZ cJ cS) (ws := [(h, .inr (9, [.int v_h_thrown, .ref h_now, .ref h_aside, .int v_h_kept, .ref h_books, .ref h_tide, .ref h_rain, .ref h_rule, .int v_h_counted, .ref h_counts, .ref h_begins, .ref h_best, .int v_h_bestWorth, .int v_h_bestPitch, .int v_h_bestBits, .int v_h_leastHour, .int v_h_leastSet, .int v_h_shut, .ref h_planks])), (h_now, .inl (cI, 169, .inl f_h_now))]) (cc := cX9_wholes) (maxL := 3) (ret := (some .int)) (Qc := fun A => k_Qi D (k_tys cI cZ cJ cS) [(h, .inr (9, [.int v_h_thrown, .ref h_now, .ref h_aside, .int v_h_kept, .ref h_books, .ref h_tide, .ref h_rain, .ref h_rule, .int v_h_counted, .ref h_counts, .ref h_begins, .ref h_best, .int v_h_bestWorth, .int v_h_bestPitch, .int v_h_bestBits, .int v_h_leastHour, .int v_h_leastSet, .int v_h_shut, .ref h_planks])), (h_now, .inl (cI, 169, .inl f_h_now))] A r) (by decide) rfl (Nat.le_of_ble_eq_true rfl) [(0, .ref h)] rfl ?_
  intro p e s m below meth c A hx hb hml hr hlocks hnm hown hK hP hD hA hS hN ls args Q hts hl hQ
  replace hown : s.vm.findClass RX9 = some m.cls := hown
  have inX9 : ∀ w ∈ u_ws RX9 TX9 19, w ∈ wsX9_wholes := fun w h => List.mem_cons_of_mem _ (List.mem_append_right _ h)
  have wl1 : (Cond.fieldLink RX9 13 "BeachedShipModel" "now" "[I").before args s = true := hts _ (List.mem_of_getElem? (i := 1) rfl)
  have hRet : ∀ (r_z : Int32), some r_z = some r → ∀ (H : Heap) (locs : List Loc) (ls : Array Slot) (pc : Nat), va_P D vwCl [(h, .inr (9, [.int v_h_thrown, .ref h_now, .ref h_aside, .int v_h_kept, .ref h_books, .ref h_tide, .ref h_rain, .ref h_rule, .int v_h_counted, .ref h_counts, .ref h_begins, .ref h_best, .int v_h_bestWorth, .int v_h_bestPitch, .int v_h_bestBits, .int v_h_leastHour, .int v_h_leastSet, .int v_h_shut, .ref h_planks])), (h_now, .inl (cI, 169, .inl f_h_now))] H → va_D A [(h, .inr (9, [.int v_h_thrown, .ref h_now, .ref h_aside, .int v_h_kept, .ref h_books, .ref h_tide, .ref h_rain, .ref h_rule, .int v_h_counted, .ref h_counts, .ref h_begins, .ref h_best, .int v_h_bestWorth, .int v_h_bestPitch, .int v_h_bestBits, .int v_h_leastHour, .int v_h_leastSet, .int v_h_shut, .ref h_planks])), (h_now, .inl (cI, 169, .inl f_h_now))] → va_S A s.heap H locs → narrow .int (.int r_z) = .int r_z → decode cX9_wholes pc = .ok (.ireturn, 1) → W p l e rm_X9_wholes s m args below meth c H locs 0 0 Q (F0 m pc ls [.int r_z]) := by
    intro r_z hz H locs ls pc hP hD hS hn hd
    cases hz
    exact k_iret hx hb hr hlocks hn hK hP hD hS hQ rfl hd
  unfold p_X9_wholes at hf
  refine lv_iconst (v := 0) hx hb dX9_wholes_0 (by decide) ?_
  refine lv_istore_n (lv' := [(1, .int 0), (0, .ref h)]) hx hb dX9_wholes_1 rfl hl (by decide) rfl (fun ls hl => ?_)
  refine lv_iconst (v := 0) hx hb dX9_wholes_2 (by decide) ?_
  refine lv_istore_n (lv' := [(2, .int 0), (1, .int 0), (0, .ref h)]) hx hb dX9_wholes_3 rfl hl (by decide) rfl (fun ls hl => ?_)
  obtain ⟨ee7, hlp7, hfr7⟩ := k_b1_ee hf
  have hE7 : ∀ (x1_8 : Int32), ee7 = x1_8 → ∀ (H : Heap) (locs : List Loc) (ls : Array Slot), va_P D vwCl [(h, .inr (9, [.int v_h_thrown, .ref h_now, .ref h_aside, .int v_h_kept, .ref h_books, .ref h_tide, .ref h_rain, .ref h_rule, .int v_h_counted, .ref h_counts, .ref h_begins, .ref h_best, .int v_h_bestWorth, .int v_h_bestPitch, .int v_h_bestBits, .int v_h_leastHour, .int v_h_leastSet, .int v_h_shut, .ref h_planks])), (h_now, .inl (cI, 169, .inl f_h_now))] H → va_D A [(h, .inr (9, [.int v_h_thrown, .ref h_now, .ref h_aside, .int v_h_kept, .ref h_books, .ref h_tide, .ref h_rain, .ref h_rule, .int v_h_counted, .ref h_counts, .ref h_begins, .ref h_best, .int v_h_bestWorth, .int v_h_bestPitch, .int v_h_bestBits, .int v_h_leastHour, .int v_h_leastSet, .int v_h_shut, .ref h_planks])), (h_now, .inl (cI, 169, .inl f_h_now))] → va_S A s.heap H locs → lv_has ls 3 [(1, .int x1_8)] → W p l e rm_X9_wholes s m args below meth c H locs 0 0 Q (F0 m 33 ls []) := by
    intro x1_8 he H locs ls hP hD hS hl
    replace hf := hfr7 x1_8 he
    refine lv_iload_n hx hb dX9_wholes_33 rfl (lv_at hl 0 rfl) ?_
    exact hRet _ hf _ _ _ _ hP hD hS rfl dX9_wholes_34
  refine (k_lp_ind (fun sx7 => ∀ (H : Heap) (locs : List Loc) (ls : Array Slot), va_P D vwCl [(h, .inr (9, [.int v_h_thrown, .ref h_now, .ref h_aside, .int v_h_kept, .ref h_books, .ref h_tide, .ref h_rain, .ref h_rule, .int v_h_counted, .ref h_counts, .ref h_begins, .ref h_best, .int v_h_bestWorth, .int v_h_bestPitch, .int v_h_bestBits, .int v_h_leastHour, .int v_h_leastSet, .int v_h_shut, .ref h_planks])), (h_now, .inl (cI, 169, .inl f_h_now))] H → va_D A [(h, .inr (9, [.int v_h_thrown, .ref h_now, .ref h_aside, .int v_h_kept, .ref h_books, .ref h_tide, .ref h_rain, .ref h_rule, .int v_h_counted, .ref h_counts, .ref h_begins, .ref h_best, .int v_h_bestWorth, .int v_h_bestPitch, .int v_h_bestBits, .int v_h_leastHour, .int v_h_leastSet, .int v_h_shut, .ref h_planks])), (h_now, .inl (cI, 169, .inl f_h_now))] → va_S A s.heap H locs → lv_has ls 3 [(2, .int sx7.2), (1, .int sx7.1), (0, .ref h)] → W p l e rm_X9_wholes s m args below meth c H locs 0 0 Q (F0 m 4 ls [])) (fun sx7 X7 hX7 hin7 hout7 => ?_) _ _ hlp7) _ _ _ hP hD hS (lv_sub hl [0, 1, 2] rfl)
  obtain ⟨x1_9, x2_10⟩ := sx7
  intro H locs ls hP hD hS hl
  replace hP : va_P D vwCl [(h, .inr (9, [.int v_h_thrown, .ref h_now, .ref h_aside, .int v_h_kept, .ref h_books, .ref h_tide, .ref h_rain, .ref h_rule, .int v_h_counted, .ref h_counts, .ref h_begins, .ref h_best, .int v_h_bestWorth, .int v_h_bestPitch, .int v_h_bestBits, .int v_h_leastHour, .int v_h_leastSet, .int v_h_shut, .ref h_planks])), (h_now, .inl (cI, 169, .inl f_h_now))] H := hP
  replace hD : va_D A [(h, .inr (9, [.int v_h_thrown, .ref h_now, .ref h_aside, .int v_h_kept, .ref h_books, .ref h_tide, .ref h_rain, .ref h_rule, .int v_h_counted, .ref h_counts, .ref h_begins, .ref h_best, .int v_h_bestWorth, .int v_h_bestPitch, .int v_h_bestBits, .int v_h_leastHour, .int v_h_leastSet, .int v_h_shut, .ref h_planks])), (h_now, .inl (cI, 169, .inl f_h_now))] := hD
  replace hl : lv_has ls 3 [(2, .int x2_10), (1, .int x1_9), (0, .ref h)] := hl
  replace hX7 : lb_X9_wholes_4 f_h_now x1_9 x2_10 = some X7 := hX7
  unfold lb_X9_wholes_4 at hX7
  refine lv_iload_n hx hb dX9_wholes_4 rfl (lv_at hl 0 rfl) ?_
  refine lv_aload_n hx hb dX9_wholes_5 rfl (lv_at hl 2 rfl) ?_
  refine k_get (C := RX9) (T := TX9) (N := 19) hx hb hts inX9 hown hK hP 0 rfl rfl 1 (by decide) rfl wl1 rfl dX9_wholes_6 ?_
  refine lv_bipush (v := 11) hx hb dX9_wholes_9 (by decide) ?_
  refine k_iald (k := 11) hx hb hK hP 1 0 rfl rfl (by unfold vp_in; decide) (by decide) dX9_wholes_11 ?_
  refine lv_icmp_ge (tgt := 33) hx hb dX9_wholes_12 (by decide) (fun c11 => ?_) (fun c11 => ?_)
  · replace hX7 := k_pos hX7 c11
    exact hE7 _ (hout7 _ (Option.some.inj hX7).symm).symm _ _ _ hP hD hS (lv_sub hl [1] rfl)
  · replace hX7 := k_neg hX7 c11
    refine lv_iload_n hx hb dX9_wholes_15 rfl (lv_at hl 1 rfl) ?_
    refine lv_aload_n hx hb dX9_wholes_16 rfl (lv_at hl 2 rfl) ?_
    refine k_get (C := RX9) (T := TX9) (N := 19) hx hb hts inX9 hown hK hP 0 rfl rfl 1 (by decide) rfl wl1 rfl dX9_wholes_17 ?_
    refine lv_bipush (v := 67) hx hb dX9_wholes_20 (by decide) ?_
    refine lv_iload_n hx hb dX9_wholes_22 rfl (lv_at hl 0 rfl) ?_
    refine lv_iadd hx hb dX9_wholes_23 ?_
    obtain ⟨hi12, hX7⟩ := k_ix_some hX7
    refine k_iald (k := (67 + x2_10).toNatClampNeg) hx hb hK hP 1 0 rfl rfl hi12 rfl dX9_wholes_24 ?_
    refine lv_iadd hx hb dX9_wholes_25 ?_
    refine lv_istore_n (lv' := [(1, .int (x1_9 + (f_h_now (67 + x2_10).toNatClampNeg))), (2, .int x2_10), (0, .ref h)]) hx hb dX9_wholes_26 rfl hl (by decide) rfl (fun ls hl => ?_)
    refine lv_iinc (v := x2_10 + 1) (lv' := [(2, .int (x2_10 + 1)), (1, .int (x1_9 + (f_h_now (67 + x2_10).toNatClampNeg))), (0, .ref h)]) hx hb dX9_wholes_27 hl (k := 1) rfl rfl (by decide) rfl (fun ls hl => ?_)
    refine lv_goto (tgt := 4) hx hb dX9_wholes_30 (by decide) ?_
    exact hin7 (x1_9 + (f_h_now (67 + x2_10).toNatClampNeg), x2_10 + 1) (Option.some.inj hX7).symm _ _ _ hP hD hS (lv_sub hl [0, 1, 2] rfl)

def p_X9_up (a0 : Int32) (a1 : Int32) : Option (Int32) :=
  k_ck (¬ a1 = 0) (
    some (((a0 + a1) - 1) / a1))
abbrev rm_X9_up : Room := { frames := 0, cells := 0, slots := 0, locals := 0 }
theorem hdS_X9_up : yX9_up.cls ≠ "java/lang/invoke/MethodHandle" ∧ yX9_up.cls ≠ "java/lang/invoke/VarHandle" ∧ (parseMethodDescriptor yX9_up.desc).map (fun d => d.parameters.length) = some 2 := by decide +kernel
theorem hdV_X9_up : yX9_up.cls = RX9 ∧ yX9_up.cls ≠ "java/lang/invoke/MethodHandle" ∧ yX9_up.cls ≠ "java/lang/invoke/VarHandle" ∧ (parseMethodDescriptor yX9_up.desc).map (fun d => d.parameters.length) = some 2 := by decide +kernel
set_option maxHeartbeats 4000000 in
set_option maxRecDepth 100000 in
theorem c_X9_up (l : Launch) (D : va_G) (cI cZ cJ cS : ClassId) (a0 : Int32) (a1 : Int32) (r : Int32) (hf : p_X9_up a0 a1 = some r) : k_MI l yX9_up wsX9_up rm_X9_up D (k_tys cI cZ cJ cS) [.int a0, .int a1] [] [] r := by
  refine k_enter (y := yX9_up) (wl := wsX9_up) (rm := rm_X9_up) (av := [.int a0, .int a1]) (D := D) (tys := k_tys cI cZ cJ cS) (ws := []) (cc := cX9_up) (maxL := 2) (ret := (some .int)) (Qc := fun A => k_Qi D (k_tys cI cZ cJ cS) [] A r) (by decide) rfl (Nat.le_of_ble_eq_true rfl) [(0, .int a0), (1, .int a1)] rfl ?_
  intro p e s m below meth c A hx hb hml hr hlocks hnm hown hK hP hD hA hS hN ls args Q hts hl hQ
  replace hown : s.vm.findClass RX9 = some m.cls := hown
  have hRet : ∀ (r_z : Int32), some r_z = some r → ∀ (H : Heap) (locs : List Loc) (ls : Array Slot) (pc : Nat), va_P D vwCl [] H → va_D A [] → va_S A s.heap H locs → narrow .int (.int r_z) = .int r_z → decode cX9_up pc = .ok (.ireturn, 1) → W p l e rm_X9_up s m args below meth c H locs 0 0 Q (F0 m pc ls [.int r_z]) := by
    intro r_z hz H locs ls pc hP hD hS hn hd
    cases hz
    exact k_iret hx hb hr hlocks hn hK hP hD hS hQ rfl hd
  unfold p_X9_up at hf
  refine lv_iload_n hx hb dX9_up_0 rfl (lv_at hl 0 rfl) ?_
  refine lv_iload_n hx hb dX9_up_1 rfl (lv_at hl 1 rfl) ?_
  refine lv_iadd hx hb dX9_up_2 ?_
  refine lv_iconst (v := 1) hx hb dX9_up_3 (by decide) ?_
  refine lv_isub hx hb dX9_up_4 ?_
  refine lv_iload_n hx hb dX9_up_5 rfl (lv_at hl 1 rfl) ?_
  obtain ⟨hk1, hf⟩ := k_ck_some hf
  refine lv_idiv hx hb dX9_up_6 hk1 ?_
  exact hRet _ hf _ _ _ _ hP hD hS rfl dX9_up_7

def p_X9_takes (f_h_now : Nat → Int32) (f_h_rule : Nat → Int32) (a1 : Int32) : Option (Int32) :=
  k_b1 (p_X9_wholes f_h_now) fun r1 =>
  if r1 = 0 then
    some 0
  else
    k_b1 (p_X9_force f_h_rule f_h_now a1) fun r3 =>
    k_b1 (p_X9_up r3 r1) fun r4 =>
    some r4
abbrev rm_X9_takes : Room := { frames := 2, cells := 0, slots := 0, locals := 43 }
theorem hdS_X9_takes : yX9_takes.cls ≠ "java/lang/invoke/MethodHandle" ∧ yX9_takes.cls ≠ "java/lang/invoke/VarHandle" ∧ (parseMethodDescriptor yX9_takes.desc).map (fun d => d.parameters.length) = some 1 := by decide +kernel
theorem hdV_X9_takes : yX9_takes.cls = RX9 ∧ yX9_takes.cls ≠ "java/lang/invoke/MethodHandle" ∧ yX9_takes.cls ≠ "java/lang/invoke/VarHandle" ∧ (parseMethodDescriptor yX9_takes.desc).map (fun d => d.parameters.length) = some 1 := by decide +kernel
set_option maxHeartbeats 4000000 in
set_option maxRecDepth 100000 in
theorem c_X9_takes (l : Launch) (D : va_G) (cI cZ cJ cS : ClassId) (h h_now h_aside h_books h_tide h_rain h_rule h_counts h_begins h_best h_planks : Nat) (v_h_thrown : Int32) (v_h_kept : Int32) (v_h_counted : Int32) (v_h_bestWorth : Int32) (v_h_bestPitch : Int32) (v_h_bestBits : Int32) (v_h_leastHour : Int32) (v_h_leastSet : Int32) (v_h_shut : Int32) (f_h_now : Nat → Int32) (f_h_rule : Nat → Int32) (a1 : Int32) (r : Int32) (hf : p_X9_takes f_h_now f_h_rule a1 = some r) : k_MI l yX9_takes wsX9_takes rm_X9_takes D (k_tys cI cZ cJ cS) [.ref h, .int a1] [(h, .inr (9, [.int v_h_thrown, .ref h_now, .ref h_aside, .int v_h_kept, .ref h_books, .ref h_tide, .ref h_rain, .ref h_rule, .int v_h_counted, .ref h_counts, .ref h_begins, .ref h_best, .int v_h_bestWorth, .int v_h_bestPitch, .int v_h_bestBits, .int v_h_leastHour, .int v_h_leastSet, .int v_h_shut, .ref h_planks])), (h_now, .inl (cI, 169, .inl f_h_now)), (h_rule, .inl (cI, 8, .inl f_h_rule))] [(h, .inr (9, [.int v_h_thrown, .ref h_now, .ref h_aside, .int v_h_kept, .ref h_books, .ref h_tide, .ref h_rain, .ref h_rule, .int v_h_counted, .ref h_counts, .ref h_begins, .ref h_best, .int v_h_bestWorth, .int v_h_bestPitch, .int v_h_bestBits, .int v_h_leastHour, .int v_h_leastSet, .int v_h_shut, .ref h_planks])), (h_now, .inl (cI, 169, .inl f_h_now)), (h_rule, .inl (cI, 8, .inl f_h_rule))] r := by
  refine k_enter (y := yX9_takes) (wl := wsX9_takes) (rm := rm_X9_takes) (av := [.ref h, .int a1]) (D := D) (tys := k_tys cI cZ cJ cS) (ws := [(h, .inr (9, [.int v_h_thrown, .ref h_now, .ref h_aside, .int v_h_kept, .ref h_books, .ref h_tide, .ref h_rain, .ref h_rule, .int v_h_counted, .ref h_counts, .ref h_begins, .ref h_best, .int v_h_bestWorth, .int v_h_bestPitch, .int v_h_bestBits, .int v_h_leastHour, .int v_h_leastSet, .int v_h_shut, .ref h_planks])), (h_now, .inl (cI, 169, .inl f_h_now)), (h_rule, .inl (cI, 8, .inl f_h_rule))]) (cc := cX9_takes) (maxL := 3) (ret := (some .int)) (Qc := fun A => k_Qi D (k_tys cI cZ cJ cS) [(h, .inr (9, [.int v_h_thrown, .ref h_now, .ref h_aside, .int v_h_kept, .ref h_books, .ref h_tide, .ref h_rain, .ref h_rule, .int v_h_counted, .ref h_counts, .ref h_begins, .ref h_best, .int v_h_bestWorth, .int v_h_bestPitch, .int v_h_bestBits, .int v_h_leastHour, .int v_h_leastSet, .int v_h_shut, .ref h_planks])), (h_now, .inl (cI, 169, .inl f_h_now)), (h_rule, .inl (cI, 8, .inl f_h_rule))] A r) (by decide) rfl (Nat.le_of_ble_eq_true rfl) [(0, .ref h), (1, .int a1)] rfl ?_
  intro p e s m below meth c A hx hb hml hr hlocks hnm hown hK hP hD hA hS hN ls args Q hts hl hQ
  replace hown : s.vm.findClass RX9 = some m.cls := hown
  have S0 : CallFix p m c cX9_takes 3 s args wsX9_takes RX9 := ⟨hx, hb, hml, hown, hts⟩
  have hRet : ∀ (r_z : Int32), some r_z = some r → ∀ (H : Heap) (locs : List Loc) (ls : Array Slot) (pc : Nat), va_P D vwCl [(h, .inr (9, [.int v_h_thrown, .ref h_now, .ref h_aside, .int v_h_kept, .ref h_books, .ref h_tide, .ref h_rain, .ref h_rule, .int v_h_counted, .ref h_counts, .ref h_begins, .ref h_best, .int v_h_bestWorth, .int v_h_bestPitch, .int v_h_bestBits, .int v_h_leastHour, .int v_h_leastSet, .int v_h_shut, .ref h_planks])), (h_now, .inl (cI, 169, .inl f_h_now)), (h_rule, .inl (cI, 8, .inl f_h_rule))] H → va_D A [(h, .inr (9, [.int v_h_thrown, .ref h_now, .ref h_aside, .int v_h_kept, .ref h_books, .ref h_tide, .ref h_rain, .ref h_rule, .int v_h_counted, .ref h_counts, .ref h_begins, .ref h_best, .int v_h_bestWorth, .int v_h_bestPitch, .int v_h_bestBits, .int v_h_leastHour, .int v_h_leastSet, .int v_h_shut, .ref h_planks])), (h_now, .inl (cI, 169, .inl f_h_now)), (h_rule, .inl (cI, 8, .inl f_h_rule))] → va_S A s.heap H locs → narrow .int (.int r_z) = .int r_z → decode cX9_takes pc = .ok (.ireturn, 1) → W p l e rm_X9_takes s m args below meth c H locs 0 0 Q (F0 m pc ls [.int r_z]) := by
    intro r_z hz H locs ls pc hP hD hS hn hd
    cases hz
    exact k_iret hx hb hr hlocks hn hK hP hD hS hQ rfl hd
  unfold p_X9_takes at hf
  refine lv_aload_n hx hb dX9_takes_0 rfl (lv_at hl 0 rfl) ?_
  obtain ⟨r1, hc1, hf⟩ := k_b1_some hf
  refine k_ViR (q0 := 0) (As := []) (rest := []) S0 (c_X9_wholes l D cI cZ cJ cS h h_now h_aside h_books h_tide h_rain h_rule h_counts h_begins h_best h_planks v_h_thrown v_h_kept v_h_counted v_h_bestWorth v_h_bestPitch v_h_bestBits v_h_leastHour v_h_leastSet v_h_shut f_h_now r1 hc1) (cwV 0 hts gX9_takes_X9_wholes rfl rfl rfl hdV_X9_wholes ⟨Nat.le_of_ble_eq_true rfl, Nat.le_of_ble_eq_true rfl⟩) hK hP hD hS hA hN [0, 1] rfl (by decide) rfl rfl rfl rfl hl.1 rfl (Nat.le_of_ble_eq_true rfl) dX9_takes_1 (fun H locs hP hS => ?_)
  refine lv_istore_n (lv' := [(2, .int r1), (0, .ref h), (1, .int a1)]) hx hb dX9_takes_4 rfl hl (by decide) rfl (fun ls hl => ?_)
  refine lv_iload_n hx hb dX9_takes_5 rfl (lv_at hl 0 rfl) ?_
  refine lv_if_ne (tgt := 13) hx hb dX9_takes_6 (by decide) (fun c2 => ?_) (fun c2 => ?_)
  · replace hf := k_neg hf c2
    refine lv_aload_n hx hb dX9_takes_13 rfl (lv_at hl 1 rfl) ?_
    refine lv_iload_n hx hb dX9_takes_14 rfl (lv_at hl 2 rfl) ?_
    obtain ⟨r3, hc3, hf⟩ := k_b1_some hf
    refine k_ViR (q0 := 0) (As := [.int a1]) (rest := []) S0 (c_X9_force l D cI cZ cJ cS h h_now h_aside h_books h_tide h_rain h_rule h_counts h_begins h_best h_planks v_h_thrown v_h_kept v_h_counted v_h_bestWorth v_h_bestPitch v_h_bestBits v_h_leastHour v_h_leastSet v_h_shut f_h_rule f_h_now a1 r3 hc3) (cwV 1 hts gX9_takes_X9_force rfl rfl rfl hdV_X9_force ⟨Nat.le_of_ble_eq_true rfl, Nat.le_of_ble_eq_true rfl⟩) hK hP hD hS hA hN [0, 2, 1] rfl (by decide) rfl rfl rfl rfl hl.1 rfl (Nat.le_of_ble_eq_true rfl) dX9_takes_15 (fun H locs hP hS => ?_)
    refine lv_iload_n hx hb dX9_takes_18 rfl (lv_at hl 0 rfl) ?_
    obtain ⟨r4, hc4, hf⟩ := k_b1_some hf
    refine k_SiR (As := [.int r3, .int r1]) (rest := []) S0 (c_X9_up l D cI cZ cJ cS r3 r1 r4 hc4) (va_cwS 2 hts gX9_takes_X9_up rfl rfl rfl hdS_X9_up ⟨Nat.le_of_ble_eq_true rfl, Nat.le_of_ble_eq_true rfl⟩) hK hP hD hS hA hN [] rfl (by decide) rfl hl.1 rfl (Nat.le_of_ble_eq_true rfl) dX9_takes_19 (fun H locs hP hS => ?_)
    exact hRet _ hf _ _ _ _ hP hD hS rfl dX9_takes_22
  · replace hf := k_pos hf c2
    refine lv_iconst (v := 0) hx hb dX9_takes_9 (by decide) ?_
    refine lv_goto (tgt := 22) hx hb dX9_takes_10 (by decide) ?_
    exact hRet _ hf _ _ _ _ hP hD hS rfl dX9_takes_22

def p_X9_ropeOf (f_h_now : Nat → Int32) (f_h_rule : Nat → Int32) (a1 : Int32) (a2 : Int32) : Option (Int32) :=
  k_b1 (p_X9_takes f_h_now f_h_rule a2) fun r1 =>
  k_ix (55 + a1) 169 (
    k_b1 (p_X9_up r1 (f_h_now (55 + a1).toNatClampNeg)) fun r3 =>
    some r3)
abbrev rm_X9_ropeOf : Room := { frames := 3, cells := 0, slots := 0, locals := 65 }
theorem hdS_X9_ropeOf : yX9_ropeOf.cls ≠ "java/lang/invoke/MethodHandle" ∧ yX9_ropeOf.cls ≠ "java/lang/invoke/VarHandle" ∧ (parseMethodDescriptor yX9_ropeOf.desc).map (fun d => d.parameters.length) = some 2 := by decide +kernel
theorem hdV_X9_ropeOf : yX9_ropeOf.cls = RX9 ∧ yX9_ropeOf.cls ≠ "java/lang/invoke/MethodHandle" ∧ yX9_ropeOf.cls ≠ "java/lang/invoke/VarHandle" ∧ (parseMethodDescriptor yX9_ropeOf.desc).map (fun d => d.parameters.length) = some 2 := by decide +kernel
set_option maxHeartbeats 4000000 in
set_option maxRecDepth 100000 in
theorem c_X9_ropeOf (l : Launch) (D : va_G) (cI cZ cJ cS : ClassId) (h h_now h_aside h_books h_tide h_rain h_rule h_counts h_begins h_best h_planks : Nat) (v_h_thrown : Int32) (v_h_kept : Int32) (v_h_counted : Int32) (v_h_bestWorth : Int32) (v_h_bestPitch : Int32) (v_h_bestBits : Int32) (v_h_leastHour : Int32) (v_h_leastSet : Int32) (v_h_shut : Int32) (f_h_now : Nat → Int32) (f_h_rule : Nat → Int32) (a1 : Int32) (a2 : Int32) (r : Int32) (hf : p_X9_ropeOf f_h_now f_h_rule a1 a2 = some r) : k_MI l yX9_ropeOf wsX9_ropeOf rm_X9_ropeOf D (k_tys cI cZ cJ cS) [.ref h, .int a1, .int a2] [(h, .inr (9, [.int v_h_thrown, .ref h_now, .ref h_aside, .int v_h_kept, .ref h_books, .ref h_tide, .ref h_rain, .ref h_rule, .int v_h_counted, .ref h_counts, .ref h_begins, .ref h_best, .int v_h_bestWorth, .int v_h_bestPitch, .int v_h_bestBits, .int v_h_leastHour, .int v_h_leastSet, .int v_h_shut, .ref h_planks])), (h_now, .inl (cI, 169, .inl f_h_now)), (h_rule, .inl (cI, 8, .inl f_h_rule))] [(h, .inr (9, [.int v_h_thrown, .ref h_now, .ref h_aside, .int v_h_kept, .ref h_books, .ref h_tide, .ref h_rain, .ref h_rule, .int v_h_counted, .ref h_counts, .ref h_begins, .ref h_best, .int v_h_bestWorth, .int v_h_bestPitch, .int v_h_bestBits, .int v_h_leastHour, .int v_h_leastSet, .int v_h_shut, .ref h_planks])), (h_now, .inl (cI, 169, .inl f_h_now)), (h_rule, .inl (cI, 8, .inl f_h_rule))] r := by
  refine k_enter (y := yX9_ropeOf) (wl := wsX9_ropeOf) (rm := rm_X9_ropeOf) (av := [.ref h, .int a1, .int a2]) (D := D) (tys := k_tys cI cZ cJ cS) (ws := [(h, .inr (9, [.int v_h_thrown, .ref h_now, .ref h_aside, .int v_h_kept, .ref h_books, .ref h_tide, .ref h_rain, .ref h_rule, .int v_h_counted, .ref h_counts, .ref h_begins, .ref h_best, .int v_h_bestWorth, .int v_h_bestPitch, .int v_h_bestBits, .int v_h_leastHour, .int v_h_leastSet, .int v_h_shut, .ref h_planks])), (h_now, .inl (cI, 169, .inl f_h_now)), (h_rule, .inl (cI, 8, .inl f_h_rule))]) (cc := cX9_ropeOf) (maxL := 3) (ret := (some .int)) (Qc := fun A => k_Qi D (k_tys cI cZ cJ cS) [(h, .inr (9, [.int v_h_thrown, .ref h_now, .ref h_aside, .int v_h_kept, .ref h_books, .ref h_tide, .ref h_rain, .ref h_rule, .int v_h_counted, .ref h_counts, .ref h_begins, .ref h_best, .int v_h_bestWorth, .int v_h_bestPitch, .int v_h_bestBits, .int v_h_leastHour, .int v_h_leastSet, .int v_h_shut, .ref h_planks])), (h_now, .inl (cI, 169, .inl f_h_now)), (h_rule, .inl (cI, 8, .inl f_h_rule))] A r) (by decide) rfl (Nat.le_of_ble_eq_true rfl) [(0, .ref h), (1, .int a1), (2, .int a2)] rfl ?_
  intro p e s m below meth c A hx hb hml hr hlocks hnm hown hK hP hD hA hS hN ls args Q hts hl hQ
  replace hown : s.vm.findClass RX9 = some m.cls := hown
  have S0 : CallFix p m c cX9_ropeOf 3 s args wsX9_ropeOf RX9 := ⟨hx, hb, hml, hown, hts⟩
  have inX9 : ∀ w ∈ u_ws RX9 TX9 19, w ∈ wsX9_ropeOf := fun w h => List.mem_cons_of_mem _ (List.mem_append_right _ h)
  have wl1 : (Cond.fieldLink RX9 13 "BeachedShipModel" "now" "[I").before args s = true := hts _ (List.mem_of_getElem? (i := 1) rfl)
  have hRet : ∀ (r_z : Int32), some r_z = some r → ∀ (H : Heap) (locs : List Loc) (ls : Array Slot) (pc : Nat), va_P D vwCl [(h, .inr (9, [.int v_h_thrown, .ref h_now, .ref h_aside, .int v_h_kept, .ref h_books, .ref h_tide, .ref h_rain, .ref h_rule, .int v_h_counted, .ref h_counts, .ref h_begins, .ref h_best, .int v_h_bestWorth, .int v_h_bestPitch, .int v_h_bestBits, .int v_h_leastHour, .int v_h_leastSet, .int v_h_shut, .ref h_planks])), (h_now, .inl (cI, 169, .inl f_h_now)), (h_rule, .inl (cI, 8, .inl f_h_rule))] H → va_D A [(h, .inr (9, [.int v_h_thrown, .ref h_now, .ref h_aside, .int v_h_kept, .ref h_books, .ref h_tide, .ref h_rain, .ref h_rule, .int v_h_counted, .ref h_counts, .ref h_begins, .ref h_best, .int v_h_bestWorth, .int v_h_bestPitch, .int v_h_bestBits, .int v_h_leastHour, .int v_h_leastSet, .int v_h_shut, .ref h_planks])), (h_now, .inl (cI, 169, .inl f_h_now)), (h_rule, .inl (cI, 8, .inl f_h_rule))] → va_S A s.heap H locs → narrow .int (.int r_z) = .int r_z → decode cX9_ropeOf pc = .ok (.ireturn, 1) → W p l e rm_X9_ropeOf s m args below meth c H locs 0 0 Q (F0 m pc ls [.int r_z]) := by
    intro r_z hz H locs ls pc hP hD hS hn hd
    cases hz
    exact k_iret hx hb hr hlocks hn hK hP hD hS hQ rfl hd
  unfold p_X9_ropeOf at hf
  refine lv_aload_n hx hb dX9_ropeOf_0 rfl (lv_at hl 0 rfl) ?_
  refine lv_iload_n hx hb dX9_ropeOf_1 rfl (lv_at hl 2 rfl) ?_
  obtain ⟨r1, hc1, hf⟩ := k_b1_some hf
  refine k_ViR (q0 := 0) (As := [.int a2]) (rest := []) S0 (c_X9_takes l D cI cZ cJ cS h h_now h_aside h_books h_tide h_rain h_rule h_counts h_begins h_best h_planks v_h_thrown v_h_kept v_h_counted v_h_bestWorth v_h_bestPitch v_h_bestBits v_h_leastHour v_h_leastSet v_h_shut f_h_now f_h_rule a2 r1 hc1) (cwV 1 hts gX9_ropeOf_X9_takes rfl rfl rfl hdV_X9_takes ⟨Nat.le_of_ble_eq_true rfl, Nat.le_of_ble_eq_true rfl⟩) hK hP hD hS hA hN [0, 1, 2] rfl (by decide) rfl rfl rfl rfl hl.1 rfl (Nat.le_of_ble_eq_true rfl) dX9_ropeOf_2 (fun H locs hP hS => ?_)
  refine lv_aload_n hx hb dX9_ropeOf_5 rfl (lv_at hl 0 rfl) ?_
  refine k_get (C := RX9) (T := TX9) (N := 19) hx hb hts inX9 hown hK hP 0 rfl rfl 1 (by decide) rfl wl1 rfl dX9_ropeOf_6 ?_
  refine lv_bipush (v := 55) hx hb dX9_ropeOf_9 (by decide) ?_
  refine lv_iload_n hx hb dX9_ropeOf_11 rfl (lv_at hl 1 rfl) ?_
  refine lv_iadd hx hb dX9_ropeOf_12 ?_
  obtain ⟨hi2, hf⟩ := k_ix_some hf
  refine k_iald (k := (55 + a1).toNatClampNeg) hx hb hK hP 1 0 rfl rfl hi2 rfl dX9_ropeOf_13 ?_
  obtain ⟨r3, hc3, hf⟩ := k_b1_some hf
  refine k_SiR (As := [.int r1, .int (f_h_now (55 + a1).toNatClampNeg)]) (rest := []) S0 (c_X9_up l D cI cZ cJ cS r1 (f_h_now (55 + a1).toNatClampNeg) r3 hc3) (va_cwS 2 hts gX9_ropeOf_X9_up rfl rfl rfl hdS_X9_up ⟨Nat.le_of_ble_eq_true rfl, Nat.le_of_ble_eq_true rfl⟩) hK hP hD hS hA hN [] rfl (by decide) rfl hl.1 rfl (Nat.le_of_ble_eq_true rfl) dX9_ropeOf_14 (fun H locs hP hS => ?_)
  exact hRet _ hf _ _ _ _ hP hD hS rfl dX9_ropeOf_17

def p_X9_may (f_h_now : Nat → Int32) (a1 : Int32) (a2 : Int32) : Option (Int32) :=
  if a2 = 0 then
    k_ix (61 + a1) 169 (
      some (f_h_now (61 + a1).toNatClampNeg))
  else
    k_ix (61 + a1) 169 (
      some (((f_h_now (61 + a1).toNatClampNeg) * 3) / 4))
abbrev rm_X9_may : Room := { frames := 0, cells := 0, slots := 0, locals := 0 }
theorem hdS_X9_may : yX9_may.cls ≠ "java/lang/invoke/MethodHandle" ∧ yX9_may.cls ≠ "java/lang/invoke/VarHandle" ∧ (parseMethodDescriptor yX9_may.desc).map (fun d => d.parameters.length) = some 2 := by decide +kernel
theorem hdV_X9_may : yX9_may.cls = RX9 ∧ yX9_may.cls ≠ "java/lang/invoke/MethodHandle" ∧ yX9_may.cls ≠ "java/lang/invoke/VarHandle" ∧ (parseMethodDescriptor yX9_may.desc).map (fun d => d.parameters.length) = some 2 := by decide +kernel
set_option maxHeartbeats 4000000 in
set_option maxRecDepth 100000 in
theorem c_X9_may (l : Launch) (D : va_G) (cI cZ cJ cS : ClassId) (h h_now h_aside h_books h_tide h_rain h_rule h_counts h_begins h_best h_planks : Nat) (v_h_thrown : Int32) (v_h_kept : Int32) (v_h_counted : Int32) (v_h_bestWorth : Int32) (v_h_bestPitch : Int32) (v_h_bestBits : Int32) (v_h_leastHour : Int32) (v_h_leastSet : Int32) (v_h_shut : Int32) (f_h_now : Nat → Int32) (a1 : Int32) (a2 : Int32) (r : Int32) (hf : p_X9_may f_h_now a1 a2 = some r) : k_MI l yX9_may wsX9_may rm_X9_may D (k_tys cI cZ cJ cS) [.ref h, .int a1, .int a2] [(h, .inr (9, [.int v_h_thrown, .ref h_now, .ref h_aside, .int v_h_kept, .ref h_books, .ref h_tide, .ref h_rain, .ref h_rule, .int v_h_counted, .ref h_counts, .ref h_begins, .ref h_best, .int v_h_bestWorth, .int v_h_bestPitch, .int v_h_bestBits, .int v_h_leastHour, .int v_h_leastSet, .int v_h_shut, .ref h_planks])), (h_now, .inl (cI, 169, .inl f_h_now))] [(h, .inr (9, [.int v_h_thrown, .ref h_now, .ref h_aside, .int v_h_kept, .ref h_books, .ref h_tide, .ref h_rain, .ref h_rule, .int v_h_counted, .ref h_counts, .ref h_begins, .ref h_best, .int v_h_bestWorth, .int v_h_bestPitch, .int v_h_bestBits, .int v_h_leastHour, .int v_h_leastSet, .int v_h_shut, .ref h_planks])), (h_now, .inl (cI, 169, .inl f_h_now))] r := by
  refine k_enter (y := yX9_may) (wl := wsX9_may) (rm := rm_X9_may) (av := [.ref h, .int a1, .int a2]) (D := D) (tys := k_tys cI cZ cJ cS) (ws := [(h, .inr (9, [.int v_h_thrown, .ref h_now, .ref h_aside, .int v_h_kept, .ref h_books, .ref h_tide, .ref h_rain, .ref h_rule, .int v_h_counted, .ref h_counts, .ref h_begins, .ref h_best, .int v_h_bestWorth, .int v_h_bestPitch, .int v_h_bestBits, .int v_h_leastHour, .int v_h_leastSet, .int v_h_shut, .ref h_planks])), (h_now, .inl (cI, 169, .inl f_h_now))]) (cc := cX9_may) (maxL := 3) (ret := (some .int)) (Qc := fun A => k_Qi D (k_tys cI cZ cJ cS) [(h, .inr (9, [.int v_h_thrown, .ref h_now, .ref h_aside, .int v_h_kept, .ref h_books, .ref h_tide, .ref h_rain, .ref h_rule, .int v_h_counted, .ref h_counts, .ref h_begins, .ref h_best, .int v_h_bestWorth, .int v_h_bestPitch, .int v_h_bestBits, .int v_h_leastHour, .int v_h_leastSet, .int v_h_shut, .ref h_planks])), (h_now, .inl (cI, 169, .inl f_h_now))] A r) (by decide) rfl (Nat.le_of_ble_eq_true rfl) [(0, .ref h), (1, .int a1), (2, .int a2)] rfl ?_
  intro p e s m below meth c A hx hb hml hr hlocks hnm hown hK hP hD hA hS hN ls args Q hts hl hQ
  replace hown : s.vm.findClass RX9 = some m.cls := hown
  have inX9 : ∀ w ∈ u_ws RX9 TX9 19, w ∈ wsX9_may := fun w h => List.mem_cons_of_mem _ (List.mem_append_right _ h)
  have wl1 : (Cond.fieldLink RX9 13 "BeachedShipModel" "now" "[I").before args s = true := hts _ (List.mem_of_getElem? (i := 1) rfl)
  have hRet : ∀ (r_z : Int32), some r_z = some r → ∀ (H : Heap) (locs : List Loc) (ls : Array Slot) (pc : Nat), va_P D vwCl [(h, .inr (9, [.int v_h_thrown, .ref h_now, .ref h_aside, .int v_h_kept, .ref h_books, .ref h_tide, .ref h_rain, .ref h_rule, .int v_h_counted, .ref h_counts, .ref h_begins, .ref h_best, .int v_h_bestWorth, .int v_h_bestPitch, .int v_h_bestBits, .int v_h_leastHour, .int v_h_leastSet, .int v_h_shut, .ref h_planks])), (h_now, .inl (cI, 169, .inl f_h_now))] H → va_D A [(h, .inr (9, [.int v_h_thrown, .ref h_now, .ref h_aside, .int v_h_kept, .ref h_books, .ref h_tide, .ref h_rain, .ref h_rule, .int v_h_counted, .ref h_counts, .ref h_begins, .ref h_best, .int v_h_bestWorth, .int v_h_bestPitch, .int v_h_bestBits, .int v_h_leastHour, .int v_h_leastSet, .int v_h_shut, .ref h_planks])), (h_now, .inl (cI, 169, .inl f_h_now))] → va_S A s.heap H locs → narrow .int (.int r_z) = .int r_z → decode cX9_may pc = .ok (.ireturn, 1) → W p l e rm_X9_may s m args below meth c H locs 0 0 Q (F0 m pc ls [.int r_z]) := by
    intro r_z hz H locs ls pc hP hD hS hn hd
    cases hz
    exact k_iret hx hb hr hlocks hn hK hP hD hS hQ rfl hd
  unfold p_X9_may at hf
  refine lv_iload_n hx hb dX9_may_0 rfl (lv_at hl 2 rfl) ?_
  refine lv_if_eq (tgt := 20) hx hb dX9_may_1 (by decide) (fun c1 => ?_) (fun c1 => ?_)
  · replace hf := k_pos hf c1
    refine lv_aload_n hx hb dX9_may_20 rfl (lv_at hl 0 rfl) ?_
    refine k_get (C := RX9) (T := TX9) (N := 19) hx hb hts inX9 hown hK hP 0 rfl rfl 1 (by decide) rfl wl1 rfl dX9_may_21 ?_
    refine lv_bipush (v := 61) hx hb dX9_may_24 (by decide) ?_
    refine lv_iload_n hx hb dX9_may_26 rfl (lv_at hl 1 rfl) ?_
    refine lv_iadd hx hb dX9_may_27 ?_
    obtain ⟨hi2, hf⟩ := k_ix_some hf
    refine k_iald (k := (61 + a1).toNatClampNeg) hx hb hK hP 1 0 rfl rfl hi2 rfl dX9_may_28 ?_
    exact hRet _ hf _ _ _ _ hP hD hS rfl dX9_may_29
  · replace hf := k_neg hf c1
    refine lv_aload_n hx hb dX9_may_4 rfl (lv_at hl 0 rfl) ?_
    refine k_get (C := RX9) (T := TX9) (N := 19) hx hb hts inX9 hown hK hP 0 rfl rfl 1 (by decide) rfl wl1 rfl dX9_may_5 ?_
    refine lv_bipush (v := 61) hx hb dX9_may_8 (by decide) ?_
    refine lv_iload_n hx hb dX9_may_10 rfl (lv_at hl 1 rfl) ?_
    refine lv_iadd hx hb dX9_may_11 ?_
    obtain ⟨hi3, hf⟩ := k_ix_some hf
    refine k_iald (k := (61 + a1).toNatClampNeg) hx hb hK hP 1 0 rfl rfl hi3 rfl dX9_may_12 ?_
    refine lv_iconst (v := 3) hx hb dX9_may_13 (by decide) ?_
    refine lv_imul hx hb dX9_may_14 ?_
    refine lv_iconst (v := 4) hx hb dX9_may_15 (by decide) ?_
    refine lv_idiv hx hb dX9_may_16 (by decide) ?_
    refine lv_goto (tgt := 29) hx hb dX9_may_17 (by decide) ?_
    exact hRet _ hf _ _ _ _ hP hD hS rfl dX9_may_29

def lb_X9_mastOf_5 (f_h_now : Nat → Int32) (a1 : Int32) (f_h_rule : Nat → Int32) (a2 : Int32) (x3_17 : Int32) (x4_18 : Int32) : Option ((Int32 × Int32) ⊕ (Int32)) :=
  if (f_h_now 11) ≤ x4_18 then
    some (.inr x3_17)
  else
    k_ix (67 + x4_18) 169 (
      if (f_h_now (67 + x4_18).toNatClampNeg) = 1 then
        k_ix (49 + x4_18) 169 (
          if (f_h_now (49 + x4_18).toNatClampNeg) = a1 then
            k_b1 (p_X9_takes f_h_now f_h_rule a2) fun r24 =>
            some (.inl (x3_17 + r24, x4_18 + 1))
          else
            some (.inl (x3_17 + 0, x4_18 + 1)))
      else
        some (.inl (x3_17 + 0, x4_18 + 1)))
def p_X9_mastOf (f_h_now : Nat → Int32) (f_h_rule : Nat → Int32) (a1 : Int32) (a2 : Int32) : Option (Int32) :=
  k_b1 (k_lp (fun s => lb_X9_mastOf_5 f_h_now a1 f_h_rule a2 s.1 s.2) k_fuel (0, 0)) fun x3_16 =>
  some x3_16
abbrev rm_X9_mastOf : Room := { frames := 3, cells := 0, slots := 0, locals := 65 }
theorem hdS_X9_mastOf : yX9_mastOf.cls ≠ "java/lang/invoke/MethodHandle" ∧ yX9_mastOf.cls ≠ "java/lang/invoke/VarHandle" ∧ (parseMethodDescriptor yX9_mastOf.desc).map (fun d => d.parameters.length) = some 2 := by decide +kernel
theorem hdV_X9_mastOf : yX9_mastOf.cls = RX9 ∧ yX9_mastOf.cls ≠ "java/lang/invoke/MethodHandle" ∧ yX9_mastOf.cls ≠ "java/lang/invoke/VarHandle" ∧ (parseMethodDescriptor yX9_mastOf.desc).map (fun d => d.parameters.length) = some 2 := by decide +kernel
set_option maxHeartbeats 4000000 in
set_option maxRecDepth 100000 in
theorem c_X9_mastOf (l : Launch) (D : va_G) (cI cZ cJ cS : ClassId) (h h_now h_aside h_books h_tide h_rain h_rule h_counts h_begins h_best h_planks : Nat) (v_h_thrown : Int32) (v_h_kept : Int32) (v_h_counted : Int32) (v_h_bestWorth : Int32) (v_h_bestPitch : Int32) (v_h_bestBits : Int32) (v_h_leastHour : Int32) (v_h_leastSet : Int32) (v_h_shut : Int32) (f_h_now : Nat → Int32) (f_h_rule : Nat → Int32) (a1 : Int32) (a2 : Int32) (r : Int32) (hf : p_X9_mastOf f_h_now f_h_rule a1 a2 = some r) : k_MI l yX9_mastOf wsX9_mastOf rm_X9_mastOf D (k_tys cI cZ cJ cS) [.ref h, .int a1, .int a2] [(h, .inr (9, [.int v_h_thrown, .ref h_now, .ref h_aside, .int v_h_kept, .ref h_books, .ref h_tide, .ref h_rain, .ref h_rule, .int v_h_counted, .ref h_counts, .ref h_begins, .ref h_best, .int v_h_bestWorth, .int v_h_bestPitch, .int v_h_bestBits, .int v_h_leastHour, .int v_h_leastSet, .int v_h_shut, .ref h_planks])), (h_now, .inl (cI, 169, .inl f_h_now)), (h_rule, .inl (cI, 8, .inl f_h_rule))] [(h, .inr (9, [.int v_h_thrown, .ref h_now, .ref h_aside, .int v_h_kept, .ref h_books, .ref h_tide, .ref h_rain, .ref h_rule, .int v_h_counted, .ref h_counts, .ref h_begins, .ref h_best, .int v_h_bestWorth, .int v_h_bestPitch, .int v_h_bestBits, .int v_h_leastHour, .int v_h_leastSet, .int v_h_shut, .ref h_planks])), (h_now, .inl (cI, 169, .inl f_h_now)), (h_rule, .inl (cI, 8, .inl f_h_rule))] r := by
  refine k_enter (y := yX9_mastOf) (wl := wsX9_mastOf) (rm := rm_X9_mastOf) (av := [.ref h, .int a1, .int a2]) (D := D) (tys := k_tys cI cZ cJ cS) (ws := [(h, .inr (9, [.int v_h_thrown, .ref h_now, .ref h_aside, .int v_h_kept, .ref h_books, .ref h_tide, .ref h_rain, .ref h_rule, .int v_h_counted, .ref h_counts, .ref h_begins, .ref h_best, .int v_h_bestWorth, .int v_h_bestPitch, .int v_h_bestBits, .int v_h_leastHour, .int v_h_leastSet, .int v_h_shut, .ref h_planks])), (h_now, .inl (cI, 169, .inl f_h_now)), (h_rule, .inl (cI, 8, .inl f_h_rule))]) (cc := cX9_mastOf) (maxL := 5) (ret := (some .int)) (Qc := fun A => k_Qi D (k_tys cI cZ cJ cS) [(h, .inr (9, [.int v_h_thrown, .ref h_now, .ref h_aside, .int v_h_kept, .ref h_books, .ref h_tide, .ref h_rain, .ref h_rule, .int v_h_counted, .ref h_counts, .ref h_begins, .ref h_best, .int v_h_bestWorth, .int v_h_bestPitch, .int v_h_bestBits, .int v_h_leastHour, .int v_h_leastSet, .int v_h_shut, .ref h_planks])), (h_now, .inl (cI, 169, .inl f_h_now)), (h_rule, .inl (cI, 8, .inl f_h_rule))] A r) (by decide) rfl (Nat.le_of_ble_eq_true rfl) [(0, .ref h), (1, .int a1), (2, .int a2)] rfl ?_
  intro p e s m below meth c A hx hb hml hr hlocks hnm hown hK hP hD hA hS hN ls args Q hts hl hQ
  replace hown : s.vm.findClass RX9 = some m.cls := hown
  have S0 : CallFix p m c cX9_mastOf 5 s args wsX9_mastOf RX9 := ⟨hx, hb, hml, hown, hts⟩
  have inX9 : ∀ w ∈ u_ws RX9 TX9 19, w ∈ wsX9_mastOf := fun w h => List.mem_cons_of_mem _ (List.mem_append_right _ h)
  have wl1 : (Cond.fieldLink RX9 13 "BeachedShipModel" "now" "[I").before args s = true := hts _ (List.mem_of_getElem? (i := 1) rfl)
  have hRet : ∀ (r_z : Int32), some r_z = some r → ∀ (H : Heap) (locs : List Loc) (ls : Array Slot) (pc : Nat), va_P D vwCl [(h, .inr (9, [.int v_h_thrown, .ref h_now, .ref h_aside, .int v_h_kept, .ref h_books, .ref h_tide, .ref h_rain, .ref h_rule, .int v_h_counted, .ref h_counts, .ref h_begins, .ref h_best, .int v_h_bestWorth, .int v_h_bestPitch, .int v_h_bestBits, .int v_h_leastHour, .int v_h_leastSet, .int v_h_shut, .ref h_planks])), (h_now, .inl (cI, 169, .inl f_h_now)), (h_rule, .inl (cI, 8, .inl f_h_rule))] H → va_D A [(h, .inr (9, [.int v_h_thrown, .ref h_now, .ref h_aside, .int v_h_kept, .ref h_books, .ref h_tide, .ref h_rain, .ref h_rule, .int v_h_counted, .ref h_counts, .ref h_begins, .ref h_best, .int v_h_bestWorth, .int v_h_bestPitch, .int v_h_bestBits, .int v_h_leastHour, .int v_h_leastSet, .int v_h_shut, .ref h_planks])), (h_now, .inl (cI, 169, .inl f_h_now)), (h_rule, .inl (cI, 8, .inl f_h_rule))] → va_S A s.heap H locs → narrow .int (.int r_z) = .int r_z → decode cX9_mastOf pc = .ok (.ireturn, 1) → W p l e rm_X9_mastOf s m args below meth c H locs 0 0 Q (F0 m pc ls [.int r_z]) := by
    intro r_z hz H locs ls pc hP hD hS hn hd
    cases hz
    exact k_iret hx hb hr hlocks hn hK hP hD hS hQ rfl hd
  unfold p_X9_mastOf at hf
  refine lv_iconst (v := 0) hx hb dX9_mastOf_0 (by decide) ?_
  refine lv_istore_n (lv' := [(3, .int 0), (0, .ref h), (1, .int a1), (2, .int a2)]) hx hb dX9_mastOf_1 rfl hl (by decide) rfl (fun ls hl => ?_)
  refine lv_iconst (v := 0) hx hb dX9_mastOf_2 (by decide) ?_
  refine lv_istore (lv' := [(4, .int 0), (3, .int 0), (0, .ref h), (1, .int a1), (2, .int a2)]) hx hb dX9_mastOf_3 hl (by decide) rfl (fun ls hl => ?_)
  obtain ⟨ee15, hlp15, hfr15⟩ := k_b1_ee hf
  have hE15 : ∀ (x3_16 : Int32), ee15 = x3_16 → ∀ (H : Heap) (locs : List Loc) (ls : Array Slot), va_P D vwCl [(h, .inr (9, [.int v_h_thrown, .ref h_now, .ref h_aside, .int v_h_kept, .ref h_books, .ref h_tide, .ref h_rain, .ref h_rule, .int v_h_counted, .ref h_counts, .ref h_begins, .ref h_best, .int v_h_bestWorth, .int v_h_bestPitch, .int v_h_bestBits, .int v_h_leastHour, .int v_h_leastSet, .int v_h_shut, .ref h_planks])), (h_now, .inl (cI, 169, .inl f_h_now)), (h_rule, .inl (cI, 8, .inl f_h_rule))] H → va_D A [(h, .inr (9, [.int v_h_thrown, .ref h_now, .ref h_aside, .int v_h_kept, .ref h_books, .ref h_tide, .ref h_rain, .ref h_rule, .int v_h_counted, .ref h_counts, .ref h_begins, .ref h_best, .int v_h_bestWorth, .int v_h_bestPitch, .int v_h_bestBits, .int v_h_leastHour, .int v_h_leastSet, .int v_h_shut, .ref h_planks])), (h_now, .inl (cI, 169, .inl f_h_now)), (h_rule, .inl (cI, 8, .inl f_h_rule))] → va_S A s.heap H locs → lv_has ls 5 [(3, .int x3_16)] → W p l e rm_X9_mastOf s m args below meth c H locs 0 0 Q (F0 m 63 ls []) := by
    intro x3_16 he H locs ls hP hD hS hl
    replace hf := hfr15 x3_16 he
    refine lv_iload_n hx hb dX9_mastOf_63 rfl (lv_at hl 0 rfl) ?_
    exact hRet _ hf _ _ _ _ hP hD hS rfl dX9_mastOf_64
  refine (k_lp_ind (fun sx15 => ∀ (H : Heap) (locs : List Loc) (ls : Array Slot), va_P D vwCl [(h, .inr (9, [.int v_h_thrown, .ref h_now, .ref h_aside, .int v_h_kept, .ref h_books, .ref h_tide, .ref h_rain, .ref h_rule, .int v_h_counted, .ref h_counts, .ref h_begins, .ref h_best, .int v_h_bestWorth, .int v_h_bestPitch, .int v_h_bestBits, .int v_h_leastHour, .int v_h_leastSet, .int v_h_shut, .ref h_planks])), (h_now, .inl (cI, 169, .inl f_h_now)), (h_rule, .inl (cI, 8, .inl f_h_rule))] H → va_D A [(h, .inr (9, [.int v_h_thrown, .ref h_now, .ref h_aside, .int v_h_kept, .ref h_books, .ref h_tide, .ref h_rain, .ref h_rule, .int v_h_counted, .ref h_counts, .ref h_begins, .ref h_best, .int v_h_bestWorth, .int v_h_bestPitch, .int v_h_bestBits, .int v_h_leastHour, .int v_h_leastSet, .int v_h_shut, .ref h_planks])), (h_now, .inl (cI, 169, .inl f_h_now)), (h_rule, .inl (cI, 8, .inl f_h_rule))] → va_S A s.heap H locs → lv_has ls 5 [(4, .int sx15.2), (3, .int sx15.1), (0, .ref h), (1, .int a1), (2, .int a2)] → W p l e rm_X9_mastOf s m args below meth c H locs 0 0 Q (F0 m 5 ls [])) (fun sx15 X15 hX15 hin15 hout15 => ?_) _ _ hlp15) _ _ _ hP hD hS (lv_sub hl [0, 1, 2, 3, 4] rfl)
  obtain ⟨x3_17, x4_18⟩ := sx15
  intro H locs ls hP hD hS hl
  replace hP : va_P D vwCl [(h, .inr (9, [.int v_h_thrown, .ref h_now, .ref h_aside, .int v_h_kept, .ref h_books, .ref h_tide, .ref h_rain, .ref h_rule, .int v_h_counted, .ref h_counts, .ref h_begins, .ref h_best, .int v_h_bestWorth, .int v_h_bestPitch, .int v_h_bestBits, .int v_h_leastHour, .int v_h_leastSet, .int v_h_shut, .ref h_planks])), (h_now, .inl (cI, 169, .inl f_h_now)), (h_rule, .inl (cI, 8, .inl f_h_rule))] H := hP
  replace hD : va_D A [(h, .inr (9, [.int v_h_thrown, .ref h_now, .ref h_aside, .int v_h_kept, .ref h_books, .ref h_tide, .ref h_rain, .ref h_rule, .int v_h_counted, .ref h_counts, .ref h_begins, .ref h_best, .int v_h_bestWorth, .int v_h_bestPitch, .int v_h_bestBits, .int v_h_leastHour, .int v_h_leastSet, .int v_h_shut, .ref h_planks])), (h_now, .inl (cI, 169, .inl f_h_now)), (h_rule, .inl (cI, 8, .inl f_h_rule))] := hD
  replace hl : lv_has ls 5 [(4, .int x4_18), (3, .int x3_17), (0, .ref h), (1, .int a1), (2, .int a2)] := hl
  replace hX15 : lb_X9_mastOf_5 f_h_now a1 f_h_rule a2 x3_17 x4_18 = some X15 := hX15
  unfold lb_X9_mastOf_5 at hX15
  refine lv_iload hx hb dX9_mastOf_5 (lv_at hl 0 rfl) ?_
  refine lv_aload_n hx hb dX9_mastOf_7 rfl (lv_at hl 2 rfl) ?_
  refine k_get (C := RX9) (T := TX9) (N := 19) hx hb hts inX9 hown hK hP 0 rfl rfl 1 (by decide) rfl wl1 rfl dX9_mastOf_8 ?_
  refine lv_bipush (v := 11) hx hb dX9_mastOf_11 (by decide) ?_
  refine k_iald (k := 11) hx hb hK hP 1 0 rfl rfl (by unfold vp_in; decide) (by decide) dX9_mastOf_13 ?_
  refine lv_icmp_ge (tgt := 63) hx hb dX9_mastOf_14 (by decide) (fun c19 => ?_) (fun c19 => ?_)
  · replace hX15 := k_pos hX15 c19
    exact hE15 _ (hout15 _ (Option.some.inj hX15).symm).symm _ _ _ hP hD hS (lv_sub hl [1] rfl)
  · replace hX15 := k_neg hX15 c19
    refine lv_iload_n hx hb dX9_mastOf_17 rfl (lv_at hl 1 rfl) ?_
    refine lv_aload_n hx hb dX9_mastOf_18 rfl (lv_at hl 2 rfl) ?_
    refine k_get (C := RX9) (T := TX9) (N := 19) hx hb hts inX9 hown hK hP 0 rfl rfl 1 (by decide) rfl wl1 rfl dX9_mastOf_19 ?_
    refine lv_bipush (v := 67) hx hb dX9_mastOf_22 (by decide) ?_
    refine lv_iload hx hb dX9_mastOf_24 (lv_at hl 0 rfl) ?_
    refine lv_iadd hx hb dX9_mastOf_26 ?_
    obtain ⟨hi20, hX15⟩ := k_ix_some hX15
    refine k_iald (k := (67 + x4_18).toNatClampNeg) hx hb hK hP 1 0 rfl rfl hi20 rfl dX9_mastOf_27 ?_
    refine lv_iconst (v := 1) hx hb dX9_mastOf_28 (by decide) ?_
    refine lv_icmp_ne (tgt := 54) hx hb dX9_mastOf_29 (by decide) (fun c21 => ?_) (fun c21 => ?_)
    · replace hX15 := k_neg hX15 c21
      refine lv_iconst (v := 0) hx hb dX9_mastOf_54 (by decide) ?_
      refine lv_iadd hx hb dX9_mastOf_55 ?_
      refine lv_istore_n (lv' := [(3, .int (x3_17 + 0)), (4, .int x4_18), (0, .ref h), (1, .int a1), (2, .int a2)]) hx hb dX9_mastOf_56 rfl hl (by decide) rfl (fun ls hl => ?_)
      refine lv_iinc (v := x4_18 + 1) (lv' := [(4, .int (x4_18 + 1)), (3, .int (x3_17 + 0)), (0, .ref h), (1, .int a1), (2, .int a2)]) hx hb dX9_mastOf_57 hl (k := 1) rfl rfl (by decide) rfl (fun ls hl => ?_)
      refine lv_goto (tgt := 5) hx hb dX9_mastOf_60 (by decide) ?_
      exact hin15 (x3_17 + 0, x4_18 + 1) (Option.some.inj hX15).symm _ _ _ hP hD hS (lv_sub hl [0, 1, 2, 3, 4] rfl)
    · replace hX15 := k_pos hX15 c21
      refine lv_aload_n hx hb dX9_mastOf_32 rfl (lv_at hl 2 rfl) ?_
      refine k_get (C := RX9) (T := TX9) (N := 19) hx hb hts inX9 hown hK hP 0 rfl rfl 1 (by decide) rfl wl1 rfl dX9_mastOf_33 ?_
      refine lv_bipush (v := 49) hx hb dX9_mastOf_36 (by decide) ?_
      refine lv_iload hx hb dX9_mastOf_38 (lv_at hl 0 rfl) ?_
      refine lv_iadd hx hb dX9_mastOf_40 ?_
      obtain ⟨hi22, hX15⟩ := k_ix_some hX15
      refine k_iald (k := (49 + x4_18).toNatClampNeg) hx hb hK hP 1 0 rfl rfl hi22 rfl dX9_mastOf_41 ?_
      refine lv_iload_n hx hb dX9_mastOf_42 rfl (lv_at hl 3 rfl) ?_
      refine lv_icmp_ne (tgt := 54) hx hb dX9_mastOf_43 (by decide) (fun c23 => ?_) (fun c23 => ?_)
      · replace hX15 := k_neg hX15 c23
        refine lv_iconst (v := 0) hx hb dX9_mastOf_54 (by decide) ?_
        refine lv_iadd hx hb dX9_mastOf_55 ?_
        refine lv_istore_n (lv' := [(3, .int (x3_17 + 0)), (4, .int x4_18), (0, .ref h), (1, .int a1), (2, .int a2)]) hx hb dX9_mastOf_56 rfl hl (by decide) rfl (fun ls hl => ?_)
        refine lv_iinc (v := x4_18 + 1) (lv' := [(4, .int (x4_18 + 1)), (3, .int (x3_17 + 0)), (0, .ref h), (1, .int a1), (2, .int a2)]) hx hb dX9_mastOf_57 hl (k := 1) rfl rfl (by decide) rfl (fun ls hl => ?_)
        refine lv_goto (tgt := 5) hx hb dX9_mastOf_60 (by decide) ?_
        exact hin15 (x3_17 + 0, x4_18 + 1) (Option.some.inj hX15).symm _ _ _ hP hD hS (lv_sub hl [0, 1, 2, 3, 4] rfl)
      · replace hX15 := k_pos hX15 c23
        refine lv_aload_n hx hb dX9_mastOf_46 rfl (lv_at hl 2 rfl) ?_
        refine lv_iload_n hx hb dX9_mastOf_47 rfl (lv_at hl 4 rfl) ?_
        obtain ⟨r24, hc24, hX15⟩ := k_b1_some hX15
        refine k_ViR (q0 := 0) (As := [.int a2]) (rest := [.int x3_17]) S0 (c_X9_takes l D cI cZ cJ cS h h_now h_aside h_books h_tide h_rain h_rule h_counts h_begins h_best h_planks v_h_thrown v_h_kept v_h_counted v_h_bestWorth v_h_bestPitch v_h_bestBits v_h_leastHour v_h_leastSet v_h_shut f_h_now f_h_rule a2 r24 hc24) (cwV 1 hts gX9_mastOf_X9_takes rfl rfl rfl hdV_X9_takes ⟨Nat.le_of_ble_eq_true rfl, Nat.le_of_ble_eq_true rfl⟩) hK hP hD hS hA hN [0, 1, 2] rfl (by decide) rfl rfl rfl rfl hl.1 rfl (Nat.le_of_ble_eq_true rfl) dX9_mastOf_48 (fun H locs hP hS => ?_)
        refine lv_goto (tgt := 55) hx hb dX9_mastOf_51 (by decide) ?_
        refine lv_iadd hx hb dX9_mastOf_55 ?_
        refine lv_istore_n (lv' := [(3, .int (x3_17 + r24)), (4, .int x4_18), (0, .ref h), (1, .int a1), (2, .int a2)]) hx hb dX9_mastOf_56 rfl hl (by decide) rfl (fun ls hl => ?_)
        refine lv_iinc (v := x4_18 + 1) (lv' := [(4, .int (x4_18 + 1)), (3, .int (x3_17 + r24)), (0, .ref h), (1, .int a1), (2, .int a2)]) hx hb dX9_mastOf_57 hl (k := 1) rfl rfl (by decide) rfl (fun ls hl => ?_)
        refine lv_goto (tgt := 5) hx hb dX9_mastOf_60 (by decide) ?_
        exact hin15 (x3_17 + r24, x4_18 + 1) (Option.some.inj hX15).symm _ _ _ hP hD hS (lv_sub hl [0, 1, 2, 3, 4] rfl)

def lb_X9_holds_85 (f_h_now : Nat → Int32) (f_h_rule : Nat → Int32) (a1 : Int32) (x3_39 : Int32) (x4_40 : Int32) : Option ((Int32 × Int32) ⊕ (Int32)) :=
  if 3 ≤ x4_40 then
    some (.inr x3_39)
  else
    if x3_39 = 0 then
      some (.inl (0, x4_40 + 1))
    else
      k_b1 (p_X9_mastOf f_h_now f_h_rule x4_40 a1) fun r43 =>
      k_ix (5 + x4_40) 8 (
        if (f_h_rule (5 + x4_40).toNatClampNeg) < r43 then
          some (.inl (0, x4_40 + 1))
        else
          some (.inl (1, x4_40 + 1)))
def lb_X9_holds_24 (f_h_now : Nat → Int32) (f_h_rule : Nat → Int32) (a1 : Int32) (a2 : Int32) (x3_46 : Int32) (x4_47 : Int32) : Option ((Int32 × Int32) ⊕ (Int32)) :=
  if (f_h_now 11) ≤ x4_47 then
    some (.inr x3_46)
  else
    if x3_46 = 0 then
      some (.inl (0, x4_47 + 1))
    else
      k_ix (67 + x4_47) 169 (
        if (f_h_now (67 + x4_47).toNatClampNeg) = 0 then
          some (.inl (1, x4_47 + 1))
        else
          k_b1 (p_X9_ropeOf f_h_now f_h_rule x4_47 a1) fun r52 =>
          k_b1 (p_X9_may f_h_now x4_47 a2) fun r53 =>
          if r53 < r52 then
            some (.inl (0, x4_47 + 1))
          else
            some (.inl (1, x4_47 + 1)))
def lj_X9_holds_20 (f_h_now : Nat → Int32) (f_h_rule : Nat → Int32) (a1 : Int32) (a2 : Int32) (t5 : Int32) : Option (Int32) :=
  k_b1 (k_lp (fun s => lb_X9_holds_24 f_h_now f_h_rule a1 a2 s.1 s.2) k_fuel (t5, 0)) fun x3_24 =>
  k_b1 (k_lp (fun s => lb_X9_holds_85 f_h_now f_h_rule a1 s.1 s.2) k_fuel (x3_24, 0)) fun x3_37 =>
  k_ck (x3_37 = 0 ∨ x3_37 = 1) (some x3_37)
def p_X9_holds (f_h_now : Nat → Int32) (f_h_rule : Nat → Int32) (a1 : Int32) (a2 : Int32) : Option (Int32) :=
  k_b1 (p_X9_wholes f_h_now) fun r55 =>
  if 0 < r55 then
    lj_X9_holds_20 f_h_now f_h_rule a1 a2 1
  else
    k_b1 (p_X9_force f_h_rule f_h_now a1) fun r57 =>
    if r57 = 0 then
      lj_X9_holds_20 f_h_now f_h_rule a1 a2 1
    else
      lj_X9_holds_20 f_h_now f_h_rule a1 a2 0
abbrev rm_X9_holds : Room := { frames := 4, cells := 0, slots := 0, locals := 89 }
theorem hdS_X9_holds : yX9_holds.cls ≠ "java/lang/invoke/MethodHandle" ∧ yX9_holds.cls ≠ "java/lang/invoke/VarHandle" ∧ (parseMethodDescriptor yX9_holds.desc).map (fun d => d.parameters.length) = some 2 := by decide +kernel
theorem hdV_X9_holds : yX9_holds.cls = RX9 ∧ yX9_holds.cls ≠ "java/lang/invoke/MethodHandle" ∧ yX9_holds.cls ≠ "java/lang/invoke/VarHandle" ∧ (parseMethodDescriptor yX9_holds.desc).map (fun d => d.parameters.length) = some 2 := by decide +kernel
set_option maxHeartbeats 4000000 in
set_option maxRecDepth 100000 in
theorem c_X9_holds (l : Launch) (D : va_G) (cI cZ cJ cS : ClassId) (h h_now h_aside h_books h_tide h_rain h_rule h_counts h_begins h_best h_planks : Nat) (v_h_thrown : Int32) (v_h_kept : Int32) (v_h_counted : Int32) (v_h_bestWorth : Int32) (v_h_bestPitch : Int32) (v_h_bestBits : Int32) (v_h_leastHour : Int32) (v_h_leastSet : Int32) (v_h_shut : Int32) (f_h_now : Nat → Int32) (f_h_rule : Nat → Int32) (a1 : Int32) (a2 : Int32) (r : Int32) (hf : p_X9_holds f_h_now f_h_rule a1 a2 = some r) : k_MI l yX9_holds wsX9_holds rm_X9_holds D (k_tys cI cZ cJ cS) [.ref h, .int a1, .int a2] [(h, .inr (9, [.int v_h_thrown, .ref h_now, .ref h_aside, .int v_h_kept, .ref h_books, .ref h_tide, .ref h_rain, .ref h_rule, .int v_h_counted, .ref h_counts, .ref h_begins, .ref h_best, .int v_h_bestWorth, .int v_h_bestPitch, .int v_h_bestBits, .int v_h_leastHour, .int v_h_leastSet, .int v_h_shut, .ref h_planks])), (h_now, .inl (cI, 169, .inl f_h_now)), (h_rule, .inl (cI, 8, .inl f_h_rule))] [(h, .inr (9, [.int v_h_thrown, .ref h_now, .ref h_aside, .int v_h_kept, .ref h_books, .ref h_tide, .ref h_rain, .ref h_rule, .int v_h_counted, .ref h_counts, .ref h_begins, .ref h_best, .int v_h_bestWorth, .int v_h_bestPitch, .int v_h_bestBits, .int v_h_leastHour, .int v_h_leastSet, .int v_h_shut, .ref h_planks])), (h_now, .inl (cI, 169, .inl f_h_now)), (h_rule, .inl (cI, 8, .inl f_h_rule))] r := by
  refine k_enter (y := yX9_holds) (wl := wsX9_holds) (rm := rm_X9_holds) (av := [.ref h, .int a1, .int a2]) (D := D) (tys := k_tys cI cZ cJ cS) (ws := [(h, .inr (9, [.int v_h_thrown, .ref h_now, .ref h_aside, .int v_h_kept, .ref h_books, .ref h_tide, .ref h_rain, .ref h_rule, .int v_h_counted, .ref h_counts, .ref h_begins, .ref h_best, .int v_h_bestWorth, .int v_h_bestPitch, .int v_h_bestBits, .int v_h_leastHour, .int v_h_leastSet, .int v_h_shut, .ref h_planks])), (h_now, .inl (cI, 169, .inl f_h_now)), (h_rule, .inl (cI, 8, .inl f_h_rule))]) (cc := cX9_holds) (maxL := 5) (ret := (some .boolean)) (Qc := fun A => k_Qi D (k_tys cI cZ cJ cS) [(h, .inr (9, [.int v_h_thrown, .ref h_now, .ref h_aside, .int v_h_kept, .ref h_books, .ref h_tide, .ref h_rain, .ref h_rule, .int v_h_counted, .ref h_counts, .ref h_begins, .ref h_best, .int v_h_bestWorth, .int v_h_bestPitch, .int v_h_bestBits, .int v_h_leastHour, .int v_h_leastSet, .int v_h_shut, .ref h_planks])), (h_now, .inl (cI, 169, .inl f_h_now)), (h_rule, .inl (cI, 8, .inl f_h_rule))] A r) (by decide) rfl (Nat.le_of_ble_eq_true rfl) [(0, .ref h), (1, .int a1), (2, .int a2)] rfl ?_
  intro p e s m below meth c A hx hb hml hr hlocks hnm hown hK hP hD hA hS hN ls args Q hts hl hQ
  replace hown : s.vm.findClass RX9 = some m.cls := hown
  have S0 : CallFix p m c cX9_holds 5 s args wsX9_holds RX9 := ⟨hx, hb, hml, hown, hts⟩
  have inX9 : ∀ w ∈ u_ws RX9 TX9 19, w ∈ wsX9_holds := fun w h => List.mem_cons_of_mem _ (List.mem_append_right _ h)
  have wl1 : (Cond.fieldLink RX9 13 "BeachedShipModel" "now" "[I").before args s = true := hts _ (List.mem_of_getElem? (i := 1) rfl)
  have wl2 : (Cond.fieldLink RX9 29 "BeachedShipModel" "rule" "[I").before args s = true := hts _ (List.mem_of_getElem? (i := 2) rfl)
  have hRet : ∀ (r_z : Int32), some r_z = some r → ∀ (H : Heap) (locs : List Loc) (ls : Array Slot) (pc : Nat), va_P D vwCl [(h, .inr (9, [.int v_h_thrown, .ref h_now, .ref h_aside, .int v_h_kept, .ref h_books, .ref h_tide, .ref h_rain, .ref h_rule, .int v_h_counted, .ref h_counts, .ref h_begins, .ref h_best, .int v_h_bestWorth, .int v_h_bestPitch, .int v_h_bestBits, .int v_h_leastHour, .int v_h_leastSet, .int v_h_shut, .ref h_planks])), (h_now, .inl (cI, 169, .inl f_h_now)), (h_rule, .inl (cI, 8, .inl f_h_rule))] H → va_D A [(h, .inr (9, [.int v_h_thrown, .ref h_now, .ref h_aside, .int v_h_kept, .ref h_books, .ref h_tide, .ref h_rain, .ref h_rule, .int v_h_counted, .ref h_counts, .ref h_begins, .ref h_best, .int v_h_bestWorth, .int v_h_bestPitch, .int v_h_bestBits, .int v_h_leastHour, .int v_h_leastSet, .int v_h_shut, .ref h_planks])), (h_now, .inl (cI, 169, .inl f_h_now)), (h_rule, .inl (cI, 8, .inl f_h_rule))] → va_S A s.heap H locs → narrow .boolean (.int r_z) = .int r_z → decode cX9_holds pc = .ok (.ireturn, 1) → W p l e rm_X9_holds s m args below meth c H locs 0 0 Q (F0 m pc ls [.int r_z]) := by
    intro r_z hz H locs ls pc hP hD hS hn hd
    cases hz
    exact k_iret hx hb hr hlocks hn hK hP hD hS hQ rfl hd
  unfold p_X9_holds at hf
  have hJ6 : ∀ (t5 : Int32), lj_X9_holds_20 f_h_now f_h_rule a1 a2 t5 = some r → ∀ (H : Heap) (locs : List Loc) (ls : Array Slot), va_P D vwCl [(h, .inr (9, [.int v_h_thrown, .ref h_now, .ref h_aside, .int v_h_kept, .ref h_books, .ref h_tide, .ref h_rain, .ref h_rule, .int v_h_counted, .ref h_counts, .ref h_begins, .ref h_best, .int v_h_bestWorth, .int v_h_bestPitch, .int v_h_bestBits, .int v_h_leastHour, .int v_h_leastSet, .int v_h_shut, .ref h_planks])), (h_now, .inl (cI, 169, .inl f_h_now)), (h_rule, .inl (cI, 8, .inl f_h_rule))] H → va_D A [(h, .inr (9, [.int v_h_thrown, .ref h_now, .ref h_aside, .int v_h_kept, .ref h_books, .ref h_tide, .ref h_rain, .ref h_rule, .int v_h_counted, .ref h_counts, .ref h_begins, .ref h_best, .int v_h_bestWorth, .int v_h_bestPitch, .int v_h_bestBits, .int v_h_leastHour, .int v_h_leastSet, .int v_h_shut, .ref h_planks])), (h_now, .inl (cI, 169, .inl f_h_now)), (h_rule, .inl (cI, 8, .inl f_h_rule))] → va_S A s.heap H locs → lv_has ls 5 [(0, .ref h), (1, .int a1), (2, .int a2)] → W p l e rm_X9_holds s m args below meth c H locs 0 0 Q (F0 m 20 ls [.int t5]) := by
    intro t5 hf_j H locs ls hP hD hS hl
    replace hf := hf_j
    unfold lj_X9_holds_20 at hf
    refine lv_istore_n (lv' := [(3, .int t5), (0, .ref h), (1, .int a1), (2, .int a2)]) hx hb dX9_holds_20 rfl hl (by decide) rfl (fun ls hl => ?_)
    refine lv_iconst (v := 0) hx hb dX9_holds_21 (by decide) ?_
    refine lv_istore (lv' := [(4, .int 0), (3, .int t5), (0, .ref h), (1, .int a1), (2, .int a2)]) hx hb dX9_holds_22 hl (by decide) rfl (fun ls hl => ?_)
    obtain ⟨ee23, hlp23, hfr23⟩ := k_b1_ee hf
    have hE23 : ∀ (x3_24 : Int32), ee23 = x3_24 → ∀ (H : Heap) (locs : List Loc) (ls : Array Slot), va_P D vwCl [(h, .inr (9, [.int v_h_thrown, .ref h_now, .ref h_aside, .int v_h_kept, .ref h_books, .ref h_tide, .ref h_rain, .ref h_rule, .int v_h_counted, .ref h_counts, .ref h_begins, .ref h_best, .int v_h_bestWorth, .int v_h_bestPitch, .int v_h_bestBits, .int v_h_leastHour, .int v_h_leastSet, .int v_h_shut, .ref h_planks])), (h_now, .inl (cI, 169, .inl f_h_now)), (h_rule, .inl (cI, 8, .inl f_h_rule))] H → va_D A [(h, .inr (9, [.int v_h_thrown, .ref h_now, .ref h_aside, .int v_h_kept, .ref h_books, .ref h_tide, .ref h_rain, .ref h_rule, .int v_h_counted, .ref h_counts, .ref h_begins, .ref h_best, .int v_h_bestWorth, .int v_h_bestPitch, .int v_h_bestBits, .int v_h_leastHour, .int v_h_leastSet, .int v_h_shut, .ref h_planks])), (h_now, .inl (cI, 169, .inl f_h_now)), (h_rule, .inl (cI, 8, .inl f_h_rule))] → va_S A s.heap H locs → lv_has ls 5 [(3, .int x3_24), (0, .ref h), (1, .int a1)] → W p l e rm_X9_holds s m args below meth c H locs 0 0 Q (F0 m 82 ls []) := by
      intro x3_24 he H locs ls hP hD hS hl
      replace hf := hfr23 x3_24 he
      refine lv_iconst (v := 0) hx hb dX9_holds_82 (by decide) ?_
      refine lv_istore (lv' := [(4, .int 0), (3, .int x3_24), (0, .ref h), (1, .int a1)]) hx hb dX9_holds_83 hl (by decide) rfl (fun ls hl => ?_)
      obtain ⟨ee36, hlp36, hfr36⟩ := k_b1_ee hf
      have hE36 : ∀ (x3_37 : Int32), ee36 = x3_37 → ∀ (H : Heap) (locs : List Loc) (ls : Array Slot), va_P D vwCl [(h, .inr (9, [.int v_h_thrown, .ref h_now, .ref h_aside, .int v_h_kept, .ref h_books, .ref h_tide, .ref h_rain, .ref h_rule, .int v_h_counted, .ref h_counts, .ref h_begins, .ref h_best, .int v_h_bestWorth, .int v_h_bestPitch, .int v_h_bestBits, .int v_h_leastHour, .int v_h_leastSet, .int v_h_shut, .ref h_planks])), (h_now, .inl (cI, 169, .inl f_h_now)), (h_rule, .inl (cI, 8, .inl f_h_rule))] H → va_D A [(h, .inr (9, [.int v_h_thrown, .ref h_now, .ref h_aside, .int v_h_kept, .ref h_books, .ref h_tide, .ref h_rain, .ref h_rule, .int v_h_counted, .ref h_counts, .ref h_begins, .ref h_best, .int v_h_bestWorth, .int v_h_bestPitch, .int v_h_bestBits, .int v_h_leastHour, .int v_h_leastSet, .int v_h_shut, .ref h_planks])), (h_now, .inl (cI, 169, .inl f_h_now)), (h_rule, .inl (cI, 8, .inl f_h_rule))] → va_S A s.heap H locs → lv_has ls 5 [(3, .int x3_37)] → W p l e rm_X9_holds s m args below meth c H locs 0 0 Q (F0 m 126 ls []) := by
        intro x3_37 he H locs ls hP hD hS hl
        replace hf := hfr36 x3_37 he
        refine lv_iload_n hx hb dX9_holds_126 rfl (lv_at hl 0 rfl) ?_
        obtain ⟨hk38, hf⟩ := k_ck_some hf
        exact hRet _ hf _ _ _ _ hP hD hS (k_bool hk38).1 dX9_holds_127
      refine (k_lp_ind (fun sx36 => ∀ (H : Heap) (locs : List Loc) (ls : Array Slot), va_P D vwCl [(h, .inr (9, [.int v_h_thrown, .ref h_now, .ref h_aside, .int v_h_kept, .ref h_books, .ref h_tide, .ref h_rain, .ref h_rule, .int v_h_counted, .ref h_counts, .ref h_begins, .ref h_best, .int v_h_bestWorth, .int v_h_bestPitch, .int v_h_bestBits, .int v_h_leastHour, .int v_h_leastSet, .int v_h_shut, .ref h_planks])), (h_now, .inl (cI, 169, .inl f_h_now)), (h_rule, .inl (cI, 8, .inl f_h_rule))] H → va_D A [(h, .inr (9, [.int v_h_thrown, .ref h_now, .ref h_aside, .int v_h_kept, .ref h_books, .ref h_tide, .ref h_rain, .ref h_rule, .int v_h_counted, .ref h_counts, .ref h_begins, .ref h_best, .int v_h_bestWorth, .int v_h_bestPitch, .int v_h_bestBits, .int v_h_leastHour, .int v_h_leastSet, .int v_h_shut, .ref h_planks])), (h_now, .inl (cI, 169, .inl f_h_now)), (h_rule, .inl (cI, 8, .inl f_h_rule))] → va_S A s.heap H locs → lv_has ls 5 [(4, .int sx36.2), (3, .int sx36.1), (0, .ref h), (1, .int a1)] → W p l e rm_X9_holds s m args below meth c H locs 0 0 Q (F0 m 85 ls [])) (fun sx36 X36 hX36 hin36 hout36 => ?_) _ _ hlp36) _ _ _ hP hD hS (lv_sub hl [0, 1, 2, 3] rfl)
      obtain ⟨x3_39, x4_40⟩ := sx36
      intro H locs ls hP hD hS hl
      replace hP : va_P D vwCl [(h, .inr (9, [.int v_h_thrown, .ref h_now, .ref h_aside, .int v_h_kept, .ref h_books, .ref h_tide, .ref h_rain, .ref h_rule, .int v_h_counted, .ref h_counts, .ref h_begins, .ref h_best, .int v_h_bestWorth, .int v_h_bestPitch, .int v_h_bestBits, .int v_h_leastHour, .int v_h_leastSet, .int v_h_shut, .ref h_planks])), (h_now, .inl (cI, 169, .inl f_h_now)), (h_rule, .inl (cI, 8, .inl f_h_rule))] H := hP
      replace hD : va_D A [(h, .inr (9, [.int v_h_thrown, .ref h_now, .ref h_aside, .int v_h_kept, .ref h_books, .ref h_tide, .ref h_rain, .ref h_rule, .int v_h_counted, .ref h_counts, .ref h_begins, .ref h_best, .int v_h_bestWorth, .int v_h_bestPitch, .int v_h_bestBits, .int v_h_leastHour, .int v_h_leastSet, .int v_h_shut, .ref h_planks])), (h_now, .inl (cI, 169, .inl f_h_now)), (h_rule, .inl (cI, 8, .inl f_h_rule))] := hD
      replace hl : lv_has ls 5 [(4, .int x4_40), (3, .int x3_39), (0, .ref h), (1, .int a1)] := hl
      replace hX36 : lb_X9_holds_85 f_h_now f_h_rule a1 x3_39 x4_40 = some X36 := hX36
      unfold lb_X9_holds_85 at hX36
      refine lv_iload hx hb dX9_holds_85 (lv_at hl 0 rfl) ?_
      refine lv_iconst (v := 3) hx hb dX9_holds_87 (by decide) ?_
      refine lv_icmp_ge (tgt := 126) hx hb dX9_holds_88 (by decide) (fun c41 => ?_) (fun c41 => ?_)
      · replace hX36 := k_pos hX36 c41
        exact hE36 _ (hout36 _ (Option.some.inj hX36).symm).symm _ _ _ hP hD hS (lv_sub hl [1] rfl)
      · replace hX36 := k_neg hX36 c41
        refine lv_iload_n hx hb dX9_holds_91 rfl (lv_at hl 1 rfl) ?_
        refine lv_if_eq (tgt := 118) hx hb dX9_holds_92 (by decide) (fun c42 => ?_) (fun c42 => ?_)
        · replace hX36 := k_pos hX36 c42
          refine lv_iconst (v := 0) hx hb dX9_holds_118 (by decide) ?_
          refine lv_istore_n (lv' := [(3, .int 0), (4, .int x4_40), (0, .ref h), (1, .int a1)]) hx hb dX9_holds_119 rfl hl (by decide) rfl (fun ls hl => ?_)
          refine lv_iinc (v := x4_40 + 1) (lv' := [(4, .int (x4_40 + 1)), (3, .int 0), (0, .ref h), (1, .int a1)]) hx hb dX9_holds_120 hl (k := 1) rfl rfl (by decide) rfl (fun ls hl => ?_)
          refine lv_goto (tgt := 85) hx hb dX9_holds_123 (by decide) ?_
          exact hin36 (0, x4_40 + 1) (Option.some.inj hX36).symm _ _ _ hP hD hS (lv_sub hl [0, 1, 2, 3] rfl)
        · replace hX36 := k_neg hX36 c42
          refine lv_aload_n hx hb dX9_holds_95 rfl (lv_at hl 2 rfl) ?_
          refine lv_iload hx hb dX9_holds_96 (lv_at hl 0 rfl) ?_
          refine lv_iload_n hx hb dX9_holds_98 rfl (lv_at hl 3 rfl) ?_
          obtain ⟨r43, hc43, hX36⟩ := k_b1_some hX36
          refine k_ViR (q0 := 0) (As := [.int x4_40, .int a1]) (rest := []) S0 (c_X9_mastOf l D cI cZ cJ cS h h_now h_aside h_books h_tide h_rain h_rule h_counts h_begins h_best h_planks v_h_thrown v_h_kept v_h_counted v_h_bestWorth v_h_bestPitch v_h_bestBits v_h_leastHour v_h_leastSet v_h_shut f_h_now f_h_rule x4_40 a1 r43 hc43) (cwV 2 hts gX9_holds_X9_mastOf rfl rfl rfl hdV_X9_mastOf ⟨Nat.le_of_ble_eq_true rfl, Nat.le_of_ble_eq_true rfl⟩) hK hP hD hS hA hN [0, 1, 2] rfl (by decide) rfl rfl rfl rfl hl.1 rfl (Nat.le_of_ble_eq_true rfl) dX9_holds_99 (fun H locs hP hS => ?_)
          refine lv_aload_n hx hb dX9_holds_102 rfl (lv_at hl 2 rfl) ?_
          refine k_get (C := RX9) (T := TX9) (N := 19) hx hb hts inX9 hown hK hP 0 rfl rfl 7 (by decide) rfl wl2 rfl dX9_holds_103 ?_
          refine lv_iconst (v := 5) hx hb dX9_holds_106 (by decide) ?_
          refine lv_iload hx hb dX9_holds_107 (lv_at hl 0 rfl) ?_
          refine lv_iadd hx hb dX9_holds_109 ?_
          obtain ⟨hi44, hX36⟩ := k_ix_some hX36
          refine k_iald (k := (5 + x4_40).toNatClampNeg) hx hb hK hP 2 0 rfl rfl hi44 rfl dX9_holds_110 ?_
          refine lv_icmp_gt (tgt := 118) hx hb dX9_holds_111 (by decide) (fun c45 => ?_) (fun c45 => ?_)
          · replace hX36 := k_pos hX36 c45
            refine lv_iconst (v := 0) hx hb dX9_holds_118 (by decide) ?_
            refine lv_istore_n (lv' := [(3, .int 0), (4, .int x4_40), (0, .ref h), (1, .int a1)]) hx hb dX9_holds_119 rfl hl (by decide) rfl (fun ls hl => ?_)
            refine lv_iinc (v := x4_40 + 1) (lv' := [(4, .int (x4_40 + 1)), (3, .int 0), (0, .ref h), (1, .int a1)]) hx hb dX9_holds_120 hl (k := 1) rfl rfl (by decide) rfl (fun ls hl => ?_)
            refine lv_goto (tgt := 85) hx hb dX9_holds_123 (by decide) ?_
            exact hin36 (0, x4_40 + 1) (Option.some.inj hX36).symm _ _ _ hP hD hS (lv_sub hl [0, 1, 2, 3] rfl)
          · replace hX36 := k_neg hX36 c45
            refine lv_iconst (v := 1) hx hb dX9_holds_114 (by decide) ?_
            refine lv_goto (tgt := 119) hx hb dX9_holds_115 (by decide) ?_
            refine lv_istore_n (lv' := [(3, .int 1), (4, .int x4_40), (0, .ref h), (1, .int a1)]) hx hb dX9_holds_119 rfl hl (by decide) rfl (fun ls hl => ?_)
            refine lv_iinc (v := x4_40 + 1) (lv' := [(4, .int (x4_40 + 1)), (3, .int 1), (0, .ref h), (1, .int a1)]) hx hb dX9_holds_120 hl (k := 1) rfl rfl (by decide) rfl (fun ls hl => ?_)
            refine lv_goto (tgt := 85) hx hb dX9_holds_123 (by decide) ?_
            exact hin36 (1, x4_40 + 1) (Option.some.inj hX36).symm _ _ _ hP hD hS (lv_sub hl [0, 1, 2, 3] rfl)
    refine (k_lp_ind (fun sx23 => ∀ (H : Heap) (locs : List Loc) (ls : Array Slot), va_P D vwCl [(h, .inr (9, [.int v_h_thrown, .ref h_now, .ref h_aside, .int v_h_kept, .ref h_books, .ref h_tide, .ref h_rain, .ref h_rule, .int v_h_counted, .ref h_counts, .ref h_begins, .ref h_best, .int v_h_bestWorth, .int v_h_bestPitch, .int v_h_bestBits, .int v_h_leastHour, .int v_h_leastSet, .int v_h_shut, .ref h_planks])), (h_now, .inl (cI, 169, .inl f_h_now)), (h_rule, .inl (cI, 8, .inl f_h_rule))] H → va_D A [(h, .inr (9, [.int v_h_thrown, .ref h_now, .ref h_aside, .int v_h_kept, .ref h_books, .ref h_tide, .ref h_rain, .ref h_rule, .int v_h_counted, .ref h_counts, .ref h_begins, .ref h_best, .int v_h_bestWorth, .int v_h_bestPitch, .int v_h_bestBits, .int v_h_leastHour, .int v_h_leastSet, .int v_h_shut, .ref h_planks])), (h_now, .inl (cI, 169, .inl f_h_now)), (h_rule, .inl (cI, 8, .inl f_h_rule))] → va_S A s.heap H locs → lv_has ls 5 [(4, .int sx23.2), (3, .int sx23.1), (0, .ref h), (1, .int a1), (2, .int a2)] → W p l e rm_X9_holds s m args below meth c H locs 0 0 Q (F0 m 24 ls [])) (fun sx23 X23 hX23 hin23 hout23 => ?_) _ _ hlp23) _ _ _ hP hD hS (lv_sub hl [0, 1, 2, 3, 4] rfl)
    obtain ⟨x3_46, x4_47⟩ := sx23
    intro H locs ls hP hD hS hl
    replace hP : va_P D vwCl [(h, .inr (9, [.int v_h_thrown, .ref h_now, .ref h_aside, .int v_h_kept, .ref h_books, .ref h_tide, .ref h_rain, .ref h_rule, .int v_h_counted, .ref h_counts, .ref h_begins, .ref h_best, .int v_h_bestWorth, .int v_h_bestPitch, .int v_h_bestBits, .int v_h_leastHour, .int v_h_leastSet, .int v_h_shut, .ref h_planks])), (h_now, .inl (cI, 169, .inl f_h_now)), (h_rule, .inl (cI, 8, .inl f_h_rule))] H := hP
    replace hD : va_D A [(h, .inr (9, [.int v_h_thrown, .ref h_now, .ref h_aside, .int v_h_kept, .ref h_books, .ref h_tide, .ref h_rain, .ref h_rule, .int v_h_counted, .ref h_counts, .ref h_begins, .ref h_best, .int v_h_bestWorth, .int v_h_bestPitch, .int v_h_bestBits, .int v_h_leastHour, .int v_h_leastSet, .int v_h_shut, .ref h_planks])), (h_now, .inl (cI, 169, .inl f_h_now)), (h_rule, .inl (cI, 8, .inl f_h_rule))] := hD
    replace hl : lv_has ls 5 [(4, .int x4_47), (3, .int x3_46), (0, .ref h), (1, .int a1), (2, .int a2)] := hl
    replace hX23 : lb_X9_holds_24 f_h_now f_h_rule a1 a2 x3_46 x4_47 = some X23 := hX23
    unfold lb_X9_holds_24 at hX23
    refine lv_iload hx hb dX9_holds_24 (lv_at hl 0 rfl) ?_
    refine lv_aload_n hx hb dX9_holds_26 rfl (lv_at hl 2 rfl) ?_
    refine k_get (C := RX9) (T := TX9) (N := 19) hx hb hts inX9 hown hK hP 0 rfl rfl 1 (by decide) rfl wl1 rfl dX9_holds_27 ?_
    refine lv_bipush (v := 11) hx hb dX9_holds_30 (by decide) ?_
    refine k_iald (k := 11) hx hb hK hP 1 0 rfl rfl (by unfold vp_in; decide) (by decide) dX9_holds_32 ?_
    refine lv_icmp_ge (tgt := 82) hx hb dX9_holds_33 (by decide) (fun c48 => ?_) (fun c48 => ?_)
    · replace hX23 := k_pos hX23 c48
      exact hE23 _ (hout23 _ (Option.some.inj hX23).symm).symm _ _ _ hP hD hS (lv_sub hl [1, 2, 3] rfl)
    · replace hX23 := k_neg hX23 c48
      refine lv_iload_n hx hb dX9_holds_36 rfl (lv_at hl 1 rfl) ?_
      refine lv_if_eq (tgt := 74) hx hb dX9_holds_37 (by decide) (fun c49 => ?_) (fun c49 => ?_)
      · replace hX23 := k_pos hX23 c49
        refine lv_iconst (v := 0) hx hb dX9_holds_74 (by decide) ?_
        refine lv_istore_n (lv' := [(3, .int 0), (4, .int x4_47), (0, .ref h), (1, .int a1), (2, .int a2)]) hx hb dX9_holds_75 rfl hl (by decide) rfl (fun ls hl => ?_)
        refine lv_iinc (v := x4_47 + 1) (lv' := [(4, .int (x4_47 + 1)), (3, .int 0), (0, .ref h), (1, .int a1), (2, .int a2)]) hx hb dX9_holds_76 hl (k := 1) rfl rfl (by decide) rfl (fun ls hl => ?_)
        refine lv_goto (tgt := 24) hx hb dX9_holds_79 (by decide) ?_
        exact hin23 (0, x4_47 + 1) (Option.some.inj hX23).symm _ _ _ hP hD hS (lv_sub hl [0, 1, 2, 3, 4] rfl)
      · replace hX23 := k_neg hX23 c49
        refine lv_aload_n hx hb dX9_holds_40 rfl (lv_at hl 2 rfl) ?_
        refine k_get (C := RX9) (T := TX9) (N := 19) hx hb hts inX9 hown hK hP 0 rfl rfl 1 (by decide) rfl wl1 rfl dX9_holds_41 ?_
        refine lv_bipush (v := 67) hx hb dX9_holds_44 (by decide) ?_
        refine lv_iload hx hb dX9_holds_46 (lv_at hl 0 rfl) ?_
        refine lv_iadd hx hb dX9_holds_48 ?_
        obtain ⟨hi50, hX23⟩ := k_ix_some hX23
        refine k_iald (k := (67 + x4_47).toNatClampNeg) hx hb hK hP 1 0 rfl rfl hi50 rfl dX9_holds_49 ?_
        refine lv_if_eq (tgt := 70) hx hb dX9_holds_50 (by decide) (fun c51 => ?_) (fun c51 => ?_)
        · replace hX23 := k_pos hX23 c51
          refine lv_iconst (v := 1) hx hb dX9_holds_70 (by decide) ?_
          refine lv_goto (tgt := 75) hx hb dX9_holds_71 (by decide) ?_
          refine lv_istore_n (lv' := [(3, .int 1), (4, .int x4_47), (0, .ref h), (1, .int a1), (2, .int a2)]) hx hb dX9_holds_75 rfl hl (by decide) rfl (fun ls hl => ?_)
          refine lv_iinc (v := x4_47 + 1) (lv' := [(4, .int (x4_47 + 1)), (3, .int 1), (0, .ref h), (1, .int a1), (2, .int a2)]) hx hb dX9_holds_76 hl (k := 1) rfl rfl (by decide) rfl (fun ls hl => ?_)
          refine lv_goto (tgt := 24) hx hb dX9_holds_79 (by decide) ?_
          exact hin23 (1, x4_47 + 1) (Option.some.inj hX23).symm _ _ _ hP hD hS (lv_sub hl [0, 1, 2, 3, 4] rfl)
        · replace hX23 := k_neg hX23 c51
          refine lv_aload_n hx hb dX9_holds_53 rfl (lv_at hl 2 rfl) ?_
          refine lv_iload hx hb dX9_holds_54 (lv_at hl 0 rfl) ?_
          refine lv_iload_n hx hb dX9_holds_56 rfl (lv_at hl 3 rfl) ?_
          obtain ⟨r52, hc52, hX23⟩ := k_b1_some hX23
          refine k_ViR (q0 := 0) (As := [.int x4_47, .int a1]) (rest := []) S0 (c_X9_ropeOf l D cI cZ cJ cS h h_now h_aside h_books h_tide h_rain h_rule h_counts h_begins h_best h_planks v_h_thrown v_h_kept v_h_counted v_h_bestWorth v_h_bestPitch v_h_bestBits v_h_leastHour v_h_leastSet v_h_shut f_h_now f_h_rule x4_47 a1 r52 hc52) (cwV 2 hts gX9_holds_X9_ropeOf rfl rfl rfl hdV_X9_ropeOf ⟨Nat.le_of_ble_eq_true rfl, Nat.le_of_ble_eq_true rfl⟩) hK hP hD hS hA hN [0, 1, 2] rfl (by decide) rfl rfl rfl rfl hl.1 rfl (Nat.le_of_ble_eq_true rfl) dX9_holds_57 (fun H locs hP hS => ?_)
          refine lv_aload_n hx hb dX9_holds_60 rfl (lv_at hl 2 rfl) ?_
          refine lv_iload hx hb dX9_holds_61 (lv_at hl 0 rfl) ?_
          refine lv_iload_n hx hb dX9_holds_63 rfl (lv_at hl 4 rfl) ?_
          obtain ⟨r53, hc53, hX23⟩ := k_b1_some hX23
          refine k_ViR (q0 := 0) (As := [.int x4_47, .int a2]) (rest := [.int r52]) S0 (c_X9_may l D cI cZ cJ cS h h_now h_aside h_books h_tide h_rain h_rule h_counts h_begins h_best h_planks v_h_thrown v_h_kept v_h_counted v_h_bestWorth v_h_bestPitch v_h_bestBits v_h_leastHour v_h_leastSet v_h_shut f_h_now x4_47 a2 r53 hc53) (cwV 2 hts gX9_holds_X9_may rfl rfl rfl hdV_X9_may ⟨Nat.le_of_ble_eq_true rfl, Nat.le_of_ble_eq_true rfl⟩) hK hP hD hS hA hN [0, 1] rfl (by decide) rfl rfl rfl rfl hl.1 rfl (Nat.le_of_ble_eq_true rfl) dX9_holds_64 (fun H locs hP hS => ?_)
          refine lv_icmp_gt (tgt := 74) hx hb dX9_holds_67 (by decide) (fun c54 => ?_) (fun c54 => ?_)
          · replace hX23 := k_pos hX23 c54
            refine lv_iconst (v := 0) hx hb dX9_holds_74 (by decide) ?_
            refine lv_istore_n (lv' := [(3, .int 0), (4, .int x4_47), (0, .ref h), (1, .int a1), (2, .int a2)]) hx hb dX9_holds_75 rfl hl (by decide) rfl (fun ls hl => ?_)
            refine lv_iinc (v := x4_47 + 1) (lv' := [(4, .int (x4_47 + 1)), (3, .int 0), (0, .ref h), (1, .int a1), (2, .int a2)]) hx hb dX9_holds_76 hl (k := 1) rfl rfl (by decide) rfl (fun ls hl => ?_)
            refine lv_goto (tgt := 24) hx hb dX9_holds_79 (by decide) ?_
            exact hin23 (0, x4_47 + 1) (Option.some.inj hX23).symm _ _ _ hP hD hS (lv_sub hl [0, 1, 2, 3, 4] rfl)
          · replace hX23 := k_neg hX23 c54
            refine lv_iconst (v := 1) hx hb dX9_holds_70 (by decide) ?_
            refine lv_goto (tgt := 75) hx hb dX9_holds_71 (by decide) ?_
            refine lv_istore_n (lv' := [(3, .int 1), (4, .int x4_47), (0, .ref h), (1, .int a1), (2, .int a2)]) hx hb dX9_holds_75 rfl hl (by decide) rfl (fun ls hl => ?_)
            refine lv_iinc (v := x4_47 + 1) (lv' := [(4, .int (x4_47 + 1)), (3, .int 1), (0, .ref h), (1, .int a1), (2, .int a2)]) hx hb dX9_holds_76 hl (k := 1) rfl rfl (by decide) rfl (fun ls hl => ?_)
            refine lv_goto (tgt := 24) hx hb dX9_holds_79 (by decide) ?_
            exact hin23 (1, x4_47 + 1) (Option.some.inj hX23).symm _ _ _ hP hD hS (lv_sub hl [0, 1, 2, 3, 4] rfl)
  refine lv_aload_n hx hb dX9_holds_0 rfl (lv_at hl 0 rfl) ?_
  obtain ⟨r55, hc55, hf⟩ := k_b1_some hf
  refine k_ViR (q0 := 0) (As := []) (rest := []) S0 (c_X9_wholes l D cI cZ cJ cS h h_now h_aside h_books h_tide h_rain h_rule h_counts h_begins h_best h_planks v_h_thrown v_h_kept v_h_counted v_h_bestWorth v_h_bestPitch v_h_bestBits v_h_leastHour v_h_leastSet v_h_shut f_h_now r55 hc55) (cwV 0 hts gX9_holds_X9_wholes rfl rfl rfl hdV_X9_wholes ⟨Nat.le_of_ble_eq_true rfl, Nat.le_of_ble_eq_true rfl⟩) hK hP hD hS hA hN [0, 1] rfl (by decide) rfl rfl rfl rfl hl.1 rfl (Nat.le_of_ble_eq_true rfl) dX9_holds_1 (fun H locs hP hS => ?_)
  refine lv_if_gt (tgt := 15) hx hb dX9_holds_4 (by decide) (fun c56 => ?_) (fun c56 => ?_)
  · replace hf := k_pos hf c56
    refine lv_iconst (v := 1) hx hb dX9_holds_15 (by decide) ?_
    refine lv_goto (tgt := 20) hx hb dX9_holds_16 (by decide) ?_
    exact hJ6 _ hf _ _ _ hP hD hS (lv_sub hl [0, 1, 2] rfl)
  · replace hf := k_neg hf c56
    refine lv_aload_n hx hb dX9_holds_7 rfl (lv_at hl 0 rfl) ?_
    refine lv_iload_n hx hb dX9_holds_8 rfl (lv_at hl 1 rfl) ?_
    obtain ⟨r57, hc57, hf⟩ := k_b1_some hf
    refine k_ViR (q0 := 0) (As := [.int a1]) (rest := []) S0 (c_X9_force l D cI cZ cJ cS h h_now h_aside h_books h_tide h_rain h_rule h_counts h_begins h_best h_planks v_h_thrown v_h_kept v_h_counted v_h_bestWorth v_h_bestPitch v_h_bestBits v_h_leastHour v_h_leastSet v_h_shut f_h_rule f_h_now a1 r57 hc57) (cwV 1 hts gX9_holds_X9_force rfl rfl rfl hdV_X9_force ⟨Nat.le_of_ble_eq_true rfl, Nat.le_of_ble_eq_true rfl⟩) hK hP hD hS hA hN [0, 2, 1] rfl (by decide) rfl rfl rfl rfl hl.1 rfl (Nat.le_of_ble_eq_true rfl) dX9_holds_9 (fun H locs hP hS => ?_)
    refine lv_if_ne (tgt := 19) hx hb dX9_holds_12 (by decide) (fun c58 => ?_) (fun c58 => ?_)
    · replace hf := k_neg hf c58
      refine lv_iconst (v := 0) hx hb dX9_holds_19 (by decide) ?_
      exact hJ6 _ hf _ _ _ hP hD hS (lv_sub hl [0, 1, 2] rfl)
    · replace hf := k_pos hf c58
      refine lv_iconst (v := 1) hx hb dX9_holds_15 (by decide) ?_
      refine lv_goto (tgt := 20) hx hb dX9_holds_16 (by decide) ?_
      exact hJ6 _ hf _ _ _ hP hD hS (lv_sub hl [0, 1, 2] rfl)

def p_X9_isLost (f_h_now : Nat → Int32) : Option (Int32) :=
  if (f_h_now 2) ≤ 100 then
    some 0
  else
    some 1
abbrev rm_X9_isLost : Room := { frames := 0, cells := 0, slots := 0, locals := 0 }
theorem hdS_X9_isLost : yX9_isLost.cls ≠ "java/lang/invoke/MethodHandle" ∧ yX9_isLost.cls ≠ "java/lang/invoke/VarHandle" ∧ (parseMethodDescriptor yX9_isLost.desc).map (fun d => d.parameters.length) = some 0 := by decide +kernel
theorem hdV_X9_isLost : yX9_isLost.cls = RX9 ∧ yX9_isLost.cls ≠ "java/lang/invoke/MethodHandle" ∧ yX9_isLost.cls ≠ "java/lang/invoke/VarHandle" ∧ (parseMethodDescriptor yX9_isLost.desc).map (fun d => d.parameters.length) = some 0 := by decide +kernel
set_option maxHeartbeats 4000000 in
set_option maxRecDepth 100000 in
theorem c_X9_isLost (l : Launch) (D : va_G) (cI cZ cJ cS : ClassId) (h h_now h_aside h_books h_tide h_rain h_rule h_counts h_begins h_best h_planks : Nat) (v_h_thrown : Int32) (v_h_kept : Int32) (v_h_counted : Int32) (v_h_bestWorth : Int32) (v_h_bestPitch : Int32) (v_h_bestBits : Int32) (v_h_leastHour : Int32) (v_h_leastSet : Int32) (v_h_shut : Int32) (f_h_now : Nat → Int32) (r : Int32) (hf : p_X9_isLost f_h_now = some r) : k_MI l yX9_isLost wsX9_isLost rm_X9_isLost D (k_tys cI cZ cJ cS) [.ref h] [(h, .inr (9, [.int v_h_thrown, .ref h_now, .ref h_aside, .int v_h_kept, .ref h_books, .ref h_tide, .ref h_rain, .ref h_rule, .int v_h_counted, .ref h_counts, .ref h_begins, .ref h_best, .int v_h_bestWorth, .int v_h_bestPitch, .int v_h_bestBits, .int v_h_leastHour, .int v_h_leastSet, .int v_h_shut, .ref h_planks])), (h_now, .inl (cI, 169, .inl f_h_now))] [(h, .inr (9, [.int v_h_thrown, .ref h_now, .ref h_aside, .int v_h_kept, .ref h_books, .ref h_tide, .ref h_rain, .ref h_rule, .int v_h_counted, .ref h_counts, .ref h_begins, .ref h_best, .int v_h_bestWorth, .int v_h_bestPitch, .int v_h_bestBits, .int v_h_leastHour, .int v_h_leastSet, .int v_h_shut, .ref h_planks])), (h_now, .inl (cI, 169, .inl f_h_now))] r := by
  refine k_enter (y := yX9_isLost) (wl := wsX9_isLost) (rm := rm_X9_isLost) (av := [.ref h]) (D := D) (tys := k_tys cI cZ cJ cS) (ws := [(h, .inr (9, [.int v_h_thrown, .ref h_now, .ref h_aside, .int v_h_kept, .ref h_books, .ref h_tide, .ref h_rain, .ref h_rule, .int v_h_counted, .ref h_counts, .ref h_begins, .ref h_best, .int v_h_bestWorth, .int v_h_bestPitch, .int v_h_bestBits, .int v_h_leastHour, .int v_h_leastSet, .int v_h_shut, .ref h_planks])), (h_now, .inl (cI, 169, .inl f_h_now))]) (cc := cX9_isLost) (maxL := 1) (ret := (some .boolean)) (Qc := fun A => k_Qi D (k_tys cI cZ cJ cS) [(h, .inr (9, [.int v_h_thrown, .ref h_now, .ref h_aside, .int v_h_kept, .ref h_books, .ref h_tide, .ref h_rain, .ref h_rule, .int v_h_counted, .ref h_counts, .ref h_begins, .ref h_best, .int v_h_bestWorth, .int v_h_bestPitch, .int v_h_bestBits, .int v_h_leastHour, .int v_h_leastSet, .int v_h_shut, .ref h_planks])), (h_now, .inl (cI, 169, .inl f_h_now))] A r) (by decide) rfl (Nat.le_of_ble_eq_true rfl) [(0, .ref h)] rfl ?_
  intro p e s m below meth c A hx hb hml hr hlocks hnm hown hK hP hD hA hS hN ls args Q hts hl hQ
  replace hown : s.vm.findClass RX9 = some m.cls := hown
  have inX9 : ∀ w ∈ u_ws RX9 TX9 19, w ∈ wsX9_isLost := fun w h => List.mem_cons_of_mem _ (List.mem_append_right _ h)
  have wl1 : (Cond.fieldLink RX9 13 "BeachedShipModel" "now" "[I").before args s = true := hts _ (List.mem_of_getElem? (i := 1) rfl)
  have hRet : ∀ (r_z : Int32), some r_z = some r → ∀ (H : Heap) (locs : List Loc) (ls : Array Slot) (pc : Nat), va_P D vwCl [(h, .inr (9, [.int v_h_thrown, .ref h_now, .ref h_aside, .int v_h_kept, .ref h_books, .ref h_tide, .ref h_rain, .ref h_rule, .int v_h_counted, .ref h_counts, .ref h_begins, .ref h_best, .int v_h_bestWorth, .int v_h_bestPitch, .int v_h_bestBits, .int v_h_leastHour, .int v_h_leastSet, .int v_h_shut, .ref h_planks])), (h_now, .inl (cI, 169, .inl f_h_now))] H → va_D A [(h, .inr (9, [.int v_h_thrown, .ref h_now, .ref h_aside, .int v_h_kept, .ref h_books, .ref h_tide, .ref h_rain, .ref h_rule, .int v_h_counted, .ref h_counts, .ref h_begins, .ref h_best, .int v_h_bestWorth, .int v_h_bestPitch, .int v_h_bestBits, .int v_h_leastHour, .int v_h_leastSet, .int v_h_shut, .ref h_planks])), (h_now, .inl (cI, 169, .inl f_h_now))] → va_S A s.heap H locs → narrow .boolean (.int r_z) = .int r_z → decode cX9_isLost pc = .ok (.ireturn, 1) → W p l e rm_X9_isLost s m args below meth c H locs 0 0 Q (F0 m pc ls [.int r_z]) := by
    intro r_z hz H locs ls pc hP hD hS hn hd
    cases hz
    exact k_iret hx hb hr hlocks hn hK hP hD hS hQ rfl hd
  unfold p_X9_isLost at hf
  refine lv_aload_n hx hb dX9_isLost_0 rfl (lv_at hl 0 rfl) ?_
  refine k_get (C := RX9) (T := TX9) (N := 19) hx hb hts inX9 hown hK hP 0 rfl rfl 1 (by decide) rfl wl1 rfl dX9_isLost_1 ?_
  refine lv_iconst (v := 2) hx hb dX9_isLost_4 (by decide) ?_
  refine k_iald (k := 2) hx hb hK hP 1 0 rfl rfl (by unfold vp_in; decide) (by decide) dX9_isLost_5 ?_
  refine lv_bipush (v := 100) hx hb dX9_isLost_6 (by decide) ?_
  refine lv_icmp_le (tgt := 15) hx hb dX9_isLost_8 (by decide) (fun c1 => ?_) (fun c1 => ?_)
  · replace hf := k_pos hf c1
    refine lv_iconst (v := 0) hx hb dX9_isLost_15 (by decide) ?_
    exact hRet _ hf _ _ _ _ hP hD hS rfl dX9_isLost_16
  · replace hf := k_neg hf c1
    refine lv_iconst (v := 1) hx hb dX9_isLost_11 (by decide) ?_
    refine lv_goto (tgt := 16) hx hb dX9_isLost_12 (by decide) ?_
    exact hRet _ hf _ _ _ _ hP hD hS rfl dX9_isLost_16

def lb_X9_states_4 (f_h_now : Nat → Int32) (a1 : Int32) (x2_11 : Int32) (x3_12 : Int32) : Option ((Int32 × Int32) ⊕ (Int32)) :=
  if (f_h_now 12) ≤ x3_12 then
    some (.inr x2_11)
  else
    k_ix (145 + x3_12) 169 (
      if (f_h_now (145 + x3_12).toNatClampNeg) = a1 then
        some (.inl (x2_11 + 1, x3_12 + 1))
      else
        some (.inl (x2_11 + 0, x3_12 + 1)))
def p_X9_states (f_h_now : Nat → Int32) (a1 : Int32) : Option (Int32) :=
  k_b1 (k_lp (fun s => lb_X9_states_4 f_h_now a1 s.1 s.2) k_fuel (0, 0)) fun x2_10 =>
  some x2_10
abbrev rm_X9_states : Room := { frames := 0, cells := 0, slots := 0, locals := 0 }
theorem hdS_X9_states : yX9_states.cls ≠ "java/lang/invoke/MethodHandle" ∧ yX9_states.cls ≠ "java/lang/invoke/VarHandle" ∧ (parseMethodDescriptor yX9_states.desc).map (fun d => d.parameters.length) = some 1 := by decide +kernel
theorem hdV_X9_states : yX9_states.cls = RX9 ∧ yX9_states.cls ≠ "java/lang/invoke/MethodHandle" ∧ yX9_states.cls ≠ "java/lang/invoke/VarHandle" ∧ (parseMethodDescriptor yX9_states.desc).map (fun d => d.parameters.length) = some 1 := by decide +kernel
set_option maxHeartbeats 4000000 in
set_option maxRecDepth 100000 in
theorem c_X9_states (l : Launch) (D : va_G) (cI cZ cJ cS : ClassId) (h h_now h_aside h_books h_tide h_rain h_rule h_counts h_begins h_best h_planks : Nat) (v_h_thrown : Int32) (v_h_kept : Int32) (v_h_counted : Int32) (v_h_bestWorth : Int32) (v_h_bestPitch : Int32) (v_h_bestBits : Int32) (v_h_leastHour : Int32) (v_h_leastSet : Int32) (v_h_shut : Int32) (f_h_now : Nat → Int32) (a1 : Int32) (r : Int32) (hf : p_X9_states f_h_now a1 = some r) : k_MI l yX9_states wsX9_states rm_X9_states D (k_tys cI cZ cJ cS) [.ref h, .int a1] [(h, .inr (9, [.int v_h_thrown, .ref h_now, .ref h_aside, .int v_h_kept, .ref h_books, .ref h_tide, .ref h_rain, .ref h_rule, .int v_h_counted, .ref h_counts, .ref h_begins, .ref h_best, .int v_h_bestWorth, .int v_h_bestPitch, .int v_h_bestBits, .int v_h_leastHour, .int v_h_leastSet, .int v_h_shut, .ref h_planks])), (h_now, .inl (cI, 169, .inl f_h_now))] [(h, .inr (9, [.int v_h_thrown, .ref h_now, .ref h_aside, .int v_h_kept, .ref h_books, .ref h_tide, .ref h_rain, .ref h_rule, .int v_h_counted, .ref h_counts, .ref h_begins, .ref h_best, .int v_h_bestWorth, .int v_h_bestPitch, .int v_h_bestBits, .int v_h_leastHour, .int v_h_leastSet, .int v_h_shut, .ref h_planks])), (h_now, .inl (cI, 169, .inl f_h_now))] r := by
  refine k_enter (y := yX9_states) (wl := wsX9_states) (rm := rm_X9_states) (av := [.ref h, .int a1]) (D := D) (tys := k_tys cI cZ cJ cS) (ws := [(h, .inr (9, [.int v_h_thrown, .ref h_now, .ref h_aside, .int v_h_kept, .ref h_books, .ref h_tide, .ref h_rain, .ref h_rule, .int v_h_counted, .ref h_counts, .ref h_begins, .ref h_best, .int v_h_bestWorth, .int v_h_bestPitch, .int v_h_bestBits, .int v_h_leastHour, .int v_h_leastSet, .int v_h_shut, .ref h_planks])), (h_now, .inl (cI, 169, .inl f_h_now))]) (cc := cX9_states) (maxL := 4) (ret := (some .int)) (Qc := fun A => k_Qi D (k_tys cI cZ cJ cS) [(h, .inr (9, [.int v_h_thrown, .ref h_now, .ref h_aside, .int v_h_kept, .ref h_books, .ref h_tide, .ref h_rain, .ref h_rule, .int v_h_counted, .ref h_counts, .ref h_begins, .ref h_best, .int v_h_bestWorth, .int v_h_bestPitch, .int v_h_bestBits, .int v_h_leastHour, .int v_h_leastSet, .int v_h_shut, .ref h_planks])), (h_now, .inl (cI, 169, .inl f_h_now))] A r) (by decide) rfl (Nat.le_of_ble_eq_true rfl) [(0, .ref h), (1, .int a1)] rfl ?_
  intro p e s m below meth c A hx hb hml hr hlocks hnm hown hK hP hD hA hS hN ls args Q hts hl hQ
  replace hown : s.vm.findClass RX9 = some m.cls := hown
  have inX9 : ∀ w ∈ u_ws RX9 TX9 19, w ∈ wsX9_states := fun w h => List.mem_cons_of_mem _ (List.mem_append_right _ h)
  have wl1 : (Cond.fieldLink RX9 13 "BeachedShipModel" "now" "[I").before args s = true := hts _ (List.mem_of_getElem? (i := 1) rfl)
  have hRet : ∀ (r_z : Int32), some r_z = some r → ∀ (H : Heap) (locs : List Loc) (ls : Array Slot) (pc : Nat), va_P D vwCl [(h, .inr (9, [.int v_h_thrown, .ref h_now, .ref h_aside, .int v_h_kept, .ref h_books, .ref h_tide, .ref h_rain, .ref h_rule, .int v_h_counted, .ref h_counts, .ref h_begins, .ref h_best, .int v_h_bestWorth, .int v_h_bestPitch, .int v_h_bestBits, .int v_h_leastHour, .int v_h_leastSet, .int v_h_shut, .ref h_planks])), (h_now, .inl (cI, 169, .inl f_h_now))] H → va_D A [(h, .inr (9, [.int v_h_thrown, .ref h_now, .ref h_aside, .int v_h_kept, .ref h_books, .ref h_tide, .ref h_rain, .ref h_rule, .int v_h_counted, .ref h_counts, .ref h_begins, .ref h_best, .int v_h_bestWorth, .int v_h_bestPitch, .int v_h_bestBits, .int v_h_leastHour, .int v_h_leastSet, .int v_h_shut, .ref h_planks])), (h_now, .inl (cI, 169, .inl f_h_now))] → va_S A s.heap H locs → narrow .int (.int r_z) = .int r_z → decode cX9_states pc = .ok (.ireturn, 1) → W p l e rm_X9_states s m args below meth c H locs 0 0 Q (F0 m pc ls [.int r_z]) := by
    intro r_z hz H locs ls pc hP hD hS hn hd
    cases hz
    exact k_iret hx hb hr hlocks hn hK hP hD hS hQ rfl hd
  unfold p_X9_states at hf
  refine lv_iconst (v := 0) hx hb dX9_states_0 (by decide) ?_
  refine lv_istore_n (lv' := [(2, .int 0), (0, .ref h), (1, .int a1)]) hx hb dX9_states_1 rfl hl (by decide) rfl (fun ls hl => ?_)
  refine lv_iconst (v := 0) hx hb dX9_states_2 (by decide) ?_
  refine lv_istore_n (lv' := [(3, .int 0), (2, .int 0), (0, .ref h), (1, .int a1)]) hx hb dX9_states_3 rfl hl (by decide) rfl (fun ls hl => ?_)
  obtain ⟨ee9, hlp9, hfr9⟩ := k_b1_ee hf
  have hE9 : ∀ (x2_10 : Int32), ee9 = x2_10 → ∀ (H : Heap) (locs : List Loc) (ls : Array Slot), va_P D vwCl [(h, .inr (9, [.int v_h_thrown, .ref h_now, .ref h_aside, .int v_h_kept, .ref h_books, .ref h_tide, .ref h_rain, .ref h_rule, .int v_h_counted, .ref h_counts, .ref h_begins, .ref h_best, .int v_h_bestWorth, .int v_h_bestPitch, .int v_h_bestBits, .int v_h_leastHour, .int v_h_leastSet, .int v_h_shut, .ref h_planks])), (h_now, .inl (cI, 169, .inl f_h_now))] H → va_D A [(h, .inr (9, [.int v_h_thrown, .ref h_now, .ref h_aside, .int v_h_kept, .ref h_books, .ref h_tide, .ref h_rain, .ref h_rule, .int v_h_counted, .ref h_counts, .ref h_begins, .ref h_best, .int v_h_bestWorth, .int v_h_bestPitch, .int v_h_bestBits, .int v_h_leastHour, .int v_h_leastSet, .int v_h_shut, .ref h_planks])), (h_now, .inl (cI, 169, .inl f_h_now))] → va_S A s.heap H locs → lv_has ls 4 [(2, .int x2_10)] → W p l e rm_X9_states s m args below meth c H locs 0 0 Q (F0 m 43 ls []) := by
    intro x2_10 he H locs ls hP hD hS hl
    replace hf := hfr9 x2_10 he
    refine lv_iload_n hx hb dX9_states_43 rfl (lv_at hl 0 rfl) ?_
    exact hRet _ hf _ _ _ _ hP hD hS rfl dX9_states_44
  refine (k_lp_ind (fun sx9 => ∀ (H : Heap) (locs : List Loc) (ls : Array Slot), va_P D vwCl [(h, .inr (9, [.int v_h_thrown, .ref h_now, .ref h_aside, .int v_h_kept, .ref h_books, .ref h_tide, .ref h_rain, .ref h_rule, .int v_h_counted, .ref h_counts, .ref h_begins, .ref h_best, .int v_h_bestWorth, .int v_h_bestPitch, .int v_h_bestBits, .int v_h_leastHour, .int v_h_leastSet, .int v_h_shut, .ref h_planks])), (h_now, .inl (cI, 169, .inl f_h_now))] H → va_D A [(h, .inr (9, [.int v_h_thrown, .ref h_now, .ref h_aside, .int v_h_kept, .ref h_books, .ref h_tide, .ref h_rain, .ref h_rule, .int v_h_counted, .ref h_counts, .ref h_begins, .ref h_best, .int v_h_bestWorth, .int v_h_bestPitch, .int v_h_bestBits, .int v_h_leastHour, .int v_h_leastSet, .int v_h_shut, .ref h_planks])), (h_now, .inl (cI, 169, .inl f_h_now))] → va_S A s.heap H locs → lv_has ls 4 [(3, .int sx9.2), (2, .int sx9.1), (0, .ref h), (1, .int a1)] → W p l e rm_X9_states s m args below meth c H locs 0 0 Q (F0 m 4 ls [])) (fun sx9 X9 hX9 hin9 hout9 => ?_) _ _ hlp9) _ _ _ hP hD hS (lv_sub hl [0, 1, 2, 3] rfl)
  obtain ⟨x2_11, x3_12⟩ := sx9
  intro H locs ls hP hD hS hl
  replace hP : va_P D vwCl [(h, .inr (9, [.int v_h_thrown, .ref h_now, .ref h_aside, .int v_h_kept, .ref h_books, .ref h_tide, .ref h_rain, .ref h_rule, .int v_h_counted, .ref h_counts, .ref h_begins, .ref h_best, .int v_h_bestWorth, .int v_h_bestPitch, .int v_h_bestBits, .int v_h_leastHour, .int v_h_leastSet, .int v_h_shut, .ref h_planks])), (h_now, .inl (cI, 169, .inl f_h_now))] H := hP
  replace hD : va_D A [(h, .inr (9, [.int v_h_thrown, .ref h_now, .ref h_aside, .int v_h_kept, .ref h_books, .ref h_tide, .ref h_rain, .ref h_rule, .int v_h_counted, .ref h_counts, .ref h_begins, .ref h_best, .int v_h_bestWorth, .int v_h_bestPitch, .int v_h_bestBits, .int v_h_leastHour, .int v_h_leastSet, .int v_h_shut, .ref h_planks])), (h_now, .inl (cI, 169, .inl f_h_now))] := hD
  replace hl : lv_has ls 4 [(3, .int x3_12), (2, .int x2_11), (0, .ref h), (1, .int a1)] := hl
  replace hX9 : lb_X9_states_4 f_h_now a1 x2_11 x3_12 = some X9 := hX9
  unfold lb_X9_states_4 at hX9
  refine lv_iload_n hx hb dX9_states_4 rfl (lv_at hl 0 rfl) ?_
  refine lv_aload_n hx hb dX9_states_5 rfl (lv_at hl 2 rfl) ?_
  refine k_get (C := RX9) (T := TX9) (N := 19) hx hb hts inX9 hown hK hP 0 rfl rfl 1 (by decide) rfl wl1 rfl dX9_states_6 ?_
  refine lv_bipush (v := 12) hx hb dX9_states_9 (by decide) ?_
  refine k_iald (k := 12) hx hb hK hP 1 0 rfl rfl (by unfold vp_in; decide) (by decide) dX9_states_11 ?_
  refine lv_icmp_ge (tgt := 43) hx hb dX9_states_12 (by decide) (fun c13 => ?_) (fun c13 => ?_)
  · replace hX9 := k_pos hX9 c13
    exact hE9 _ (hout9 _ (Option.some.inj hX9).symm).symm _ _ _ hP hD hS (lv_sub hl [1] rfl)
  · replace hX9 := k_neg hX9 c13
    refine lv_iload_n hx hb dX9_states_15 rfl (lv_at hl 1 rfl) ?_
    refine lv_aload_n hx hb dX9_states_16 rfl (lv_at hl 2 rfl) ?_
    refine k_get (C := RX9) (T := TX9) (N := 19) hx hb hts inX9 hown hK hP 0 rfl rfl 1 (by decide) rfl wl1 rfl dX9_states_17 ?_
    refine lv_sipush (v := 145) hx hb dX9_states_20 (by decide) ?_
    refine lv_iload_n hx hb dX9_states_23 rfl (lv_at hl 0 rfl) ?_
    refine lv_iadd hx hb dX9_states_24 ?_
    obtain ⟨hi14, hX9⟩ := k_ix_some hX9
    refine k_iald (k := (145 + x3_12).toNatClampNeg) hx hb hK hP 1 0 rfl rfl hi14 rfl dX9_states_25 ?_
    refine lv_iload_n hx hb dX9_states_26 rfl (lv_at hl 3 rfl) ?_
    refine lv_icmp_ne (tgt := 34) hx hb dX9_states_27 (by decide) (fun c15 => ?_) (fun c15 => ?_)
    · replace hX9 := k_neg hX9 c15
      refine lv_iconst (v := 0) hx hb dX9_states_34 (by decide) ?_
      refine lv_iadd hx hb dX9_states_35 ?_
      refine lv_istore_n (lv' := [(2, .int (x2_11 + 0)), (3, .int x3_12), (0, .ref h), (1, .int a1)]) hx hb dX9_states_36 rfl hl (by decide) rfl (fun ls hl => ?_)
      refine lv_iinc (v := x3_12 + 1) (lv' := [(3, .int (x3_12 + 1)), (2, .int (x2_11 + 0)), (0, .ref h), (1, .int a1)]) hx hb dX9_states_37 hl (k := 1) rfl rfl (by decide) rfl (fun ls hl => ?_)
      refine lv_goto (tgt := 4) hx hb dX9_states_40 (by decide) ?_
      exact hin9 (x2_11 + 0, x3_12 + 1) (Option.some.inj hX9).symm _ _ _ hP hD hS (lv_sub hl [0, 1, 2, 3] rfl)
    · replace hX9 := k_pos hX9 c15
      refine lv_iconst (v := 1) hx hb dX9_states_30 (by decide) ?_
      refine lv_goto (tgt := 35) hx hb dX9_states_31 (by decide) ?_
      refine lv_iadd hx hb dX9_states_35 ?_
      refine lv_istore_n (lv' := [(2, .int (x2_11 + 1)), (3, .int x3_12), (0, .ref h), (1, .int a1)]) hx hb dX9_states_36 rfl hl (by decide) rfl (fun ls hl => ?_)
      refine lv_iinc (v := x3_12 + 1) (lv' := [(3, .int (x3_12 + 1)), (2, .int (x2_11 + 1)), (0, .ref h), (1, .int a1)]) hx hb dX9_states_37 hl (k := 1) rfl rfl (by decide) rfl (fun ls hl => ?_)
      refine lv_goto (tgt := 4) hx hb dX9_states_40 (by decide) ?_
      exact hin9 (x2_11 + 1, x3_12 + 1) (Option.some.inj hX9).symm _ _ _ hP hD hS (lv_sub hl [0, 1, 2, 3] rfl)

def p_X9_floats (f_h_rule : Nat → Int32) (f_h_tide : Nat → Int32) (a1 : Int32) (a2 : Int32) : Option (Int32) :=
  if a2 < (f_h_rule 2) then
    some 0
  else
    k_b1 (p_X9_tideIn f_h_tide a1) fun r2 =>
    if r2 < ((a2 / 20) + (f_h_rule 0)) then
      some 0
    else
      some 1
abbrev rm_X9_floats : Room := { frames := 1, cells := 0, slots := 0, locals := 21 }
theorem hdS_X9_floats : yX9_floats.cls ≠ "java/lang/invoke/MethodHandle" ∧ yX9_floats.cls ≠ "java/lang/invoke/VarHandle" ∧ (parseMethodDescriptor yX9_floats.desc).map (fun d => d.parameters.length) = some 2 := by decide +kernel
theorem hdV_X9_floats : yX9_floats.cls = RX9 ∧ yX9_floats.cls ≠ "java/lang/invoke/MethodHandle" ∧ yX9_floats.cls ≠ "java/lang/invoke/VarHandle" ∧ (parseMethodDescriptor yX9_floats.desc).map (fun d => d.parameters.length) = some 2 := by decide +kernel
set_option maxHeartbeats 4000000 in
set_option maxRecDepth 100000 in
theorem c_X9_floats (l : Launch) (D : va_G) (cI cZ cJ cS : ClassId) (h h_now h_aside h_books h_tide h_rain h_rule h_counts h_begins h_best h_planks : Nat) (v_h_thrown : Int32) (v_h_kept : Int32) (v_h_counted : Int32) (v_h_bestWorth : Int32) (v_h_bestPitch : Int32) (v_h_bestBits : Int32) (v_h_leastHour : Int32) (v_h_leastSet : Int32) (v_h_shut : Int32) (f_h_rule : Nat → Int32) (f_h_tide : Nat → Int32) (a1 : Int32) (a2 : Int32) (r : Int32) (hf : p_X9_floats f_h_rule f_h_tide a1 a2 = some r) : k_MI l yX9_floats wsX9_floats rm_X9_floats D (k_tys cI cZ cJ cS) [.ref h, .int a1, .int a2] [(h, .inr (9, [.int v_h_thrown, .ref h_now, .ref h_aside, .int v_h_kept, .ref h_books, .ref h_tide, .ref h_rain, .ref h_rule, .int v_h_counted, .ref h_counts, .ref h_begins, .ref h_best, .int v_h_bestWorth, .int v_h_bestPitch, .int v_h_bestBits, .int v_h_leastHour, .int v_h_leastSet, .int v_h_shut, .ref h_planks])), (h_rule, .inl (cI, 8, .inl f_h_rule)), (h_tide, .inl (cI, 96, .inl f_h_tide))] [(h, .inr (9, [.int v_h_thrown, .ref h_now, .ref h_aside, .int v_h_kept, .ref h_books, .ref h_tide, .ref h_rain, .ref h_rule, .int v_h_counted, .ref h_counts, .ref h_begins, .ref h_best, .int v_h_bestWorth, .int v_h_bestPitch, .int v_h_bestBits, .int v_h_leastHour, .int v_h_leastSet, .int v_h_shut, .ref h_planks])), (h_rule, .inl (cI, 8, .inl f_h_rule)), (h_tide, .inl (cI, 96, .inl f_h_tide))] r := by
  refine k_enter (y := yX9_floats) (wl := wsX9_floats) (rm := rm_X9_floats) (av := [.ref h, .int a1, .int a2]) (D := D) (tys := k_tys cI cZ cJ cS) (ws := [(h, .inr (9, [.int v_h_thrown, .ref h_now, .ref h_aside, .int v_h_kept, .ref h_books, .ref h_tide, .ref h_rain, .ref h_rule, .int v_h_counted, .ref h_counts, .ref h_begins, .ref h_best, .int v_h_bestWorth, .int v_h_bestPitch, .int v_h_bestBits, .int v_h_leastHour, .int v_h_leastSet, .int v_h_shut, .ref h_planks])), (h_rule, .inl (cI, 8, .inl f_h_rule)), (h_tide, .inl (cI, 96, .inl f_h_tide))]) (cc := cX9_floats) (maxL := 3) (ret := (some .boolean)) (Qc := fun A => k_Qi D (k_tys cI cZ cJ cS) [(h, .inr (9, [.int v_h_thrown, .ref h_now, .ref h_aside, .int v_h_kept, .ref h_books, .ref h_tide, .ref h_rain, .ref h_rule, .int v_h_counted, .ref h_counts, .ref h_begins, .ref h_best, .int v_h_bestWorth, .int v_h_bestPitch, .int v_h_bestBits, .int v_h_leastHour, .int v_h_leastSet, .int v_h_shut, .ref h_planks])), (h_rule, .inl (cI, 8, .inl f_h_rule)), (h_tide, .inl (cI, 96, .inl f_h_tide))] A r) (by decide) rfl (Nat.le_of_ble_eq_true rfl) [(0, .ref h), (1, .int a1), (2, .int a2)] rfl ?_
  intro p e s m below meth c A hx hb hml hr hlocks hnm hown hK hP hD hA hS hN ls args Q hts hl hQ
  replace hown : s.vm.findClass RX9 = some m.cls := hown
  have S0 : CallFix p m c cX9_floats 3 s args wsX9_floats RX9 := ⟨hx, hb, hml, hown, hts⟩
  have inX9 : ∀ w ∈ u_ws RX9 TX9 19, w ∈ wsX9_floats := fun w h => List.mem_cons_of_mem _ (List.mem_append_right _ h)
  have wl1 : (Cond.fieldLink RX9 29 "BeachedShipModel" "rule" "[I").before args s = true := hts _ (List.mem_of_getElem? (i := 1) rfl)
  have hRet : ∀ (r_z : Int32), some r_z = some r → ∀ (H : Heap) (locs : List Loc) (ls : Array Slot) (pc : Nat), va_P D vwCl [(h, .inr (9, [.int v_h_thrown, .ref h_now, .ref h_aside, .int v_h_kept, .ref h_books, .ref h_tide, .ref h_rain, .ref h_rule, .int v_h_counted, .ref h_counts, .ref h_begins, .ref h_best, .int v_h_bestWorth, .int v_h_bestPitch, .int v_h_bestBits, .int v_h_leastHour, .int v_h_leastSet, .int v_h_shut, .ref h_planks])), (h_rule, .inl (cI, 8, .inl f_h_rule)), (h_tide, .inl (cI, 96, .inl f_h_tide))] H → va_D A [(h, .inr (9, [.int v_h_thrown, .ref h_now, .ref h_aside, .int v_h_kept, .ref h_books, .ref h_tide, .ref h_rain, .ref h_rule, .int v_h_counted, .ref h_counts, .ref h_begins, .ref h_best, .int v_h_bestWorth, .int v_h_bestPitch, .int v_h_bestBits, .int v_h_leastHour, .int v_h_leastSet, .int v_h_shut, .ref h_planks])), (h_rule, .inl (cI, 8, .inl f_h_rule)), (h_tide, .inl (cI, 96, .inl f_h_tide))] → va_S A s.heap H locs → narrow .boolean (.int r_z) = .int r_z → decode cX9_floats pc = .ok (.ireturn, 1) → W p l e rm_X9_floats s m args below meth c H locs 0 0 Q (F0 m pc ls [.int r_z]) := by
    intro r_z hz H locs ls pc hP hD hS hn hd
    cases hz
    exact k_iret hx hb hr hlocks hn hK hP hD hS hQ rfl hd
  unfold p_X9_floats at hf
  refine lv_iload_n hx hb dX9_floats_0 rfl (lv_at hl 2 rfl) ?_
  refine lv_aload_n hx hb dX9_floats_1 rfl (lv_at hl 0 rfl) ?_
  refine k_get (C := RX9) (T := TX9) (N := 19) hx hb hts inX9 hown hK hP 0 rfl rfl 7 (by decide) rfl wl1 rfl dX9_floats_2 ?_
  refine lv_iconst (v := 2) hx hb dX9_floats_5 (by decide) ?_
  refine k_iald (k := 2) hx hb hK hP 1 0 rfl rfl (by unfold vp_in; decide) (by decide) dX9_floats_6 ?_
  refine lv_icmp_lt (tgt := 33) hx hb dX9_floats_7 (by decide) (fun c1 => ?_) (fun c1 => ?_)
  · replace hf := k_pos hf c1
    refine lv_iconst (v := 0) hx hb dX9_floats_33 (by decide) ?_
    exact hRet _ hf _ _ _ _ hP hD hS rfl dX9_floats_34
  · replace hf := k_neg hf c1
    refine lv_aload_n hx hb dX9_floats_10 rfl (lv_at hl 0 rfl) ?_
    refine lv_iload_n hx hb dX9_floats_11 rfl (lv_at hl 1 rfl) ?_
    obtain ⟨r2, hc2, hf⟩ := k_b1_some hf
    refine k_ViR (q0 := 0) (As := [.int a1]) (rest := []) S0 (c_X9_tideIn l D cI cZ cJ cS h h_now h_aside h_books h_tide h_rain h_rule h_counts h_begins h_best h_planks v_h_thrown v_h_kept v_h_counted v_h_bestWorth v_h_bestPitch v_h_bestBits v_h_leastHour v_h_leastSet v_h_shut f_h_tide a1 r2 hc2) (cwV 1 hts gX9_floats_X9_tideIn rfl rfl rfl hdV_X9_tideIn ⟨Nat.le_of_ble_eq_true rfl, Nat.le_of_ble_eq_true rfl⟩) hK hP hD hS hA hN [0, 2] rfl (by decide) rfl rfl rfl rfl hl.1 rfl (Nat.le_of_ble_eq_true rfl) dX9_floats_12 (fun H locs hP hS => ?_)
    refine lv_iload_n hx hb dX9_floats_15 rfl (lv_at hl 2 rfl) ?_
    refine lv_bipush (v := 20) hx hb dX9_floats_16 (by decide) ?_
    refine lv_idiv hx hb dX9_floats_18 (by decide) ?_
    refine lv_aload_n hx hb dX9_floats_19 rfl (lv_at hl 0 rfl) ?_
    refine k_get (C := RX9) (T := TX9) (N := 19) hx hb hts inX9 hown hK hP 0 rfl rfl 7 (by decide) rfl wl1 rfl dX9_floats_20 ?_
    refine lv_iconst (v := 0) hx hb dX9_floats_23 (by decide) ?_
    refine k_iald (k := 0) hx hb hK hP 1 0 rfl rfl (by unfold vp_in; decide) (by decide) dX9_floats_24 ?_
    refine lv_iadd hx hb dX9_floats_25 ?_
    refine lv_icmp_lt (tgt := 33) hx hb dX9_floats_26 (by decide) (fun c3 => ?_) (fun c3 => ?_)
    · replace hf := k_pos hf c3
      refine lv_iconst (v := 0) hx hb dX9_floats_33 (by decide) ?_
      exact hRet _ hf _ _ _ _ hP hD hS rfl dX9_floats_34
    · replace hf := k_neg hf c3
      refine lv_iconst (v := 1) hx hb dX9_floats_29 (by decide) ?_
      refine lv_goto (tgt := 34) hx hb dX9_floats_30 (by decide) ?_
      exact hRet _ hf _ _ _ _ hP hD hS rfl dX9_floats_34

def p_X9_ship (f_h_rule : Nat → Int32) (f_h_now : Nat → Int32) (f_h_tide : Nat → Int32) (f_h_rain : Nat → Int32) (a1 : Int32) : Option (Int32 × Int32) :=
  if a1 = 0 then
    k_b1 (p_X9_total f_h_rule f_h_now) fun r2 =>
    some (r2, 0)
  else
  if a1 = 1 then
    k_b1 (p_X9_total f_h_rule f_h_now) fun r4 =>
    some (r4 / 20, 0)
  else
  if a1 = 2 then
    some (f_h_now 1, 0)
  else
  if a1 = 3 then
    k_b1 (p_X9_force f_h_rule f_h_now (f_h_now 1)) fun r7 =>
    some (r7, 0)
  else
  if a1 = 4 then
    some (f_h_now 2, 0)
  else
  if a1 = 5 then
    if (f_h_now 1) = 0 then
      k_b1 (p_X9_states f_h_now 1) fun r11 =>
      if r11 = 0 then
        k_b1 (p_X9_total f_h_rule f_h_now) fun r13 =>
        k_b1 (p_X9_floats f_h_rule f_h_tide (f_h_now 0) r13) fun r14 =>
        if r14 = 0 then
          some (0, 0)
        else
          some (1, 0)
      else
        some (0, 0)
    else
      some (0, 0)
  else
  if a1 = 6 then
    k_b1 (p_X9_rains f_h_rain (f_h_now 0)) fun r17 =>
    k_b1 (p_X9_holds f_h_now f_h_rule (f_h_now 1) r17) fun r18 =>
    if r18 = 0 then
      some (0, 0)
    else
      some (1, 0)
  else
  if a1 = 7 then
    k_b1 (p_X9_isLost f_h_now) fun r21 =>
    if r21 = 0 then
      some (0, 0)
    else
      some (1, 0)
  else
    some ((-100), 0)
abbrev rm_X9_ship : Room := { frames := 5, cells := 0, slots := 0, locals := 113 }
theorem hdS_X9_ship : yX9_ship.cls ≠ "java/lang/invoke/MethodHandle" ∧ yX9_ship.cls ≠ "java/lang/invoke/VarHandle" ∧ (parseMethodDescriptor yX9_ship.desc).map (fun d => d.parameters.length) = some 1 := by decide +kernel
theorem hdV_X9_ship : yX9_ship.cls = RX9 ∧ yX9_ship.cls ≠ "java/lang/invoke/MethodHandle" ∧ yX9_ship.cls ≠ "java/lang/invoke/VarHandle" ∧ (parseMethodDescriptor yX9_ship.desc).map (fun d => d.parameters.length) = some 1 := by decide +kernel
set_option maxHeartbeats 4000000 in
set_option maxRecDepth 100000 in
theorem c_X9_ship (l : Launch) (D : va_G) (cI cZ cJ cS : ClassId) (h h_now h_aside h_books h_tide h_rain h_rule h_counts h_begins h_best h_planks : Nat) (v_h_thrown : Int32) (v_h_kept : Int32) (v_h_counted : Int32) (v_h_bestWorth : Int32) (v_h_bestPitch : Int32) (v_h_bestBits : Int32) (v_h_leastHour : Int32) (v_h_leastSet : Int32) (v_h_shut : Int32) (f_h_rule : Nat → Int32) (f_h_now : Nat → Int32) (f_h_tide : Nat → Int32) (f_h_rain : Nat → Int32) (a1 : Int32) (r : Int32) (v_h_thrown' : Int32) (hf : p_X9_ship f_h_rule f_h_now f_h_tide f_h_rain a1 = some (r, v_h_thrown')) : k_MI l yX9_ship wsX9_ship rm_X9_ship D (k_tys cI cZ cJ cS) [.ref h, .int a1] [(h, .inr (9, [.int v_h_thrown, .ref h_now, .ref h_aside, .int v_h_kept, .ref h_books, .ref h_tide, .ref h_rain, .ref h_rule, .int v_h_counted, .ref h_counts, .ref h_begins, .ref h_best, .int v_h_bestWorth, .int v_h_bestPitch, .int v_h_bestBits, .int v_h_leastHour, .int v_h_leastSet, .int v_h_shut, .ref h_planks])), (h_rule, .inl (cI, 8, .inl f_h_rule)), (h_now, .inl (cI, 169, .inl f_h_now)), (h_tide, .inl (cI, 96, .inl f_h_tide)), (h_rain, .inl (cI, 96, .inl f_h_rain))] [(h, .inr (9, [.int v_h_thrown', .ref h_now, .ref h_aside, .int v_h_kept, .ref h_books, .ref h_tide, .ref h_rain, .ref h_rule, .int v_h_counted, .ref h_counts, .ref h_begins, .ref h_best, .int v_h_bestWorth, .int v_h_bestPitch, .int v_h_bestBits, .int v_h_leastHour, .int v_h_leastSet, .int v_h_shut, .ref h_planks])), (h_rule, .inl (cI, 8, .inl f_h_rule)), (h_now, .inl (cI, 169, .inl f_h_now)), (h_tide, .inl (cI, 96, .inl f_h_tide)), (h_rain, .inl (cI, 96, .inl f_h_rain))] r := by
  refine k_enter (y := yX9_ship) (wl := wsX9_ship) (rm := rm_X9_ship) (av := [.ref h, .int a1]) (D := D) (tys := k_tys cI cZ cJ cS) (ws := [(h, .inr (9, [.int v_h_thrown, .ref h_now, .ref h_aside, .int v_h_kept, .ref h_books, .ref h_tide, .ref h_rain, .ref h_rule, .int v_h_counted, .ref h_counts, .ref h_begins, .ref h_best, .int v_h_bestWorth, .int v_h_bestPitch, .int v_h_bestBits, .int v_h_leastHour, .int v_h_leastSet, .int v_h_shut, .ref h_planks])), (h_rule, .inl (cI, 8, .inl f_h_rule)), (h_now, .inl (cI, 169, .inl f_h_now)), (h_tide, .inl (cI, 96, .inl f_h_tide)), (h_rain, .inl (cI, 96, .inl f_h_rain))]) (cc := cX9_ship) (maxL := 2) (ret := (some .int)) (Qc := fun A => k_Qi D (k_tys cI cZ cJ cS) [(h, .inr (9, [.int v_h_thrown', .ref h_now, .ref h_aside, .int v_h_kept, .ref h_books, .ref h_tide, .ref h_rain, .ref h_rule, .int v_h_counted, .ref h_counts, .ref h_begins, .ref h_best, .int v_h_bestWorth, .int v_h_bestPitch, .int v_h_bestBits, .int v_h_leastHour, .int v_h_leastSet, .int v_h_shut, .ref h_planks])), (h_rule, .inl (cI, 8, .inl f_h_rule)), (h_now, .inl (cI, 169, .inl f_h_now)), (h_tide, .inl (cI, 96, .inl f_h_tide)), (h_rain, .inl (cI, 96, .inl f_h_rain))] A r) (by decide) rfl (Nat.le_of_ble_eq_true rfl) [(0, .ref h), (1, .int a1)] rfl ?_
  intro p e s m below meth c A hx hb hml hr hlocks hnm hown hK hP hD hA hS hN ls args Q hts hl hQ
  replace hown : s.vm.findClass RX9 = some m.cls := hown
  have S0 : CallFix p m c cX9_ship 2 s args wsX9_ship RX9 := ⟨hx, hb, hml, hown, hts⟩
  have inX9 : ∀ w ∈ u_ws RX9 TX9 19, w ∈ wsX9_ship := fun w h => List.mem_cons_of_mem _ (List.mem_append_right _ h)
  have wl1 : (Cond.fieldLink RX9 1 "BeachedShipModel" "thrown" "I").before args s = true := hts _ (List.mem_of_getElem? (i := 1) rfl)
  have wl2 : (Cond.fieldLink RX9 13 "BeachedShipModel" "now" "[I").before args s = true := hts _ (List.mem_of_getElem? (i := 2) rfl)
  have hRet : ∀ (r_z : Int32) (v_h_thrown_z : Int32), some (r_z, v_h_thrown_z) = some (r, v_h_thrown') → ∀ (H : Heap) (locs : List Loc) (ls : Array Slot) (pc : Nat), va_P D vwCl [(h, .inr (9, [.int v_h_thrown_z, .ref h_now, .ref h_aside, .int v_h_kept, .ref h_books, .ref h_tide, .ref h_rain, .ref h_rule, .int v_h_counted, .ref h_counts, .ref h_begins, .ref h_best, .int v_h_bestWorth, .int v_h_bestPitch, .int v_h_bestBits, .int v_h_leastHour, .int v_h_leastSet, .int v_h_shut, .ref h_planks])), (h_rule, .inl (cI, 8, .inl f_h_rule)), (h_now, .inl (cI, 169, .inl f_h_now)), (h_tide, .inl (cI, 96, .inl f_h_tide)), (h_rain, .inl (cI, 96, .inl f_h_rain))] H → va_D A [(h, .inr (9, [.int v_h_thrown_z, .ref h_now, .ref h_aside, .int v_h_kept, .ref h_books, .ref h_tide, .ref h_rain, .ref h_rule, .int v_h_counted, .ref h_counts, .ref h_begins, .ref h_best, .int v_h_bestWorth, .int v_h_bestPitch, .int v_h_bestBits, .int v_h_leastHour, .int v_h_leastSet, .int v_h_shut, .ref h_planks])), (h_rule, .inl (cI, 8, .inl f_h_rule)), (h_now, .inl (cI, 169, .inl f_h_now)), (h_tide, .inl (cI, 96, .inl f_h_tide)), (h_rain, .inl (cI, 96, .inl f_h_rain))] → va_S A s.heap H locs → narrow .int (.int r_z) = .int r_z → decode cX9_ship pc = .ok (.ireturn, 1) → W p l e rm_X9_ship s m args below meth c H locs 0 0 Q (F0 m pc ls [.int r_z]) := by
    intro r_z v_h_thrown_z hz H locs ls pc hP hD hS hn hd
    cases hz
    exact k_iret hx hb hr hlocks hn hK hP hD hS hQ rfl hd
  unfold p_X9_ship at hf
  refine lv_aload_n hx hb dX9_ship_0 rfl (lv_at hl 0 rfl) ?_
  refine lv_iconst (v := 0) hx hb dX9_ship_1 (by decide) ?_
  refine k_putf (ws2 := [(h, .inr (9, [.int 0, .ref h_now, .ref h_aside, .int v_h_kept, .ref h_books, .ref h_tide, .ref h_rain, .ref h_rule, .int v_h_counted, .ref h_counts, .ref h_begins, .ref h_best, .int v_h_bestWorth, .int v_h_bestPitch, .int v_h_bestBits, .int v_h_leastHour, .int v_h_leastSet, .int v_h_shut, .ref h_planks])), (h_rule, .inl (cI, 8, .inl f_h_rule)), (h_now, .inl (cI, 169, .inl f_h_now)), (h_tide, .inl (cI, 96, .inl f_h_tide)), (h_rain, .inl (cI, 96, .inl f_h_rain))]) (C := RX9) (T := TX9) (N := 19) hx hb hts inX9 tyX9 tyX9_ok nmX9 hown hK hP hD hS 0 rfl rfl 0 (by decide) rfl wl1 rfl rfl rfl (Nat.le_of_ble_eq_true rfl) rfl dX9_ship_2 (fun H locs hP hD hS => ?_)
  refine lv_iload_n hx hb dX9_ship_5 rfl (lv_at hl 1 rfl) ?_
  by_cases c1 : a1 = 0
  · replace hf := k_pos hf c1
    refine k_tsw (k := 0) (j := 0) (off := 46) (tgt := 52) hx hb dX9_ship_6 c1 (by decide) (by decide) (by decide) rfl (by decide) ?_
    refine lv_aload_n hx hb dX9_ship_52 rfl (lv_at hl 0 rfl) ?_
    obtain ⟨r2, hc2, hf⟩ := k_b1_some hf
    refine k_ViR (q0 := 0) (As := []) (rest := []) S0 (c_X9_total l D cI cZ cJ cS h h_now h_aside h_books h_tide h_rain h_rule h_counts h_begins h_best h_planks 0 v_h_kept v_h_counted v_h_bestWorth v_h_bestPitch v_h_bestBits v_h_leastHour v_h_leastSet v_h_shut f_h_rule f_h_now r2 hc2) (cwV 0 hts gX9_ship_X9_total rfl rfl rfl hdV_X9_total ⟨Nat.le_of_ble_eq_true rfl, Nat.le_of_ble_eq_true rfl⟩) hK hP hD hS hA hN [0, 1, 2] rfl (by decide) rfl rfl rfl rfl hl.1 rfl (Nat.le_of_ble_eq_true rfl) dX9_ship_53 (fun H locs hP hS => ?_)
    exact hRet _ _ hf _ _ _ _ hP hD hS rfl dX9_ship_56
  · replace hf := k_neg hf c1
    by_cases c3 : a1 = 1
    · replace hf := k_pos hf c3
      refine k_tsw (k := 1) (j := 1) (off := 51) (tgt := 57) hx hb dX9_ship_6 c3 (by decide) (by decide) (by decide) rfl (by decide) ?_
      refine lv_aload_n hx hb dX9_ship_57 rfl (lv_at hl 0 rfl) ?_
      obtain ⟨r4, hc4, hf⟩ := k_b1_some hf
      refine k_ViR (q0 := 0) (As := []) (rest := []) S0 (c_X9_total l D cI cZ cJ cS h h_now h_aside h_books h_tide h_rain h_rule h_counts h_begins h_best h_planks 0 v_h_kept v_h_counted v_h_bestWorth v_h_bestPitch v_h_bestBits v_h_leastHour v_h_leastSet v_h_shut f_h_rule f_h_now r4 hc4) (cwV 0 hts gX9_ship_X9_total rfl rfl rfl hdV_X9_total ⟨Nat.le_of_ble_eq_true rfl, Nat.le_of_ble_eq_true rfl⟩) hK hP hD hS hA hN [0, 1, 2] rfl (by decide) rfl rfl rfl rfl hl.1 rfl (Nat.le_of_ble_eq_true rfl) dX9_ship_58 (fun H locs hP hS => ?_)
      refine lv_bipush (v := 20) hx hb dX9_ship_61 (by decide) ?_
      refine lv_idiv hx hb dX9_ship_63 (by decide) ?_
      exact hRet _ _ hf _ _ _ _ hP hD hS rfl dX9_ship_64
    · replace hf := k_neg hf c3
      by_cases c5 : a1 = 2
      · replace hf := k_pos hf c5
        refine k_tsw (k := 2) (j := 2) (off := 59) (tgt := 65) hx hb dX9_ship_6 c5 (by decide) (by decide) (by decide) rfl (by decide) ?_
        refine lv_aload_n hx hb dX9_ship_65 rfl (lv_at hl 0 rfl) ?_
        refine k_get (C := RX9) (T := TX9) (N := 19) hx hb hts inX9 hown hK hP 0 rfl rfl 1 (by decide) rfl wl2 rfl dX9_ship_66 ?_
        refine lv_iconst (v := 1) hx hb dX9_ship_69 (by decide) ?_
        refine k_iald (k := 1) hx hb hK hP 2 0 rfl rfl (by unfold vp_in; decide) (by decide) dX9_ship_70 ?_
        exact hRet _ _ hf _ _ _ _ hP hD hS rfl dX9_ship_71
      · replace hf := k_neg hf c5
        by_cases c6 : a1 = 3
        · replace hf := k_pos hf c6
          refine k_tsw (k := 3) (j := 3) (off := 66) (tgt := 72) hx hb dX9_ship_6 c6 (by decide) (by decide) (by decide) rfl (by decide) ?_
          refine lv_aload_n hx hb dX9_ship_72 rfl (lv_at hl 0 rfl) ?_
          refine lv_aload_n hx hb dX9_ship_73 rfl (lv_at hl 0 rfl) ?_
          refine k_get (C := RX9) (T := TX9) (N := 19) hx hb hts inX9 hown hK hP 0 rfl rfl 1 (by decide) rfl wl2 rfl dX9_ship_74 ?_
          refine lv_iconst (v := 1) hx hb dX9_ship_77 (by decide) ?_
          refine k_iald (k := 1) hx hb hK hP 2 0 rfl rfl (by unfold vp_in; decide) (by decide) dX9_ship_78 ?_
          obtain ⟨r7, hc7, hf⟩ := k_b1_some hf
          refine k_ViR (q0 := 0) (As := [.int (f_h_now 1)]) (rest := []) S0 (c_X9_force l D cI cZ cJ cS h h_now h_aside h_books h_tide h_rain h_rule h_counts h_begins h_best h_planks 0 v_h_kept v_h_counted v_h_bestWorth v_h_bestPitch v_h_bestBits v_h_leastHour v_h_leastSet v_h_shut f_h_rule f_h_now (f_h_now 1) r7 hc7) (cwV 1 hts gX9_ship_X9_force rfl rfl rfl hdV_X9_force ⟨Nat.le_of_ble_eq_true rfl, Nat.le_of_ble_eq_true rfl⟩) hK hP hD hS hA hN [0, 1, 2] rfl (by decide) rfl rfl rfl rfl hl.1 rfl (Nat.le_of_ble_eq_true rfl) dX9_ship_79 (fun H locs hP hS => ?_)
          exact hRet _ _ hf _ _ _ _ hP hD hS rfl dX9_ship_82
        · replace hf := k_neg hf c6
          by_cases c8 : a1 = 4
          · replace hf := k_pos hf c8
            refine k_tsw (k := 4) (j := 4) (off := 77) (tgt := 83) hx hb dX9_ship_6 c8 (by decide) (by decide) (by decide) rfl (by decide) ?_
            refine lv_aload_n hx hb dX9_ship_83 rfl (lv_at hl 0 rfl) ?_
            refine k_get (C := RX9) (T := TX9) (N := 19) hx hb hts inX9 hown hK hP 0 rfl rfl 1 (by decide) rfl wl2 rfl dX9_ship_84 ?_
            refine lv_iconst (v := 2) hx hb dX9_ship_87 (by decide) ?_
            refine k_iald (k := 2) hx hb hK hP 2 0 rfl rfl (by unfold vp_in; decide) (by decide) dX9_ship_88 ?_
            exact hRet _ _ hf _ _ _ _ hP hD hS rfl dX9_ship_89
          · replace hf := k_neg hf c8
            by_cases c9 : a1 = 5
            · replace hf := k_pos hf c9
              refine k_tsw (k := 5) (j := 5) (off := 84) (tgt := 90) hx hb dX9_ship_6 c9 (by decide) (by decide) (by decide) rfl (by decide) ?_
              refine lv_aload_n hx hb dX9_ship_90 rfl (lv_at hl 0 rfl) ?_
              refine k_get (C := RX9) (T := TX9) (N := 19) hx hb hts inX9 hown hK hP 0 rfl rfl 1 (by decide) rfl wl2 rfl dX9_ship_91 ?_
              refine lv_iconst (v := 1) hx hb dX9_ship_94 (by decide) ?_
              refine k_iald (k := 1) hx hb hK hP 2 0 rfl rfl (by unfold vp_in; decide) (by decide) dX9_ship_95 ?_
              refine lv_if_ne (tgt := 128) hx hb dX9_ship_96 (by decide) (fun c10 => ?_) (fun c10 => ?_)
              · replace hf := k_neg hf c10
                refine lv_iconst (v := 0) hx hb dX9_ship_128 (by decide) ?_
                exact hRet _ _ hf _ _ _ _ hP hD hS rfl dX9_ship_129
              · replace hf := k_pos hf c10
                refine lv_aload_n hx hb dX9_ship_99 rfl (lv_at hl 0 rfl) ?_
                refine lv_iconst (v := 1) hx hb dX9_ship_100 (by decide) ?_
                obtain ⟨r11, hc11, hf⟩ := k_b1_some hf
                refine k_ViR (q0 := 0) (As := [.int 1]) (rest := []) S0 (c_X9_states l D cI cZ cJ cS h h_now h_aside h_books h_tide h_rain h_rule h_counts h_begins h_best h_planks 0 v_h_kept v_h_counted v_h_bestWorth v_h_bestPitch v_h_bestBits v_h_leastHour v_h_leastSet v_h_shut f_h_now 1 r11 hc11) (cwV 1 hts gX9_ship_X9_states rfl rfl rfl hdV_X9_states ⟨Nat.le_of_ble_eq_true rfl, Nat.le_of_ble_eq_true rfl⟩) hK hP hD hS hA hN [0, 2] rfl (by decide) rfl rfl rfl rfl hl.1 rfl (Nat.le_of_ble_eq_true rfl) dX9_ship_101 (fun H locs hP hS => ?_)
                refine lv_if_ne (tgt := 128) hx hb dX9_ship_104 (by decide) (fun c12 => ?_) (fun c12 => ?_)
                · replace hf := k_neg hf c12
                  refine lv_iconst (v := 0) hx hb dX9_ship_128 (by decide) ?_
                  exact hRet _ _ hf _ _ _ _ hP hD hS rfl dX9_ship_129
                · replace hf := k_pos hf c12
                  refine lv_aload_n hx hb dX9_ship_107 rfl (lv_at hl 0 rfl) ?_
                  refine lv_aload_n hx hb dX9_ship_108 rfl (lv_at hl 0 rfl) ?_
                  refine k_get (C := RX9) (T := TX9) (N := 19) hx hb hts inX9 hown hK hP 0 rfl rfl 1 (by decide) rfl wl2 rfl dX9_ship_109 ?_
                  refine lv_iconst (v := 0) hx hb dX9_ship_112 (by decide) ?_
                  refine k_iald (k := 0) hx hb hK hP 2 0 rfl rfl (by unfold vp_in; decide) (by decide) dX9_ship_113 ?_
                  refine lv_aload_n hx hb dX9_ship_114 rfl (lv_at hl 0 rfl) ?_
                  obtain ⟨r13, hc13, hf⟩ := k_b1_some hf
                  refine k_ViR (q0 := 0) (As := []) (rest := [.int (f_h_now 0), .ref h]) S0 (c_X9_total l D cI cZ cJ cS h h_now h_aside h_books h_tide h_rain h_rule h_counts h_begins h_best h_planks 0 v_h_kept v_h_counted v_h_bestWorth v_h_bestPitch v_h_bestBits v_h_leastHour v_h_leastSet v_h_shut f_h_rule f_h_now r13 hc13) (cwV 0 hts gX9_ship_X9_total rfl rfl rfl hdV_X9_total ⟨Nat.le_of_ble_eq_true rfl, Nat.le_of_ble_eq_true rfl⟩) hK hP hD hS hA hN [0, 1, 2] rfl (by decide) rfl rfl rfl rfl hl.1 rfl (Nat.le_of_ble_eq_true rfl) dX9_ship_115 (fun H locs hP hS => ?_)
                  obtain ⟨r14, hc14, hf⟩ := k_b1_some hf
                  refine k_ViR (q0 := 0) (As := [.int (f_h_now 0), .int r13]) (rest := []) S0 (c_X9_floats l D cI cZ cJ cS h h_now h_aside h_books h_tide h_rain h_rule h_counts h_begins h_best h_planks 0 v_h_kept v_h_counted v_h_bestWorth v_h_bestPitch v_h_bestBits v_h_leastHour v_h_leastSet v_h_shut f_h_rule f_h_tide (f_h_now 0) r13 r14 hc14) (cwV 2 hts gX9_ship_X9_floats rfl rfl rfl hdV_X9_floats ⟨Nat.le_of_ble_eq_true rfl, Nat.le_of_ble_eq_true rfl⟩) hK hP hD hS hA hN [0, 1, 3] rfl (by decide) rfl rfl rfl rfl hl.1 rfl (Nat.le_of_ble_eq_true rfl) dX9_ship_118 (fun H locs hP hS => ?_)
                  refine lv_if_eq (tgt := 128) hx hb dX9_ship_121 (by decide) (fun c15 => ?_) (fun c15 => ?_)
                  · replace hf := k_pos hf c15
                    refine lv_iconst (v := 0) hx hb dX9_ship_128 (by decide) ?_
                    exact hRet _ _ hf _ _ _ _ hP hD hS rfl dX9_ship_129
                  · replace hf := k_neg hf c15
                    refine lv_iconst (v := 1) hx hb dX9_ship_124 (by decide) ?_
                    refine lv_goto (tgt := 129) hx hb dX9_ship_125 (by decide) ?_
                    exact hRet _ _ hf _ _ _ _ hP hD hS rfl dX9_ship_129
            · replace hf := k_neg hf c9
              by_cases c16 : a1 = 6
              · replace hf := k_pos hf c16
                refine k_tsw (k := 6) (j := 6) (off := 124) (tgt := 130) hx hb dX9_ship_6 c16 (by decide) (by decide) (by decide) rfl (by decide) ?_
                refine lv_aload_n hx hb dX9_ship_130 rfl (lv_at hl 0 rfl) ?_
                refine lv_aload_n hx hb dX9_ship_131 rfl (lv_at hl 0 rfl) ?_
                refine k_get (C := RX9) (T := TX9) (N := 19) hx hb hts inX9 hown hK hP 0 rfl rfl 1 (by decide) rfl wl2 rfl dX9_ship_132 ?_
                refine lv_iconst (v := 1) hx hb dX9_ship_135 (by decide) ?_
                refine k_iald (k := 1) hx hb hK hP 2 0 rfl rfl (by unfold vp_in; decide) (by decide) dX9_ship_136 ?_
                refine lv_aload_n hx hb dX9_ship_137 rfl (lv_at hl 0 rfl) ?_
                refine lv_aload_n hx hb dX9_ship_138 rfl (lv_at hl 0 rfl) ?_
                refine k_get (C := RX9) (T := TX9) (N := 19) hx hb hts inX9 hown hK hP 0 rfl rfl 1 (by decide) rfl wl2 rfl dX9_ship_139 ?_
                refine lv_iconst (v := 0) hx hb dX9_ship_142 (by decide) ?_
                refine k_iald (k := 0) hx hb hK hP 2 0 rfl rfl (by unfold vp_in; decide) (by decide) dX9_ship_143 ?_
                obtain ⟨r17, hc17, hf⟩ := k_b1_some hf
                refine k_ViR (q0 := 0) (As := [.int (f_h_now 0)]) (rest := [.int (f_h_now 1), .ref h]) S0 (c_X9_rains l D cI cZ cJ cS h h_now h_aside h_books h_tide h_rain h_rule h_counts h_begins h_best h_planks 0 v_h_kept v_h_counted v_h_bestWorth v_h_bestPitch v_h_bestBits v_h_leastHour v_h_leastSet v_h_shut f_h_rain (f_h_now 0) r17 hc17) (cwV 1 hts gX9_ship_X9_rains rfl rfl rfl hdV_X9_rains ⟨Nat.le_of_ble_eq_true rfl, Nat.le_of_ble_eq_true rfl⟩) hK hP hD hS hA hN [0, 4] rfl (by decide) rfl rfl rfl rfl hl.1 rfl (Nat.le_of_ble_eq_true rfl) dX9_ship_144 (fun H locs hP hS => ?_)
                obtain ⟨r18, hc18, hf⟩ := k_b1_some hf
                refine k_ViR (q0 := 0) (As := [.int (f_h_now 1), .int r17]) (rest := []) S0 (c_X9_holds l D cI cZ cJ cS h h_now h_aside h_books h_tide h_rain h_rule h_counts h_begins h_best h_planks 0 v_h_kept v_h_counted v_h_bestWorth v_h_bestPitch v_h_bestBits v_h_leastHour v_h_leastSet v_h_shut f_h_now f_h_rule (f_h_now 1) r17 r18 hc18) (cwV 2 hts gX9_ship_X9_holds rfl rfl rfl hdV_X9_holds ⟨Nat.le_of_ble_eq_true rfl, Nat.le_of_ble_eq_true rfl⟩) hK hP hD hS hA hN [0, 2, 1] rfl (by decide) rfl rfl rfl rfl hl.1 rfl (Nat.le_of_ble_eq_true rfl) dX9_ship_147 (fun H locs hP hS => ?_)
                refine lv_if_eq (tgt := 157) hx hb dX9_ship_150 (by decide) (fun c19 => ?_) (fun c19 => ?_)
                · replace hf := k_pos hf c19
                  refine lv_iconst (v := 0) hx hb dX9_ship_157 (by decide) ?_
                  exact hRet _ _ hf _ _ _ _ hP hD hS rfl dX9_ship_158
                · replace hf := k_neg hf c19
                  refine lv_iconst (v := 1) hx hb dX9_ship_153 (by decide) ?_
                  refine lv_goto (tgt := 158) hx hb dX9_ship_154 (by decide) ?_
                  exact hRet _ _ hf _ _ _ _ hP hD hS rfl dX9_ship_158
              · replace hf := k_neg hf c16
                by_cases c20 : a1 = 7
                · replace hf := k_pos hf c20
                  refine k_tsw (k := 7) (j := 7) (off := 153) (tgt := 159) hx hb dX9_ship_6 c20 (by decide) (by decide) (by decide) rfl (by decide) ?_
                  refine lv_aload_n hx hb dX9_ship_159 rfl (lv_at hl 0 rfl) ?_
                  obtain ⟨r21, hc21, hf⟩ := k_b1_some hf
                  refine k_ViR (q0 := 0) (As := []) (rest := []) S0 (c_X9_isLost l D cI cZ cJ cS h h_now h_aside h_books h_tide h_rain h_rule h_counts h_begins h_best h_planks 0 v_h_kept v_h_counted v_h_bestWorth v_h_bestPitch v_h_bestBits v_h_leastHour v_h_leastSet v_h_shut f_h_now r21 hc21) (cwV 0 hts gX9_ship_X9_isLost rfl rfl rfl hdV_X9_isLost ⟨Nat.le_of_ble_eq_true rfl, Nat.le_of_ble_eq_true rfl⟩) hK hP hD hS hA hN [0, 2] rfl (by decide) rfl rfl rfl rfl hl.1 rfl (Nat.le_of_ble_eq_true rfl) dX9_ship_160 (fun H locs hP hS => ?_)
                  refine lv_if_eq (tgt := 170) hx hb dX9_ship_163 (by decide) (fun c22 => ?_) (fun c22 => ?_)
                  · replace hf := k_pos hf c22
                    refine lv_iconst (v := 0) hx hb dX9_ship_170 (by decide) ?_
                    exact hRet _ _ hf _ _ _ _ hP hD hS rfl dX9_ship_171
                  · replace hf := k_neg hf c22
                    refine lv_iconst (v := 1) hx hb dX9_ship_166 (by decide) ?_
                    refine lv_goto (tgt := 171) hx hb dX9_ship_167 (by decide) ?_
                    exact hRet _ _ hf _ _ _ _ hP hD hS rfl dX9_ship_171
                · replace hf := k_neg hf c20
                  refine lv_tableOut (tgt := 172) hx hb dX9_ship_6 (by have := k_ne_toInt c1; have e0 : (0 : Int32).toInt = 0 := (by decide); have := k_ne_toInt c3; have e1 : (1 : Int32).toInt = 1 := (by decide); have := k_ne_toInt c5; have e2 : (2 : Int32).toInt = 2 := (by decide); have := k_ne_toInt c6; have e3 : (3 : Int32).toInt = 3 := (by decide); have := k_ne_toInt c8; have e4 : (4 : Int32).toInt = 4 := (by decide); have := k_ne_toInt c9; have e5 : (5 : Int32).toInt = 5 := (by decide); have := k_ne_toInt c16; have e6 : (6 : Int32).toInt = 6 := (by decide); have := k_ne_toInt c20; have e7 : (7 : Int32).toInt = 7 := (by decide); omega) (by decide) ?_
                  refine lv_bipush (v := (-100)) hx hb dX9_ship_172 (by decide) ?_
                  exact hRet _ _ hf _ _ _ _ hP hD hS rfl dX9_ship_174

def p_X9_tackleTold (f_h_now : Nat → Int32) (f_h_rain : Nat → Int32) (f_h_rule : Nat → Int32) (a1 : Int32) (a2 : Int32) : Option (Int32 × Int32) :=
  k_b1 (p_X9_in ((a1).toInt64) 0 (((f_h_now 11) - 1).toInt64)) fun r1 =>
  if r1 = 0 then
    some ((-1), 0)
  else
    k_b1 (p_X9_in ((a2).toInt64) 0 3) fun r3 =>
    if r3 = 0 then
      some ((-1), 0)
    else
      k_ix (67 + a1) 169 (
        if (f_h_now (67 + a1).toNatClampNeg) = 0 then
          some (0, 0)
        else
          if a2 = 0 then
            k_b1 (p_X9_takes f_h_now f_h_rule (f_h_now 1)) fun r13 =>
            some (r13, 0)
          else
            if a2 = 1 then
              k_b1 (p_X9_ropeOf f_h_now f_h_rule a1 (f_h_now 1)) fun r12 =>
              some (r12, 0)
            else
              if a2 = 2 then
                k_b1 (p_X9_rains f_h_rain (f_h_now 0)) fun r10 =>
                k_b1 (p_X9_may f_h_now a1 r10) fun r11 =>
                some (r11, 0)
              else
                some (1, 0))
abbrev rm_X9_tackleTold : Room := { frames := 4, cells := 0, slots := 0, locals := 87 }
theorem hdS_X9_tackleTold : yX9_tackleTold.cls ≠ "java/lang/invoke/MethodHandle" ∧ yX9_tackleTold.cls ≠ "java/lang/invoke/VarHandle" ∧ (parseMethodDescriptor yX9_tackleTold.desc).map (fun d => d.parameters.length) = some 2 := by decide +kernel
theorem hdV_X9_tackleTold : yX9_tackleTold.cls = RX9 ∧ yX9_tackleTold.cls ≠ "java/lang/invoke/MethodHandle" ∧ yX9_tackleTold.cls ≠ "java/lang/invoke/VarHandle" ∧ (parseMethodDescriptor yX9_tackleTold.desc).map (fun d => d.parameters.length) = some 2 := by decide +kernel
set_option maxHeartbeats 4000000 in
set_option maxRecDepth 100000 in
theorem c_X9_tackleTold (l : Launch) (D : va_G) (cI cZ cJ cS : ClassId) (h h_now h_aside h_books h_tide h_rain h_rule h_counts h_begins h_best h_planks : Nat) (v_h_thrown : Int32) (v_h_kept : Int32) (v_h_counted : Int32) (v_h_bestWorth : Int32) (v_h_bestPitch : Int32) (v_h_bestBits : Int32) (v_h_leastHour : Int32) (v_h_leastSet : Int32) (v_h_shut : Int32) (f_h_now : Nat → Int32) (f_h_rain : Nat → Int32) (f_h_rule : Nat → Int32) (a1 : Int32) (a2 : Int32) (r : Int32) (v_h_thrown' : Int32) (hf : p_X9_tackleTold f_h_now f_h_rain f_h_rule a1 a2 = some (r, v_h_thrown')) : k_MI l yX9_tackleTold wsX9_tackleTold rm_X9_tackleTold D (k_tys cI cZ cJ cS) [.ref h, .int a1, .int a2] [(h, .inr (9, [.int v_h_thrown, .ref h_now, .ref h_aside, .int v_h_kept, .ref h_books, .ref h_tide, .ref h_rain, .ref h_rule, .int v_h_counted, .ref h_counts, .ref h_begins, .ref h_best, .int v_h_bestWorth, .int v_h_bestPitch, .int v_h_bestBits, .int v_h_leastHour, .int v_h_leastSet, .int v_h_shut, .ref h_planks])), (h_now, .inl (cI, 169, .inl f_h_now)), (h_rain, .inl (cI, 96, .inl f_h_rain)), (h_rule, .inl (cI, 8, .inl f_h_rule))] [(h, .inr (9, [.int v_h_thrown', .ref h_now, .ref h_aside, .int v_h_kept, .ref h_books, .ref h_tide, .ref h_rain, .ref h_rule, .int v_h_counted, .ref h_counts, .ref h_begins, .ref h_best, .int v_h_bestWorth, .int v_h_bestPitch, .int v_h_bestBits, .int v_h_leastHour, .int v_h_leastSet, .int v_h_shut, .ref h_planks])), (h_now, .inl (cI, 169, .inl f_h_now)), (h_rain, .inl (cI, 96, .inl f_h_rain)), (h_rule, .inl (cI, 8, .inl f_h_rule))] r := by
  refine k_enter (y := yX9_tackleTold) (wl := wsX9_tackleTold) (rm := rm_X9_tackleTold) (av := [.ref h, .int a1, .int a2]) (D := D) (tys := k_tys cI cZ cJ cS) (ws := [(h, .inr (9, [.int v_h_thrown, .ref h_now, .ref h_aside, .int v_h_kept, .ref h_books, .ref h_tide, .ref h_rain, .ref h_rule, .int v_h_counted, .ref h_counts, .ref h_begins, .ref h_best, .int v_h_bestWorth, .int v_h_bestPitch, .int v_h_bestBits, .int v_h_leastHour, .int v_h_leastSet, .int v_h_shut, .ref h_planks])), (h_now, .inl (cI, 169, .inl f_h_now)), (h_rain, .inl (cI, 96, .inl f_h_rain)), (h_rule, .inl (cI, 8, .inl f_h_rule))]) (cc := cX9_tackleTold) (maxL := 3) (ret := (some .int)) (Qc := fun A => k_Qi D (k_tys cI cZ cJ cS) [(h, .inr (9, [.int v_h_thrown', .ref h_now, .ref h_aside, .int v_h_kept, .ref h_books, .ref h_tide, .ref h_rain, .ref h_rule, .int v_h_counted, .ref h_counts, .ref h_begins, .ref h_best, .int v_h_bestWorth, .int v_h_bestPitch, .int v_h_bestBits, .int v_h_leastHour, .int v_h_leastSet, .int v_h_shut, .ref h_planks])), (h_now, .inl (cI, 169, .inl f_h_now)), (h_rain, .inl (cI, 96, .inl f_h_rain)), (h_rule, .inl (cI, 8, .inl f_h_rule))] A r) (by decide) rfl (Nat.le_of_ble_eq_true rfl) [(0, .ref h), (1, .int a1), (2, .int a2)] rfl ?_
  intro p e s m below meth c A hx hb hml hr hlocks hnm hown hK hP hD hA hS hN ls args Q hts hl hQ
  replace hown : s.vm.findClass RX9 = some m.cls := hown
  have S0 : CallFix p m c cX9_tackleTold 3 s args wsX9_tackleTold RX9 := ⟨hx, hb, hml, hown, hts⟩
  have inX9 : ∀ w ∈ u_ws RX9 TX9 19, w ∈ wsX9_tackleTold := fun w h => List.mem_cons_of_mem _ (List.mem_append_right _ h)
  have wl1 : (Cond.fieldLink RX9 1 "BeachedShipModel" "thrown" "I").before args s = true := hts _ (List.mem_of_getElem? (i := 1) rfl)
  have wl2 : (Cond.fieldLink RX9 13 "BeachedShipModel" "now" "[I").before args s = true := hts _ (List.mem_of_getElem? (i := 2) rfl)
  have wl3 : (Cond.constantLong RX9 127 (3)).before args s = true := hts _ (List.mem_of_getElem? (i := 3) rfl)
  have hRet : ∀ (r_z : Int32) (v_h_thrown_z : Int32), some (r_z, v_h_thrown_z) = some (r, v_h_thrown') → ∀ (H : Heap) (locs : List Loc) (ls : Array Slot) (pc : Nat), va_P D vwCl [(h, .inr (9, [.int v_h_thrown_z, .ref h_now, .ref h_aside, .int v_h_kept, .ref h_books, .ref h_tide, .ref h_rain, .ref h_rule, .int v_h_counted, .ref h_counts, .ref h_begins, .ref h_best, .int v_h_bestWorth, .int v_h_bestPitch, .int v_h_bestBits, .int v_h_leastHour, .int v_h_leastSet, .int v_h_shut, .ref h_planks])), (h_now, .inl (cI, 169, .inl f_h_now)), (h_rain, .inl (cI, 96, .inl f_h_rain)), (h_rule, .inl (cI, 8, .inl f_h_rule))] H → va_D A [(h, .inr (9, [.int v_h_thrown_z, .ref h_now, .ref h_aside, .int v_h_kept, .ref h_books, .ref h_tide, .ref h_rain, .ref h_rule, .int v_h_counted, .ref h_counts, .ref h_begins, .ref h_best, .int v_h_bestWorth, .int v_h_bestPitch, .int v_h_bestBits, .int v_h_leastHour, .int v_h_leastSet, .int v_h_shut, .ref h_planks])), (h_now, .inl (cI, 169, .inl f_h_now)), (h_rain, .inl (cI, 96, .inl f_h_rain)), (h_rule, .inl (cI, 8, .inl f_h_rule))] → va_S A s.heap H locs → narrow .int (.int r_z) = .int r_z → decode cX9_tackleTold pc = .ok (.ireturn, 1) → W p l e rm_X9_tackleTold s m args below meth c H locs 0 0 Q (F0 m pc ls [.int r_z]) := by
    intro r_z v_h_thrown_z hz H locs ls pc hP hD hS hn hd
    cases hz
    exact k_iret hx hb hr hlocks hn hK hP hD hS hQ rfl hd
  unfold p_X9_tackleTold at hf
  refine lv_aload_n hx hb dX9_tackleTold_0 rfl (lv_at hl 0 rfl) ?_
  refine lv_iconst (v := 0) hx hb dX9_tackleTold_1 (by decide) ?_
  refine k_putf (ws2 := [(h, .inr (9, [.int 0, .ref h_now, .ref h_aside, .int v_h_kept, .ref h_books, .ref h_tide, .ref h_rain, .ref h_rule, .int v_h_counted, .ref h_counts, .ref h_begins, .ref h_best, .int v_h_bestWorth, .int v_h_bestPitch, .int v_h_bestBits, .int v_h_leastHour, .int v_h_leastSet, .int v_h_shut, .ref h_planks])), (h_now, .inl (cI, 169, .inl f_h_now)), (h_rain, .inl (cI, 96, .inl f_h_rain)), (h_rule, .inl (cI, 8, .inl f_h_rule))]) (C := RX9) (T := TX9) (N := 19) hx hb hts inX9 tyX9 tyX9_ok nmX9 hown hK hP hD hS 0 rfl rfl 0 (by decide) rfl wl1 rfl rfl rfl (Nat.le_of_ble_eq_true rfl) rfl dX9_tackleTold_2 (fun H locs hP hD hS => ?_)
  refine lv_iload_n hx hb dX9_tackleTold_5 rfl (lv_at hl 1 rfl) ?_
  refine lv_i2l (v := (a1).toInt64) hx hb dX9_tackleTold_6 rfl ?_
  refine lv_lconst (v := 0) hx hb dX9_tackleTold_7 (by decide) ?_
  refine lv_aload_n hx hb dX9_tackleTold_8 rfl (lv_at hl 0 rfl) ?_
  refine k_get (C := RX9) (T := TX9) (N := 19) hx hb hts inX9 hown hK hP 0 rfl rfl 1 (by decide) rfl wl2 rfl dX9_tackleTold_9 ?_
  refine lv_bipush (v := 11) hx hb dX9_tackleTold_12 (by decide) ?_
  refine k_iald (k := 11) hx hb hK hP 1 0 rfl rfl (by unfold vp_in; decide) (by decide) dX9_tackleTold_14 ?_
  refine lv_iconst (v := 1) hx hb dX9_tackleTold_15 (by decide) ?_
  refine lv_isub hx hb dX9_tackleTold_16 ?_
  refine lv_i2l (v := ((f_h_now 11) - 1).toInt64) hx hb dX9_tackleTold_17 rfl ?_
  obtain ⟨r1, hc1, hf⟩ := k_b1_some hf
  refine k_SiR (As := [.long ((a1).toInt64), .long 0, .long (((f_h_now 11) - 1).toInt64)]) (rest := []) S0 (c_X9_in l D cI cZ cJ cS ((a1).toInt64) 0 (((f_h_now 11) - 1).toInt64) r1 hc1) (va_cwS 3 hts gX9_tackleTold_X9_in rfl rfl rfl hdS_X9_in ⟨Nat.le_of_ble_eq_true rfl, Nat.le_of_ble_eq_true rfl⟩) hK hP hD hS hA hN [] rfl (by decide) rfl hl.1 rfl (Nat.le_of_ble_eq_true rfl) dX9_tackleTold_18 (fun H locs hP hS => ?_)
  refine lv_if_eq (tgt := 36) hx hb dX9_tackleTold_21 (by decide) (fun c2 => ?_) (fun c2 => ?_)
  · replace hf := k_pos hf c2
    refine lv_iconst (v := (-1)) hx hb dX9_tackleTold_36 (by decide) ?_
    exact hRet _ _ hf _ _ _ _ hP hD hS rfl dX9_tackleTold_37
  · replace hf := k_neg hf c2
    refine lv_iload_n hx hb dX9_tackleTold_24 rfl (lv_at hl 2 rfl) ?_
    refine lv_i2l (v := (a2).toInt64) hx hb dX9_tackleTold_25 rfl ?_
    refine lv_lconst (v := 0) hx hb dX9_tackleTold_26 (by decide) ?_
    refine lv_ldc2 hx hb hown wl3 dX9_tackleTold_27 ?_
    obtain ⟨r3, hc3, hf⟩ := k_b1_some hf
    refine k_SiR (As := [.long ((a2).toInt64), .long 0, .long 3]) (rest := []) S0 (c_X9_in l D cI cZ cJ cS ((a2).toInt64) 0 3 r3 hc3) (va_cwS 3 hts gX9_tackleTold_X9_in rfl rfl rfl hdS_X9_in ⟨Nat.le_of_ble_eq_true rfl, Nat.le_of_ble_eq_true rfl⟩) hK hP hD hS hA hN [] rfl (by decide) rfl hl.1 rfl (Nat.le_of_ble_eq_true rfl) dX9_tackleTold_30 (fun H locs hP hS => ?_)
    refine lv_if_ne (tgt := 38) hx hb dX9_tackleTold_33 (by decide) (fun c4 => ?_) (fun c4 => ?_)
    · replace hf := k_neg hf c4
      refine lv_aload_n hx hb dX9_tackleTold_38 rfl (lv_at hl 0 rfl) ?_
      refine k_get (C := RX9) (T := TX9) (N := 19) hx hb hts inX9 hown hK hP 0 rfl rfl 1 (by decide) rfl wl2 rfl dX9_tackleTold_39 ?_
      refine lv_bipush (v := 67) hx hb dX9_tackleTold_42 (by decide) ?_
      refine lv_iload_n hx hb dX9_tackleTold_44 rfl (lv_at hl 1 rfl) ?_
      refine lv_iadd hx hb dX9_tackleTold_45 ?_
      obtain ⟨hi5, hf⟩ := k_ix_some hf
      refine k_iald (k := (67 + a1).toNatClampNeg) hx hb hK hP 1 0 rfl rfl hi5 rfl dX9_tackleTold_46 ?_
      refine lv_if_ne (tgt := 52) hx hb dX9_tackleTold_47 (by decide) (fun c6 => ?_) (fun c6 => ?_)
      · replace hf := k_neg hf c6
        refine lv_iload_n hx hb dX9_tackleTold_52 rfl (lv_at hl 2 rfl) ?_
        refine lv_if_ne (tgt := 69) hx hb dX9_tackleTold_53 (by decide) (fun c7 => ?_) (fun c7 => ?_)
        · replace hf := k_neg hf c7
          refine lv_iload_n hx hb dX9_tackleTold_69 rfl (lv_at hl 2 rfl) ?_
          refine lv_iconst (v := 1) hx hb dX9_tackleTold_70 (by decide) ?_
          refine lv_icmp_ne (tgt := 88) hx hb dX9_tackleTold_71 (by decide) (fun c8 => ?_) (fun c8 => ?_)
          · replace hf := k_neg hf c8
            refine lv_iload_n hx hb dX9_tackleTold_88 rfl (lv_at hl 2 rfl) ?_
            refine lv_iconst (v := 2) hx hb dX9_tackleTold_89 (by decide) ?_
            refine lv_icmp_ne (tgt := 111) hx hb dX9_tackleTold_90 (by decide) (fun c9 => ?_) (fun c9 => ?_)
            · replace hf := k_neg hf c9
              refine lv_iconst (v := 1) hx hb dX9_tackleTold_111 (by decide) ?_
              exact hRet _ _ hf _ _ _ _ hP hD hS rfl dX9_tackleTold_112
            · replace hf := k_pos hf c9
              refine lv_aload_n hx hb dX9_tackleTold_93 rfl (lv_at hl 0 rfl) ?_
              refine lv_iload_n hx hb dX9_tackleTold_94 rfl (lv_at hl 1 rfl) ?_
              refine lv_aload_n hx hb dX9_tackleTold_95 rfl (lv_at hl 0 rfl) ?_
              refine lv_aload_n hx hb dX9_tackleTold_96 rfl (lv_at hl 0 rfl) ?_
              refine k_get (C := RX9) (T := TX9) (N := 19) hx hb hts inX9 hown hK hP 0 rfl rfl 1 (by decide) rfl wl2 rfl dX9_tackleTold_97 ?_
              refine lv_iconst (v := 0) hx hb dX9_tackleTold_100 (by decide) ?_
              refine k_iald (k := 0) hx hb hK hP 1 0 rfl rfl (by unfold vp_in; decide) (by decide) dX9_tackleTold_101 ?_
              obtain ⟨r10, hc10, hf⟩ := k_b1_some hf
              refine k_ViR (q0 := 0) (As := [.int (f_h_now 0)]) (rest := [.int a1, .ref h]) S0 (c_X9_rains l D cI cZ cJ cS h h_now h_aside h_books h_tide h_rain h_rule h_counts h_begins h_best h_planks 0 v_h_kept v_h_counted v_h_bestWorth v_h_bestPitch v_h_bestBits v_h_leastHour v_h_leastSet v_h_shut f_h_rain (f_h_now 0) r10 hc10) (cwV 1 hts gX9_tackleTold_X9_rains rfl rfl rfl hdV_X9_rains ⟨Nat.le_of_ble_eq_true rfl, Nat.le_of_ble_eq_true rfl⟩) hK hP hD hS hA hN [0, 2] rfl (by decide) rfl rfl rfl rfl hl.1 rfl (Nat.le_of_ble_eq_true rfl) dX9_tackleTold_102 (fun H locs hP hS => ?_)
              obtain ⟨r11, hc11, hf⟩ := k_b1_some hf
              refine k_ViR (q0 := 0) (As := [.int a1, .int r10]) (rest := []) S0 (c_X9_may l D cI cZ cJ cS h h_now h_aside h_books h_tide h_rain h_rule h_counts h_begins h_best h_planks 0 v_h_kept v_h_counted v_h_bestWorth v_h_bestPitch v_h_bestBits v_h_leastHour v_h_leastSet v_h_shut f_h_now a1 r10 r11 hc11) (cwV 2 hts gX9_tackleTold_X9_may rfl rfl rfl hdV_X9_may ⟨Nat.le_of_ble_eq_true rfl, Nat.le_of_ble_eq_true rfl⟩) hK hP hD hS hA hN [0, 1] rfl (by decide) rfl rfl rfl rfl hl.1 rfl (Nat.le_of_ble_eq_true rfl) dX9_tackleTold_105 (fun H locs hP hS => ?_)
              refine lv_goto (tgt := 112) hx hb dX9_tackleTold_108 (by decide) ?_
              exact hRet _ _ hf _ _ _ _ hP hD hS rfl dX9_tackleTold_112
          · replace hf := k_pos hf c8
            refine lv_aload_n hx hb dX9_tackleTold_74 rfl (lv_at hl 0 rfl) ?_
            refine lv_iload_n hx hb dX9_tackleTold_75 rfl (lv_at hl 1 rfl) ?_
            refine lv_aload_n hx hb dX9_tackleTold_76 rfl (lv_at hl 0 rfl) ?_
            refine k_get (C := RX9) (T := TX9) (N := 19) hx hb hts inX9 hown hK hP 0 rfl rfl 1 (by decide) rfl wl2 rfl dX9_tackleTold_77 ?_
            refine lv_iconst (v := 1) hx hb dX9_tackleTold_80 (by decide) ?_
            refine k_iald (k := 1) hx hb hK hP 1 0 rfl rfl (by unfold vp_in; decide) (by decide) dX9_tackleTold_81 ?_
            obtain ⟨r12, hc12, hf⟩ := k_b1_some hf
            refine k_ViR (q0 := 0) (As := [.int a1, .int (f_h_now 1)]) (rest := []) S0 (c_X9_ropeOf l D cI cZ cJ cS h h_now h_aside h_books h_tide h_rain h_rule h_counts h_begins h_best h_planks 0 v_h_kept v_h_counted v_h_bestWorth v_h_bestPitch v_h_bestBits v_h_leastHour v_h_leastSet v_h_shut f_h_now f_h_rule a1 (f_h_now 1) r12 hc12) (cwV 2 hts gX9_tackleTold_X9_ropeOf rfl rfl rfl hdV_X9_ropeOf ⟨Nat.le_of_ble_eq_true rfl, Nat.le_of_ble_eq_true rfl⟩) hK hP hD hS hA hN [0, 1, 3] rfl (by decide) rfl rfl rfl rfl hl.1 rfl (Nat.le_of_ble_eq_true rfl) dX9_tackleTold_82 (fun H locs hP hS => ?_)
            refine lv_goto (tgt := 112) hx hb dX9_tackleTold_85 (by decide) ?_
            exact hRet _ _ hf _ _ _ _ hP hD hS rfl dX9_tackleTold_112
        · replace hf := k_pos hf c7
          refine lv_aload_n hx hb dX9_tackleTold_56 rfl (lv_at hl 0 rfl) ?_
          refine lv_aload_n hx hb dX9_tackleTold_57 rfl (lv_at hl 0 rfl) ?_
          refine k_get (C := RX9) (T := TX9) (N := 19) hx hb hts inX9 hown hK hP 0 rfl rfl 1 (by decide) rfl wl2 rfl dX9_tackleTold_58 ?_
          refine lv_iconst (v := 1) hx hb dX9_tackleTold_61 (by decide) ?_
          refine k_iald (k := 1) hx hb hK hP 1 0 rfl rfl (by unfold vp_in; decide) (by decide) dX9_tackleTold_62 ?_
          obtain ⟨r13, hc13, hf⟩ := k_b1_some hf
          refine k_ViR (q0 := 0) (As := [.int (f_h_now 1)]) (rest := []) S0 (c_X9_takes l D cI cZ cJ cS h h_now h_aside h_books h_tide h_rain h_rule h_counts h_begins h_best h_planks 0 v_h_kept v_h_counted v_h_bestWorth v_h_bestPitch v_h_bestBits v_h_leastHour v_h_leastSet v_h_shut f_h_now f_h_rule (f_h_now 1) r13 hc13) (cwV 1 hts gX9_tackleTold_X9_takes rfl rfl rfl hdV_X9_takes ⟨Nat.le_of_ble_eq_true rfl, Nat.le_of_ble_eq_true rfl⟩) hK hP hD hS hA hN [0, 1, 3] rfl (by decide) rfl rfl rfl rfl hl.1 rfl (Nat.le_of_ble_eq_true rfl) dX9_tackleTold_63 (fun H locs hP hS => ?_)
          refine lv_goto (tgt := 112) hx hb dX9_tackleTold_66 (by decide) ?_
          exact hRet _ _ hf _ _ _ _ hP hD hS rfl dX9_tackleTold_112
      · replace hf := k_pos hf c6
        refine lv_iconst (v := 0) hx hb dX9_tackleTold_50 (by decide) ?_
        exact hRet _ _ hf _ _ _ _ hP hD hS rfl dX9_tackleTold_51
    · replace hf := k_pos hf c4
      refine lv_iconst (v := (-1)) hx hb dX9_tackleTold_36 (by decide) ?_
      exact hRet _ _ hf _ _ _ _ hP hD hS rfl dX9_tackleTold_37

def lb_X9_greatest_8 (f_h_now : Nat → Int32) (f_h_rule : Nat → Int32) (a1 : Int32) (x2_8 : Int32) : Option ((Int32) ⊕ (Int32)) :=
  k_b1 (p_X9_holds f_h_now f_h_rule x2_8 a1) fun r9 =>
  if r9 = 0 then
    some (.inl (x2_8 + (-1)))
  else
    some (.inr x2_8)
def p_X9_greatest (f_h_now : Nat → Int32) (f_h_rule : Nat → Int32) (a1 : Int32) : Option (Int32 × Int32) :=
  k_b1 (k_lp (fun s => lb_X9_greatest_8 f_h_now f_h_rule a1 s) k_fuel 9) fun x2_7 =>
  some (x2_7, 0)
abbrev rm_X9_greatest : Room := { frames := 5, cells := 0, slots := 0, locals := 113 }
theorem hdS_X9_greatest : yX9_greatest.cls ≠ "java/lang/invoke/MethodHandle" ∧ yX9_greatest.cls ≠ "java/lang/invoke/VarHandle" ∧ (parseMethodDescriptor yX9_greatest.desc).map (fun d => d.parameters.length) = some 1 := by decide +kernel
theorem hdV_X9_greatest : yX9_greatest.cls = RX9 ∧ yX9_greatest.cls ≠ "java/lang/invoke/MethodHandle" ∧ yX9_greatest.cls ≠ "java/lang/invoke/VarHandle" ∧ (parseMethodDescriptor yX9_greatest.desc).map (fun d => d.parameters.length) = some 1 := by decide +kernel
set_option maxHeartbeats 4000000 in
set_option maxRecDepth 100000 in
theorem c_X9_greatest (l : Launch) (D : va_G) (cI cZ cJ cS : ClassId) (h h_now h_aside h_books h_tide h_rain h_rule h_counts h_begins h_best h_planks : Nat) (v_h_thrown : Int32) (v_h_kept : Int32) (v_h_counted : Int32) (v_h_bestWorth : Int32) (v_h_bestPitch : Int32) (v_h_bestBits : Int32) (v_h_leastHour : Int32) (v_h_leastSet : Int32) (v_h_shut : Int32) (f_h_now : Nat → Int32) (f_h_rule : Nat → Int32) (a1 : Int32) (r : Int32) (v_h_thrown' : Int32) (hf : p_X9_greatest f_h_now f_h_rule a1 = some (r, v_h_thrown')) : k_MI l yX9_greatest wsX9_greatest rm_X9_greatest D (k_tys cI cZ cJ cS) [.ref h, .int a1] [(h, .inr (9, [.int v_h_thrown, .ref h_now, .ref h_aside, .int v_h_kept, .ref h_books, .ref h_tide, .ref h_rain, .ref h_rule, .int v_h_counted, .ref h_counts, .ref h_begins, .ref h_best, .int v_h_bestWorth, .int v_h_bestPitch, .int v_h_bestBits, .int v_h_leastHour, .int v_h_leastSet, .int v_h_shut, .ref h_planks])), (h_now, .inl (cI, 169, .inl f_h_now)), (h_rule, .inl (cI, 8, .inl f_h_rule))] [(h, .inr (9, [.int v_h_thrown', .ref h_now, .ref h_aside, .int v_h_kept, .ref h_books, .ref h_tide, .ref h_rain, .ref h_rule, .int v_h_counted, .ref h_counts, .ref h_begins, .ref h_best, .int v_h_bestWorth, .int v_h_bestPitch, .int v_h_bestBits, .int v_h_leastHour, .int v_h_leastSet, .int v_h_shut, .ref h_planks])), (h_now, .inl (cI, 169, .inl f_h_now)), (h_rule, .inl (cI, 8, .inl f_h_rule))] r := by
  refine k_enter (y := yX9_greatest) (wl := wsX9_greatest) (rm := rm_X9_greatest) (av := [.ref h, .int a1]) (D := D) (tys := k_tys cI cZ cJ cS) (ws := [(h, .inr (9, [.int v_h_thrown, .ref h_now, .ref h_aside, .int v_h_kept, .ref h_books, .ref h_tide, .ref h_rain, .ref h_rule, .int v_h_counted, .ref h_counts, .ref h_begins, .ref h_best, .int v_h_bestWorth, .int v_h_bestPitch, .int v_h_bestBits, .int v_h_leastHour, .int v_h_leastSet, .int v_h_shut, .ref h_planks])), (h_now, .inl (cI, 169, .inl f_h_now)), (h_rule, .inl (cI, 8, .inl f_h_rule))]) (cc := cX9_greatest) (maxL := 3) (ret := (some .int)) (Qc := fun A => k_Qi D (k_tys cI cZ cJ cS) [(h, .inr (9, [.int v_h_thrown', .ref h_now, .ref h_aside, .int v_h_kept, .ref h_books, .ref h_tide, .ref h_rain, .ref h_rule, .int v_h_counted, .ref h_counts, .ref h_begins, .ref h_best, .int v_h_bestWorth, .int v_h_bestPitch, .int v_h_bestBits, .int v_h_leastHour, .int v_h_leastSet, .int v_h_shut, .ref h_planks])), (h_now, .inl (cI, 169, .inl f_h_now)), (h_rule, .inl (cI, 8, .inl f_h_rule))] A r) (by decide) rfl (Nat.le_of_ble_eq_true rfl) [(0, .ref h), (1, .int a1)] rfl ?_
  intro p e s m below meth c A hx hb hml hr hlocks hnm hown hK hP hD hA hS hN ls args Q hts hl hQ
  replace hown : s.vm.findClass RX9 = some m.cls := hown
  have S0 : CallFix p m c cX9_greatest 3 s args wsX9_greatest RX9 := ⟨hx, hb, hml, hown, hts⟩
  have inX9 : ∀ w ∈ u_ws RX9 TX9 19, w ∈ wsX9_greatest := fun w h => List.mem_cons_of_mem _ (List.mem_append_right _ h)
  have wl1 : (Cond.fieldLink RX9 1 "BeachedShipModel" "thrown" "I").before args s = true := hts _ (List.mem_of_getElem? (i := 1) rfl)
  have hRet : ∀ (r_z : Int32) (v_h_thrown_z : Int32), some (r_z, v_h_thrown_z) = some (r, v_h_thrown') → ∀ (H : Heap) (locs : List Loc) (ls : Array Slot) (pc : Nat), va_P D vwCl [(h, .inr (9, [.int v_h_thrown_z, .ref h_now, .ref h_aside, .int v_h_kept, .ref h_books, .ref h_tide, .ref h_rain, .ref h_rule, .int v_h_counted, .ref h_counts, .ref h_begins, .ref h_best, .int v_h_bestWorth, .int v_h_bestPitch, .int v_h_bestBits, .int v_h_leastHour, .int v_h_leastSet, .int v_h_shut, .ref h_planks])), (h_now, .inl (cI, 169, .inl f_h_now)), (h_rule, .inl (cI, 8, .inl f_h_rule))] H → va_D A [(h, .inr (9, [.int v_h_thrown_z, .ref h_now, .ref h_aside, .int v_h_kept, .ref h_books, .ref h_tide, .ref h_rain, .ref h_rule, .int v_h_counted, .ref h_counts, .ref h_begins, .ref h_best, .int v_h_bestWorth, .int v_h_bestPitch, .int v_h_bestBits, .int v_h_leastHour, .int v_h_leastSet, .int v_h_shut, .ref h_planks])), (h_now, .inl (cI, 169, .inl f_h_now)), (h_rule, .inl (cI, 8, .inl f_h_rule))] → va_S A s.heap H locs → narrow .int (.int r_z) = .int r_z → decode cX9_greatest pc = .ok (.ireturn, 1) → W p l e rm_X9_greatest s m args below meth c H locs 0 0 Q (F0 m pc ls [.int r_z]) := by
    intro r_z v_h_thrown_z hz H locs ls pc hP hD hS hn hd
    cases hz
    exact k_iret hx hb hr hlocks hn hK hP hD hS hQ rfl hd
  unfold p_X9_greatest at hf
  refine lv_aload_n hx hb dX9_greatest_0 rfl (lv_at hl 0 rfl) ?_
  refine lv_iconst (v := 0) hx hb dX9_greatest_1 (by decide) ?_
  refine k_putf (ws2 := [(h, .inr (9, [.int 0, .ref h_now, .ref h_aside, .int v_h_kept, .ref h_books, .ref h_tide, .ref h_rain, .ref h_rule, .int v_h_counted, .ref h_counts, .ref h_begins, .ref h_best, .int v_h_bestWorth, .int v_h_bestPitch, .int v_h_bestBits, .int v_h_leastHour, .int v_h_leastSet, .int v_h_shut, .ref h_planks])), (h_now, .inl (cI, 169, .inl f_h_now)), (h_rule, .inl (cI, 8, .inl f_h_rule))]) (C := RX9) (T := TX9) (N := 19) hx hb hts inX9 tyX9 tyX9_ok nmX9 hown hK hP hD hS 0 rfl rfl 0 (by decide) rfl wl1 rfl rfl rfl (Nat.le_of_ble_eq_true rfl) rfl dX9_greatest_2 (fun H locs hP hD hS => ?_)
  refine lv_bipush (v := 9) hx hb dX9_greatest_5 (by decide) ?_
  refine lv_istore_n (lv' := [(2, .int 9), (0, .ref h), (1, .int a1)]) hx hb dX9_greatest_7 rfl hl (by decide) rfl (fun ls hl => ?_)
  obtain ⟨ee6, hlp6, hfr6⟩ := k_b1_ee hf
  have hE6 : ∀ (x2_7 : Int32), ee6 = x2_7 → ∀ (H : Heap) (locs : List Loc) (ls : Array Slot), va_P D vwCl [(h, .inr (9, [.int 0, .ref h_now, .ref h_aside, .int v_h_kept, .ref h_books, .ref h_tide, .ref h_rain, .ref h_rule, .int v_h_counted, .ref h_counts, .ref h_begins, .ref h_best, .int v_h_bestWorth, .int v_h_bestPitch, .int v_h_bestBits, .int v_h_leastHour, .int v_h_leastSet, .int v_h_shut, .ref h_planks])), (h_now, .inl (cI, 169, .inl f_h_now)), (h_rule, .inl (cI, 8, .inl f_h_rule))] H → va_D A [(h, .inr (9, [.int 0, .ref h_now, .ref h_aside, .int v_h_kept, .ref h_books, .ref h_tide, .ref h_rain, .ref h_rule, .int v_h_counted, .ref h_counts, .ref h_begins, .ref h_best, .int v_h_bestWorth, .int v_h_bestPitch, .int v_h_bestBits, .int v_h_leastHour, .int v_h_leastSet, .int v_h_shut, .ref h_planks])), (h_now, .inl (cI, 169, .inl f_h_now)), (h_rule, .inl (cI, 8, .inl f_h_rule))] → va_S A s.heap H locs → lv_has ls 3 [(2, .int x2_7)] → W p l e rm_X9_greatest s m args below meth c H locs 0 0 Q (F0 m 23 ls []) := by
    intro x2_7 he H locs ls hP hD hS hl
    replace hf := hfr6 x2_7 he
    refine lv_iload_n hx hb dX9_greatest_23 rfl (lv_at hl 0 rfl) ?_
    exact hRet _ _ hf _ _ _ _ hP hD hS rfl dX9_greatest_24
  refine (k_lp_ind (fun sx6 => ∀ (H : Heap) (locs : List Loc) (ls : Array Slot), va_P D vwCl [(h, .inr (9, [.int 0, .ref h_now, .ref h_aside, .int v_h_kept, .ref h_books, .ref h_tide, .ref h_rain, .ref h_rule, .int v_h_counted, .ref h_counts, .ref h_begins, .ref h_best, .int v_h_bestWorth, .int v_h_bestPitch, .int v_h_bestBits, .int v_h_leastHour, .int v_h_leastSet, .int v_h_shut, .ref h_planks])), (h_now, .inl (cI, 169, .inl f_h_now)), (h_rule, .inl (cI, 8, .inl f_h_rule))] H → va_D A [(h, .inr (9, [.int 0, .ref h_now, .ref h_aside, .int v_h_kept, .ref h_books, .ref h_tide, .ref h_rain, .ref h_rule, .int v_h_counted, .ref h_counts, .ref h_begins, .ref h_best, .int v_h_bestWorth, .int v_h_bestPitch, .int v_h_bestBits, .int v_h_leastHour, .int v_h_leastSet, .int v_h_shut, .ref h_planks])), (h_now, .inl (cI, 169, .inl f_h_now)), (h_rule, .inl (cI, 8, .inl f_h_rule))] → va_S A s.heap H locs → lv_has ls 3 [(2, .int sx6), (0, .ref h), (1, .int a1)] → W p l e rm_X9_greatest s m args below meth c H locs 0 0 Q (F0 m 8 ls [])) (fun sx6 X6 hX6 hin6 hout6 => ?_) _ _ hlp6) _ _ _ hP hD hS (lv_sub hl [0, 1, 2] rfl)
  obtain ⟨x2_8, rfl⟩ : ∃ z, z = sx6 := ⟨_, rfl⟩
  intro H locs ls hP hD hS hl
  replace hP : va_P D vwCl [(h, .inr (9, [.int 0, .ref h_now, .ref h_aside, .int v_h_kept, .ref h_books, .ref h_tide, .ref h_rain, .ref h_rule, .int v_h_counted, .ref h_counts, .ref h_begins, .ref h_best, .int v_h_bestWorth, .int v_h_bestPitch, .int v_h_bestBits, .int v_h_leastHour, .int v_h_leastSet, .int v_h_shut, .ref h_planks])), (h_now, .inl (cI, 169, .inl f_h_now)), (h_rule, .inl (cI, 8, .inl f_h_rule))] H := hP
  replace hD : va_D A [(h, .inr (9, [.int 0, .ref h_now, .ref h_aside, .int v_h_kept, .ref h_books, .ref h_tide, .ref h_rain, .ref h_rule, .int v_h_counted, .ref h_counts, .ref h_begins, .ref h_best, .int v_h_bestWorth, .int v_h_bestPitch, .int v_h_bestBits, .int v_h_leastHour, .int v_h_leastSet, .int v_h_shut, .ref h_planks])), (h_now, .inl (cI, 169, .inl f_h_now)), (h_rule, .inl (cI, 8, .inl f_h_rule))] := hD
  replace hl : lv_has ls 3 [(2, .int x2_8), (0, .ref h), (1, .int a1)] := hl
  replace hX6 : lb_X9_greatest_8 f_h_now f_h_rule a1 x2_8 = some X6 := hX6
  unfold lb_X9_greatest_8 at hX6
  refine lv_aload_n hx hb dX9_greatest_8 rfl (lv_at hl 1 rfl) ?_
  refine lv_iload_n hx hb dX9_greatest_9 rfl (lv_at hl 0 rfl) ?_
  refine lv_iload_n hx hb dX9_greatest_10 rfl (lv_at hl 2 rfl) ?_
  obtain ⟨r9, hc9, hX6⟩ := k_b1_some hX6
  refine k_ViR (q0 := 0) (As := [.int x2_8, .int a1]) (rest := []) S0 (c_X9_holds l D cI cZ cJ cS h h_now h_aside h_books h_tide h_rain h_rule h_counts h_begins h_best h_planks 0 v_h_kept v_h_counted v_h_bestWorth v_h_bestPitch v_h_bestBits v_h_leastHour v_h_leastSet v_h_shut f_h_now f_h_rule x2_8 a1 r9 hc9) (cwV 2 hts gX9_greatest_X9_holds rfl rfl rfl hdV_X9_holds ⟨Nat.le_of_ble_eq_true rfl, Nat.le_of_ble_eq_true rfl⟩) hK hP hD hS hA hN [0, 1, 2] rfl (by decide) rfl rfl rfl rfl hl.1 rfl (Nat.le_of_ble_eq_true rfl) dX9_greatest_11 (fun H locs hP hS => ?_)
  refine lv_if_ne (tgt := 23) hx hb dX9_greatest_14 (by decide) (fun c10 => ?_) (fun c10 => ?_)
  · replace hX6 := k_neg hX6 c10
    exact hE6 _ (hout6 _ (Option.some.inj hX6).symm).symm _ _ _ hP hD hS (lv_sub hl [0] rfl)
  · replace hX6 := k_pos hX6 c10
    refine lv_iinc (v := x2_8 + (-1)) (lv' := [(2, .int (x2_8 + (-1))), (0, .ref h), (1, .int a1)]) hx hb dX9_greatest_17 hl (k := 0) rfl rfl (by decide) rfl (fun ls hl => ?_)
    refine lv_goto (tgt := 8) hx hb dX9_greatest_20 (by decide) ?_
    exact hin6 (x2_8 + (-1)) (Option.some.inj hX6).symm _ _ _ hP hD hS (lv_sub hl [0, 1, 2] rfl)

def p_X9_isBare (f_h_now : Nat → Int32) (f_h_tide : Nat → Int32) (a1 : Int32) (a2 : Int32) : Option (Int32) :=
  k_ix (73 + a1) 169 (
    k_ix (85 + a1) 169 (
      if (f_h_now (85 + a1).toNatClampNeg) = 0 then
        k_b1 (p_X9_tideIn f_h_tide a2) fun r6 =>
        if ((4 * (f_h_now (73 + a1).toNatClampNeg)) + (3 * (f_h_now 1))) ≤ r6 then
          some 0
        else
          some 1
      else
        k_b1 (p_X9_tideIn f_h_tide a2) fun r4 =>
        if ((4 * (f_h_now (73 + a1).toNatClampNeg)) + ((-3) * (f_h_now 1))) ≤ r4 then
          some 0
        else
          some 1))
abbrev rm_X9_isBare : Room := { frames := 1, cells := 0, slots := 0, locals := 21 }
theorem hdS_X9_isBare : yX9_isBare.cls ≠ "java/lang/invoke/MethodHandle" ∧ yX9_isBare.cls ≠ "java/lang/invoke/VarHandle" ∧ (parseMethodDescriptor yX9_isBare.desc).map (fun d => d.parameters.length) = some 2 := by decide +kernel
theorem hdV_X9_isBare : yX9_isBare.cls = RX9 ∧ yX9_isBare.cls ≠ "java/lang/invoke/MethodHandle" ∧ yX9_isBare.cls ≠ "java/lang/invoke/VarHandle" ∧ (parseMethodDescriptor yX9_isBare.desc).map (fun d => d.parameters.length) = some 2 := by decide +kernel
set_option maxHeartbeats 4000000 in
set_option maxRecDepth 100000 in
theorem c_X9_isBare (l : Launch) (D : va_G) (cI cZ cJ cS : ClassId) (h h_now h_aside h_books h_tide h_rain h_rule h_counts h_begins h_best h_planks : Nat) (v_h_thrown : Int32) (v_h_kept : Int32) (v_h_counted : Int32) (v_h_bestWorth : Int32) (v_h_bestPitch : Int32) (v_h_bestBits : Int32) (v_h_leastHour : Int32) (v_h_leastSet : Int32) (v_h_shut : Int32) (f_h_now : Nat → Int32) (f_h_tide : Nat → Int32) (a1 : Int32) (a2 : Int32) (r : Int32) (hf : p_X9_isBare f_h_now f_h_tide a1 a2 = some r) : k_MI l yX9_isBare wsX9_isBare rm_X9_isBare D (k_tys cI cZ cJ cS) [.ref h, .int a1, .int a2] [(h, .inr (9, [.int v_h_thrown, .ref h_now, .ref h_aside, .int v_h_kept, .ref h_books, .ref h_tide, .ref h_rain, .ref h_rule, .int v_h_counted, .ref h_counts, .ref h_begins, .ref h_best, .int v_h_bestWorth, .int v_h_bestPitch, .int v_h_bestBits, .int v_h_leastHour, .int v_h_leastSet, .int v_h_shut, .ref h_planks])), (h_now, .inl (cI, 169, .inl f_h_now)), (h_tide, .inl (cI, 96, .inl f_h_tide))] [(h, .inr (9, [.int v_h_thrown, .ref h_now, .ref h_aside, .int v_h_kept, .ref h_books, .ref h_tide, .ref h_rain, .ref h_rule, .int v_h_counted, .ref h_counts, .ref h_begins, .ref h_best, .int v_h_bestWorth, .int v_h_bestPitch, .int v_h_bestBits, .int v_h_leastHour, .int v_h_leastSet, .int v_h_shut, .ref h_planks])), (h_now, .inl (cI, 169, .inl f_h_now)), (h_tide, .inl (cI, 96, .inl f_h_tide))] r := by
  refine k_enter (y := yX9_isBare) (wl := wsX9_isBare) (rm := rm_X9_isBare) (av := [.ref h, .int a1, .int a2]) (D := D) (tys := k_tys cI cZ cJ cS) (ws := [(h, .inr (9, [.int v_h_thrown, .ref h_now, .ref h_aside, .int v_h_kept, .ref h_books, .ref h_tide, .ref h_rain, .ref h_rule, .int v_h_counted, .ref h_counts, .ref h_begins, .ref h_best, .int v_h_bestWorth, .int v_h_bestPitch, .int v_h_bestBits, .int v_h_leastHour, .int v_h_leastSet, .int v_h_shut, .ref h_planks])), (h_now, .inl (cI, 169, .inl f_h_now)), (h_tide, .inl (cI, 96, .inl f_h_tide))]) (cc := cX9_isBare) (maxL := 4) (ret := (some .boolean)) (Qc := fun A => k_Qi D (k_tys cI cZ cJ cS) [(h, .inr (9, [.int v_h_thrown, .ref h_now, .ref h_aside, .int v_h_kept, .ref h_books, .ref h_tide, .ref h_rain, .ref h_rule, .int v_h_counted, .ref h_counts, .ref h_begins, .ref h_best, .int v_h_bestWorth, .int v_h_bestPitch, .int v_h_bestBits, .int v_h_leastHour, .int v_h_leastSet, .int v_h_shut, .ref h_planks])), (h_now, .inl (cI, 169, .inl f_h_now)), (h_tide, .inl (cI, 96, .inl f_h_tide))] A r) (by decide) rfl (Nat.le_of_ble_eq_true rfl) [(0, .ref h), (1, .int a1), (2, .int a2)] rfl ?_
  intro p e s m below meth c A hx hb hml hr hlocks hnm hown hK hP hD hA hS hN ls args Q hts hl hQ
  replace hown : s.vm.findClass RX9 = some m.cls := hown
  have S0 : CallFix p m c cX9_isBare 4 s args wsX9_isBare RX9 := ⟨hx, hb, hml, hown, hts⟩
  have inX9 : ∀ w ∈ u_ws RX9 TX9 19, w ∈ wsX9_isBare := fun w h => List.mem_cons_of_mem _ (List.mem_append_right _ h)
  have wl1 : (Cond.fieldLink RX9 13 "BeachedShipModel" "now" "[I").before args s = true := hts _ (List.mem_of_getElem? (i := 1) rfl)
  have hRet : ∀ (r_z : Int32), some r_z = some r → ∀ (H : Heap) (locs : List Loc) (ls : Array Slot) (pc : Nat), va_P D vwCl [(h, .inr (9, [.int v_h_thrown, .ref h_now, .ref h_aside, .int v_h_kept, .ref h_books, .ref h_tide, .ref h_rain, .ref h_rule, .int v_h_counted, .ref h_counts, .ref h_begins, .ref h_best, .int v_h_bestWorth, .int v_h_bestPitch, .int v_h_bestBits, .int v_h_leastHour, .int v_h_leastSet, .int v_h_shut, .ref h_planks])), (h_now, .inl (cI, 169, .inl f_h_now)), (h_tide, .inl (cI, 96, .inl f_h_tide))] H → va_D A [(h, .inr (9, [.int v_h_thrown, .ref h_now, .ref h_aside, .int v_h_kept, .ref h_books, .ref h_tide, .ref h_rain, .ref h_rule, .int v_h_counted, .ref h_counts, .ref h_begins, .ref h_best, .int v_h_bestWorth, .int v_h_bestPitch, .int v_h_bestBits, .int v_h_leastHour, .int v_h_leastSet, .int v_h_shut, .ref h_planks])), (h_now, .inl (cI, 169, .inl f_h_now)), (h_tide, .inl (cI, 96, .inl f_h_tide))] → va_S A s.heap H locs → narrow .boolean (.int r_z) = .int r_z → decode cX9_isBare pc = .ok (.ireturn, 1) → W p l e rm_X9_isBare s m args below meth c H locs 0 0 Q (F0 m pc ls [.int r_z]) := by
    intro r_z hz H locs ls pc hP hD hS hn hd
    cases hz
    exact k_iret hx hb hr hlocks hn hK hP hD hS hQ rfl hd
  unfold p_X9_isBare at hf
  refine lv_iconst (v := 4) hx hb dX9_isBare_0 (by decide) ?_
  refine lv_aload_n hx hb dX9_isBare_1 rfl (lv_at hl 0 rfl) ?_
  refine k_get (C := RX9) (T := TX9) (N := 19) hx hb hts inX9 hown hK hP 0 rfl rfl 1 (by decide) rfl wl1 rfl dX9_isBare_2 ?_
  refine lv_bipush (v := 73) hx hb dX9_isBare_5 (by decide) ?_
  refine lv_iload_n hx hb dX9_isBare_7 rfl (lv_at hl 1 rfl) ?_
  refine lv_iadd hx hb dX9_isBare_8 ?_
  obtain ⟨hi1, hf⟩ := k_ix_some hf
  refine k_iald (k := (73 + a1).toNatClampNeg) hx hb hK hP 1 0 rfl rfl hi1 rfl dX9_isBare_9 ?_
  refine lv_imul hx hb dX9_isBare_10 ?_
  refine lv_aload_n hx hb dX9_isBare_11 rfl (lv_at hl 0 rfl) ?_
  refine k_get (C := RX9) (T := TX9) (N := 19) hx hb hts inX9 hown hK hP 0 rfl rfl 1 (by decide) rfl wl1 rfl dX9_isBare_12 ?_
  refine lv_bipush (v := 85) hx hb dX9_isBare_15 (by decide) ?_
  refine lv_iload_n hx hb dX9_isBare_17 rfl (lv_at hl 1 rfl) ?_
  refine lv_iadd hx hb dX9_isBare_18 ?_
  obtain ⟨hi2, hf⟩ := k_ix_some hf
  refine k_iald (k := (85 + a1).toNatClampNeg) hx hb hK hP 1 0 rfl rfl hi2 rfl dX9_isBare_19 ?_
  refine lv_if_ne (tgt := 34) hx hb dX9_isBare_20 (by decide) (fun c3 => ?_) (fun c3 => ?_)
  · replace hf := k_neg hf c3
    refine lv_bipush (v := (-3)) hx hb dX9_isBare_34 (by decide) ?_
    refine lv_aload_n hx hb dX9_isBare_36 rfl (lv_at hl 0 rfl) ?_
    refine k_get (C := RX9) (T := TX9) (N := 19) hx hb hts inX9 hown hK hP 0 rfl rfl 1 (by decide) rfl wl1 rfl dX9_isBare_37 ?_
    refine lv_iconst (v := 1) hx hb dX9_isBare_40 (by decide) ?_
    refine k_iald (k := 1) hx hb hK hP 1 0 rfl rfl (by unfold vp_in; decide) (by decide) dX9_isBare_41 ?_
    refine lv_imul hx hb dX9_isBare_42 ?_
    refine lv_iadd hx hb dX9_isBare_43 ?_
    refine lv_istore_n (lv' := [(3, .int ((4 * (f_h_now (73 + a1).toNatClampNeg)) + ((-3) * (f_h_now 1)))), (0, .ref h), (1, .int a1), (2, .int a2)]) hx hb dX9_isBare_44 rfl hl (by decide) rfl (fun ls hl => ?_)
    refine lv_aload_n hx hb dX9_isBare_45 rfl (lv_at hl 1 rfl) ?_
    refine lv_iload_n hx hb dX9_isBare_46 rfl (lv_at hl 3 rfl) ?_
    obtain ⟨r4, hc4, hf⟩ := k_b1_some hf
    refine k_ViR (q0 := 0) (As := [.int a2]) (rest := []) S0 (c_X9_tideIn l D cI cZ cJ cS h h_now h_aside h_books h_tide h_rain h_rule h_counts h_begins h_best h_planks v_h_thrown v_h_kept v_h_counted v_h_bestWorth v_h_bestPitch v_h_bestBits v_h_leastHour v_h_leastSet v_h_shut f_h_tide a2 r4 hc4) (cwV 1 hts gX9_isBare_X9_tideIn rfl rfl rfl hdV_X9_tideIn ⟨Nat.le_of_ble_eq_true rfl, Nat.le_of_ble_eq_true rfl⟩) hK hP hD hS hA hN [0, 2] rfl (by decide) rfl rfl rfl rfl hl.1 rfl (Nat.le_of_ble_eq_true rfl) dX9_isBare_47 (fun H locs hP hS => ?_)
    refine lv_iload_n hx hb dX9_isBare_50 rfl (lv_at hl 0 rfl) ?_
    refine lv_icmp_ge (tgt := 58) hx hb dX9_isBare_51 (by decide) (fun c5 => ?_) (fun c5 => ?_)
    · replace hf := k_pos hf c5
      refine lv_iconst (v := 0) hx hb dX9_isBare_58 (by decide) ?_
      exact hRet _ hf _ _ _ _ hP hD hS rfl dX9_isBare_59
    · replace hf := k_neg hf c5
      refine lv_iconst (v := 1) hx hb dX9_isBare_54 (by decide) ?_
      refine lv_goto (tgt := 59) hx hb dX9_isBare_55 (by decide) ?_
      exact hRet _ hf _ _ _ _ hP hD hS rfl dX9_isBare_59
  · replace hf := k_pos hf c3
    refine lv_iconst (v := 3) hx hb dX9_isBare_23 (by decide) ?_
    refine lv_aload_n hx hb dX9_isBare_24 rfl (lv_at hl 0 rfl) ?_
    refine k_get (C := RX9) (T := TX9) (N := 19) hx hb hts inX9 hown hK hP 0 rfl rfl 1 (by decide) rfl wl1 rfl dX9_isBare_25 ?_
    refine lv_iconst (v := 1) hx hb dX9_isBare_28 (by decide) ?_
    refine k_iald (k := 1) hx hb hK hP 1 0 rfl rfl (by unfold vp_in; decide) (by decide) dX9_isBare_29 ?_
    refine lv_imul hx hb dX9_isBare_30 ?_
    refine lv_goto (tgt := 43) hx hb dX9_isBare_31 (by decide) ?_
    refine lv_iadd hx hb dX9_isBare_43 ?_
    refine lv_istore_n (lv' := [(3, .int ((4 * (f_h_now (73 + a1).toNatClampNeg)) + (3 * (f_h_now 1)))), (0, .ref h), (1, .int a1), (2, .int a2)]) hx hb dX9_isBare_44 rfl hl (by decide) rfl (fun ls hl => ?_)
    refine lv_aload_n hx hb dX9_isBare_45 rfl (lv_at hl 1 rfl) ?_
    refine lv_iload_n hx hb dX9_isBare_46 rfl (lv_at hl 3 rfl) ?_
    obtain ⟨r6, hc6, hf⟩ := k_b1_some hf
    refine k_ViR (q0 := 0) (As := [.int a2]) (rest := []) S0 (c_X9_tideIn l D cI cZ cJ cS h h_now h_aside h_books h_tide h_rain h_rule h_counts h_begins h_best h_planks v_h_thrown v_h_kept v_h_counted v_h_bestWorth v_h_bestPitch v_h_bestBits v_h_leastHour v_h_leastSet v_h_shut f_h_tide a2 r6 hc6) (cwV 1 hts gX9_isBare_X9_tideIn rfl rfl rfl hdV_X9_tideIn ⟨Nat.le_of_ble_eq_true rfl, Nat.le_of_ble_eq_true rfl⟩) hK hP hD hS hA hN [0, 2] rfl (by decide) rfl rfl rfl rfl hl.1 rfl (Nat.le_of_ble_eq_true rfl) dX9_isBare_47 (fun H locs hP hS => ?_)
    refine lv_iload_n hx hb dX9_isBare_50 rfl (lv_at hl 0 rfl) ?_
    refine lv_icmp_ge (tgt := 58) hx hb dX9_isBare_51 (by decide) (fun c7 => ?_) (fun c7 => ?_)
    · replace hf := k_pos hf c7
      refine lv_iconst (v := 0) hx hb dX9_isBare_58 (by decide) ?_
      exact hRet _ hf _ _ _ _ hP hD hS rfl dX9_isBare_59
    · replace hf := k_neg hf c7
      refine lv_iconst (v := 1) hx hb dX9_isBare_54 (by decide) ?_
      refine lv_goto (tgt := 59) hx hb dX9_isBare_55 (by decide) ?_
      exact hRet _ hf _ _ _ _ hP hD hS rfl dX9_isBare_59

def lb_X9_seamTold_100 (f_h_now : Nat → Int32) (f_h_tide : Nat → Int32) (a1 : Int32) (x3_15 : Int32) : Option ((Int32) ⊕ (Int32)) :=
  if 96 ≤ ((f_h_now 0) + x3_15) then
    some (.inr x3_15)
  else
    k_b1 (p_X9_isBare f_h_now f_h_tide a1 ((f_h_now 0) + x3_15)) fun r17 =>
    if r17 = 0 then
      some (.inr x3_15)
    else
      some (.inl (x3_15 + 1))
def p_X9_seamTold (f_h_now : Nat → Int32) (f_h_tide : Nat → Int32) (a1 : Int32) (a2 : Int32) : Option (Int32 × Int32) :=
  k_b1 (p_X9_in ((a1).toInt64) 0 (((f_h_now 12) - 1).toInt64)) fun r1 =>
  if r1 = 0 then
    some ((-1), 0)
  else
    k_b1 (p_X9_in ((a2).toInt64) 0 3) fun r3 =>
    if r3 = 0 then
      some ((-1), 0)
    else
      if 3 ≤ a2 then
        k_b1 (k_lp (fun s => lb_X9_seamTold_100 f_h_now f_h_tide a1 s) k_fuel 0) fun x3_14 =>
        some (x3_14, 0)
      else
        if a2 = 0 then
          k_ix (145 + a1) 169 (
            some (f_h_now (145 + a1).toNatClampNeg, 0))
        else
          if a2 = 1 then
            k_b1 (p_X9_isBare f_h_now f_h_tide a1 (f_h_now 0)) fun r22 =>
            if r22 = 0 then
              some (0, 0)
            else
              some (1, 0)
          else
            k_ix (157 + a1) 169 (
              some (f_h_now (157 + a1).toNatClampNeg, 0))
abbrev rm_X9_seamTold : Room := { frames := 2, cells := 0, slots := 0, locals := 44 }
theorem hdS_X9_seamTold : yX9_seamTold.cls ≠ "java/lang/invoke/MethodHandle" ∧ yX9_seamTold.cls ≠ "java/lang/invoke/VarHandle" ∧ (parseMethodDescriptor yX9_seamTold.desc).map (fun d => d.parameters.length) = some 2 := by decide +kernel
theorem hdV_X9_seamTold : yX9_seamTold.cls = RX9 ∧ yX9_seamTold.cls ≠ "java/lang/invoke/MethodHandle" ∧ yX9_seamTold.cls ≠ "java/lang/invoke/VarHandle" ∧ (parseMethodDescriptor yX9_seamTold.desc).map (fun d => d.parameters.length) = some 2 := by decide +kernel
set_option maxHeartbeats 4000000 in
set_option maxRecDepth 100000 in
theorem c_X9_seamTold (l : Launch) (D : va_G) (cI cZ cJ cS : ClassId) (h h_now h_aside h_books h_tide h_rain h_rule h_counts h_begins h_best h_planks : Nat) (v_h_thrown : Int32) (v_h_kept : Int32) (v_h_counted : Int32) (v_h_bestWorth : Int32) (v_h_bestPitch : Int32) (v_h_bestBits : Int32) (v_h_leastHour : Int32) (v_h_leastSet : Int32) (v_h_shut : Int32) (f_h_now : Nat → Int32) (f_h_tide : Nat → Int32) (a1 : Int32) (a2 : Int32) (r : Int32) (v_h_thrown' : Int32) (hf : p_X9_seamTold f_h_now f_h_tide a1 a2 = some (r, v_h_thrown')) : k_MI l yX9_seamTold wsX9_seamTold rm_X9_seamTold D (k_tys cI cZ cJ cS) [.ref h, .int a1, .int a2] [(h, .inr (9, [.int v_h_thrown, .ref h_now, .ref h_aside, .int v_h_kept, .ref h_books, .ref h_tide, .ref h_rain, .ref h_rule, .int v_h_counted, .ref h_counts, .ref h_begins, .ref h_best, .int v_h_bestWorth, .int v_h_bestPitch, .int v_h_bestBits, .int v_h_leastHour, .int v_h_leastSet, .int v_h_shut, .ref h_planks])), (h_now, .inl (cI, 169, .inl f_h_now)), (h_tide, .inl (cI, 96, .inl f_h_tide))] [(h, .inr (9, [.int v_h_thrown', .ref h_now, .ref h_aside, .int v_h_kept, .ref h_books, .ref h_tide, .ref h_rain, .ref h_rule, .int v_h_counted, .ref h_counts, .ref h_begins, .ref h_best, .int v_h_bestWorth, .int v_h_bestPitch, .int v_h_bestBits, .int v_h_leastHour, .int v_h_leastSet, .int v_h_shut, .ref h_planks])), (h_now, .inl (cI, 169, .inl f_h_now)), (h_tide, .inl (cI, 96, .inl f_h_tide))] r := by
  refine k_enter (y := yX9_seamTold) (wl := wsX9_seamTold) (rm := rm_X9_seamTold) (av := [.ref h, .int a1, .int a2]) (D := D) (tys := k_tys cI cZ cJ cS) (ws := [(h, .inr (9, [.int v_h_thrown, .ref h_now, .ref h_aside, .int v_h_kept, .ref h_books, .ref h_tide, .ref h_rain, .ref h_rule, .int v_h_counted, .ref h_counts, .ref h_begins, .ref h_best, .int v_h_bestWorth, .int v_h_bestPitch, .int v_h_bestBits, .int v_h_leastHour, .int v_h_leastSet, .int v_h_shut, .ref h_planks])), (h_now, .inl (cI, 169, .inl f_h_now)), (h_tide, .inl (cI, 96, .inl f_h_tide))]) (cc := cX9_seamTold) (maxL := 4) (ret := (some .int)) (Qc := fun A => k_Qi D (k_tys cI cZ cJ cS) [(h, .inr (9, [.int v_h_thrown', .ref h_now, .ref h_aside, .int v_h_kept, .ref h_books, .ref h_tide, .ref h_rain, .ref h_rule, .int v_h_counted, .ref h_counts, .ref h_begins, .ref h_best, .int v_h_bestWorth, .int v_h_bestPitch, .int v_h_bestBits, .int v_h_leastHour, .int v_h_leastSet, .int v_h_shut, .ref h_planks])), (h_now, .inl (cI, 169, .inl f_h_now)), (h_tide, .inl (cI, 96, .inl f_h_tide))] A r) (by decide) rfl (Nat.le_of_ble_eq_true rfl) [(0, .ref h), (1, .int a1), (2, .int a2)] rfl ?_
  intro p e s m below meth c A hx hb hml hr hlocks hnm hown hK hP hD hA hS hN ls args Q hts hl hQ
  replace hown : s.vm.findClass RX9 = some m.cls := hown
  have S0 : CallFix p m c cX9_seamTold 4 s args wsX9_seamTold RX9 := ⟨hx, hb, hml, hown, hts⟩
  have inX9 : ∀ w ∈ u_ws RX9 TX9 19, w ∈ wsX9_seamTold := fun w h => List.mem_cons_of_mem _ (List.mem_append_right _ h)
  have wl1 : (Cond.fieldLink RX9 1 "BeachedShipModel" "thrown" "I").before args s = true := hts _ (List.mem_of_getElem? (i := 1) rfl)
  have wl2 : (Cond.fieldLink RX9 13 "BeachedShipModel" "now" "[I").before args s = true := hts _ (List.mem_of_getElem? (i := 2) rfl)
  have wl3 : (Cond.constantLong RX9 127 (3)).before args s = true := hts _ (List.mem_of_getElem? (i := 3) rfl)
  have hRet : ∀ (r_z : Int32) (v_h_thrown_z : Int32), some (r_z, v_h_thrown_z) = some (r, v_h_thrown') → ∀ (H : Heap) (locs : List Loc) (ls : Array Slot) (pc : Nat), va_P D vwCl [(h, .inr (9, [.int v_h_thrown_z, .ref h_now, .ref h_aside, .int v_h_kept, .ref h_books, .ref h_tide, .ref h_rain, .ref h_rule, .int v_h_counted, .ref h_counts, .ref h_begins, .ref h_best, .int v_h_bestWorth, .int v_h_bestPitch, .int v_h_bestBits, .int v_h_leastHour, .int v_h_leastSet, .int v_h_shut, .ref h_planks])), (h_now, .inl (cI, 169, .inl f_h_now)), (h_tide, .inl (cI, 96, .inl f_h_tide))] H → va_D A [(h, .inr (9, [.int v_h_thrown_z, .ref h_now, .ref h_aside, .int v_h_kept, .ref h_books, .ref h_tide, .ref h_rain, .ref h_rule, .int v_h_counted, .ref h_counts, .ref h_begins, .ref h_best, .int v_h_bestWorth, .int v_h_bestPitch, .int v_h_bestBits, .int v_h_leastHour, .int v_h_leastSet, .int v_h_shut, .ref h_planks])), (h_now, .inl (cI, 169, .inl f_h_now)), (h_tide, .inl (cI, 96, .inl f_h_tide))] → va_S A s.heap H locs → narrow .int (.int r_z) = .int r_z → decode cX9_seamTold pc = .ok (.ireturn, 1) → W p l e rm_X9_seamTold s m args below meth c H locs 0 0 Q (F0 m pc ls [.int r_z]) := by
    intro r_z v_h_thrown_z hz H locs ls pc hP hD hS hn hd
    cases hz
    exact k_iret hx hb hr hlocks hn hK hP hD hS hQ rfl hd
  unfold p_X9_seamTold at hf
  refine lv_aload_n hx hb dX9_seamTold_0 rfl (lv_at hl 0 rfl) ?_
  refine lv_iconst (v := 0) hx hb dX9_seamTold_1 (by decide) ?_
  refine k_putf (ws2 := [(h, .inr (9, [.int 0, .ref h_now, .ref h_aside, .int v_h_kept, .ref h_books, .ref h_tide, .ref h_rain, .ref h_rule, .int v_h_counted, .ref h_counts, .ref h_begins, .ref h_best, .int v_h_bestWorth, .int v_h_bestPitch, .int v_h_bestBits, .int v_h_leastHour, .int v_h_leastSet, .int v_h_shut, .ref h_planks])), (h_now, .inl (cI, 169, .inl f_h_now)), (h_tide, .inl (cI, 96, .inl f_h_tide))]) (C := RX9) (T := TX9) (N := 19) hx hb hts inX9 tyX9 tyX9_ok nmX9 hown hK hP hD hS 0 rfl rfl 0 (by decide) rfl wl1 rfl rfl rfl (Nat.le_of_ble_eq_true rfl) rfl dX9_seamTold_2 (fun H locs hP hD hS => ?_)
  refine lv_iload_n hx hb dX9_seamTold_5 rfl (lv_at hl 1 rfl) ?_
  refine lv_i2l (v := (a1).toInt64) hx hb dX9_seamTold_6 rfl ?_
  refine lv_lconst (v := 0) hx hb dX9_seamTold_7 (by decide) ?_
  refine lv_aload_n hx hb dX9_seamTold_8 rfl (lv_at hl 0 rfl) ?_
  refine k_get (C := RX9) (T := TX9) (N := 19) hx hb hts inX9 hown hK hP 0 rfl rfl 1 (by decide) rfl wl2 rfl dX9_seamTold_9 ?_
  refine lv_bipush (v := 12) hx hb dX9_seamTold_12 (by decide) ?_
  refine k_iald (k := 12) hx hb hK hP 1 0 rfl rfl (by unfold vp_in; decide) (by decide) dX9_seamTold_14 ?_
  refine lv_iconst (v := 1) hx hb dX9_seamTold_15 (by decide) ?_
  refine lv_isub hx hb dX9_seamTold_16 ?_
  refine lv_i2l (v := ((f_h_now 12) - 1).toInt64) hx hb dX9_seamTold_17 rfl ?_
  obtain ⟨r1, hc1, hf⟩ := k_b1_some hf
  refine k_SiR (As := [.long ((a1).toInt64), .long 0, .long (((f_h_now 12) - 1).toInt64)]) (rest := []) S0 (c_X9_in l D cI cZ cJ cS ((a1).toInt64) 0 (((f_h_now 12) - 1).toInt64) r1 hc1) (va_cwS 3 hts gX9_seamTold_X9_in rfl rfl rfl hdS_X9_in ⟨Nat.le_of_ble_eq_true rfl, Nat.le_of_ble_eq_true rfl⟩) hK hP hD hS hA hN [] rfl (by decide) rfl hl.1 rfl (Nat.le_of_ble_eq_true rfl) dX9_seamTold_18 (fun H locs hP hS => ?_)
  refine lv_if_eq (tgt := 36) hx hb dX9_seamTold_21 (by decide) (fun c2 => ?_) (fun c2 => ?_)
  · replace hf := k_pos hf c2
    refine lv_iconst (v := (-1)) hx hb dX9_seamTold_36 (by decide) ?_
    exact hRet _ _ hf _ _ _ _ hP hD hS rfl dX9_seamTold_37
  · replace hf := k_neg hf c2
    refine lv_iload_n hx hb dX9_seamTold_24 rfl (lv_at hl 2 rfl) ?_
    refine lv_i2l (v := (a2).toInt64) hx hb dX9_seamTold_25 rfl ?_
    refine lv_lconst (v := 0) hx hb dX9_seamTold_26 (by decide) ?_
    refine lv_ldc2 hx hb hown wl3 dX9_seamTold_27 ?_
    obtain ⟨r3, hc3, hf⟩ := k_b1_some hf
    refine k_SiR (As := [.long ((a2).toInt64), .long 0, .long 3]) (rest := []) S0 (c_X9_in l D cI cZ cJ cS ((a2).toInt64) 0 3 r3 hc3) (va_cwS 3 hts gX9_seamTold_X9_in rfl rfl rfl hdS_X9_in ⟨Nat.le_of_ble_eq_true rfl, Nat.le_of_ble_eq_true rfl⟩) hK hP hD hS hA hN [] rfl (by decide) rfl hl.1 rfl (Nat.le_of_ble_eq_true rfl) dX9_seamTold_30 (fun H locs hP hS => ?_)
    refine lv_if_ne (tgt := 38) hx hb dX9_seamTold_33 (by decide) (fun c4 => ?_) (fun c4 => ?_)
    · replace hf := k_neg hf c4
      refine lv_iload_n hx hb dX9_seamTold_38 rfl (lv_at hl 2 rfl) ?_
      refine lv_iconst (v := 3) hx hb dX9_seamTold_39 (by decide) ?_
      refine lv_icmp_ge (tgt := 98) hx hb dX9_seamTold_40 (by decide) (fun c5 => ?_) (fun c5 => ?_)
      · replace hf := k_pos hf c5
        refine lv_iconst (v := 0) hx hb dX9_seamTold_98 (by decide) ?_
        refine lv_istore_n (lv' := [(3, .int 0), (0, .ref h), (1, .int a1), (2, .int a2)]) hx hb dX9_seamTold_99 rfl hl (by decide) rfl (fun ls hl => ?_)
        obtain ⟨ee13, hlp13, hfr13⟩ := k_b1_ee hf
        have hE13 : ∀ (x3_14 : Int32), ee13 = x3_14 → ∀ (H : Heap) (locs : List Loc) (ls : Array Slot), va_P D vwCl [(h, .inr (9, [.int 0, .ref h_now, .ref h_aside, .int v_h_kept, .ref h_books, .ref h_tide, .ref h_rain, .ref h_rule, .int v_h_counted, .ref h_counts, .ref h_begins, .ref h_best, .int v_h_bestWorth, .int v_h_bestPitch, .int v_h_bestBits, .int v_h_leastHour, .int v_h_leastSet, .int v_h_shut, .ref h_planks])), (h_now, .inl (cI, 169, .inl f_h_now)), (h_tide, .inl (cI, 96, .inl f_h_tide))] H → va_D A [(h, .inr (9, [.int 0, .ref h_now, .ref h_aside, .int v_h_kept, .ref h_books, .ref h_tide, .ref h_rain, .ref h_rule, .int v_h_counted, .ref h_counts, .ref h_begins, .ref h_best, .int v_h_bestWorth, .int v_h_bestPitch, .int v_h_bestBits, .int v_h_leastHour, .int v_h_leastSet, .int v_h_shut, .ref h_planks])), (h_now, .inl (cI, 169, .inl f_h_now)), (h_tide, .inl (cI, 96, .inl f_h_tide))] → va_S A s.heap H locs → lv_has ls 4 [(3, .int x3_14)] → W p l e rm_X9_seamTold s m args below meth c H locs 0 0 Q (F0 m 135 ls []) := by
          intro x3_14 he H locs ls hP hD hS hl
          replace hf := hfr13 x3_14 he
          refine lv_iload_n hx hb dX9_seamTold_135 rfl (lv_at hl 0 rfl) ?_
          exact hRet _ _ hf _ _ _ _ hP hD hS rfl dX9_seamTold_136
        refine (k_lp_ind (fun sx13 => ∀ (H : Heap) (locs : List Loc) (ls : Array Slot), va_P D vwCl [(h, .inr (9, [.int 0, .ref h_now, .ref h_aside, .int v_h_kept, .ref h_books, .ref h_tide, .ref h_rain, .ref h_rule, .int v_h_counted, .ref h_counts, .ref h_begins, .ref h_best, .int v_h_bestWorth, .int v_h_bestPitch, .int v_h_bestBits, .int v_h_leastHour, .int v_h_leastSet, .int v_h_shut, .ref h_planks])), (h_now, .inl (cI, 169, .inl f_h_now)), (h_tide, .inl (cI, 96, .inl f_h_tide))] H → va_D A [(h, .inr (9, [.int 0, .ref h_now, .ref h_aside, .int v_h_kept, .ref h_books, .ref h_tide, .ref h_rain, .ref h_rule, .int v_h_counted, .ref h_counts, .ref h_begins, .ref h_best, .int v_h_bestWorth, .int v_h_bestPitch, .int v_h_bestBits, .int v_h_leastHour, .int v_h_leastSet, .int v_h_shut, .ref h_planks])), (h_now, .inl (cI, 169, .inl f_h_now)), (h_tide, .inl (cI, 96, .inl f_h_tide))] → va_S A s.heap H locs → lv_has ls 4 [(3, .int sx13), (0, .ref h), (1, .int a1)] → W p l e rm_X9_seamTold s m args below meth c H locs 0 0 Q (F0 m 100 ls [])) (fun sx13 X13 hX13 hin13 hout13 => ?_) _ _ hlp13) _ _ _ hP hD hS (lv_sub hl [0, 1, 2] rfl)
        obtain ⟨x3_15, rfl⟩ : ∃ z, z = sx13 := ⟨_, rfl⟩
        intro H locs ls hP hD hS hl
        replace hP : va_P D vwCl [(h, .inr (9, [.int 0, .ref h_now, .ref h_aside, .int v_h_kept, .ref h_books, .ref h_tide, .ref h_rain, .ref h_rule, .int v_h_counted, .ref h_counts, .ref h_begins, .ref h_best, .int v_h_bestWorth, .int v_h_bestPitch, .int v_h_bestBits, .int v_h_leastHour, .int v_h_leastSet, .int v_h_shut, .ref h_planks])), (h_now, .inl (cI, 169, .inl f_h_now)), (h_tide, .inl (cI, 96, .inl f_h_tide))] H := hP
        replace hD : va_D A [(h, .inr (9, [.int 0, .ref h_now, .ref h_aside, .int v_h_kept, .ref h_books, .ref h_tide, .ref h_rain, .ref h_rule, .int v_h_counted, .ref h_counts, .ref h_begins, .ref h_best, .int v_h_bestWorth, .int v_h_bestPitch, .int v_h_bestBits, .int v_h_leastHour, .int v_h_leastSet, .int v_h_shut, .ref h_planks])), (h_now, .inl (cI, 169, .inl f_h_now)), (h_tide, .inl (cI, 96, .inl f_h_tide))] := hD
        replace hl : lv_has ls 4 [(3, .int x3_15), (0, .ref h), (1, .int a1)] := hl
        replace hX13 : lb_X9_seamTold_100 f_h_now f_h_tide a1 x3_15 = some X13 := hX13
        unfold lb_X9_seamTold_100 at hX13
        refine lv_aload_n hx hb dX9_seamTold_100 rfl (lv_at hl 1 rfl) ?_
        refine k_get (C := RX9) (T := TX9) (N := 19) hx hb hts inX9 hown hK hP 0 rfl rfl 1 (by decide) rfl wl2 rfl dX9_seamTold_101 ?_
        refine lv_iconst (v := 0) hx hb dX9_seamTold_104 (by decide) ?_
        refine k_iald (k := 0) hx hb hK hP 1 0 rfl rfl (by unfold vp_in; decide) (by decide) dX9_seamTold_105 ?_
        refine lv_iload_n hx hb dX9_seamTold_106 rfl (lv_at hl 0 rfl) ?_
        refine lv_iadd hx hb dX9_seamTold_107 ?_
        refine lv_bipush (v := 96) hx hb dX9_seamTold_108 (by decide) ?_
        refine lv_icmp_ge (tgt := 135) hx hb dX9_seamTold_110 (by decide) (fun c16 => ?_) (fun c16 => ?_)
        · replace hX13 := k_pos hX13 c16
          exact hE13 _ (hout13 _ (Option.some.inj hX13).symm).symm _ _ _ hP hD hS (lv_sub hl [0] rfl)
        · replace hX13 := k_neg hX13 c16
          refine lv_aload_n hx hb dX9_seamTold_113 rfl (lv_at hl 1 rfl) ?_
          refine lv_iload_n hx hb dX9_seamTold_114 rfl (lv_at hl 2 rfl) ?_
          refine lv_aload_n hx hb dX9_seamTold_115 rfl (lv_at hl 1 rfl) ?_
          refine k_get (C := RX9) (T := TX9) (N := 19) hx hb hts inX9 hown hK hP 0 rfl rfl 1 (by decide) rfl wl2 rfl dX9_seamTold_116 ?_
          refine lv_iconst (v := 0) hx hb dX9_seamTold_119 (by decide) ?_
          refine k_iald (k := 0) hx hb hK hP 1 0 rfl rfl (by unfold vp_in; decide) (by decide) dX9_seamTold_120 ?_
          refine lv_iload_n hx hb dX9_seamTold_121 rfl (lv_at hl 0 rfl) ?_
          refine lv_iadd hx hb dX9_seamTold_122 ?_
          obtain ⟨r17, hc17, hX13⟩ := k_b1_some hX13
          refine k_ViR (q0 := 0) (As := [.int a1, .int ((f_h_now 0) + x3_15)]) (rest := []) S0 (c_X9_isBare l D cI cZ cJ cS h h_now h_aside h_books h_tide h_rain h_rule h_counts h_begins h_best h_planks 0 v_h_kept v_h_counted v_h_bestWorth v_h_bestPitch v_h_bestBits v_h_leastHour v_h_leastSet v_h_shut f_h_now f_h_tide a1 ((f_h_now 0) + x3_15) r17 hc17) (cwV 2 hts gX9_seamTold_X9_isBare rfl rfl rfl hdV_X9_isBare ⟨Nat.le_of_ble_eq_true rfl, Nat.le_of_ble_eq_true rfl⟩) hK hP hD hS hA hN [0, 1, 2] rfl (by decide) rfl rfl rfl rfl hl.1 rfl (Nat.le_of_ble_eq_true rfl) dX9_seamTold_123 (fun H locs hP hS => ?_)
          refine lv_if_eq (tgt := 135) hx hb dX9_seamTold_126 (by decide) (fun c18 => ?_) (fun c18 => ?_)
          · replace hX13 := k_pos hX13 c18
            exact hE13 _ (hout13 _ (Option.some.inj hX13).symm).symm _ _ _ hP hD hS (lv_sub hl [0] rfl)
          · replace hX13 := k_neg hX13 c18
            refine lv_iinc (v := x3_15 + 1) (lv' := [(3, .int (x3_15 + 1)), (0, .ref h), (1, .int a1)]) hx hb dX9_seamTold_129 hl (k := 0) rfl rfl (by decide) rfl (fun ls hl => ?_)
            refine lv_goto (tgt := 100) hx hb dX9_seamTold_132 (by decide) ?_
            exact hin13 (x3_15 + 1) (Option.some.inj hX13).symm _ _ _ hP hD hS (lv_sub hl [0, 1, 2] rfl)
      · replace hf := k_neg hf c5
        refine lv_iload_n hx hb dX9_seamTold_43 rfl (lv_at hl 2 rfl) ?_
        refine lv_if_ne (tgt := 60) hx hb dX9_seamTold_44 (by decide) (fun c19 => ?_) (fun c19 => ?_)
        · replace hf := k_neg hf c19
          refine lv_iload_n hx hb dX9_seamTold_60 rfl (lv_at hl 2 rfl) ?_
          refine lv_iconst (v := 1) hx hb dX9_seamTold_61 (by decide) ?_
          refine lv_icmp_ne (tgt := 87) hx hb dX9_seamTold_62 (by decide) (fun c20 => ?_) (fun c20 => ?_)
          · replace hf := k_neg hf c20
            refine lv_aload_n hx hb dX9_seamTold_87 rfl (lv_at hl 0 rfl) ?_
            refine k_get (C := RX9) (T := TX9) (N := 19) hx hb hts inX9 hown hK hP 0 rfl rfl 1 (by decide) rfl wl2 rfl dX9_seamTold_88 ?_
            refine lv_sipush (v := 157) hx hb dX9_seamTold_91 (by decide) ?_
            refine lv_iload_n hx hb dX9_seamTold_94 rfl (lv_at hl 1 rfl) ?_
            refine lv_iadd hx hb dX9_seamTold_95 ?_
            obtain ⟨hi21, hf⟩ := k_ix_some hf
            refine k_iald (k := (157 + a1).toNatClampNeg) hx hb hK hP 1 0 rfl rfl hi21 rfl dX9_seamTold_96 ?_
            exact hRet _ _ hf _ _ _ _ hP hD hS rfl dX9_seamTold_97
          · replace hf := k_pos hf c20
            refine lv_aload_n hx hb dX9_seamTold_65 rfl (lv_at hl 0 rfl) ?_
            refine lv_iload_n hx hb dX9_seamTold_66 rfl (lv_at hl 1 rfl) ?_
            refine lv_aload_n hx hb dX9_seamTold_67 rfl (lv_at hl 0 rfl) ?_
            refine k_get (C := RX9) (T := TX9) (N := 19) hx hb hts inX9 hown hK hP 0 rfl rfl 1 (by decide) rfl wl2 rfl dX9_seamTold_68 ?_
            refine lv_iconst (v := 0) hx hb dX9_seamTold_71 (by decide) ?_
            refine k_iald (k := 0) hx hb hK hP 1 0 rfl rfl (by unfold vp_in; decide) (by decide) dX9_seamTold_72 ?_
            obtain ⟨r22, hc22, hf⟩ := k_b1_some hf
            refine k_ViR (q0 := 0) (As := [.int a1, .int (f_h_now 0)]) (rest := []) S0 (c_X9_isBare l D cI cZ cJ cS h h_now h_aside h_books h_tide h_rain h_rule h_counts h_begins h_best h_planks 0 v_h_kept v_h_counted v_h_bestWorth v_h_bestPitch v_h_bestBits v_h_leastHour v_h_leastSet v_h_shut f_h_now f_h_tide a1 (f_h_now 0) r22 hc22) (cwV 2 hts gX9_seamTold_X9_isBare rfl rfl rfl hdV_X9_isBare ⟨Nat.le_of_ble_eq_true rfl, Nat.le_of_ble_eq_true rfl⟩) hK hP hD hS hA hN [0, 1, 2] rfl (by decide) rfl rfl rfl rfl hl.1 rfl (Nat.le_of_ble_eq_true rfl) dX9_seamTold_73 (fun H locs hP hS => ?_)
            refine lv_if_eq (tgt := 83) hx hb dX9_seamTold_76 (by decide) (fun c23 => ?_) (fun c23 => ?_)
            · replace hf := k_pos hf c23
              refine lv_iconst (v := 0) hx hb dX9_seamTold_83 (by decide) ?_
              refine lv_goto (tgt := 97) hx hb dX9_seamTold_84 (by decide) ?_
              exact hRet _ _ hf _ _ _ _ hP hD hS rfl dX9_seamTold_97
            · replace hf := k_neg hf c23
              refine lv_iconst (v := 1) hx hb dX9_seamTold_79 (by decide) ?_
              refine lv_goto (tgt := 97) hx hb dX9_seamTold_80 (by decide) ?_
              exact hRet _ _ hf _ _ _ _ hP hD hS rfl dX9_seamTold_97
        · replace hf := k_pos hf c19
          refine lv_aload_n hx hb dX9_seamTold_47 rfl (lv_at hl 0 rfl) ?_
          refine k_get (C := RX9) (T := TX9) (N := 19) hx hb hts inX9 hown hK hP 0 rfl rfl 1 (by decide) rfl wl2 rfl dX9_seamTold_48 ?_
          refine lv_sipush (v := 145) hx hb dX9_seamTold_51 (by decide) ?_
          refine lv_iload_n hx hb dX9_seamTold_54 rfl (lv_at hl 1 rfl) ?_
          refine lv_iadd hx hb dX9_seamTold_55 ?_
          obtain ⟨hi24, hf⟩ := k_ix_some hf
          refine k_iald (k := (145 + a1).toNatClampNeg) hx hb hK hP 1 0 rfl rfl hi24 rfl dX9_seamTold_56 ?_
          refine lv_goto (tgt := 97) hx hb dX9_seamTold_57 (by decide) ?_
          exact hRet _ _ hf _ _ _ _ hP hD hS rfl dX9_seamTold_97
    · replace hf := k_pos hf c4
      refine lv_iconst (v := (-1)) hx hb dX9_seamTold_36 (by decide) ?_
      exact hRet _ _ hf _ _ _ _ hP hD hS rfl dX9_seamTold_37

def lb_X9_move_61 (f_h_now : Nat → Int32) (a1 : Int32) (x2_34 : Int32) : Option ((Int32) ⊕ ((Int32 × Int32 × (Nat → Int32)) ⊕ (Unit))) :=
  if (f_h_now 10) ≤ x2_34 then
    some (.inr (.inr ()))
  else
    k_ix (25 + x2_34) 169 (
      if (f_h_now (25 + x2_34).toNatClampNeg) = a1 then
        k_ix (37 + x2_34) 169 (
          if (f_h_now (37 + x2_34).toNatClampNeg) = 1 then
            some (.inr (.inl ((-2), 0, f_h_now)))
          else
            some (.inl (x2_34 + 1)))
      else
        some (.inl (x2_34 + 1)))
def p_X9_move (f_h_now : Nat → Int32) (f_h_rule : Nat → Int32) (a1 : Int32) : Option (Int32 × Int32 × (Nat → Int32)) :=
  k_b1 (p_X9_in ((a1).toInt64) 0 (((f_h_now 10) - 1).toInt64)) fun r1 =>
  if r1 = 0 then
    some ((-1), 0, f_h_now)
  else
    if (f_h_now 3) = 1 then
      some ((-2), 0, f_h_now)
    else
      k_b1 (p_X9_isLost f_h_now) fun r4 =>
      if r4 = 0 then
        k_ix (37 + a1) 169 (
          if (f_h_now (37 + a1).toNatClampNeg) = 1 then
            k_bx0 (k_lp (fun s => lb_X9_move_61 f_h_now a1 s) k_fuel 0) (fun q => some q) (
              k_ix (37 + a1) 169 (
                k_ix (37 + a1) 169 (
                  k_b1 (p_X9_total f_h_rule (upd (upd (upd f_h_now (37 + a1).toNatClampNeg (1 - (f_h_now (37 + a1).toNatClampNeg))) 3 1) 9 (((upd (upd f_h_now (37 + a1).toNatClampNeg (1 - (f_h_now (37 + a1).toNatClampNeg))) 3 1) 9) + 1))) fun r33 =>
                  some (r33, 0, upd (upd (upd f_h_now (37 + a1).toNatClampNeg (1 - (f_h_now (37 + a1).toNatClampNeg))) 3 1) 9 (((upd (upd f_h_now (37 + a1).toNatClampNeg (1 - (f_h_now (37 + a1).toNatClampNeg))) 3 1) 9) + 1)))))
          else
            k_ix (25 + a1) 169 (
              if (f_h_now (25 + a1).toNatClampNeg) < 0 then
                k_ix (37 + a1) 169 (
                  k_ix (37 + a1) 169 (
                    k_b1 (p_X9_total f_h_rule (upd (upd (upd f_h_now (37 + a1).toNatClampNeg (1 - (f_h_now (37 + a1).toNatClampNeg))) 3 1) 9 (((upd (upd f_h_now (37 + a1).toNatClampNeg (1 - (f_h_now (37 + a1).toNatClampNeg))) 3 1) 9) + 1))) fun r12 =>
                    some (r12, 0, upd (upd (upd f_h_now (37 + a1).toNatClampNeg (1 - (f_h_now (37 + a1).toNatClampNeg))) 3 1) 9 (((upd (upd f_h_now (37 + a1).toNatClampNeg (1 - (f_h_now (37 + a1).toNatClampNeg))) 3 1) 9) + 1))))
              else
                k_ix (25 + a1) 169 (
                  k_ix (37 + (f_h_now (25 + a1).toNatClampNeg)) 169 (
                    if (f_h_now (37 + (f_h_now (25 + a1).toNatClampNeg)).toNatClampNeg) = 0 then
                      some ((-2), 0, f_h_now)
                    else
                      k_ix (37 + a1) 169 (
                        k_ix (37 + a1) 169 (
                          k_b1 (p_X9_total f_h_rule (upd (upd (upd f_h_now (37 + a1).toNatClampNeg (1 - (f_h_now (37 + a1).toNatClampNeg))) 3 1) 9 (((upd (upd f_h_now (37 + a1).toNatClampNeg (1 - (f_h_now (37 + a1).toNatClampNeg))) 3 1) 9) + 1))) fun r18 =>
                          some (r18, 0, upd (upd (upd f_h_now (37 + a1).toNatClampNeg (1 - (f_h_now (37 + a1).toNatClampNeg))) 3 1) 9 (((upd (upd f_h_now (37 + a1).toNatClampNeg (1 - (f_h_now (37 + a1).toNatClampNeg))) 3 1) 9) + 1))))))))
      else
        some ((-2), 0, f_h_now)
abbrev rm_X9_move : Room := { frames := 1, cells := 0, slots := 0, locals := 25 }
theorem hdS_X9_move : yX9_move.cls ≠ "java/lang/invoke/MethodHandle" ∧ yX9_move.cls ≠ "java/lang/invoke/VarHandle" ∧ (parseMethodDescriptor yX9_move.desc).map (fun d => d.parameters.length) = some 1 := by decide +kernel
theorem hdV_X9_move : yX9_move.cls = RX9 ∧ yX9_move.cls ≠ "java/lang/invoke/MethodHandle" ∧ yX9_move.cls ≠ "java/lang/invoke/VarHandle" ∧ (parseMethodDescriptor yX9_move.desc).map (fun d => d.parameters.length) = some 1 := by decide +kernel
set_option maxHeartbeats 4000000 in
set_option maxRecDepth 100000 in
theorem c_X9_move (l : Launch) (D : va_G) (cI cZ cJ cS : ClassId) (h h_now h_aside h_books h_tide h_rain h_rule h_counts h_begins h_best h_planks : Nat) (v_h_thrown : Int32) (v_h_kept : Int32) (v_h_counted : Int32) (v_h_bestWorth : Int32) (v_h_bestPitch : Int32) (v_h_bestBits : Int32) (v_h_leastHour : Int32) (v_h_leastSet : Int32) (v_h_shut : Int32) (f_h_now : Nat → Int32) (f_h_rule : Nat → Int32) (a1 : Int32) (r : Int32) (v_h_thrown' : Int32) (f_h_now' : Nat → Int32) (hf : p_X9_move f_h_now f_h_rule a1 = some (r, v_h_thrown', f_h_now')) : k_MI l yX9_move wsX9_move rm_X9_move D (k_tys cI cZ cJ cS) [.ref h, .int a1] [(h, .inr (9, [.int v_h_thrown, .ref h_now, .ref h_aside, .int v_h_kept, .ref h_books, .ref h_tide, .ref h_rain, .ref h_rule, .int v_h_counted, .ref h_counts, .ref h_begins, .ref h_best, .int v_h_bestWorth, .int v_h_bestPitch, .int v_h_bestBits, .int v_h_leastHour, .int v_h_leastSet, .int v_h_shut, .ref h_planks])), (h_now, .inl (cI, 169, .inl f_h_now)), (h_rule, .inl (cI, 8, .inl f_h_rule))] [(h, .inr (9, [.int v_h_thrown', .ref h_now, .ref h_aside, .int v_h_kept, .ref h_books, .ref h_tide, .ref h_rain, .ref h_rule, .int v_h_counted, .ref h_counts, .ref h_begins, .ref h_best, .int v_h_bestWorth, .int v_h_bestPitch, .int v_h_bestBits, .int v_h_leastHour, .int v_h_leastSet, .int v_h_shut, .ref h_planks])), (h_now, .inl (cI, 169, .inl f_h_now')), (h_rule, .inl (cI, 8, .inl f_h_rule))] r := by
  refine k_enter (y := yX9_move) (wl := wsX9_move) (rm := rm_X9_move) (av := [.ref h, .int a1]) (D := D) (tys := k_tys cI cZ cJ cS) (ws := [(h, .inr (9, [.int v_h_thrown, .ref h_now, .ref h_aside, .int v_h_kept, .ref h_books, .ref h_tide, .ref h_rain, .ref h_rule, .int v_h_counted, .ref h_counts, .ref h_begins, .ref h_best, .int v_h_bestWorth, .int v_h_bestPitch, .int v_h_bestBits, .int v_h_leastHour, .int v_h_leastSet, .int v_h_shut, .ref h_planks])), (h_now, .inl (cI, 169, .inl f_h_now)), (h_rule, .inl (cI, 8, .inl f_h_rule))]) (cc := cX9_move) (maxL := 3) (ret := (some .int)) (Qc := fun A => k_Qi D (k_tys cI cZ cJ cS) [(h, .inr (9, [.int v_h_thrown', .ref h_now, .ref h_aside, .int v_h_kept, .ref h_books, .ref h_tide, .ref h_rain, .ref h_rule, .int v_h_counted, .ref h_counts, .ref h_begins, .ref h_best, .int v_h_bestWorth, .int v_h_bestPitch, .int v_h_bestBits, .int v_h_leastHour, .int v_h_leastSet, .int v_h_shut, .ref h_planks])), (h_now, .inl (cI, 169, .inl f_h_now')), (h_rule, .inl (cI, 8, .inl f_h_rule))] A r) (by decide) rfl (Nat.le_of_ble_eq_true rfl) [(0, .ref h), (1, .int a1)] rfl ?_
  intro p e s m below meth c A hx hb hml hr hlocks hnm hown hK hP hD hA hS hN ls args Q hts hl hQ
  replace hown : s.vm.findClass RX9 = some m.cls := hown
  have S0 : CallFix p m c cX9_move 3 s args wsX9_move RX9 := ⟨hx, hb, hml, hown, hts⟩
  have inX9 : ∀ w ∈ u_ws RX9 TX9 19, w ∈ wsX9_move := fun w h => List.mem_cons_of_mem _ (List.mem_append_right _ h)
  have wl1 : (Cond.fieldLink RX9 1 "BeachedShipModel" "thrown" "I").before args s = true := hts _ (List.mem_of_getElem? (i := 1) rfl)
  have wl2 : (Cond.fieldLink RX9 13 "BeachedShipModel" "now" "[I").before args s = true := hts _ (List.mem_of_getElem? (i := 2) rfl)
  have hRet : ∀ (r_z : Int32) (v_h_thrown_z : Int32) (f_h_now_z : Nat → Int32), some (r_z, v_h_thrown_z, f_h_now_z) = some (r, v_h_thrown', f_h_now') → ∀ (H : Heap) (locs : List Loc) (ls : Array Slot) (pc : Nat), va_P D vwCl [(h, .inr (9, [.int v_h_thrown_z, .ref h_now, .ref h_aside, .int v_h_kept, .ref h_books, .ref h_tide, .ref h_rain, .ref h_rule, .int v_h_counted, .ref h_counts, .ref h_begins, .ref h_best, .int v_h_bestWorth, .int v_h_bestPitch, .int v_h_bestBits, .int v_h_leastHour, .int v_h_leastSet, .int v_h_shut, .ref h_planks])), (h_now, .inl (cI, 169, .inl f_h_now_z)), (h_rule, .inl (cI, 8, .inl f_h_rule))] H → va_D A [(h, .inr (9, [.int v_h_thrown_z, .ref h_now, .ref h_aside, .int v_h_kept, .ref h_books, .ref h_tide, .ref h_rain, .ref h_rule, .int v_h_counted, .ref h_counts, .ref h_begins, .ref h_best, .int v_h_bestWorth, .int v_h_bestPitch, .int v_h_bestBits, .int v_h_leastHour, .int v_h_leastSet, .int v_h_shut, .ref h_planks])), (h_now, .inl (cI, 169, .inl f_h_now_z)), (h_rule, .inl (cI, 8, .inl f_h_rule))] → va_S A s.heap H locs → narrow .int (.int r_z) = .int r_z → decode cX9_move pc = .ok (.ireturn, 1) → W p l e rm_X9_move s m args below meth c H locs 0 0 Q (F0 m pc ls [.int r_z]) := by
    intro r_z v_h_thrown_z f_h_now_z hz H locs ls pc hP hD hS hn hd
    cases hz
    exact k_iret hx hb hr hlocks hn hK hP hD hS hQ rfl hd
  unfold p_X9_move at hf
  refine lv_aload_n hx hb dX9_move_0 rfl (lv_at hl 0 rfl) ?_
  refine lv_iconst (v := 0) hx hb dX9_move_1 (by decide) ?_
  refine k_putf (ws2 := [(h, .inr (9, [.int 0, .ref h_now, .ref h_aside, .int v_h_kept, .ref h_books, .ref h_tide, .ref h_rain, .ref h_rule, .int v_h_counted, .ref h_counts, .ref h_begins, .ref h_best, .int v_h_bestWorth, .int v_h_bestPitch, .int v_h_bestBits, .int v_h_leastHour, .int v_h_leastSet, .int v_h_shut, .ref h_planks])), (h_now, .inl (cI, 169, .inl f_h_now)), (h_rule, .inl (cI, 8, .inl f_h_rule))]) (C := RX9) (T := TX9) (N := 19) hx hb hts inX9 tyX9 tyX9_ok nmX9 hown hK hP hD hS 0 rfl rfl 0 (by decide) rfl wl1 rfl rfl rfl (Nat.le_of_ble_eq_true rfl) rfl dX9_move_2 (fun H locs hP hD hS => ?_)
  refine lv_iload_n hx hb dX9_move_5 rfl (lv_at hl 1 rfl) ?_
  refine lv_i2l (v := (a1).toInt64) hx hb dX9_move_6 rfl ?_
  refine lv_lconst (v := 0) hx hb dX9_move_7 (by decide) ?_
  refine lv_aload_n hx hb dX9_move_8 rfl (lv_at hl 0 rfl) ?_
  refine k_get (C := RX9) (T := TX9) (N := 19) hx hb hts inX9 hown hK hP 0 rfl rfl 1 (by decide) rfl wl2 rfl dX9_move_9 ?_
  refine lv_bipush (v := 10) hx hb dX9_move_12 (by decide) ?_
  refine k_iald (k := 10) hx hb hK hP 1 0 rfl rfl (by unfold vp_in; decide) (by decide) dX9_move_14 ?_
  refine lv_iconst (v := 1) hx hb dX9_move_15 (by decide) ?_
  refine lv_isub hx hb dX9_move_16 ?_
  refine lv_i2l (v := ((f_h_now 10) - 1).toInt64) hx hb dX9_move_17 rfl ?_
  obtain ⟨r1, hc1, hf⟩ := k_b1_some hf
  refine k_SiR (As := [.long ((a1).toInt64), .long 0, .long (((f_h_now 10) - 1).toInt64)]) (rest := []) S0 (c_X9_in l D cI cZ cJ cS ((a1).toInt64) 0 (((f_h_now 10) - 1).toInt64) r1 hc1) (va_cwS 3 hts gX9_move_X9_in rfl rfl rfl hdS_X9_in ⟨Nat.le_of_ble_eq_true rfl, Nat.le_of_ble_eq_true rfl⟩) hK hP hD hS hA hN [] rfl (by decide) rfl hl.1 rfl (Nat.le_of_ble_eq_true rfl) dX9_move_18 (fun H locs hP hS => ?_)
  refine lv_if_ne (tgt := 26) hx hb dX9_move_21 (by decide) (fun c2 => ?_) (fun c2 => ?_)
  · replace hf := k_neg hf c2
    refine lv_aload_n hx hb dX9_move_26 rfl (lv_at hl 0 rfl) ?_
    refine k_get (C := RX9) (T := TX9) (N := 19) hx hb hts inX9 hown hK hP 0 rfl rfl 1 (by decide) rfl wl2 rfl dX9_move_27 ?_
    refine lv_iconst (v := 3) hx hb dX9_move_30 (by decide) ?_
    refine k_iald (k := 3) hx hb hK hP 1 0 rfl rfl (by unfold vp_in; decide) (by decide) dX9_move_31 ?_
    refine lv_iconst (v := 1) hx hb dX9_move_32 (by decide) ?_
    refine lv_icmp_eq (tgt := 43) hx hb dX9_move_33 (by decide) (fun c3 => ?_) (fun c3 => ?_)
    · replace hf := k_pos hf c3
      refine lv_bipush (v := (-2)) hx hb dX9_move_43 (by decide) ?_
      exact hRet _ _ _ hf _ _ _ _ hP hD hS rfl dX9_move_45
    · replace hf := k_neg hf c3
      refine lv_aload_n hx hb dX9_move_36 rfl (lv_at hl 0 rfl) ?_
      obtain ⟨r4, hc4, hf⟩ := k_b1_some hf
      refine k_ViR (q0 := 0) (As := []) (rest := []) S0 (c_X9_isLost l D cI cZ cJ cS h h_now h_aside h_books h_tide h_rain h_rule h_counts h_begins h_best h_planks 0 v_h_kept v_h_counted v_h_bestWorth v_h_bestPitch v_h_bestBits v_h_leastHour v_h_leastSet v_h_shut f_h_now r4 hc4) (cwV 0 hts gX9_move_X9_isLost rfl rfl rfl hdV_X9_isLost ⟨Nat.le_of_ble_eq_true rfl, Nat.le_of_ble_eq_true rfl⟩) hK hP hD hS hA hN [0, 1] rfl (by decide) rfl rfl rfl rfl hl.1 rfl (Nat.le_of_ble_eq_true rfl) dX9_move_37 (fun H locs hP hS => ?_)
      refine lv_if_eq (tgt := 46) hx hb dX9_move_40 (by decide) (fun c5 => ?_) (fun c5 => ?_)
      · replace hf := k_pos hf c5
        refine lv_aload_n hx hb dX9_move_46 rfl (lv_at hl 0 rfl) ?_
        refine k_get (C := RX9) (T := TX9) (N := 19) hx hb hts inX9 hown hK hP 0 rfl rfl 1 (by decide) rfl wl2 rfl dX9_move_47 ?_
        refine lv_bipush (v := 37) hx hb dX9_move_50 (by decide) ?_
        refine lv_iload_n hx hb dX9_move_52 rfl (lv_at hl 1 rfl) ?_
        refine lv_iadd hx hb dX9_move_53 ?_
        obtain ⟨hi6, hf⟩ := k_ix_some hf
        refine k_iald (k := (37 + a1).toNatClampNeg) hx hb hK hP 1 0 rfl rfl hi6 rfl dX9_move_54 ?_
        refine lv_iconst (v := 1) hx hb dX9_move_55 (by decide) ?_
        refine lv_icmp_ne (tgt := 110) hx hb dX9_move_56 (by decide) (fun c7 => ?_) (fun c7 => ?_)
        · replace hf := k_neg hf c7
          refine lv_aload_n hx hb dX9_move_110 rfl (lv_at hl 0 rfl) ?_
          refine k_get (C := RX9) (T := TX9) (N := 19) hx hb hts inX9 hown hK hP 0 rfl rfl 1 (by decide) rfl wl2 rfl dX9_move_111 ?_
          refine lv_bipush (v := 25) hx hb dX9_move_114 (by decide) ?_
          refine lv_iload_n hx hb dX9_move_116 rfl (lv_at hl 1 rfl) ?_
          refine lv_iadd hx hb dX9_move_117 ?_
          obtain ⟨hi8, hf⟩ := k_ix_some hf
          refine k_iald (k := (25 + a1).toNatClampNeg) hx hb hK hP 1 0 rfl rfl hi8 rfl dX9_move_118 ?_
          refine lv_if_lt (tgt := 145) hx hb dX9_move_119 (by decide) (fun c9 => ?_) (fun c9 => ?_)
          · replace hf := k_pos hf c9
            refine lv_aload_n hx hb dX9_move_145 rfl (lv_at hl 0 rfl) ?_
            refine k_get (C := RX9) (T := TX9) (N := 19) hx hb hts inX9 hown hK hP 0 rfl rfl 1 (by decide) rfl wl2 rfl dX9_move_146 ?_
            refine lv_bipush (v := 37) hx hb dX9_move_149 (by decide) ?_
            refine lv_iload_n hx hb dX9_move_151 rfl (lv_at hl 1 rfl) ?_
            refine lv_iadd hx hb dX9_move_152 ?_
            refine lv_iconst (v := 1) hx hb dX9_move_153 (by decide) ?_
            refine lv_aload_n hx hb dX9_move_154 rfl (lv_at hl 0 rfl) ?_
            refine k_get (C := RX9) (T := TX9) (N := 19) hx hb hts inX9 hown hK hP 0 rfl rfl 1 (by decide) rfl wl2 rfl dX9_move_155 ?_
            refine lv_bipush (v := 37) hx hb dX9_move_158 (by decide) ?_
            refine lv_iload_n hx hb dX9_move_160 rfl (lv_at hl 1 rfl) ?_
            refine lv_iadd hx hb dX9_move_161 ?_
            obtain ⟨hi10, hf⟩ := k_ix_some hf
            refine k_iald (k := (37 + a1).toNatClampNeg) hx hb hK hP 1 0 rfl rfl hi10 rfl dX9_move_162 ?_
            refine lv_isub hx hb dX9_move_163 ?_
            obtain ⟨hi11, hf⟩ := k_ix_some hf
            refine k_iast (ws2 := [(h, .inr (9, [.int 0, .ref h_now, .ref h_aside, .int v_h_kept, .ref h_books, .ref h_tide, .ref h_rain, .ref h_rule, .int v_h_counted, .ref h_counts, .ref h_begins, .ref h_best, .int v_h_bestWorth, .int v_h_bestPitch, .int v_h_bestBits, .int v_h_leastHour, .int v_h_leastSet, .int v_h_shut, .ref h_planks])), (h_now, .inl (cI, 169, .inl (upd f_h_now (37 + a1).toNatClampNeg (1 - (f_h_now (37 + a1).toNatClampNeg))))), (h_rule, .inl (cI, 8, .inl f_h_rule))]) (k := (37 + a1).toNatClampNeg) hx hb hK hP hD hS 1 0 rfl rfl hi11 rfl rfl dX9_move_164 (fun H locs hP hD hS => ?_)
            refine lv_aload_n hx hb dX9_move_165 rfl (lv_at hl 0 rfl) ?_
            refine k_get (C := RX9) (T := TX9) (N := 19) hx hb hts inX9 hown hK hP 0 rfl rfl 1 (by decide) rfl wl2 rfl dX9_move_166 ?_
            refine lv_iconst (v := 3) hx hb dX9_move_169 (by decide) ?_
            refine lv_iconst (v := 1) hx hb dX9_move_170 (by decide) ?_
            refine k_iast (ws2 := [(h, .inr (9, [.int 0, .ref h_now, .ref h_aside, .int v_h_kept, .ref h_books, .ref h_tide, .ref h_rain, .ref h_rule, .int v_h_counted, .ref h_counts, .ref h_begins, .ref h_best, .int v_h_bestWorth, .int v_h_bestPitch, .int v_h_bestBits, .int v_h_leastHour, .int v_h_leastSet, .int v_h_shut, .ref h_planks])), (h_now, .inl (cI, 169, .inl (upd (upd f_h_now (37 + a1).toNatClampNeg (1 - (f_h_now (37 + a1).toNatClampNeg))) 3 1))), (h_rule, .inl (cI, 8, .inl f_h_rule))]) (k := 3) hx hb hK hP hD hS 1 0 rfl rfl (by unfold vp_in; decide) (by decide) rfl dX9_move_171 (fun H locs hP hD hS => ?_)
            refine lv_aload_n hx hb dX9_move_172 rfl (lv_at hl 0 rfl) ?_
            refine k_get (C := RX9) (T := TX9) (N := 19) hx hb hts inX9 hown hK hP 0 rfl rfl 1 (by decide) rfl wl2 rfl dX9_move_173 ?_
            refine lv_bipush (v := 9) hx hb dX9_move_176 (by decide) ?_
            refine lv_dup2_11 hx hb dX9_move_178 rfl rfl ?_
            refine k_iald (k := 9) hx hb hK hP 1 0 rfl rfl (by unfold vp_in; decide) (by decide) dX9_move_179 ?_
            refine lv_iconst (v := 1) hx hb dX9_move_180 (by decide) ?_
            refine lv_iadd hx hb dX9_move_181 ?_
            refine k_iast (ws2 := [(h, .inr (9, [.int 0, .ref h_now, .ref h_aside, .int v_h_kept, .ref h_books, .ref h_tide, .ref h_rain, .ref h_rule, .int v_h_counted, .ref h_counts, .ref h_begins, .ref h_best, .int v_h_bestWorth, .int v_h_bestPitch, .int v_h_bestBits, .int v_h_leastHour, .int v_h_leastSet, .int v_h_shut, .ref h_planks])), (h_now, .inl (cI, 169, .inl (upd (upd (upd f_h_now (37 + a1).toNatClampNeg (1 - (f_h_now (37 + a1).toNatClampNeg))) 3 1) 9 (((upd (upd f_h_now (37 + a1).toNatClampNeg (1 - (f_h_now (37 + a1).toNatClampNeg))) 3 1) 9) + 1)))), (h_rule, .inl (cI, 8, .inl f_h_rule))]) (k := 9) hx hb hK hP hD hS 1 0 rfl rfl (by unfold vp_in; decide) (by decide) rfl dX9_move_182 (fun H locs hP hD hS => ?_)
            refine lv_aload_n hx hb dX9_move_183 rfl (lv_at hl 0 rfl) ?_
            obtain ⟨r12, hc12, hf⟩ := k_b1_some hf
            refine k_ViR (q0 := 0) (As := []) (rest := []) S0 (c_X9_total l D cI cZ cJ cS h h_now h_aside h_books h_tide h_rain h_rule h_counts h_begins h_best h_planks 0 v_h_kept v_h_counted v_h_bestWorth v_h_bestPitch v_h_bestBits v_h_leastHour v_h_leastSet v_h_shut f_h_rule (upd (upd (upd f_h_now (37 + a1).toNatClampNeg (1 - (f_h_now (37 + a1).toNatClampNeg))) 3 1) 9 (((upd (upd f_h_now (37 + a1).toNatClampNeg (1 - (f_h_now (37 + a1).toNatClampNeg))) 3 1) 9) + 1)) r12 hc12) (cwV 0 hts gX9_move_X9_total rfl rfl rfl hdV_X9_total ⟨Nat.le_of_ble_eq_true rfl, Nat.le_of_ble_eq_true rfl⟩) hK hP hD hS hA hN [0, 2, 1] rfl (by decide) rfl rfl rfl rfl hl.1 rfl (Nat.le_of_ble_eq_true rfl) dX9_move_184 (fun H locs hP hS => ?_)
            exact hRet _ _ _ hf _ _ _ _ hP hD hS rfl dX9_move_187
          · replace hf := k_neg hf c9
            refine lv_aload_n hx hb dX9_move_122 rfl (lv_at hl 0 rfl) ?_
            refine k_get (C := RX9) (T := TX9) (N := 19) hx hb hts inX9 hown hK hP 0 rfl rfl 1 (by decide) rfl wl2 rfl dX9_move_123 ?_
            refine lv_bipush (v := 37) hx hb dX9_move_126 (by decide) ?_
            refine lv_aload_n hx hb dX9_move_128 rfl (lv_at hl 0 rfl) ?_
            refine k_get (C := RX9) (T := TX9) (N := 19) hx hb hts inX9 hown hK hP 0 rfl rfl 1 (by decide) rfl wl2 rfl dX9_move_129 ?_
            refine lv_bipush (v := 25) hx hb dX9_move_132 (by decide) ?_
            refine lv_iload_n hx hb dX9_move_134 rfl (lv_at hl 1 rfl) ?_
            refine lv_iadd hx hb dX9_move_135 ?_
            obtain ⟨hi13, hf⟩ := k_ix_some hf
            refine k_iald (k := (25 + a1).toNatClampNeg) hx hb hK hP 1 0 rfl rfl hi13 rfl dX9_move_136 ?_
            refine lv_iadd hx hb dX9_move_137 ?_
            obtain ⟨hi14, hf⟩ := k_ix_some hf
            refine k_iald (k := (37 + (f_h_now (25 + a1).toNatClampNeg)).toNatClampNeg) hx hb hK hP 1 0 rfl rfl hi14 rfl dX9_move_138 ?_
            refine lv_if_ne (tgt := 145) hx hb dX9_move_139 (by decide) (fun c15 => ?_) (fun c15 => ?_)
            · replace hf := k_neg hf c15
              refine lv_aload_n hx hb dX9_move_145 rfl (lv_at hl 0 rfl) ?_
              refine k_get (C := RX9) (T := TX9) (N := 19) hx hb hts inX9 hown hK hP 0 rfl rfl 1 (by decide) rfl wl2 rfl dX9_move_146 ?_
              refine lv_bipush (v := 37) hx hb dX9_move_149 (by decide) ?_
              refine lv_iload_n hx hb dX9_move_151 rfl (lv_at hl 1 rfl) ?_
              refine lv_iadd hx hb dX9_move_152 ?_
              refine lv_iconst (v := 1) hx hb dX9_move_153 (by decide) ?_
              refine lv_aload_n hx hb dX9_move_154 rfl (lv_at hl 0 rfl) ?_
              refine k_get (C := RX9) (T := TX9) (N := 19) hx hb hts inX9 hown hK hP 0 rfl rfl 1 (by decide) rfl wl2 rfl dX9_move_155 ?_
              refine lv_bipush (v := 37) hx hb dX9_move_158 (by decide) ?_
              refine lv_iload_n hx hb dX9_move_160 rfl (lv_at hl 1 rfl) ?_
              refine lv_iadd hx hb dX9_move_161 ?_
              obtain ⟨hi16, hf⟩ := k_ix_some hf
              refine k_iald (k := (37 + a1).toNatClampNeg) hx hb hK hP 1 0 rfl rfl hi16 rfl dX9_move_162 ?_
              refine lv_isub hx hb dX9_move_163 ?_
              obtain ⟨hi17, hf⟩ := k_ix_some hf
              refine k_iast (ws2 := [(h, .inr (9, [.int 0, .ref h_now, .ref h_aside, .int v_h_kept, .ref h_books, .ref h_tide, .ref h_rain, .ref h_rule, .int v_h_counted, .ref h_counts, .ref h_begins, .ref h_best, .int v_h_bestWorth, .int v_h_bestPitch, .int v_h_bestBits, .int v_h_leastHour, .int v_h_leastSet, .int v_h_shut, .ref h_planks])), (h_now, .inl (cI, 169, .inl (upd f_h_now (37 + a1).toNatClampNeg (1 - (f_h_now (37 + a1).toNatClampNeg))))), (h_rule, .inl (cI, 8, .inl f_h_rule))]) (k := (37 + a1).toNatClampNeg) hx hb hK hP hD hS 1 0 rfl rfl hi17 rfl rfl dX9_move_164 (fun H locs hP hD hS => ?_)
              refine lv_aload_n hx hb dX9_move_165 rfl (lv_at hl 0 rfl) ?_
              refine k_get (C := RX9) (T := TX9) (N := 19) hx hb hts inX9 hown hK hP 0 rfl rfl 1 (by decide) rfl wl2 rfl dX9_move_166 ?_
              refine lv_iconst (v := 3) hx hb dX9_move_169 (by decide) ?_
              refine lv_iconst (v := 1) hx hb dX9_move_170 (by decide) ?_
              refine k_iast (ws2 := [(h, .inr (9, [.int 0, .ref h_now, .ref h_aside, .int v_h_kept, .ref h_books, .ref h_tide, .ref h_rain, .ref h_rule, .int v_h_counted, .ref h_counts, .ref h_begins, .ref h_best, .int v_h_bestWorth, .int v_h_bestPitch, .int v_h_bestBits, .int v_h_leastHour, .int v_h_leastSet, .int v_h_shut, .ref h_planks])), (h_now, .inl (cI, 169, .inl (upd (upd f_h_now (37 + a1).toNatClampNeg (1 - (f_h_now (37 + a1).toNatClampNeg))) 3 1))), (h_rule, .inl (cI, 8, .inl f_h_rule))]) (k := 3) hx hb hK hP hD hS 1 0 rfl rfl (by unfold vp_in; decide) (by decide) rfl dX9_move_171 (fun H locs hP hD hS => ?_)
              refine lv_aload_n hx hb dX9_move_172 rfl (lv_at hl 0 rfl) ?_
              refine k_get (C := RX9) (T := TX9) (N := 19) hx hb hts inX9 hown hK hP 0 rfl rfl 1 (by decide) rfl wl2 rfl dX9_move_173 ?_
              refine lv_bipush (v := 9) hx hb dX9_move_176 (by decide) ?_
              refine lv_dup2_11 hx hb dX9_move_178 rfl rfl ?_
              refine k_iald (k := 9) hx hb hK hP 1 0 rfl rfl (by unfold vp_in; decide) (by decide) dX9_move_179 ?_
              refine lv_iconst (v := 1) hx hb dX9_move_180 (by decide) ?_
              refine lv_iadd hx hb dX9_move_181 ?_
              refine k_iast (ws2 := [(h, .inr (9, [.int 0, .ref h_now, .ref h_aside, .int v_h_kept, .ref h_books, .ref h_tide, .ref h_rain, .ref h_rule, .int v_h_counted, .ref h_counts, .ref h_begins, .ref h_best, .int v_h_bestWorth, .int v_h_bestPitch, .int v_h_bestBits, .int v_h_leastHour, .int v_h_leastSet, .int v_h_shut, .ref h_planks])), (h_now, .inl (cI, 169, .inl (upd (upd (upd f_h_now (37 + a1).toNatClampNeg (1 - (f_h_now (37 + a1).toNatClampNeg))) 3 1) 9 (((upd (upd f_h_now (37 + a1).toNatClampNeg (1 - (f_h_now (37 + a1).toNatClampNeg))) 3 1) 9) + 1)))), (h_rule, .inl (cI, 8, .inl f_h_rule))]) (k := 9) hx hb hK hP hD hS 1 0 rfl rfl (by unfold vp_in; decide) (by decide) rfl dX9_move_182 (fun H locs hP hD hS => ?_)
              refine lv_aload_n hx hb dX9_move_183 rfl (lv_at hl 0 rfl) ?_
              obtain ⟨r18, hc18, hf⟩ := k_b1_some hf
              refine k_ViR (q0 := 0) (As := []) (rest := []) S0 (c_X9_total l D cI cZ cJ cS h h_now h_aside h_books h_tide h_rain h_rule h_counts h_begins h_best h_planks 0 v_h_kept v_h_counted v_h_bestWorth v_h_bestPitch v_h_bestBits v_h_leastHour v_h_leastSet v_h_shut f_h_rule (upd (upd (upd f_h_now (37 + a1).toNatClampNeg (1 - (f_h_now (37 + a1).toNatClampNeg))) 3 1) 9 (((upd (upd f_h_now (37 + a1).toNatClampNeg (1 - (f_h_now (37 + a1).toNatClampNeg))) 3 1) 9) + 1)) r18 hc18) (cwV 0 hts gX9_move_X9_total rfl rfl rfl hdV_X9_total ⟨Nat.le_of_ble_eq_true rfl, Nat.le_of_ble_eq_true rfl⟩) hK hP hD hS hA hN [0, 2, 1] rfl (by decide) rfl rfl rfl rfl hl.1 rfl (Nat.le_of_ble_eq_true rfl) dX9_move_184 (fun H locs hP hS => ?_)
              exact hRet _ _ _ hf _ _ _ _ hP hD hS rfl dX9_move_187
            · replace hf := k_pos hf c15
              refine lv_bipush (v := (-2)) hx hb dX9_move_142 (by decide) ?_
              exact hRet _ _ _ hf _ _ _ _ hP hD hS rfl dX9_move_144
        · replace hf := k_pos hf c7
          refine lv_iconst (v := 0) hx hb dX9_move_59 (by decide) ?_
          refine lv_istore_n (lv' := [(2, .int 0), (0, .ref h), (1, .int a1)]) hx hb dX9_move_60 rfl hl (by decide) rfl (fun ls hl => ?_)
          obtain ⟨ee30, hlp30, hfl30, hfr30⟩ := k_bx0_some hf
          have hE30 : ee30 = .inr () → ∀ (H : Heap) (locs : List Loc) (ls : Array Slot), va_P D vwCl [(h, .inr (9, [.int 0, .ref h_now, .ref h_aside, .int v_h_kept, .ref h_books, .ref h_tide, .ref h_rain, .ref h_rule, .int v_h_counted, .ref h_counts, .ref h_begins, .ref h_best, .int v_h_bestWorth, .int v_h_bestPitch, .int v_h_bestBits, .int v_h_leastHour, .int v_h_leastSet, .int v_h_shut, .ref h_planks])), (h_now, .inl (cI, 169, .inl f_h_now)), (h_rule, .inl (cI, 8, .inl f_h_rule))] H → va_D A [(h, .inr (9, [.int 0, .ref h_now, .ref h_aside, .int v_h_kept, .ref h_books, .ref h_tide, .ref h_rain, .ref h_rule, .int v_h_counted, .ref h_counts, .ref h_begins, .ref h_best, .int v_h_bestWorth, .int v_h_bestPitch, .int v_h_bestBits, .int v_h_leastHour, .int v_h_leastSet, .int v_h_shut, .ref h_planks])), (h_now, .inl (cI, 169, .inl f_h_now)), (h_rule, .inl (cI, 8, .inl f_h_rule))] → va_S A s.heap H locs → lv_has ls 3 [(0, .ref h), (1, .int a1)] → W p l e rm_X9_move s m args below meth c H locs 0 0 Q (F0 m 107 ls []) := by
            intro  he H locs ls hP hD hS hl
            replace hf := hfr30  he
            refine lv_goto (tgt := 145) hx hb dX9_move_107 (by decide) ?_
            refine lv_aload_n hx hb dX9_move_145 rfl (lv_at hl 0 rfl) ?_
            refine k_get (C := RX9) (T := TX9) (N := 19) hx hb hts inX9 hown hK hP 0 rfl rfl 1 (by decide) rfl wl2 rfl dX9_move_146 ?_
            refine lv_bipush (v := 37) hx hb dX9_move_149 (by decide) ?_
            refine lv_iload_n hx hb dX9_move_151 rfl (lv_at hl 1 rfl) ?_
            refine lv_iadd hx hb dX9_move_152 ?_
            refine lv_iconst (v := 1) hx hb dX9_move_153 (by decide) ?_
            refine lv_aload_n hx hb dX9_move_154 rfl (lv_at hl 0 rfl) ?_
            refine k_get (C := RX9) (T := TX9) (N := 19) hx hb hts inX9 hown hK hP 0 rfl rfl 1 (by decide) rfl wl2 rfl dX9_move_155 ?_
            refine lv_bipush (v := 37) hx hb dX9_move_158 (by decide) ?_
            refine lv_iload_n hx hb dX9_move_160 rfl (lv_at hl 1 rfl) ?_
            refine lv_iadd hx hb dX9_move_161 ?_
            obtain ⟨hi31, hf⟩ := k_ix_some hf
            refine k_iald (k := (37 + a1).toNatClampNeg) hx hb hK hP 1 0 rfl rfl hi31 rfl dX9_move_162 ?_
            refine lv_isub hx hb dX9_move_163 ?_
            obtain ⟨hi32, hf⟩ := k_ix_some hf
            refine k_iast (ws2 := [(h, .inr (9, [.int 0, .ref h_now, .ref h_aside, .int v_h_kept, .ref h_books, .ref h_tide, .ref h_rain, .ref h_rule, .int v_h_counted, .ref h_counts, .ref h_begins, .ref h_best, .int v_h_bestWorth, .int v_h_bestPitch, .int v_h_bestBits, .int v_h_leastHour, .int v_h_leastSet, .int v_h_shut, .ref h_planks])), (h_now, .inl (cI, 169, .inl (upd f_h_now (37 + a1).toNatClampNeg (1 - (f_h_now (37 + a1).toNatClampNeg))))), (h_rule, .inl (cI, 8, .inl f_h_rule))]) (k := (37 + a1).toNatClampNeg) hx hb hK hP hD hS 1 0 rfl rfl hi32 rfl rfl dX9_move_164 (fun H locs hP hD hS => ?_)
            refine lv_aload_n hx hb dX9_move_165 rfl (lv_at hl 0 rfl) ?_
            refine k_get (C := RX9) (T := TX9) (N := 19) hx hb hts inX9 hown hK hP 0 rfl rfl 1 (by decide) rfl wl2 rfl dX9_move_166 ?_
            refine lv_iconst (v := 3) hx hb dX9_move_169 (by decide) ?_
            refine lv_iconst (v := 1) hx hb dX9_move_170 (by decide) ?_
            refine k_iast (ws2 := [(h, .inr (9, [.int 0, .ref h_now, .ref h_aside, .int v_h_kept, .ref h_books, .ref h_tide, .ref h_rain, .ref h_rule, .int v_h_counted, .ref h_counts, .ref h_begins, .ref h_best, .int v_h_bestWorth, .int v_h_bestPitch, .int v_h_bestBits, .int v_h_leastHour, .int v_h_leastSet, .int v_h_shut, .ref h_planks])), (h_now, .inl (cI, 169, .inl (upd (upd f_h_now (37 + a1).toNatClampNeg (1 - (f_h_now (37 + a1).toNatClampNeg))) 3 1))), (h_rule, .inl (cI, 8, .inl f_h_rule))]) (k := 3) hx hb hK hP hD hS 1 0 rfl rfl (by unfold vp_in; decide) (by decide) rfl dX9_move_171 (fun H locs hP hD hS => ?_)
            refine lv_aload_n hx hb dX9_move_172 rfl (lv_at hl 0 rfl) ?_
            refine k_get (C := RX9) (T := TX9) (N := 19) hx hb hts inX9 hown hK hP 0 rfl rfl 1 (by decide) rfl wl2 rfl dX9_move_173 ?_
            refine lv_bipush (v := 9) hx hb dX9_move_176 (by decide) ?_
            refine lv_dup2_11 hx hb dX9_move_178 rfl rfl ?_
            refine k_iald (k := 9) hx hb hK hP 1 0 rfl rfl (by unfold vp_in; decide) (by decide) dX9_move_179 ?_
            refine lv_iconst (v := 1) hx hb dX9_move_180 (by decide) ?_
            refine lv_iadd hx hb dX9_move_181 ?_
            refine k_iast (ws2 := [(h, .inr (9, [.int 0, .ref h_now, .ref h_aside, .int v_h_kept, .ref h_books, .ref h_tide, .ref h_rain, .ref h_rule, .int v_h_counted, .ref h_counts, .ref h_begins, .ref h_best, .int v_h_bestWorth, .int v_h_bestPitch, .int v_h_bestBits, .int v_h_leastHour, .int v_h_leastSet, .int v_h_shut, .ref h_planks])), (h_now, .inl (cI, 169, .inl (upd (upd (upd f_h_now (37 + a1).toNatClampNeg (1 - (f_h_now (37 + a1).toNatClampNeg))) 3 1) 9 (((upd (upd f_h_now (37 + a1).toNatClampNeg (1 - (f_h_now (37 + a1).toNatClampNeg))) 3 1) 9) + 1)))), (h_rule, .inl (cI, 8, .inl f_h_rule))]) (k := 9) hx hb hK hP hD hS 1 0 rfl rfl (by unfold vp_in; decide) (by decide) rfl dX9_move_182 (fun H locs hP hD hS => ?_)
            refine lv_aload_n hx hb dX9_move_183 rfl (lv_at hl 0 rfl) ?_
            obtain ⟨r33, hc33, hf⟩ := k_b1_some hf
            refine k_ViR (q0 := 0) (As := []) (rest := []) S0 (c_X9_total l D cI cZ cJ cS h h_now h_aside h_books h_tide h_rain h_rule h_counts h_begins h_best h_planks 0 v_h_kept v_h_counted v_h_bestWorth v_h_bestPitch v_h_bestBits v_h_leastHour v_h_leastSet v_h_shut f_h_rule (upd (upd (upd f_h_now (37 + a1).toNatClampNeg (1 - (f_h_now (37 + a1).toNatClampNeg))) 3 1) 9 (((upd (upd f_h_now (37 + a1).toNatClampNeg (1 - (f_h_now (37 + a1).toNatClampNeg))) 3 1) 9) + 1)) r33 hc33) (cwV 0 hts gX9_move_X9_total rfl rfl rfl hdV_X9_total ⟨Nat.le_of_ble_eq_true rfl, Nat.le_of_ble_eq_true rfl⟩) hK hP hD hS hA hN [0, 2, 1] rfl (by decide) rfl rfl rfl rfl hl.1 rfl (Nat.le_of_ble_eq_true rfl) dX9_move_184 (fun H locs hP hS => ?_)
            exact hRet _ _ _ hf _ _ _ _ hP hD hS rfl dX9_move_187
          refine (k_lp_ind (fun sx30 => ∀ (H : Heap) (locs : List Loc) (ls : Array Slot), va_P D vwCl [(h, .inr (9, [.int 0, .ref h_now, .ref h_aside, .int v_h_kept, .ref h_books, .ref h_tide, .ref h_rain, .ref h_rule, .int v_h_counted, .ref h_counts, .ref h_begins, .ref h_best, .int v_h_bestWorth, .int v_h_bestPitch, .int v_h_bestBits, .int v_h_leastHour, .int v_h_leastSet, .int v_h_shut, .ref h_planks])), (h_now, .inl (cI, 169, .inl f_h_now)), (h_rule, .inl (cI, 8, .inl f_h_rule))] H → va_D A [(h, .inr (9, [.int 0, .ref h_now, .ref h_aside, .int v_h_kept, .ref h_books, .ref h_tide, .ref h_rain, .ref h_rule, .int v_h_counted, .ref h_counts, .ref h_begins, .ref h_best, .int v_h_bestWorth, .int v_h_bestPitch, .int v_h_bestBits, .int v_h_leastHour, .int v_h_leastSet, .int v_h_shut, .ref h_planks])), (h_now, .inl (cI, 169, .inl f_h_now)), (h_rule, .inl (cI, 8, .inl f_h_rule))] → va_S A s.heap H locs → lv_has ls 3 [(2, .int sx30), (0, .ref h), (1, .int a1)] → W p l e rm_X9_move s m args below meth c H locs 0 0 Q (F0 m 61 ls [])) (fun sx30 X30 hX30 hin30 hout30 => ?_) _ _ hlp30) _ _ _ hP hD hS (lv_sub hl [0, 1, 2] rfl)
          obtain ⟨x2_34, rfl⟩ : ∃ z, z = sx30 := ⟨_, rfl⟩
          intro H locs ls hP hD hS hl
          replace hP : va_P D vwCl [(h, .inr (9, [.int 0, .ref h_now, .ref h_aside, .int v_h_kept, .ref h_books, .ref h_tide, .ref h_rain, .ref h_rule, .int v_h_counted, .ref h_counts, .ref h_begins, .ref h_best, .int v_h_bestWorth, .int v_h_bestPitch, .int v_h_bestBits, .int v_h_leastHour, .int v_h_leastSet, .int v_h_shut, .ref h_planks])), (h_now, .inl (cI, 169, .inl f_h_now)), (h_rule, .inl (cI, 8, .inl f_h_rule))] H := hP
          replace hD : va_D A [(h, .inr (9, [.int 0, .ref h_now, .ref h_aside, .int v_h_kept, .ref h_books, .ref h_tide, .ref h_rain, .ref h_rule, .int v_h_counted, .ref h_counts, .ref h_begins, .ref h_best, .int v_h_bestWorth, .int v_h_bestPitch, .int v_h_bestBits, .int v_h_leastHour, .int v_h_leastSet, .int v_h_shut, .ref h_planks])), (h_now, .inl (cI, 169, .inl f_h_now)), (h_rule, .inl (cI, 8, .inl f_h_rule))] := hD
          replace hl : lv_has ls 3 [(2, .int x2_34), (0, .ref h), (1, .int a1)] := hl
          replace hX30 : lb_X9_move_61 f_h_now a1 x2_34 = some X30 := hX30
          unfold lb_X9_move_61 at hX30
          refine lv_iload_n hx hb dX9_move_61 rfl (lv_at hl 0 rfl) ?_
          refine lv_aload_n hx hb dX9_move_62 rfl (lv_at hl 1 rfl) ?_
          refine k_get (C := RX9) (T := TX9) (N := 19) hx hb hts inX9 hown hK hP 0 rfl rfl 1 (by decide) rfl wl2 rfl dX9_move_63 ?_
          refine lv_bipush (v := 10) hx hb dX9_move_66 (by decide) ?_
          refine k_iald (k := 10) hx hb hK hP 1 0 rfl rfl (by unfold vp_in; decide) (by decide) dX9_move_68 ?_
          refine lv_icmp_ge (tgt := 107) hx hb dX9_move_69 (by decide) (fun c35 => ?_) (fun c35 => ?_)
          · replace hX30 := k_pos hX30 c35
            exact hE30  (hout30 _ (Option.some.inj hX30).symm).symm _ _ _ hP hD hS (lv_sub hl [1, 2] rfl)
          · replace hX30 := k_neg hX30 c35
            refine lv_aload_n hx hb dX9_move_72 rfl (lv_at hl 1 rfl) ?_
            refine k_get (C := RX9) (T := TX9) (N := 19) hx hb hts inX9 hown hK hP 0 rfl rfl 1 (by decide) rfl wl2 rfl dX9_move_73 ?_
            refine lv_bipush (v := 25) hx hb dX9_move_76 (by decide) ?_
            refine lv_iload_n hx hb dX9_move_78 rfl (lv_at hl 0 rfl) ?_
            refine lv_iadd hx hb dX9_move_79 ?_
            obtain ⟨hi36, hX30⟩ := k_ix_some hX30
            refine k_iald (k := (25 + x2_34).toNatClampNeg) hx hb hK hP 1 0 rfl rfl hi36 rfl dX9_move_80 ?_
            refine lv_iload_n hx hb dX9_move_81 rfl (lv_at hl 2 rfl) ?_
            refine lv_icmp_ne (tgt := 101) hx hb dX9_move_82 (by decide) (fun c37 => ?_) (fun c37 => ?_)
            · replace hX30 := k_neg hX30 c37
              refine lv_iinc (v := x2_34 + 1) (lv' := [(2, .int (x2_34 + 1)), (0, .ref h), (1, .int a1)]) hx hb dX9_move_101 hl (k := 0) rfl rfl (by decide) rfl (fun ls hl => ?_)
              refine lv_goto (tgt := 61) hx hb dX9_move_104 (by decide) ?_
              exact hin30 (x2_34 + 1) (Option.some.inj hX30).symm _ _ _ hP hD hS (lv_sub hl [0, 1, 2] rfl)
            · replace hX30 := k_pos hX30 c37
              refine lv_aload_n hx hb dX9_move_85 rfl (lv_at hl 1 rfl) ?_
              refine k_get (C := RX9) (T := TX9) (N := 19) hx hb hts inX9 hown hK hP 0 rfl rfl 1 (by decide) rfl wl2 rfl dX9_move_86 ?_
              refine lv_bipush (v := 37) hx hb dX9_move_89 (by decide) ?_
              refine lv_iload_n hx hb dX9_move_91 rfl (lv_at hl 0 rfl) ?_
              refine lv_iadd hx hb dX9_move_92 ?_
              obtain ⟨hi38, hX30⟩ := k_ix_some hX30
              refine k_iald (k := (37 + x2_34).toNatClampNeg) hx hb hK hP 1 0 rfl rfl hi38 rfl dX9_move_93 ?_
              refine lv_iconst (v := 1) hx hb dX9_move_94 (by decide) ?_
              refine lv_icmp_ne (tgt := 101) hx hb dX9_move_95 (by decide) (fun c39 => ?_) (fun c39 => ?_)
              · replace hX30 := k_neg hX30 c39
                refine lv_iinc (v := x2_34 + 1) (lv' := [(2, .int (x2_34 + 1)), (0, .ref h), (1, .int a1)]) hx hb dX9_move_101 hl (k := 0) rfl rfl (by decide) rfl (fun ls hl => ?_)
                refine lv_goto (tgt := 61) hx hb dX9_move_104 (by decide) ?_
                exact hin30 (x2_34 + 1) (Option.some.inj hX30).symm _ _ _ hP hD hS (lv_sub hl [0, 1, 2] rfl)
              · replace hX30 := k_pos hX30 c39
                refine lv_bipush (v := (-2)) hx hb dX9_move_98 (by decide) ?_
                have he := hout30 _ (Option.some.inj hX30).symm
                replace hf := hfl30 _ he.symm
                exact hRet _ _ _ hf _ _ _ _ hP hD hS rfl dX9_move_100
      · replace hf := k_neg hf c5
        refine lv_bipush (v := (-2)) hx hb dX9_move_43 (by decide) ?_
        exact hRet _ _ _ hf _ _ _ _ hP hD hS rfl dX9_move_45
  · replace hf := k_pos hf c2
    refine lv_iconst (v := (-1)) hx hb dX9_move_24 (by decide) ?_
    exact hRet _ _ _ hf _ _ _ _ hP hD hS rfl dX9_move_25

def p_X9_heel (f_h_now : Nat → Int32) (f_h_rain : Nat → Int32) (f_h_rule : Nat → Int32) (a1 : Int32) : Option (Int32 × Int32 × (Nat → Int32)) :=
  if a1 = 1 then
    k_b1 (p_X9_isLost f_h_now) fun r2 =>
    if r2 = 0 then
      if (f_h_now 4) = 1 then
        some ((-102), 0, f_h_now)
      else
        k_b1 (p_X9_in (((f_h_now 1) + a1).toInt64) (-9) 9) fun r5 =>
        if r5 = 0 then
          some ((-102), 0, f_h_now)
        else
          k_b1 (p_X9_rains f_h_rain (f_h_now 0)) fun r7 =>
          k_b1 (p_X9_holds f_h_now f_h_rule ((f_h_now 1) + a1) r7) fun r8 =>
          if r8 = 0 then
            some ((-102), 0, f_h_now)
          else
            some ((f_h_now 1) + a1, 0, upd (upd f_h_now 1 ((f_h_now 1) + a1)) 4 1)
    else
      some ((-102), 0, f_h_now)
  else
    if a1 = (-1) then
      k_b1 (p_X9_isLost f_h_now) fun r11 =>
      if r11 = 0 then
        if (f_h_now 4) = 1 then
          some ((-102), 0, f_h_now)
        else
          k_b1 (p_X9_in (((f_h_now 1) + a1).toInt64) (-9) 9) fun r14 =>
          if r14 = 0 then
            some ((-102), 0, f_h_now)
          else
            k_b1 (p_X9_rains f_h_rain (f_h_now 0)) fun r16 =>
            k_b1 (p_X9_holds f_h_now f_h_rule ((f_h_now 1) + a1) r16) fun r17 =>
            if r17 = 0 then
              some ((-102), 0, f_h_now)
            else
              some ((f_h_now 1) + a1, 0, upd (upd f_h_now 1 ((f_h_now 1) + a1)) 4 1)
      else
        some ((-102), 0, f_h_now)
    else
      some ((-100), 0, f_h_now)
abbrev rm_X9_heel : Room := { frames := 5, cells := 0, slots := 0, locals := 113 }
theorem hdS_X9_heel : yX9_heel.cls ≠ "java/lang/invoke/MethodHandle" ∧ yX9_heel.cls ≠ "java/lang/invoke/VarHandle" ∧ (parseMethodDescriptor yX9_heel.desc).map (fun d => d.parameters.length) = some 1 := by decide +kernel
theorem hdV_X9_heel : yX9_heel.cls = RX9 ∧ yX9_heel.cls ≠ "java/lang/invoke/MethodHandle" ∧ yX9_heel.cls ≠ "java/lang/invoke/VarHandle" ∧ (parseMethodDescriptor yX9_heel.desc).map (fun d => d.parameters.length) = some 1 := by decide +kernel
set_option maxHeartbeats 4000000 in
set_option maxRecDepth 100000 in
theorem c_X9_heel (l : Launch) (D : va_G) (cI cZ cJ cS : ClassId) (h h_now h_aside h_books h_tide h_rain h_rule h_counts h_begins h_best h_planks : Nat) (v_h_thrown : Int32) (v_h_kept : Int32) (v_h_counted : Int32) (v_h_bestWorth : Int32) (v_h_bestPitch : Int32) (v_h_bestBits : Int32) (v_h_leastHour : Int32) (v_h_leastSet : Int32) (v_h_shut : Int32) (f_h_now : Nat → Int32) (f_h_rain : Nat → Int32) (f_h_rule : Nat → Int32) (a1 : Int32) (r : Int32) (v_h_thrown' : Int32) (f_h_now' : Nat → Int32) (hf : p_X9_heel f_h_now f_h_rain f_h_rule a1 = some (r, v_h_thrown', f_h_now')) : k_MI l yX9_heel wsX9_heel rm_X9_heel D (k_tys cI cZ cJ cS) [.ref h, .int a1] [(h, .inr (9, [.int v_h_thrown, .ref h_now, .ref h_aside, .int v_h_kept, .ref h_books, .ref h_tide, .ref h_rain, .ref h_rule, .int v_h_counted, .ref h_counts, .ref h_begins, .ref h_best, .int v_h_bestWorth, .int v_h_bestPitch, .int v_h_bestBits, .int v_h_leastHour, .int v_h_leastSet, .int v_h_shut, .ref h_planks])), (h_now, .inl (cI, 169, .inl f_h_now)), (h_rain, .inl (cI, 96, .inl f_h_rain)), (h_rule, .inl (cI, 8, .inl f_h_rule))] [(h, .inr (9, [.int v_h_thrown', .ref h_now, .ref h_aside, .int v_h_kept, .ref h_books, .ref h_tide, .ref h_rain, .ref h_rule, .int v_h_counted, .ref h_counts, .ref h_begins, .ref h_best, .int v_h_bestWorth, .int v_h_bestPitch, .int v_h_bestBits, .int v_h_leastHour, .int v_h_leastSet, .int v_h_shut, .ref h_planks])), (h_now, .inl (cI, 169, .inl f_h_now')), (h_rain, .inl (cI, 96, .inl f_h_rain)), (h_rule, .inl (cI, 8, .inl f_h_rule))] r := by
  refine k_enter (y := yX9_heel) (wl := wsX9_heel) (rm := rm_X9_heel) (av := [.ref h, .int a1]) (D := D) (tys := k_tys cI cZ cJ cS) (ws := [(h, .inr (9, [.int v_h_thrown, .ref h_now, .ref h_aside, .int v_h_kept, .ref h_books, .ref h_tide, .ref h_rain, .ref h_rule, .int v_h_counted, .ref h_counts, .ref h_begins, .ref h_best, .int v_h_bestWorth, .int v_h_bestPitch, .int v_h_bestBits, .int v_h_leastHour, .int v_h_leastSet, .int v_h_shut, .ref h_planks])), (h_now, .inl (cI, 169, .inl f_h_now)), (h_rain, .inl (cI, 96, .inl f_h_rain)), (h_rule, .inl (cI, 8, .inl f_h_rule))]) (cc := cX9_heel) (maxL := 3) (ret := (some .int)) (Qc := fun A => k_Qi D (k_tys cI cZ cJ cS) [(h, .inr (9, [.int v_h_thrown', .ref h_now, .ref h_aside, .int v_h_kept, .ref h_books, .ref h_tide, .ref h_rain, .ref h_rule, .int v_h_counted, .ref h_counts, .ref h_begins, .ref h_best, .int v_h_bestWorth, .int v_h_bestPitch, .int v_h_bestBits, .int v_h_leastHour, .int v_h_leastSet, .int v_h_shut, .ref h_planks])), (h_now, .inl (cI, 169, .inl f_h_now')), (h_rain, .inl (cI, 96, .inl f_h_rain)), (h_rule, .inl (cI, 8, .inl f_h_rule))] A r) (by decide) rfl (Nat.le_of_ble_eq_true rfl) [(0, .ref h), (1, .int a1)] rfl ?_
  intro p e s m below meth c A hx hb hml hr hlocks hnm hown hK hP hD hA hS hN ls args Q hts hl hQ
  replace hown : s.vm.findClass RX9 = some m.cls := hown
  have S0 : CallFix p m c cX9_heel 3 s args wsX9_heel RX9 := ⟨hx, hb, hml, hown, hts⟩
  have inX9 : ∀ w ∈ u_ws RX9 TX9 19, w ∈ wsX9_heel := fun w h => List.mem_cons_of_mem _ (List.mem_append_right _ h)
  have wl1 : (Cond.fieldLink RX9 1 "BeachedShipModel" "thrown" "I").before args s = true := hts _ (List.mem_of_getElem? (i := 1) rfl)
  have wl2 : (Cond.fieldLink RX9 13 "BeachedShipModel" "now" "[I").before args s = true := hts _ (List.mem_of_getElem? (i := 2) rfl)
  have wl3 : (Cond.constantLong RX9 132 (-9)).before args s = true := hts _ (List.mem_of_getElem? (i := 3) rfl)
  have wl4 : (Cond.constantLong RX9 134 (9)).before args s = true := hts _ (List.mem_of_getElem? (i := 4) rfl)
  have hRet : ∀ (r_z : Int32) (v_h_thrown_z : Int32) (f_h_now_z : Nat → Int32), some (r_z, v_h_thrown_z, f_h_now_z) = some (r, v_h_thrown', f_h_now') → ∀ (H : Heap) (locs : List Loc) (ls : Array Slot) (pc : Nat), va_P D vwCl [(h, .inr (9, [.int v_h_thrown_z, .ref h_now, .ref h_aside, .int v_h_kept, .ref h_books, .ref h_tide, .ref h_rain, .ref h_rule, .int v_h_counted, .ref h_counts, .ref h_begins, .ref h_best, .int v_h_bestWorth, .int v_h_bestPitch, .int v_h_bestBits, .int v_h_leastHour, .int v_h_leastSet, .int v_h_shut, .ref h_planks])), (h_now, .inl (cI, 169, .inl f_h_now_z)), (h_rain, .inl (cI, 96, .inl f_h_rain)), (h_rule, .inl (cI, 8, .inl f_h_rule))] H → va_D A [(h, .inr (9, [.int v_h_thrown_z, .ref h_now, .ref h_aside, .int v_h_kept, .ref h_books, .ref h_tide, .ref h_rain, .ref h_rule, .int v_h_counted, .ref h_counts, .ref h_begins, .ref h_best, .int v_h_bestWorth, .int v_h_bestPitch, .int v_h_bestBits, .int v_h_leastHour, .int v_h_leastSet, .int v_h_shut, .ref h_planks])), (h_now, .inl (cI, 169, .inl f_h_now_z)), (h_rain, .inl (cI, 96, .inl f_h_rain)), (h_rule, .inl (cI, 8, .inl f_h_rule))] → va_S A s.heap H locs → narrow .int (.int r_z) = .int r_z → decode cX9_heel pc = .ok (.ireturn, 1) → W p l e rm_X9_heel s m args below meth c H locs 0 0 Q (F0 m pc ls [.int r_z]) := by
    intro r_z v_h_thrown_z f_h_now_z hz H locs ls pc hP hD hS hn hd
    cases hz
    exact k_iret hx hb hr hlocks hn hK hP hD hS hQ rfl hd
  unfold p_X9_heel at hf
  refine lv_aload_n hx hb dX9_heel_0 rfl (lv_at hl 0 rfl) ?_
  refine lv_iconst (v := 0) hx hb dX9_heel_1 (by decide) ?_
  refine k_putf (ws2 := [(h, .inr (9, [.int 0, .ref h_now, .ref h_aside, .int v_h_kept, .ref h_books, .ref h_tide, .ref h_rain, .ref h_rule, .int v_h_counted, .ref h_counts, .ref h_begins, .ref h_best, .int v_h_bestWorth, .int v_h_bestPitch, .int v_h_bestBits, .int v_h_leastHour, .int v_h_leastSet, .int v_h_shut, .ref h_planks])), (h_now, .inl (cI, 169, .inl f_h_now)), (h_rain, .inl (cI, 96, .inl f_h_rain)), (h_rule, .inl (cI, 8, .inl f_h_rule))]) (C := RX9) (T := TX9) (N := 19) hx hb hts inX9 tyX9 tyX9_ok nmX9 hown hK hP hD hS 0 rfl rfl 0 (by decide) rfl wl1 rfl rfl rfl (Nat.le_of_ble_eq_true rfl) rfl dX9_heel_2 (fun H locs hP hD hS => ?_)
  refine lv_iload_n hx hb dX9_heel_5 rfl (lv_at hl 1 rfl) ?_
  refine lv_iconst (v := 1) hx hb dX9_heel_6 (by decide) ?_
  refine lv_icmp_eq (tgt := 18) hx hb dX9_heel_7 (by decide) (fun c1 => ?_) (fun c1 => ?_)
  · replace hf := k_pos hf c1
    refine lv_aload_n hx hb dX9_heel_18 rfl (lv_at hl 0 rfl) ?_
    refine k_get (C := RX9) (T := TX9) (N := 19) hx hb hts inX9 hown hK hP 0 rfl rfl 1 (by decide) rfl wl2 rfl dX9_heel_19 ?_
    refine lv_iconst (v := 1) hx hb dX9_heel_22 (by decide) ?_
    refine k_iald (k := 1) hx hb hK hP 1 0 rfl rfl (by unfold vp_in; decide) (by decide) dX9_heel_23 ?_
    refine lv_iload_n hx hb dX9_heel_24 rfl (lv_at hl 1 rfl) ?_
    refine lv_iadd hx hb dX9_heel_25 ?_
    refine lv_istore_n (lv' := [(2, .int ((f_h_now 1) + a1)), (0, .ref h), (1, .int a1)]) hx hb dX9_heel_26 rfl hl (by decide) rfl (fun ls hl => ?_)
    refine lv_aload_n hx hb dX9_heel_27 rfl (lv_at hl 1 rfl) ?_
    obtain ⟨r2, hc2, hf⟩ := k_b1_some hf
    refine k_ViR (q0 := 0) (As := []) (rest := []) S0 (c_X9_isLost l D cI cZ cJ cS h h_now h_aside h_books h_tide h_rain h_rule h_counts h_begins h_best h_planks 0 v_h_kept v_h_counted v_h_bestWorth v_h_bestPitch v_h_bestBits v_h_leastHour v_h_leastSet v_h_shut f_h_now r2 hc2) (cwV 0 hts gX9_heel_X9_isLost rfl rfl rfl hdV_X9_isLost ⟨Nat.le_of_ble_eq_true rfl, Nat.le_of_ble_eq_true rfl⟩) hK hP hD hS hA hN [0, 1] rfl (by decide) rfl rfl rfl rfl hl.1 rfl (Nat.le_of_ble_eq_true rfl) dX9_heel_28 (fun H locs hP hS => ?_)
    refine lv_if_ne (tgt := 76) hx hb dX9_heel_31 (by decide) (fun c3 => ?_) (fun c3 => ?_)
    · replace hf := k_neg hf c3
      refine lv_bipush (v := (-102)) hx hb dX9_heel_76 (by decide) ?_
      exact hRet _ _ _ hf _ _ _ _ hP hD hS rfl dX9_heel_78
    · replace hf := k_pos hf c3
      refine lv_aload_n hx hb dX9_heel_34 rfl (lv_at hl 1 rfl) ?_
      refine k_get (C := RX9) (T := TX9) (N := 19) hx hb hts inX9 hown hK hP 0 rfl rfl 1 (by decide) rfl wl2 rfl dX9_heel_35 ?_
      refine lv_iconst (v := 4) hx hb dX9_heel_38 (by decide) ?_
      refine k_iald (k := 4) hx hb hK hP 1 0 rfl rfl (by unfold vp_in; decide) (by decide) dX9_heel_39 ?_
      refine lv_iconst (v := 1) hx hb dX9_heel_40 (by decide) ?_
      refine lv_icmp_eq (tgt := 76) hx hb dX9_heel_41 (by decide) (fun c4 => ?_) (fun c4 => ?_)
      · replace hf := k_pos hf c4
        refine lv_bipush (v := (-102)) hx hb dX9_heel_76 (by decide) ?_
        exact hRet _ _ _ hf _ _ _ _ hP hD hS rfl dX9_heel_78
      · replace hf := k_neg hf c4
        refine lv_iload_n hx hb dX9_heel_44 rfl (lv_at hl 0 rfl) ?_
        refine lv_i2l (v := ((f_h_now 1) + a1).toInt64) hx hb dX9_heel_45 rfl ?_
        refine lv_ldc2 hx hb hown wl3 dX9_heel_46 ?_
        refine lv_ldc2 hx hb hown wl4 dX9_heel_49 ?_
        obtain ⟨r5, hc5, hf⟩ := k_b1_some hf
        refine k_SiR (As := [.long (((f_h_now 1) + a1).toInt64), .long (-9), .long 9]) (rest := []) S0 (c_X9_in l D cI cZ cJ cS (((f_h_now 1) + a1).toInt64) (-9) 9 r5 hc5) (va_cwS 3 hts gX9_heel_X9_in rfl rfl rfl hdS_X9_in ⟨Nat.le_of_ble_eq_true rfl, Nat.le_of_ble_eq_true rfl⟩) hK hP hD hS hA hN [] rfl (by decide) rfl hl.1 rfl (Nat.le_of_ble_eq_true rfl) dX9_heel_52 (fun H locs hP hS => ?_)
        refine lv_if_eq (tgt := 76) hx hb dX9_heel_55 (by decide) (fun c6 => ?_) (fun c6 => ?_)
        · replace hf := k_pos hf c6
          refine lv_bipush (v := (-102)) hx hb dX9_heel_76 (by decide) ?_
          exact hRet _ _ _ hf _ _ _ _ hP hD hS rfl dX9_heel_78
        · replace hf := k_neg hf c6
          refine lv_aload_n hx hb dX9_heel_58 rfl (lv_at hl 1 rfl) ?_
          refine lv_iload_n hx hb dX9_heel_59 rfl (lv_at hl 0 rfl) ?_
          refine lv_aload_n hx hb dX9_heel_60 rfl (lv_at hl 1 rfl) ?_
          refine lv_aload_n hx hb dX9_heel_61 rfl (lv_at hl 1 rfl) ?_
          refine k_get (C := RX9) (T := TX9) (N := 19) hx hb hts inX9 hown hK hP 0 rfl rfl 1 (by decide) rfl wl2 rfl dX9_heel_62 ?_
          refine lv_iconst (v := 0) hx hb dX9_heel_65 (by decide) ?_
          refine k_iald (k := 0) hx hb hK hP 1 0 rfl rfl (by unfold vp_in; decide) (by decide) dX9_heel_66 ?_
          obtain ⟨r7, hc7, hf⟩ := k_b1_some hf
          refine k_ViR (q0 := 0) (As := [.int (f_h_now 0)]) (rest := [.int ((f_h_now 1) + a1), .ref h]) S0 (c_X9_rains l D cI cZ cJ cS h h_now h_aside h_books h_tide h_rain h_rule h_counts h_begins h_best h_planks 0 v_h_kept v_h_counted v_h_bestWorth v_h_bestPitch v_h_bestBits v_h_leastHour v_h_leastSet v_h_shut f_h_rain (f_h_now 0) r7 hc7) (cwV 1 hts gX9_heel_X9_rains rfl rfl rfl hdV_X9_rains ⟨Nat.le_of_ble_eq_true rfl, Nat.le_of_ble_eq_true rfl⟩) hK hP hD hS hA hN [0, 2] rfl (by decide) rfl rfl rfl rfl hl.1 rfl (Nat.le_of_ble_eq_true rfl) dX9_heel_67 (fun H locs hP hS => ?_)
          obtain ⟨r8, hc8, hf⟩ := k_b1_some hf
          refine k_ViR (q0 := 0) (As := [.int ((f_h_now 1) + a1), .int r7]) (rest := []) S0 (c_X9_holds l D cI cZ cJ cS h h_now h_aside h_books h_tide h_rain h_rule h_counts h_begins h_best h_planks 0 v_h_kept v_h_counted v_h_bestWorth v_h_bestPitch v_h_bestBits v_h_leastHour v_h_leastSet v_h_shut f_h_now f_h_rule ((f_h_now 1) + a1) r7 r8 hc8) (cwV 2 hts gX9_heel_X9_holds rfl rfl rfl hdV_X9_holds ⟨Nat.le_of_ble_eq_true rfl, Nat.le_of_ble_eq_true rfl⟩) hK hP hD hS hA hN [0, 1, 3] rfl (by decide) rfl rfl rfl rfl hl.1 rfl (Nat.le_of_ble_eq_true rfl) dX9_heel_70 (fun H locs hP hS => ?_)
          refine lv_if_ne (tgt := 79) hx hb dX9_heel_73 (by decide) (fun c9 => ?_) (fun c9 => ?_)
          · replace hf := k_neg hf c9
            refine lv_aload_n hx hb dX9_heel_79 rfl (lv_at hl 1 rfl) ?_
            refine k_get (C := RX9) (T := TX9) (N := 19) hx hb hts inX9 hown hK hP 0 rfl rfl 1 (by decide) rfl wl2 rfl dX9_heel_80 ?_
            refine lv_iconst (v := 1) hx hb dX9_heel_83 (by decide) ?_
            refine lv_iload_n hx hb dX9_heel_84 rfl (lv_at hl 0 rfl) ?_
            refine k_iast (ws2 := [(h, .inr (9, [.int 0, .ref h_now, .ref h_aside, .int v_h_kept, .ref h_books, .ref h_tide, .ref h_rain, .ref h_rule, .int v_h_counted, .ref h_counts, .ref h_begins, .ref h_best, .int v_h_bestWorth, .int v_h_bestPitch, .int v_h_bestBits, .int v_h_leastHour, .int v_h_leastSet, .int v_h_shut, .ref h_planks])), (h_now, .inl (cI, 169, .inl (upd f_h_now 1 ((f_h_now 1) + a1)))), (h_rain, .inl (cI, 96, .inl f_h_rain)), (h_rule, .inl (cI, 8, .inl f_h_rule))]) (k := 1) hx hb hK hP hD hS 1 0 rfl rfl (by unfold vp_in; decide) (by decide) rfl dX9_heel_85 (fun H locs hP hD hS => ?_)
            refine lv_aload_n hx hb dX9_heel_86 rfl (lv_at hl 1 rfl) ?_
            refine k_get (C := RX9) (T := TX9) (N := 19) hx hb hts inX9 hown hK hP 0 rfl rfl 1 (by decide) rfl wl2 rfl dX9_heel_87 ?_
            refine lv_iconst (v := 4) hx hb dX9_heel_90 (by decide) ?_
            refine lv_iconst (v := 1) hx hb dX9_heel_91 (by decide) ?_
            refine k_iast (ws2 := [(h, .inr (9, [.int 0, .ref h_now, .ref h_aside, .int v_h_kept, .ref h_books, .ref h_tide, .ref h_rain, .ref h_rule, .int v_h_counted, .ref h_counts, .ref h_begins, .ref h_best, .int v_h_bestWorth, .int v_h_bestPitch, .int v_h_bestBits, .int v_h_leastHour, .int v_h_leastSet, .int v_h_shut, .ref h_planks])), (h_now, .inl (cI, 169, .inl (upd (upd f_h_now 1 ((f_h_now 1) + a1)) 4 1))), (h_rain, .inl (cI, 96, .inl f_h_rain)), (h_rule, .inl (cI, 8, .inl f_h_rule))]) (k := 4) hx hb hK hP hD hS 1 0 rfl rfl (by unfold vp_in; decide) (by decide) rfl dX9_heel_92 (fun H locs hP hD hS => ?_)
            refine lv_iload_n hx hb dX9_heel_93 rfl (lv_at hl 0 rfl) ?_
            exact hRet _ _ _ hf _ _ _ _ hP hD hS rfl dX9_heel_94
          · replace hf := k_pos hf c9
            refine lv_bipush (v := (-102)) hx hb dX9_heel_76 (by decide) ?_
            exact hRet _ _ _ hf _ _ _ _ hP hD hS rfl dX9_heel_78
  · replace hf := k_neg hf c1
    refine lv_iload_n hx hb dX9_heel_10 rfl (lv_at hl 1 rfl) ?_
    refine lv_iconst (v := (-1)) hx hb dX9_heel_11 (by decide) ?_
    refine lv_icmp_eq (tgt := 18) hx hb dX9_heel_12 (by decide) (fun c10 => ?_) (fun c10 => ?_)
    · replace hf := k_pos hf c10
      refine lv_aload_n hx hb dX9_heel_18 rfl (lv_at hl 0 rfl) ?_
      refine k_get (C := RX9) (T := TX9) (N := 19) hx hb hts inX9 hown hK hP 0 rfl rfl 1 (by decide) rfl wl2 rfl dX9_heel_19 ?_
      refine lv_iconst (v := 1) hx hb dX9_heel_22 (by decide) ?_
      refine k_iald (k := 1) hx hb hK hP 1 0 rfl rfl (by unfold vp_in; decide) (by decide) dX9_heel_23 ?_
      refine lv_iload_n hx hb dX9_heel_24 rfl (lv_at hl 1 rfl) ?_
      refine lv_iadd hx hb dX9_heel_25 ?_
      refine lv_istore_n (lv' := [(2, .int ((f_h_now 1) + a1)), (0, .ref h), (1, .int a1)]) hx hb dX9_heel_26 rfl hl (by decide) rfl (fun ls hl => ?_)
      refine lv_aload_n hx hb dX9_heel_27 rfl (lv_at hl 1 rfl) ?_
      obtain ⟨r11, hc11, hf⟩ := k_b1_some hf
      refine k_ViR (q0 := 0) (As := []) (rest := []) S0 (c_X9_isLost l D cI cZ cJ cS h h_now h_aside h_books h_tide h_rain h_rule h_counts h_begins h_best h_planks 0 v_h_kept v_h_counted v_h_bestWorth v_h_bestPitch v_h_bestBits v_h_leastHour v_h_leastSet v_h_shut f_h_now r11 hc11) (cwV 0 hts gX9_heel_X9_isLost rfl rfl rfl hdV_X9_isLost ⟨Nat.le_of_ble_eq_true rfl, Nat.le_of_ble_eq_true rfl⟩) hK hP hD hS hA hN [0, 1] rfl (by decide) rfl rfl rfl rfl hl.1 rfl (Nat.le_of_ble_eq_true rfl) dX9_heel_28 (fun H locs hP hS => ?_)
      refine lv_if_ne (tgt := 76) hx hb dX9_heel_31 (by decide) (fun c12 => ?_) (fun c12 => ?_)
      · replace hf := k_neg hf c12
        refine lv_bipush (v := (-102)) hx hb dX9_heel_76 (by decide) ?_
        exact hRet _ _ _ hf _ _ _ _ hP hD hS rfl dX9_heel_78
      · replace hf := k_pos hf c12
        refine lv_aload_n hx hb dX9_heel_34 rfl (lv_at hl 1 rfl) ?_
        refine k_get (C := RX9) (T := TX9) (N := 19) hx hb hts inX9 hown hK hP 0 rfl rfl 1 (by decide) rfl wl2 rfl dX9_heel_35 ?_
        refine lv_iconst (v := 4) hx hb dX9_heel_38 (by decide) ?_
        refine k_iald (k := 4) hx hb hK hP 1 0 rfl rfl (by unfold vp_in; decide) (by decide) dX9_heel_39 ?_
        refine lv_iconst (v := 1) hx hb dX9_heel_40 (by decide) ?_
        refine lv_icmp_eq (tgt := 76) hx hb dX9_heel_41 (by decide) (fun c13 => ?_) (fun c13 => ?_)
        · replace hf := k_pos hf c13
          refine lv_bipush (v := (-102)) hx hb dX9_heel_76 (by decide) ?_
          exact hRet _ _ _ hf _ _ _ _ hP hD hS rfl dX9_heel_78
        · replace hf := k_neg hf c13
          refine lv_iload_n hx hb dX9_heel_44 rfl (lv_at hl 0 rfl) ?_
          refine lv_i2l (v := ((f_h_now 1) + a1).toInt64) hx hb dX9_heel_45 rfl ?_
          refine lv_ldc2 hx hb hown wl3 dX9_heel_46 ?_
          refine lv_ldc2 hx hb hown wl4 dX9_heel_49 ?_
          obtain ⟨r14, hc14, hf⟩ := k_b1_some hf
          refine k_SiR (As := [.long (((f_h_now 1) + a1).toInt64), .long (-9), .long 9]) (rest := []) S0 (c_X9_in l D cI cZ cJ cS (((f_h_now 1) + a1).toInt64) (-9) 9 r14 hc14) (va_cwS 3 hts gX9_heel_X9_in rfl rfl rfl hdS_X9_in ⟨Nat.le_of_ble_eq_true rfl, Nat.le_of_ble_eq_true rfl⟩) hK hP hD hS hA hN [] rfl (by decide) rfl hl.1 rfl (Nat.le_of_ble_eq_true rfl) dX9_heel_52 (fun H locs hP hS => ?_)
          refine lv_if_eq (tgt := 76) hx hb dX9_heel_55 (by decide) (fun c15 => ?_) (fun c15 => ?_)
          · replace hf := k_pos hf c15
            refine lv_bipush (v := (-102)) hx hb dX9_heel_76 (by decide) ?_
            exact hRet _ _ _ hf _ _ _ _ hP hD hS rfl dX9_heel_78
          · replace hf := k_neg hf c15
            refine lv_aload_n hx hb dX9_heel_58 rfl (lv_at hl 1 rfl) ?_
            refine lv_iload_n hx hb dX9_heel_59 rfl (lv_at hl 0 rfl) ?_
            refine lv_aload_n hx hb dX9_heel_60 rfl (lv_at hl 1 rfl) ?_
            refine lv_aload_n hx hb dX9_heel_61 rfl (lv_at hl 1 rfl) ?_
            refine k_get (C := RX9) (T := TX9) (N := 19) hx hb hts inX9 hown hK hP 0 rfl rfl 1 (by decide) rfl wl2 rfl dX9_heel_62 ?_
            refine lv_iconst (v := 0) hx hb dX9_heel_65 (by decide) ?_
            refine k_iald (k := 0) hx hb hK hP 1 0 rfl rfl (by unfold vp_in; decide) (by decide) dX9_heel_66 ?_
            obtain ⟨r16, hc16, hf⟩ := k_b1_some hf
            refine k_ViR (q0 := 0) (As := [.int (f_h_now 0)]) (rest := [.int ((f_h_now 1) + a1), .ref h]) S0 (c_X9_rains l D cI cZ cJ cS h h_now h_aside h_books h_tide h_rain h_rule h_counts h_begins h_best h_planks 0 v_h_kept v_h_counted v_h_bestWorth v_h_bestPitch v_h_bestBits v_h_leastHour v_h_leastSet v_h_shut f_h_rain (f_h_now 0) r16 hc16) (cwV 1 hts gX9_heel_X9_rains rfl rfl rfl hdV_X9_rains ⟨Nat.le_of_ble_eq_true rfl, Nat.le_of_ble_eq_true rfl⟩) hK hP hD hS hA hN [0, 2] rfl (by decide) rfl rfl rfl rfl hl.1 rfl (Nat.le_of_ble_eq_true rfl) dX9_heel_67 (fun H locs hP hS => ?_)
            obtain ⟨r17, hc17, hf⟩ := k_b1_some hf
            refine k_ViR (q0 := 0) (As := [.int ((f_h_now 1) + a1), .int r16]) (rest := []) S0 (c_X9_holds l D cI cZ cJ cS h h_now h_aside h_books h_tide h_rain h_rule h_counts h_begins h_best h_planks 0 v_h_kept v_h_counted v_h_bestWorth v_h_bestPitch v_h_bestBits v_h_leastHour v_h_leastSet v_h_shut f_h_now f_h_rule ((f_h_now 1) + a1) r16 r17 hc17) (cwV 2 hts gX9_heel_X9_holds rfl rfl rfl hdV_X9_holds ⟨Nat.le_of_ble_eq_true rfl, Nat.le_of_ble_eq_true rfl⟩) hK hP hD hS hA hN [0, 1, 3] rfl (by decide) rfl rfl rfl rfl hl.1 rfl (Nat.le_of_ble_eq_true rfl) dX9_heel_70 (fun H locs hP hS => ?_)
            refine lv_if_ne (tgt := 79) hx hb dX9_heel_73 (by decide) (fun c18 => ?_) (fun c18 => ?_)
            · replace hf := k_neg hf c18
              refine lv_aload_n hx hb dX9_heel_79 rfl (lv_at hl 1 rfl) ?_
              refine k_get (C := RX9) (T := TX9) (N := 19) hx hb hts inX9 hown hK hP 0 rfl rfl 1 (by decide) rfl wl2 rfl dX9_heel_80 ?_
              refine lv_iconst (v := 1) hx hb dX9_heel_83 (by decide) ?_
              refine lv_iload_n hx hb dX9_heel_84 rfl (lv_at hl 0 rfl) ?_
              refine k_iast (ws2 := [(h, .inr (9, [.int 0, .ref h_now, .ref h_aside, .int v_h_kept, .ref h_books, .ref h_tide, .ref h_rain, .ref h_rule, .int v_h_counted, .ref h_counts, .ref h_begins, .ref h_best, .int v_h_bestWorth, .int v_h_bestPitch, .int v_h_bestBits, .int v_h_leastHour, .int v_h_leastSet, .int v_h_shut, .ref h_planks])), (h_now, .inl (cI, 169, .inl (upd f_h_now 1 ((f_h_now 1) + a1)))), (h_rain, .inl (cI, 96, .inl f_h_rain)), (h_rule, .inl (cI, 8, .inl f_h_rule))]) (k := 1) hx hb hK hP hD hS 1 0 rfl rfl (by unfold vp_in; decide) (by decide) rfl dX9_heel_85 (fun H locs hP hD hS => ?_)
              refine lv_aload_n hx hb dX9_heel_86 rfl (lv_at hl 1 rfl) ?_
              refine k_get (C := RX9) (T := TX9) (N := 19) hx hb hts inX9 hown hK hP 0 rfl rfl 1 (by decide) rfl wl2 rfl dX9_heel_87 ?_
              refine lv_iconst (v := 4) hx hb dX9_heel_90 (by decide) ?_
              refine lv_iconst (v := 1) hx hb dX9_heel_91 (by decide) ?_
              refine k_iast (ws2 := [(h, .inr (9, [.int 0, .ref h_now, .ref h_aside, .int v_h_kept, .ref h_books, .ref h_tide, .ref h_rain, .ref h_rule, .int v_h_counted, .ref h_counts, .ref h_begins, .ref h_best, .int v_h_bestWorth, .int v_h_bestPitch, .int v_h_bestBits, .int v_h_leastHour, .int v_h_leastSet, .int v_h_shut, .ref h_planks])), (h_now, .inl (cI, 169, .inl (upd (upd f_h_now 1 ((f_h_now 1) + a1)) 4 1))), (h_rain, .inl (cI, 96, .inl f_h_rain)), (h_rule, .inl (cI, 8, .inl f_h_rule))]) (k := 4) hx hb hK hP hD hS 1 0 rfl rfl (by unfold vp_in; decide) (by decide) rfl dX9_heel_92 (fun H locs hP hD hS => ?_)
              refine lv_iload_n hx hb dX9_heel_93 rfl (lv_at hl 0 rfl) ?_
              exact hRet _ _ _ hf _ _ _ _ hP hD hS rfl dX9_heel_94
            · replace hf := k_pos hf c18
              refine lv_bipush (v := (-102)) hx hb dX9_heel_76 (by decide) ?_
              exact hRet _ _ _ hf _ _ _ _ hP hD hS rfl dX9_heel_78
    · replace hf := k_neg hf c10
      refine lv_bipush (v := (-100)) hx hb dX9_heel_15 (by decide) ?_
      exact hRet _ _ _ hf _ _ _ _ hP hD hS rfl dX9_heel_17

def lb_X9_part_101 (f_h_now : Nat → Int32) (f_h_rule : Nat → Int32) (x4_94 : Int32) (x3_117 : Int32) (x5_118 : Int32) : Option ((Int32 × Int32) ⊕ (Int32)) :=
  if x5_118 < 0 then
    some (.inr x3_117)
  else
    k_b1 (p_X9_mastOf f_h_now f_h_rule x4_94 (f_h_now 1)) fun r120 =>
    k_ix (5 + x4_94) 8 (
      if r120 ≤ (f_h_rule (5 + x4_94).toNatClampNeg) then
        some (.inl (x3_117, x5_118 + (-1)))
      else
        k_ix (67 + x5_118) 169 (
          if (f_h_now (67 + x5_118).toNatClampNeg) = 1 then
            k_ix (49 + x5_118) 169 (
              if (f_h_now (49 + x5_118).toNatClampNeg) = x4_94 then
                some (.inl (x5_118, x5_118 + (-1)))
              else
                some (.inl (x3_117, x5_118 + (-1))))
          else
            some (.inl (x3_117, x5_118 + (-1)))))
def lb_X9_part_81 (x2_18 : Int32) (f_h_now : Nat → Int32) (f_h_rule : Nat → Int32) (x3_93 : Int32) (x4_94 : Int32) : Option ((Int32 × Int32) ⊕ (Int32)) :=
  if x4_94 < 0 then
    some (.inr x3_93)
  else
    if x2_18 = 0 then
      k_b1 (k_lp (fun s => lb_X9_part_101 f_h_now f_h_rule x4_94 s.1 s.2) k_fuel (x3_93, (f_h_now 11) - 1)) fun x3_116 =>
      some (.inl (x3_116, x4_94 + (-1)))
    else
      some (.inr x3_93)
def lb_X9_part_8 (f_h_now : Nat → Int32) (f_h_rule : Nat → Int32) (a1 : Int32) (x2_127 : Int32) (x3_128 : Int32) (x4_129 : Int32) : Option ((Int32 × Int32 × Int32) ⊕ (Int32 × Int32)) :=
  if (f_h_now 11) ≤ x4_129 then
    some (.inr (x2_127, x3_128))
  else
    k_ix (67 + x4_129) 169 (
      if (f_h_now (67 + x4_129).toNatClampNeg) = 1 then
        k_b1 (p_X9_ropeOf f_h_now f_h_rule x4_129 (f_h_now 1)) fun r134 =>
        k_b1 (p_X9_may f_h_now x4_129 a1) fun r135 =>
        if (r134 - r135) ≤ x2_127 then
          some (.inl (x2_127, x3_128, x4_129 + 1))
        else
          some (.inl (r134 - r135, x4_129, x4_129 + 1))
      else
        if 0 ≤ x2_127 then
          some (.inl (x2_127, x3_128, x4_129 + 1))
        else
          some (.inl (0, x4_129, x4_129 + 1)))
def p_X9_part (f_h_now : Nat → Int32) (f_h_rule : Nat → Int32) (a1 : Int32) : Option ((Nat → Int32)) :=
  k_b2 (k_lp (fun s => lb_X9_part_8 f_h_now f_h_rule a1 s.1 s.2.1 s.2.2) k_fuel (0, (-4), 0)) fun x2_18 x3_19 =>
  k_b1 (k_lp (fun s => lb_X9_part_81 x2_18 f_h_now f_h_rule s.1 s.2) k_fuel (x3_19, 2)) fun x3_86 =>
  if x3_86 = (-4) then
    k_b1 (p_X9_wholes f_h_now) fun r88 =>
    if r88 = 0 then
      some (upd f_h_now 1 0)
    else
      some f_h_now
  else
    k_ix (67 + x3_86) 169 (
      k_b1 (p_X9_wholes (upd (upd f_h_now (67 + x3_86).toNatClampNeg 0) 8 (((upd f_h_now (67 + x3_86).toNatClampNeg 0) 8) + 1))) fun r91 =>
      if r91 = 0 then
        some (upd (upd (upd f_h_now (67 + x3_86).toNatClampNeg 0) 8 (((upd f_h_now (67 + x3_86).toNatClampNeg 0) 8) + 1)) 1 0)
      else
        some (upd (upd f_h_now (67 + x3_86).toNatClampNeg 0) 8 (((upd f_h_now (67 + x3_86).toNatClampNeg 0) 8) + 1)))
abbrev rm_X9_part : Room := { frames := 4, cells := 0, slots := 0, locals := 89 }
theorem hdS_X9_part : yX9_part.cls ≠ "java/lang/invoke/MethodHandle" ∧ yX9_part.cls ≠ "java/lang/invoke/VarHandle" ∧ (parseMethodDescriptor yX9_part.desc).map (fun d => d.parameters.length) = some 1 := by decide +kernel
theorem hdV_X9_part : yX9_part.cls = RX9 ∧ yX9_part.cls ≠ "java/lang/invoke/MethodHandle" ∧ yX9_part.cls ≠ "java/lang/invoke/VarHandle" ∧ (parseMethodDescriptor yX9_part.desc).map (fun d => d.parameters.length) = some 1 := by decide +kernel
set_option maxHeartbeats 4000000 in
set_option maxRecDepth 100000 in
theorem c_X9_part (l : Launch) (D : va_G) (cI cZ cJ cS : ClassId) (h h_now h_aside h_books h_tide h_rain h_rule h_counts h_begins h_best h_planks : Nat) (v_h_thrown : Int32) (v_h_kept : Int32) (v_h_counted : Int32) (v_h_bestWorth : Int32) (v_h_bestPitch : Int32) (v_h_bestBits : Int32) (v_h_leastHour : Int32) (v_h_leastSet : Int32) (v_h_shut : Int32) (f_h_now : Nat → Int32) (f_h_rule : Nat → Int32) (a1 : Int32) (f_h_now' : Nat → Int32) (hf : p_X9_part f_h_now f_h_rule a1 = some f_h_now') : k_MV l yX9_part wsX9_part rm_X9_part D (k_tys cI cZ cJ cS) [.ref h, .int a1] [(h, .inr (9, [.int v_h_thrown, .ref h_now, .ref h_aside, .int v_h_kept, .ref h_books, .ref h_tide, .ref h_rain, .ref h_rule, .int v_h_counted, .ref h_counts, .ref h_begins, .ref h_best, .int v_h_bestWorth, .int v_h_bestPitch, .int v_h_bestBits, .int v_h_leastHour, .int v_h_leastSet, .int v_h_shut, .ref h_planks])), (h_now, .inl (cI, 169, .inl f_h_now)), (h_rule, .inl (cI, 8, .inl f_h_rule))] [(h, .inr (9, [.int v_h_thrown, .ref h_now, .ref h_aside, .int v_h_kept, .ref h_books, .ref h_tide, .ref h_rain, .ref h_rule, .int v_h_counted, .ref h_counts, .ref h_begins, .ref h_best, .int v_h_bestWorth, .int v_h_bestPitch, .int v_h_bestBits, .int v_h_leastHour, .int v_h_leastSet, .int v_h_shut, .ref h_planks])), (h_now, .inl (cI, 169, .inl f_h_now')), (h_rule, .inl (cI, 8, .inl f_h_rule))] := by
  refine k_enter (y := yX9_part) (wl := wsX9_part) (rm := rm_X9_part) (av := [.ref h, .int a1]) (D := D) (tys := k_tys cI cZ cJ cS) (ws := [(h, .inr (9, [.int v_h_thrown, .ref h_now, .ref h_aside, .int v_h_kept, .ref h_books, .ref h_tide, .ref h_rain, .ref h_rule, .int v_h_counted, .ref h_counts, .ref h_begins, .ref h_best, .int v_h_bestWorth, .int v_h_bestPitch, .int v_h_bestBits, .int v_h_leastHour, .int v_h_leastSet, .int v_h_shut, .ref h_planks])), (h_now, .inl (cI, 169, .inl f_h_now)), (h_rule, .inl (cI, 8, .inl f_h_rule))]) (cc := cX9_part) (maxL := 6) (ret := none) (Qc := fun A => k_Qv D (k_tys cI cZ cJ cS) [(h, .inr (9, [.int v_h_thrown, .ref h_now, .ref h_aside, .int v_h_kept, .ref h_books, .ref h_tide, .ref h_rain, .ref h_rule, .int v_h_counted, .ref h_counts, .ref h_begins, .ref h_best, .int v_h_bestWorth, .int v_h_bestPitch, .int v_h_bestBits, .int v_h_leastHour, .int v_h_leastSet, .int v_h_shut, .ref h_planks])), (h_now, .inl (cI, 169, .inl f_h_now')), (h_rule, .inl (cI, 8, .inl f_h_rule))] A) (by decide) rfl (Nat.le_of_ble_eq_true rfl) [(0, .ref h), (1, .int a1)] rfl ?_
  intro p e s m below meth c A hx hb hml hr hlocks hnm hown hK hP hD hA hS hN ls args Q hts hl hQ
  replace hown : s.vm.findClass RX9 = some m.cls := hown
  have S0 : CallFix p m c cX9_part 6 s args wsX9_part RX9 := ⟨hx, hb, hml, hown, hts⟩
  have inX9 : ∀ w ∈ u_ws RX9 TX9 19, w ∈ wsX9_part := fun w h => List.mem_cons_of_mem _ (List.mem_append_right _ h)
  have wl1 : (Cond.fieldLink RX9 13 "BeachedShipModel" "now" "[I").before args s = true := hts _ (List.mem_of_getElem? (i := 1) rfl)
  have wl2 : (Cond.fieldLink RX9 29 "BeachedShipModel" "rule" "[I").before args s = true := hts _ (List.mem_of_getElem? (i := 2) rfl)
  have hRet : ∀ (f_h_now_z : Nat → Int32), some f_h_now_z = some f_h_now' → ∀ (H : Heap) (locs : List Loc) (ls : Array Slot) (pc : Nat), va_P D vwCl [(h, .inr (9, [.int v_h_thrown, .ref h_now, .ref h_aside, .int v_h_kept, .ref h_books, .ref h_tide, .ref h_rain, .ref h_rule, .int v_h_counted, .ref h_counts, .ref h_begins, .ref h_best, .int v_h_bestWorth, .int v_h_bestPitch, .int v_h_bestBits, .int v_h_leastHour, .int v_h_leastSet, .int v_h_shut, .ref h_planks])), (h_now, .inl (cI, 169, .inl f_h_now_z)), (h_rule, .inl (cI, 8, .inl f_h_rule))] H → va_D A [(h, .inr (9, [.int v_h_thrown, .ref h_now, .ref h_aside, .int v_h_kept, .ref h_books, .ref h_tide, .ref h_rain, .ref h_rule, .int v_h_counted, .ref h_counts, .ref h_begins, .ref h_best, .int v_h_bestWorth, .int v_h_bestPitch, .int v_h_bestBits, .int v_h_leastHour, .int v_h_leastSet, .int v_h_shut, .ref h_planks])), (h_now, .inl (cI, 169, .inl f_h_now_z)), (h_rule, .inl (cI, 8, .inl f_h_rule))] → va_S A s.heap H locs → decode cX9_part pc = .ok (.return_, 1) → W p l e rm_X9_part s m args below meth c H locs 0 0 Q (F0 m pc ls []) := by
    intro f_h_now_z hz H locs ls pc hP hD hS hd
    cases hz
    exact k_vret hx hb hr hlocks hK hP hD hS hQ hd
  unfold p_X9_part at hf
  refine lv_iconst (v := 0) hx hb dX9_part_0 (by decide) ?_
  refine lv_istore_n (lv' := [(2, .int 0), (0, .ref h), (1, .int a1)]) hx hb dX9_part_1 rfl hl (by decide) rfl (fun ls hl => ?_)
  refine lv_bipush (v := (-4)) hx hb dX9_part_2 (by decide) ?_
  refine lv_istore_n (lv' := [(3, .int (-4)), (2, .int 0), (0, .ref h), (1, .int a1)]) hx hb dX9_part_4 rfl hl (by decide) rfl (fun ls hl => ?_)
  refine lv_iconst (v := 0) hx hb dX9_part_5 (by decide) ?_
  refine lv_istore (lv' := [(4, .int 0), (3, .int (-4)), (2, .int 0), (0, .ref h), (1, .int a1)]) hx hb dX9_part_6 hl (by decide) rfl (fun ls hl => ?_)
  obtain ⟨ee17, hlp17, hfr17⟩ := k_b2_ee hf
  have hE17 : ∀ (x2_18 : Int32) (x3_19 : Int32), ee17 = (x2_18, x3_19) → ∀ (H : Heap) (locs : List Loc) (ls : Array Slot), va_P D vwCl [(h, .inr (9, [.int v_h_thrown, .ref h_now, .ref h_aside, .int v_h_kept, .ref h_books, .ref h_tide, .ref h_rain, .ref h_rule, .int v_h_counted, .ref h_counts, .ref h_begins, .ref h_best, .int v_h_bestWorth, .int v_h_bestPitch, .int v_h_bestBits, .int v_h_leastHour, .int v_h_leastSet, .int v_h_shut, .ref h_planks])), (h_now, .inl (cI, 169, .inl f_h_now)), (h_rule, .inl (cI, 8, .inl f_h_rule))] H → va_D A [(h, .inr (9, [.int v_h_thrown, .ref h_now, .ref h_aside, .int v_h_kept, .ref h_books, .ref h_tide, .ref h_rain, .ref h_rule, .int v_h_counted, .ref h_counts, .ref h_begins, .ref h_best, .int v_h_bestWorth, .int v_h_bestPitch, .int v_h_bestBits, .int v_h_leastHour, .int v_h_leastSet, .int v_h_shut, .ref h_planks])), (h_now, .inl (cI, 169, .inl f_h_now)), (h_rule, .inl (cI, 8, .inl f_h_rule))] → va_S A s.heap H locs → lv_has ls 6 [(3, .int x3_19), (2, .int x2_18), (0, .ref h)] → W p l e rm_X9_part s m args below meth c H locs 0 0 Q (F0 m 78 ls []) := by
    intro x2_18 x3_19 he H locs ls hP hD hS hl
    replace hf := hfr17 x2_18 x3_19 he
    refine lv_iconst (v := 2) hx hb dX9_part_78 (by decide) ?_
    refine lv_istore (lv' := [(4, .int 2), (3, .int x3_19), (2, .int x2_18), (0, .ref h)]) hx hb dX9_part_79 hl (by decide) rfl (fun ls hl => ?_)
    obtain ⟨ee85, hlp85, hfr85⟩ := k_b1_ee hf
    have hE85 : ∀ (x3_86 : Int32), ee85 = x3_86 → ∀ (H : Heap) (locs : List Loc) (ls : Array Slot), va_P D vwCl [(h, .inr (9, [.int v_h_thrown, .ref h_now, .ref h_aside, .int v_h_kept, .ref h_books, .ref h_tide, .ref h_rain, .ref h_rule, .int v_h_counted, .ref h_counts, .ref h_begins, .ref h_best, .int v_h_bestWorth, .int v_h_bestPitch, .int v_h_bestBits, .int v_h_leastHour, .int v_h_leastSet, .int v_h_shut, .ref h_planks])), (h_now, .inl (cI, 169, .inl f_h_now)), (h_rule, .inl (cI, 8, .inl f_h_rule))] H → va_D A [(h, .inr (9, [.int v_h_thrown, .ref h_now, .ref h_aside, .int v_h_kept, .ref h_books, .ref h_tide, .ref h_rain, .ref h_rule, .int v_h_counted, .ref h_counts, .ref h_begins, .ref h_best, .int v_h_bestWorth, .int v_h_bestPitch, .int v_h_bestBits, .int v_h_leastHour, .int v_h_leastSet, .int v_h_shut, .ref h_planks])), (h_now, .inl (cI, 169, .inl f_h_now)), (h_rule, .inl (cI, 8, .inl f_h_rule))] → va_S A s.heap H locs → lv_has ls 6 [(3, .int x3_86), (0, .ref h)] → W p l e rm_X9_part s m args below meth c H locs 0 0 Q (F0 m 178 ls []) := by
      intro x3_86 he H locs ls hP hD hS hl
      replace hf := hfr85 x3_86 he
      refine lv_iload_n hx hb dX9_part_178 rfl (lv_at hl 0 rfl) ?_
      refine lv_bipush (v := (-4)) hx hb dX9_part_179 (by decide) ?_
      refine lv_icmp_eq (tgt := 205) hx hb dX9_part_181 (by decide) (fun c87 => ?_) (fun c87 => ?_)
      · replace hf := k_pos hf c87
        refine lv_aload_n hx hb dX9_part_205 rfl (lv_at hl 1 rfl) ?_
        obtain ⟨r88, hc88, hf⟩ := k_b1_some hf
        refine k_ViR (q0 := 0) (As := []) (rest := []) S0 (c_X9_wholes l D cI cZ cJ cS h h_now h_aside h_books h_tide h_rain h_rule h_counts h_begins h_best h_planks v_h_thrown v_h_kept v_h_counted v_h_bestWorth v_h_bestPitch v_h_bestBits v_h_leastHour v_h_leastSet v_h_shut f_h_now r88 hc88) (cwV 0 hts gX9_part_X9_wholes rfl rfl rfl hdV_X9_wholes ⟨Nat.le_of_ble_eq_true rfl, Nat.le_of_ble_eq_true rfl⟩) hK hP hD hS hA hN [0, 1] rfl (by decide) rfl rfl rfl rfl hl.1 rfl (Nat.le_of_ble_eq_true rfl) dX9_part_206 (fun H locs hP hS => ?_)
        refine lv_if_ne (tgt := 219) hx hb dX9_part_209 (by decide) (fun c89 => ?_) (fun c89 => ?_)
        · replace hf := k_neg hf c89
          exact hRet _ hf _ _ _ _ hP hD hS dX9_part_219
        · replace hf := k_pos hf c89
          refine lv_aload_n hx hb dX9_part_212 rfl (lv_at hl 1 rfl) ?_
          refine k_get (C := RX9) (T := TX9) (N := 19) hx hb hts inX9 hown hK hP 0 rfl rfl 1 (by decide) rfl wl1 rfl dX9_part_213 ?_
          refine lv_iconst (v := 1) hx hb dX9_part_216 (by decide) ?_
          refine lv_iconst (v := 0) hx hb dX9_part_217 (by decide) ?_
          refine k_iast (ws2 := [(h, .inr (9, [.int v_h_thrown, .ref h_now, .ref h_aside, .int v_h_kept, .ref h_books, .ref h_tide, .ref h_rain, .ref h_rule, .int v_h_counted, .ref h_counts, .ref h_begins, .ref h_best, .int v_h_bestWorth, .int v_h_bestPitch, .int v_h_bestBits, .int v_h_leastHour, .int v_h_leastSet, .int v_h_shut, .ref h_planks])), (h_now, .inl (cI, 169, .inl (upd f_h_now 1 0))), (h_rule, .inl (cI, 8, .inl f_h_rule))]) (k := 1) hx hb hK hP hD hS 1 0 rfl rfl (by unfold vp_in; decide) (by decide) rfl dX9_part_218 (fun H locs hP hD hS => ?_)
          exact hRet _ hf _ _ _ _ hP hD hS dX9_part_219
      · replace hf := k_neg hf c87
        refine lv_aload_n hx hb dX9_part_184 rfl (lv_at hl 1 rfl) ?_
        refine k_get (C := RX9) (T := TX9) (N := 19) hx hb hts inX9 hown hK hP 0 rfl rfl 1 (by decide) rfl wl1 rfl dX9_part_185 ?_
        refine lv_bipush (v := 67) hx hb dX9_part_188 (by decide) ?_
        refine lv_iload_n hx hb dX9_part_190 rfl (lv_at hl 0 rfl) ?_
        refine lv_iadd hx hb dX9_part_191 ?_
        refine lv_iconst (v := 0) hx hb dX9_part_192 (by decide) ?_
        obtain ⟨hi90, hf⟩ := k_ix_some hf
        refine k_iast (ws2 := [(h, .inr (9, [.int v_h_thrown, .ref h_now, .ref h_aside, .int v_h_kept, .ref h_books, .ref h_tide, .ref h_rain, .ref h_rule, .int v_h_counted, .ref h_counts, .ref h_begins, .ref h_best, .int v_h_bestWorth, .int v_h_bestPitch, .int v_h_bestBits, .int v_h_leastHour, .int v_h_leastSet, .int v_h_shut, .ref h_planks])), (h_now, .inl (cI, 169, .inl (upd f_h_now (67 + x3_86).toNatClampNeg 0))), (h_rule, .inl (cI, 8, .inl f_h_rule))]) (k := (67 + x3_86).toNatClampNeg) hx hb hK hP hD hS 1 0 rfl rfl hi90 rfl rfl dX9_part_193 (fun H locs hP hD hS => ?_)
        refine lv_aload_n hx hb dX9_part_194 rfl (lv_at hl 1 rfl) ?_
        refine k_get (C := RX9) (T := TX9) (N := 19) hx hb hts inX9 hown hK hP 0 rfl rfl 1 (by decide) rfl wl1 rfl dX9_part_195 ?_
        refine lv_bipush (v := 8) hx hb dX9_part_198 (by decide) ?_
        refine lv_dup2_11 hx hb dX9_part_200 rfl rfl ?_
        refine k_iald (k := 8) hx hb hK hP 1 0 rfl rfl (by unfold vp_in; decide) (by decide) dX9_part_201 ?_
        refine lv_iconst (v := 1) hx hb dX9_part_202 (by decide) ?_
        refine lv_iadd hx hb dX9_part_203 ?_
        refine k_iast (ws2 := [(h, .inr (9, [.int v_h_thrown, .ref h_now, .ref h_aside, .int v_h_kept, .ref h_books, .ref h_tide, .ref h_rain, .ref h_rule, .int v_h_counted, .ref h_counts, .ref h_begins, .ref h_best, .int v_h_bestWorth, .int v_h_bestPitch, .int v_h_bestBits, .int v_h_leastHour, .int v_h_leastSet, .int v_h_shut, .ref h_planks])), (h_now, .inl (cI, 169, .inl (upd (upd f_h_now (67 + x3_86).toNatClampNeg 0) 8 (((upd f_h_now (67 + x3_86).toNatClampNeg 0) 8) + 1)))), (h_rule, .inl (cI, 8, .inl f_h_rule))]) (k := 8) hx hb hK hP hD hS 1 0 rfl rfl (by unfold vp_in; decide) (by decide) rfl dX9_part_204 (fun H locs hP hD hS => ?_)
        refine lv_aload_n hx hb dX9_part_205 rfl (lv_at hl 1 rfl) ?_
        obtain ⟨r91, hc91, hf⟩ := k_b1_some hf
        refine k_ViR (q0 := 0) (As := []) (rest := []) S0 (c_X9_wholes l D cI cZ cJ cS h h_now h_aside h_books h_tide h_rain h_rule h_counts h_begins h_best h_planks v_h_thrown v_h_kept v_h_counted v_h_bestWorth v_h_bestPitch v_h_bestBits v_h_leastHour v_h_leastSet v_h_shut (upd (upd f_h_now (67 + x3_86).toNatClampNeg 0) 8 (((upd f_h_now (67 + x3_86).toNatClampNeg 0) 8) + 1)) r91 hc91) (cwV 0 hts gX9_part_X9_wholes rfl rfl rfl hdV_X9_wholes ⟨Nat.le_of_ble_eq_true rfl, Nat.le_of_ble_eq_true rfl⟩) hK hP hD hS hA hN [0, 1] rfl (by decide) rfl rfl rfl rfl hl.1 rfl (Nat.le_of_ble_eq_true rfl) dX9_part_206 (fun H locs hP hS => ?_)
        refine lv_if_ne (tgt := 219) hx hb dX9_part_209 (by decide) (fun c92 => ?_) (fun c92 => ?_)
        · replace hf := k_neg hf c92
          exact hRet _ hf _ _ _ _ hP hD hS dX9_part_219
        · replace hf := k_pos hf c92
          refine lv_aload_n hx hb dX9_part_212 rfl (lv_at hl 1 rfl) ?_
          refine k_get (C := RX9) (T := TX9) (N := 19) hx hb hts inX9 hown hK hP 0 rfl rfl 1 (by decide) rfl wl1 rfl dX9_part_213 ?_
          refine lv_iconst (v := 1) hx hb dX9_part_216 (by decide) ?_
          refine lv_iconst (v := 0) hx hb dX9_part_217 (by decide) ?_
          refine k_iast (ws2 := [(h, .inr (9, [.int v_h_thrown, .ref h_now, .ref h_aside, .int v_h_kept, .ref h_books, .ref h_tide, .ref h_rain, .ref h_rule, .int v_h_counted, .ref h_counts, .ref h_begins, .ref h_best, .int v_h_bestWorth, .int v_h_bestPitch, .int v_h_bestBits, .int v_h_leastHour, .int v_h_leastSet, .int v_h_shut, .ref h_planks])), (h_now, .inl (cI, 169, .inl (upd (upd (upd f_h_now (67 + x3_86).toNatClampNeg 0) 8 (((upd f_h_now (67 + x3_86).toNatClampNeg 0) 8) + 1)) 1 0))), (h_rule, .inl (cI, 8, .inl f_h_rule))]) (k := 1) hx hb hK hP hD hS 1 0 rfl rfl (by unfold vp_in; decide) (by decide) rfl dX9_part_218 (fun H locs hP hD hS => ?_)
          exact hRet _ hf _ _ _ _ hP hD hS dX9_part_219
    refine (k_lp_ind (fun sx85 => ∀ (H : Heap) (locs : List Loc) (ls : Array Slot), va_P D vwCl [(h, .inr (9, [.int v_h_thrown, .ref h_now, .ref h_aside, .int v_h_kept, .ref h_books, .ref h_tide, .ref h_rain, .ref h_rule, .int v_h_counted, .ref h_counts, .ref h_begins, .ref h_best, .int v_h_bestWorth, .int v_h_bestPitch, .int v_h_bestBits, .int v_h_leastHour, .int v_h_leastSet, .int v_h_shut, .ref h_planks])), (h_now, .inl (cI, 169, .inl f_h_now)), (h_rule, .inl (cI, 8, .inl f_h_rule))] H → va_D A [(h, .inr (9, [.int v_h_thrown, .ref h_now, .ref h_aside, .int v_h_kept, .ref h_books, .ref h_tide, .ref h_rain, .ref h_rule, .int v_h_counted, .ref h_counts, .ref h_begins, .ref h_best, .int v_h_bestWorth, .int v_h_bestPitch, .int v_h_bestBits, .int v_h_leastHour, .int v_h_leastSet, .int v_h_shut, .ref h_planks])), (h_now, .inl (cI, 169, .inl f_h_now)), (h_rule, .inl (cI, 8, .inl f_h_rule))] → va_S A s.heap H locs → lv_has ls 6 [(4, .int sx85.2), (3, .int sx85.1), (2, .int x2_18), (0, .ref h)] → W p l e rm_X9_part s m args below meth c H locs 0 0 Q (F0 m 81 ls [])) (fun sx85 X85 hX85 hin85 hout85 => ?_) _ _ hlp85) _ _ _ hP hD hS (lv_sub hl [0, 1, 2, 3] rfl)
    obtain ⟨x3_93, x4_94⟩ := sx85
    intro H locs ls hP hD hS hl
    replace hP : va_P D vwCl [(h, .inr (9, [.int v_h_thrown, .ref h_now, .ref h_aside, .int v_h_kept, .ref h_books, .ref h_tide, .ref h_rain, .ref h_rule, .int v_h_counted, .ref h_counts, .ref h_begins, .ref h_best, .int v_h_bestWorth, .int v_h_bestPitch, .int v_h_bestBits, .int v_h_leastHour, .int v_h_leastSet, .int v_h_shut, .ref h_planks])), (h_now, .inl (cI, 169, .inl f_h_now)), (h_rule, .inl (cI, 8, .inl f_h_rule))] H := hP
    replace hD : va_D A [(h, .inr (9, [.int v_h_thrown, .ref h_now, .ref h_aside, .int v_h_kept, .ref h_books, .ref h_tide, .ref h_rain, .ref h_rule, .int v_h_counted, .ref h_counts, .ref h_begins, .ref h_best, .int v_h_bestWorth, .int v_h_bestPitch, .int v_h_bestBits, .int v_h_leastHour, .int v_h_leastSet, .int v_h_shut, .ref h_planks])), (h_now, .inl (cI, 169, .inl f_h_now)), (h_rule, .inl (cI, 8, .inl f_h_rule))] := hD
    replace hl : lv_has ls 6 [(4, .int x4_94), (3, .int x3_93), (2, .int x2_18), (0, .ref h)] := hl
    replace hX85 : lb_X9_part_81 x2_18 f_h_now f_h_rule x3_93 x4_94 = some X85 := hX85
    unfold lb_X9_part_81 at hX85
    refine lv_iload hx hb dX9_part_81 (lv_at hl 0 rfl) ?_
    refine lv_if_lt (tgt := 178) hx hb dX9_part_83 (by decide) (fun c95 => ?_) (fun c95 => ?_)
    · replace hX85 := k_pos hX85 c95
      exact hE85 _ (hout85 _ (Option.some.inj hX85).symm).symm _ _ _ hP hD hS (lv_sub hl [1, 3] rfl)
    · replace hX85 := k_neg hX85 c95
      refine lv_iload_n hx hb dX9_part_86 rfl (lv_at hl 2 rfl) ?_
      refine lv_if_ne (tgt := 178) hx hb dX9_part_87 (by decide) (fun c96 => ?_) (fun c96 => ?_)
      · replace hX85 := k_neg hX85 c96
        exact hE85 _ (hout85 _ (Option.some.inj hX85).symm).symm _ _ _ hP hD hS (lv_sub hl [1, 3] rfl)
      · replace hX85 := k_pos hX85 c96
        refine lv_aload_n hx hb dX9_part_90 rfl (lv_at hl 3 rfl) ?_
        refine k_get (C := RX9) (T := TX9) (N := 19) hx hb hts inX9 hown hK hP 0 rfl rfl 1 (by decide) rfl wl1 rfl dX9_part_91 ?_
        refine lv_bipush (v := 11) hx hb dX9_part_94 (by decide) ?_
        refine k_iald (k := 11) hx hb hK hP 1 0 rfl rfl (by unfold vp_in; decide) (by decide) dX9_part_96 ?_
        refine lv_iconst (v := 1) hx hb dX9_part_97 (by decide) ?_
        refine lv_isub hx hb dX9_part_98 ?_
        refine lv_istore (lv' := [(5, .int ((f_h_now 11) - 1)), (4, .int x4_94), (3, .int x3_93), (2, .int x2_18), (0, .ref h)]) hx hb dX9_part_99 hl (by decide) rfl (fun ls hl => ?_)
        obtain ⟨ee115, hlp115, hfr115⟩ := k_b1_ee hX85
        have hE115 : ∀ (x3_116 : Int32), ee115 = x3_116 → ∀ (H : Heap) (locs : List Loc) (ls : Array Slot), va_P D vwCl [(h, .inr (9, [.int v_h_thrown, .ref h_now, .ref h_aside, .int v_h_kept, .ref h_books, .ref h_tide, .ref h_rain, .ref h_rule, .int v_h_counted, .ref h_counts, .ref h_begins, .ref h_best, .int v_h_bestWorth, .int v_h_bestPitch, .int v_h_bestBits, .int v_h_leastHour, .int v_h_leastSet, .int v_h_shut, .ref h_planks])), (h_now, .inl (cI, 169, .inl f_h_now)), (h_rule, .inl (cI, 8, .inl f_h_rule))] H → va_D A [(h, .inr (9, [.int v_h_thrown, .ref h_now, .ref h_aside, .int v_h_kept, .ref h_books, .ref h_tide, .ref h_rain, .ref h_rule, .int v_h_counted, .ref h_counts, .ref h_begins, .ref h_best, .int v_h_bestWorth, .int v_h_bestPitch, .int v_h_bestBits, .int v_h_leastHour, .int v_h_leastSet, .int v_h_shut, .ref h_planks])), (h_now, .inl (cI, 169, .inl f_h_now)), (h_rule, .inl (cI, 8, .inl f_h_rule))] → va_S A s.heap H locs → lv_has ls 6 [(4, .int x4_94), (3, .int x3_116), (2, .int x2_18), (0, .ref h)] → W p l e rm_X9_part s m args below meth c H locs 0 0 Q (F0 m 172 ls []) := by
          intro x3_116 he H locs ls hP hD hS hl
          replace hX85 := hfr115 x3_116 he
          refine lv_iinc (v := x4_94 + (-1)) (lv' := [(4, .int (x4_94 + (-1))), (3, .int x3_116), (2, .int x2_18), (0, .ref h)]) hx hb dX9_part_172 hl (k := 0) rfl rfl (by decide) rfl (fun ls hl => ?_)
          refine lv_goto (tgt := 81) hx hb dX9_part_175 (by decide) ?_
          exact hin85 (x3_116, x4_94 + (-1)) (Option.some.inj hX85).symm _ _ _ hP hD hS (lv_sub hl [0, 1, 2, 3] rfl)
        refine (k_lp_ind (fun sx115 => ∀ (H : Heap) (locs : List Loc) (ls : Array Slot), va_P D vwCl [(h, .inr (9, [.int v_h_thrown, .ref h_now, .ref h_aside, .int v_h_kept, .ref h_books, .ref h_tide, .ref h_rain, .ref h_rule, .int v_h_counted, .ref h_counts, .ref h_begins, .ref h_best, .int v_h_bestWorth, .int v_h_bestPitch, .int v_h_bestBits, .int v_h_leastHour, .int v_h_leastSet, .int v_h_shut, .ref h_planks])), (h_now, .inl (cI, 169, .inl f_h_now)), (h_rule, .inl (cI, 8, .inl f_h_rule))] H → va_D A [(h, .inr (9, [.int v_h_thrown, .ref h_now, .ref h_aside, .int v_h_kept, .ref h_books, .ref h_tide, .ref h_rain, .ref h_rule, .int v_h_counted, .ref h_counts, .ref h_begins, .ref h_best, .int v_h_bestWorth, .int v_h_bestPitch, .int v_h_bestBits, .int v_h_leastHour, .int v_h_leastSet, .int v_h_shut, .ref h_planks])), (h_now, .inl (cI, 169, .inl f_h_now)), (h_rule, .inl (cI, 8, .inl f_h_rule))] → va_S A s.heap H locs → lv_has ls 6 [(5, .int sx115.2), (4, .int x4_94), (3, .int sx115.1), (2, .int x2_18), (0, .ref h)] → W p l e rm_X9_part s m args below meth c H locs 0 0 Q (F0 m 101 ls [])) (fun sx115 X115 hX115 hin115 hout115 => ?_) _ _ hlp115) _ _ _ hP hD hS (lv_sub hl [0, 1, 2, 3, 4] rfl)
        obtain ⟨x3_117, x5_118⟩ := sx115
        intro H locs ls hP hD hS hl
        replace hP : va_P D vwCl [(h, .inr (9, [.int v_h_thrown, .ref h_now, .ref h_aside, .int v_h_kept, .ref h_books, .ref h_tide, .ref h_rain, .ref h_rule, .int v_h_counted, .ref h_counts, .ref h_begins, .ref h_best, .int v_h_bestWorth, .int v_h_bestPitch, .int v_h_bestBits, .int v_h_leastHour, .int v_h_leastSet, .int v_h_shut, .ref h_planks])), (h_now, .inl (cI, 169, .inl f_h_now)), (h_rule, .inl (cI, 8, .inl f_h_rule))] H := hP
        replace hD : va_D A [(h, .inr (9, [.int v_h_thrown, .ref h_now, .ref h_aside, .int v_h_kept, .ref h_books, .ref h_tide, .ref h_rain, .ref h_rule, .int v_h_counted, .ref h_counts, .ref h_begins, .ref h_best, .int v_h_bestWorth, .int v_h_bestPitch, .int v_h_bestBits, .int v_h_leastHour, .int v_h_leastSet, .int v_h_shut, .ref h_planks])), (h_now, .inl (cI, 169, .inl f_h_now)), (h_rule, .inl (cI, 8, .inl f_h_rule))] := hD
        replace hl : lv_has ls 6 [(5, .int x5_118), (4, .int x4_94), (3, .int x3_117), (2, .int x2_18), (0, .ref h)] := hl
        replace hX115 : lb_X9_part_101 f_h_now f_h_rule x4_94 x3_117 x5_118 = some X115 := hX115
        unfold lb_X9_part_101 at hX115
        refine lv_iload hx hb dX9_part_101 (lv_at hl 0 rfl) ?_
        refine lv_if_lt (tgt := 172) hx hb dX9_part_103 (by decide) (fun c119 => ?_) (fun c119 => ?_)
        · replace hX115 := k_pos hX115 c119
          exact hE115 _ (hout115 _ (Option.some.inj hX115).symm).symm _ _ _ hP hD hS (lv_sub hl [1, 2, 3, 4] rfl)
        · replace hX115 := k_neg hX115 c119
          refine lv_aload_n hx hb dX9_part_106 rfl (lv_at hl 4 rfl) ?_
          refine lv_iload hx hb dX9_part_107 (lv_at hl 1 rfl) ?_
          refine lv_aload_n hx hb dX9_part_109 rfl (lv_at hl 4 rfl) ?_
          refine k_get (C := RX9) (T := TX9) (N := 19) hx hb hts inX9 hown hK hP 0 rfl rfl 1 (by decide) rfl wl1 rfl dX9_part_110 ?_
          refine lv_iconst (v := 1) hx hb dX9_part_113 (by decide) ?_
          refine k_iald (k := 1) hx hb hK hP 1 0 rfl rfl (by unfold vp_in; decide) (by decide) dX9_part_114 ?_
          obtain ⟨r120, hc120, hX115⟩ := k_b1_some hX115
          refine k_ViR (q0 := 0) (As := [.int x4_94, .int (f_h_now 1)]) (rest := []) S0 (c_X9_mastOf l D cI cZ cJ cS h h_now h_aside h_books h_tide h_rain h_rule h_counts h_begins h_best h_planks v_h_thrown v_h_kept v_h_counted v_h_bestWorth v_h_bestPitch v_h_bestBits v_h_leastHour v_h_leastSet v_h_shut f_h_now f_h_rule x4_94 (f_h_now 1) r120 hc120) (cwV 2 hts gX9_part_X9_mastOf rfl rfl rfl hdV_X9_mastOf ⟨Nat.le_of_ble_eq_true rfl, Nat.le_of_ble_eq_true rfl⟩) hK hP hD hS hA hN [0, 1, 2] rfl (by decide) rfl rfl rfl rfl hl.1 rfl (Nat.le_of_ble_eq_true rfl) dX9_part_115 (fun H locs hP hS => ?_)
          refine lv_aload_n hx hb dX9_part_118 rfl (lv_at hl 4 rfl) ?_
          refine k_get (C := RX9) (T := TX9) (N := 19) hx hb hts inX9 hown hK hP 0 rfl rfl 7 (by decide) rfl wl2 rfl dX9_part_119 ?_
          refine lv_iconst (v := 5) hx hb dX9_part_122 (by decide) ?_
          refine lv_iload hx hb dX9_part_123 (lv_at hl 1 rfl) ?_
          refine lv_iadd hx hb dX9_part_125 ?_
          obtain ⟨hi121, hX115⟩ := k_ix_some hX115
          refine k_iald (k := (5 + x4_94).toNatClampNeg) hx hb hK hP 2 0 rfl rfl hi121 rfl dX9_part_126 ?_
          refine lv_icmp_le (tgt := 164) hx hb dX9_part_127 (by decide) (fun c122 => ?_) (fun c122 => ?_)
          · replace hX115 := k_pos hX115 c122
            refine lv_iload_n hx hb dX9_part_164 rfl (lv_at hl 2 rfl) ?_
            refine lv_istore_n (lv' := [(3, .int x3_117), (5, .int x5_118), (4, .int x4_94), (2, .int x2_18), (0, .ref h)]) hx hb dX9_part_165 rfl hl (by decide) rfl (fun ls hl => ?_)
            refine lv_iinc (v := x5_118 + (-1)) (lv' := [(5, .int (x5_118 + (-1))), (3, .int x3_117), (4, .int x4_94), (2, .int x2_18), (0, .ref h)]) hx hb dX9_part_166 hl (k := 1) rfl rfl (by decide) rfl (fun ls hl => ?_)
            refine lv_goto (tgt := 101) hx hb dX9_part_169 (by decide) ?_
            exact hin115 (x3_117, x5_118 + (-1)) (Option.some.inj hX115).symm _ _ _ hP hD hS (lv_sub hl [0, 2, 1, 3, 4] rfl)
          · replace hX115 := k_neg hX115 c122
            refine lv_aload_n hx hb dX9_part_130 rfl (lv_at hl 4 rfl) ?_
            refine k_get (C := RX9) (T := TX9) (N := 19) hx hb hts inX9 hown hK hP 0 rfl rfl 1 (by decide) rfl wl1 rfl dX9_part_131 ?_
            refine lv_bipush (v := 67) hx hb dX9_part_134 (by decide) ?_
            refine lv_iload hx hb dX9_part_136 (lv_at hl 0 rfl) ?_
            refine lv_iadd hx hb dX9_part_138 ?_
            obtain ⟨hi123, hX115⟩ := k_ix_some hX115
            refine k_iald (k := (67 + x5_118).toNatClampNeg) hx hb hK hP 1 0 rfl rfl hi123 rfl dX9_part_139 ?_
            refine lv_iconst (v := 1) hx hb dX9_part_140 (by decide) ?_
            refine lv_icmp_ne (tgt := 164) hx hb dX9_part_141 (by decide) (fun c124 => ?_) (fun c124 => ?_)
            · replace hX115 := k_neg hX115 c124
              refine lv_iload_n hx hb dX9_part_164 rfl (lv_at hl 2 rfl) ?_
              refine lv_istore_n (lv' := [(3, .int x3_117), (5, .int x5_118), (4, .int x4_94), (2, .int x2_18), (0, .ref h)]) hx hb dX9_part_165 rfl hl (by decide) rfl (fun ls hl => ?_)
              refine lv_iinc (v := x5_118 + (-1)) (lv' := [(5, .int (x5_118 + (-1))), (3, .int x3_117), (4, .int x4_94), (2, .int x2_18), (0, .ref h)]) hx hb dX9_part_166 hl (k := 1) rfl rfl (by decide) rfl (fun ls hl => ?_)
              refine lv_goto (tgt := 101) hx hb dX9_part_169 (by decide) ?_
              exact hin115 (x3_117, x5_118 + (-1)) (Option.some.inj hX115).symm _ _ _ hP hD hS (lv_sub hl [0, 2, 1, 3, 4] rfl)
            · replace hX115 := k_pos hX115 c124
              refine lv_aload_n hx hb dX9_part_144 rfl (lv_at hl 4 rfl) ?_
              refine k_get (C := RX9) (T := TX9) (N := 19) hx hb hts inX9 hown hK hP 0 rfl rfl 1 (by decide) rfl wl1 rfl dX9_part_145 ?_
              refine lv_bipush (v := 49) hx hb dX9_part_148 (by decide) ?_
              refine lv_iload hx hb dX9_part_150 (lv_at hl 0 rfl) ?_
              refine lv_iadd hx hb dX9_part_152 ?_
              obtain ⟨hi125, hX115⟩ := k_ix_some hX115
              refine k_iald (k := (49 + x5_118).toNatClampNeg) hx hb hK hP 1 0 rfl rfl hi125 rfl dX9_part_153 ?_
              refine lv_iload hx hb dX9_part_154 (lv_at hl 1 rfl) ?_
              refine lv_icmp_ne (tgt := 164) hx hb dX9_part_156 (by decide) (fun c126 => ?_) (fun c126 => ?_)
              · replace hX115 := k_neg hX115 c126
                refine lv_iload_n hx hb dX9_part_164 rfl (lv_at hl 2 rfl) ?_
                refine lv_istore_n (lv' := [(3, .int x3_117), (5, .int x5_118), (4, .int x4_94), (2, .int x2_18), (0, .ref h)]) hx hb dX9_part_165 rfl hl (by decide) rfl (fun ls hl => ?_)
                refine lv_iinc (v := x5_118 + (-1)) (lv' := [(5, .int (x5_118 + (-1))), (3, .int x3_117), (4, .int x4_94), (2, .int x2_18), (0, .ref h)]) hx hb dX9_part_166 hl (k := 1) rfl rfl (by decide) rfl (fun ls hl => ?_)
                refine lv_goto (tgt := 101) hx hb dX9_part_169 (by decide) ?_
                exact hin115 (x3_117, x5_118 + (-1)) (Option.some.inj hX115).symm _ _ _ hP hD hS (lv_sub hl [0, 2, 1, 3, 4] rfl)
              · replace hX115 := k_pos hX115 c126
                refine lv_iload hx hb dX9_part_159 (lv_at hl 0 rfl) ?_
                refine lv_goto (tgt := 165) hx hb dX9_part_161 (by decide) ?_
                refine lv_istore_n (lv' := [(3, .int x5_118), (5, .int x5_118), (4, .int x4_94), (2, .int x2_18), (0, .ref h)]) hx hb dX9_part_165 rfl hl (by decide) rfl (fun ls hl => ?_)
                refine lv_iinc (v := x5_118 + (-1)) (lv' := [(5, .int (x5_118 + (-1))), (3, .int x5_118), (4, .int x4_94), (2, .int x2_18), (0, .ref h)]) hx hb dX9_part_166 hl (k := 1) rfl rfl (by decide) rfl (fun ls hl => ?_)
                refine lv_goto (tgt := 101) hx hb dX9_part_169 (by decide) ?_
                exact hin115 (x5_118, x5_118 + (-1)) (Option.some.inj hX115).symm _ _ _ hP hD hS (lv_sub hl [0, 2, 1, 3, 4] rfl)
  refine (k_lp_ind (fun sx17 => ∀ (H : Heap) (locs : List Loc) (ls : Array Slot), va_P D vwCl [(h, .inr (9, [.int v_h_thrown, .ref h_now, .ref h_aside, .int v_h_kept, .ref h_books, .ref h_tide, .ref h_rain, .ref h_rule, .int v_h_counted, .ref h_counts, .ref h_begins, .ref h_best, .int v_h_bestWorth, .int v_h_bestPitch, .int v_h_bestBits, .int v_h_leastHour, .int v_h_leastSet, .int v_h_shut, .ref h_planks])), (h_now, .inl (cI, 169, .inl f_h_now)), (h_rule, .inl (cI, 8, .inl f_h_rule))] H → va_D A [(h, .inr (9, [.int v_h_thrown, .ref h_now, .ref h_aside, .int v_h_kept, .ref h_books, .ref h_tide, .ref h_rain, .ref h_rule, .int v_h_counted, .ref h_counts, .ref h_begins, .ref h_best, .int v_h_bestWorth, .int v_h_bestPitch, .int v_h_bestBits, .int v_h_leastHour, .int v_h_leastSet, .int v_h_shut, .ref h_planks])), (h_now, .inl (cI, 169, .inl f_h_now)), (h_rule, .inl (cI, 8, .inl f_h_rule))] → va_S A s.heap H locs → lv_has ls 6 [(4, .int sx17.2.2), (3, .int sx17.2.1), (2, .int sx17.1), (0, .ref h), (1, .int a1)] → W p l e rm_X9_part s m args below meth c H locs 0 0 Q (F0 m 8 ls [])) (fun sx17 X17 hX17 hin17 hout17 => ?_) _ _ hlp17) _ _ _ hP hD hS (lv_sub hl [0, 1, 2, 3, 4] rfl)
  obtain ⟨x2_127, x3_128, x4_129⟩ := sx17
  intro H locs ls hP hD hS hl
  replace hP : va_P D vwCl [(h, .inr (9, [.int v_h_thrown, .ref h_now, .ref h_aside, .int v_h_kept, .ref h_books, .ref h_tide, .ref h_rain, .ref h_rule, .int v_h_counted, .ref h_counts, .ref h_begins, .ref h_best, .int v_h_bestWorth, .int v_h_bestPitch, .int v_h_bestBits, .int v_h_leastHour, .int v_h_leastSet, .int v_h_shut, .ref h_planks])), (h_now, .inl (cI, 169, .inl f_h_now)), (h_rule, .inl (cI, 8, .inl f_h_rule))] H := hP
  replace hD : va_D A [(h, .inr (9, [.int v_h_thrown, .ref h_now, .ref h_aside, .int v_h_kept, .ref h_books, .ref h_tide, .ref h_rain, .ref h_rule, .int v_h_counted, .ref h_counts, .ref h_begins, .ref h_best, .int v_h_bestWorth, .int v_h_bestPitch, .int v_h_bestBits, .int v_h_leastHour, .int v_h_leastSet, .int v_h_shut, .ref h_planks])), (h_now, .inl (cI, 169, .inl f_h_now)), (h_rule, .inl (cI, 8, .inl f_h_rule))] := hD
  replace hl : lv_has ls 6 [(4, .int x4_129), (3, .int x3_128), (2, .int x2_127), (0, .ref h), (1, .int a1)] := hl
  replace hX17 : lb_X9_part_8 f_h_now f_h_rule a1 x2_127 x3_128 x4_129 = some X17 := hX17
  unfold lb_X9_part_8 at hX17
  refine lv_iload hx hb dX9_part_8 (lv_at hl 0 rfl) ?_
  refine lv_aload_n hx hb dX9_part_10 rfl (lv_at hl 3 rfl) ?_
  refine k_get (C := RX9) (T := TX9) (N := 19) hx hb hts inX9 hown hK hP 0 rfl rfl 1 (by decide) rfl wl1 rfl dX9_part_11 ?_
  refine lv_bipush (v := 11) hx hb dX9_part_14 (by decide) ?_
  refine k_iald (k := 11) hx hb hK hP 1 0 rfl rfl (by unfold vp_in; decide) (by decide) dX9_part_16 ?_
  refine lv_icmp_ge (tgt := 78) hx hb dX9_part_17 (by decide) (fun c130 => ?_) (fun c130 => ?_)
  · replace hX17 := k_pos hX17 c130
    exact hE17 _ _ (hout17 _ (Option.some.inj hX17).symm).symm _ _ _ hP hD hS (lv_sub hl [1, 2, 3] rfl)
  · replace hX17 := k_neg hX17 c130
    refine lv_aload_n hx hb dX9_part_20 rfl (lv_at hl 3 rfl) ?_
    refine k_get (C := RX9) (T := TX9) (N := 19) hx hb hts inX9 hown hK hP 0 rfl rfl 1 (by decide) rfl wl1 rfl dX9_part_21 ?_
    refine lv_bipush (v := 67) hx hb dX9_part_24 (by decide) ?_
    refine lv_iload hx hb dX9_part_26 (lv_at hl 0 rfl) ?_
    refine lv_iadd hx hb dX9_part_28 ?_
    obtain ⟨hi131, hX17⟩ := k_ix_some hX17
    refine k_iald (k := (67 + x4_129).toNatClampNeg) hx hb hK hP 1 0 rfl rfl hi131 rfl dX9_part_29 ?_
    refine lv_iconst (v := 1) hx hb dX9_part_30 (by decide) ?_
    refine lv_icmp_ne (tgt := 57) hx hb dX9_part_31 (by decide) (fun c132 => ?_) (fun c132 => ?_)
    · replace hX17 := k_neg hX17 c132
      refine lv_iconst (v := 0) hx hb dX9_part_57 (by decide) ?_
      refine lv_istore (lv' := [(5, .int 0), (4, .int x4_129), (3, .int x3_128), (2, .int x2_127), (0, .ref h), (1, .int a1)]) hx hb dX9_part_58 hl (by decide) rfl (fun ls hl => ?_)
      refine lv_iload hx hb dX9_part_60 (lv_at hl 0 rfl) ?_
      refine lv_iload_n hx hb dX9_part_62 rfl (lv_at hl 3 rfl) ?_
      refine lv_icmp_le (tgt := 72) hx hb dX9_part_63 (by decide) (fun c133 => ?_) (fun c133 => ?_)
      · replace hX17 := k_pos hX17 c133
        refine lv_iinc (v := x4_129 + 1) (lv' := [(4, .int (x4_129 + 1)), (5, .int 0), (3, .int x3_128), (2, .int x2_127), (0, .ref h), (1, .int a1)]) hx hb dX9_part_72 hl (k := 1) rfl rfl (by decide) rfl (fun ls hl => ?_)
        refine lv_goto (tgt := 8) hx hb dX9_part_75 (by decide) ?_
        exact hin17 (x2_127, x3_128, x4_129 + 1) (Option.some.inj hX17).symm _ _ _ hP hD hS (lv_sub hl [0, 2, 3, 4, 5] rfl)
      · replace hX17 := k_neg hX17 c133
        refine lv_iload hx hb dX9_part_66 (lv_at hl 0 rfl) ?_
        refine lv_istore_n (lv' := [(2, .int 0), (5, .int 0), (4, .int x4_129), (3, .int x3_128), (0, .ref h), (1, .int a1)]) hx hb dX9_part_68 rfl hl (by decide) rfl (fun ls hl => ?_)
        refine lv_iload hx hb dX9_part_69 (lv_at hl 2 rfl) ?_
        refine lv_istore_n (lv' := [(3, .int x4_129), (2, .int 0), (5, .int 0), (4, .int x4_129), (0, .ref h), (1, .int a1)]) hx hb dX9_part_71 rfl hl (by decide) rfl (fun ls hl => ?_)
        refine lv_iinc (v := x4_129 + 1) (lv' := [(4, .int (x4_129 + 1)), (3, .int x4_129), (2, .int 0), (5, .int 0), (0, .ref h), (1, .int a1)]) hx hb dX9_part_72 hl (k := 3) rfl rfl (by decide) rfl (fun ls hl => ?_)
        refine lv_goto (tgt := 8) hx hb dX9_part_75 (by decide) ?_
        exact hin17 (0, x4_129, x4_129 + 1) (Option.some.inj hX17).symm _ _ _ hP hD hS (lv_sub hl [0, 1, 2, 4, 5] rfl)
    · replace hX17 := k_pos hX17 c132
      refine lv_aload_n hx hb dX9_part_34 rfl (lv_at hl 3 rfl) ?_
      refine lv_iload hx hb dX9_part_35 (lv_at hl 0 rfl) ?_
      refine lv_aload_n hx hb dX9_part_37 rfl (lv_at hl 3 rfl) ?_
      refine k_get (C := RX9) (T := TX9) (N := 19) hx hb hts inX9 hown hK hP 0 rfl rfl 1 (by decide) rfl wl1 rfl dX9_part_38 ?_
      refine lv_iconst (v := 1) hx hb dX9_part_41 (by decide) ?_
      refine k_iald (k := 1) hx hb hK hP 1 0 rfl rfl (by unfold vp_in; decide) (by decide) dX9_part_42 ?_
      obtain ⟨r134, hc134, hX17⟩ := k_b1_some hX17
      refine k_ViR (q0 := 0) (As := [.int x4_129, .int (f_h_now 1)]) (rest := []) S0 (c_X9_ropeOf l D cI cZ cJ cS h h_now h_aside h_books h_tide h_rain h_rule h_counts h_begins h_best h_planks v_h_thrown v_h_kept v_h_counted v_h_bestWorth v_h_bestPitch v_h_bestBits v_h_leastHour v_h_leastSet v_h_shut f_h_now f_h_rule x4_129 (f_h_now 1) r134 hc134) (cwV 2 hts gX9_part_X9_ropeOf rfl rfl rfl hdV_X9_ropeOf ⟨Nat.le_of_ble_eq_true rfl, Nat.le_of_ble_eq_true rfl⟩) hK hP hD hS hA hN [0, 1, 2] rfl (by decide) rfl rfl rfl rfl hl.1 rfl (Nat.le_of_ble_eq_true rfl) dX9_part_43 (fun H locs hP hS => ?_)
      refine lv_aload_n hx hb dX9_part_46 rfl (lv_at hl 3 rfl) ?_
      refine lv_iload hx hb dX9_part_47 (lv_at hl 0 rfl) ?_
      refine lv_iload_n hx hb dX9_part_49 rfl (lv_at hl 4 rfl) ?_
      obtain ⟨r135, hc135, hX17⟩ := k_b1_some hX17
      refine k_ViR (q0 := 0) (As := [.int x4_129, .int a1]) (rest := [.int r134]) S0 (c_X9_may l D cI cZ cJ cS h h_now h_aside h_books h_tide h_rain h_rule h_counts h_begins h_best h_planks v_h_thrown v_h_kept v_h_counted v_h_bestWorth v_h_bestPitch v_h_bestBits v_h_leastHour v_h_leastSet v_h_shut f_h_now x4_129 a1 r135 hc135) (cwV 2 hts gX9_part_X9_may rfl rfl rfl hdV_X9_may ⟨Nat.le_of_ble_eq_true rfl, Nat.le_of_ble_eq_true rfl⟩) hK hP hD hS hA hN [0, 1] rfl (by decide) rfl rfl rfl rfl hl.1 rfl (Nat.le_of_ble_eq_true rfl) dX9_part_50 (fun H locs hP hS => ?_)
      refine lv_isub hx hb dX9_part_53 ?_
      refine lv_goto (tgt := 58) hx hb dX9_part_54 (by decide) ?_
      refine lv_istore (lv' := [(5, .int (r134 - r135)), (4, .int x4_129), (3, .int x3_128), (2, .int x2_127), (0, .ref h), (1, .int a1)]) hx hb dX9_part_58 hl (by decide) rfl (fun ls hl => ?_)
      refine lv_iload hx hb dX9_part_60 (lv_at hl 0 rfl) ?_
      refine lv_iload_n hx hb dX9_part_62 rfl (lv_at hl 3 rfl) ?_
      refine lv_icmp_le (tgt := 72) hx hb dX9_part_63 (by decide) (fun c136 => ?_) (fun c136 => ?_)
      · replace hX17 := k_pos hX17 c136
        refine lv_iinc (v := x4_129 + 1) (lv' := [(4, .int (x4_129 + 1)), (5, .int (r134 - r135)), (3, .int x3_128), (2, .int x2_127), (0, .ref h), (1, .int a1)]) hx hb dX9_part_72 hl (k := 1) rfl rfl (by decide) rfl (fun ls hl => ?_)
        refine lv_goto (tgt := 8) hx hb dX9_part_75 (by decide) ?_
        exact hin17 (x2_127, x3_128, x4_129 + 1) (Option.some.inj hX17).symm _ _ _ hP hD hS (lv_sub hl [0, 2, 3, 4, 5] rfl)
      · replace hX17 := k_neg hX17 c136
        refine lv_iload hx hb dX9_part_66 (lv_at hl 0 rfl) ?_
        refine lv_istore_n (lv' := [(2, .int (r134 - r135)), (5, .int (r134 - r135)), (4, .int x4_129), (3, .int x3_128), (0, .ref h), (1, .int a1)]) hx hb dX9_part_68 rfl hl (by decide) rfl (fun ls hl => ?_)
        refine lv_iload hx hb dX9_part_69 (lv_at hl 2 rfl) ?_
        refine lv_istore_n (lv' := [(3, .int x4_129), (2, .int (r134 - r135)), (5, .int (r134 - r135)), (4, .int x4_129), (0, .ref h), (1, .int a1)]) hx hb dX9_part_71 rfl hl (by decide) rfl (fun ls hl => ?_)
        refine lv_iinc (v := x4_129 + 1) (lv' := [(4, .int (x4_129 + 1)), (3, .int x4_129), (2, .int (r134 - r135)), (5, .int (r134 - r135)), (0, .ref h), (1, .int a1)]) hx hb dX9_part_72 hl (k := 3) rfl rfl (by decide) rfl (fun ls hl => ?_)
        refine lv_goto (tgt := 8) hx hb dX9_part_75 (by decide) ?_
        exact hin17 (r134 - r135, x4_129, x4_129 + 1) (Option.some.inj hX17).symm _ _ _ hP hD hS (lv_sub hl [0, 1, 2, 4, 5] rfl)

