def p_J6_bitCount_0f7a4 (a0 : Int32) : Option (Int32) :=
  k_lt (a0 - ((((a0).toUInt32 >>> ((1 : Int32).toUInt32 &&& Int32.toUInt32 31)).toInt32) &&& 1431655765)) fun y1 =>
  k_lt ((y1 &&& 858993459) + ((((y1).toUInt32 >>> ((2 : Int32).toUInt32 &&& Int32.toUInt32 31)).toInt32) &&& 858993459)) fun y2 =>
  k_lt ((y2 + (((y2).toUInt32 >>> ((4 : Int32).toUInt32 &&& Int32.toUInt32 31)).toInt32)) &&& 252645135) fun y3 =>
  k_lt (y3 + (((y3).toUInt32 >>> ((8 : Int32).toUInt32 &&& Int32.toUInt32 31)).toInt32)) fun y4 =>
  k_lt (y4 + (((y4).toUInt32 >>> ((16 : Int32).toUInt32 &&& Int32.toUInt32 31)).toInt32)) fun y5 =>
  some (y5 &&& 63)
abbrev rm_J6_bitCount_0f7a4 : Room := { frames := 0, cells := 0, slots := 0, locals := 0 }
theorem hdS_J6_bitCount_0f7a4 : yJ6_bitCount_0f7a4.cls ≠ "java/lang/invoke/MethodHandle" ∧ yJ6_bitCount_0f7a4.cls ≠ "java/lang/invoke/VarHandle" ∧ (parseMethodDescriptor yJ6_bitCount_0f7a4.desc).map (fun d => d.parameters.length) = some 1 := by decide +kernel
theorem hdV_J6_bitCount_0f7a4 : yJ6_bitCount_0f7a4.cls = RJ6 ∧ yJ6_bitCount_0f7a4.cls ≠ "java/lang/invoke/MethodHandle" ∧ yJ6_bitCount_0f7a4.cls ≠ "java/lang/invoke/VarHandle" ∧ (parseMethodDescriptor yJ6_bitCount_0f7a4.desc).map (fun d => d.parameters.length) = some 1 := by decide +kernel
set_option maxHeartbeats 4000000 in
set_option maxRecDepth 100000 in
theorem c_J6_bitCount_0f7a4 (l : Launch) (D : va_G) (cI cZ cJ cS : ClassId) (a0 : Int32) (r : Int32) (hf : p_J6_bitCount_0f7a4 a0 = some r) : k_MI l yJ6_bitCount_0f7a4 wsJ6_bitCount_0f7a4 rm_J6_bitCount_0f7a4 D (k_tys cI cZ cJ cS) [.int a0] [] [] r := by
  refine k_enter (y := yJ6_bitCount_0f7a4) (wl := wsJ6_bitCount_0f7a4) (cc := cJ6_bitCount_0f7a4) (maxL := 1) (ret := (some .int)) (Qc := fun A => k_Qi D (k_tys cI cZ cJ cS) [] A r) (by decide) rfl (Nat.le_of_ble_eq_true rfl) [(0, .int a0)] rfl ?_
  intro p e s m below meth c A hx hb hml hr hlocks hnm hown hK hP hD hA hS hN ls args Q hts hl hQ
  replace hown : s.vm.findClass RJ6 = some m.cls := hown
  have wl1 : (Cond.constant RJ6 265 (1431655765)).before args s = true := hts _ (List.mem_of_getElem? (i := 1) rfl)
  have wl2 : (Cond.constant RJ6 266 (858993459)).before args s = true := hts _ (List.mem_of_getElem? (i := 2) rfl)
  have wl3 : (Cond.constant RJ6 267 (252645135)).before args s = true := hts _ (List.mem_of_getElem? (i := 3) rfl)
  have hRet : ∀ (r_z : Int32), some r_z = some r → ∀ (H : Heap) (locs : List Loc) (ls : Array Slot) (pc : Nat), va_P D vwCl [] H → va_D A [] → va_S A s.heap H locs → narrow .int (.int r_z) = .int r_z → decode cJ6_bitCount_0f7a4 pc = .ok (.ireturn, 1) → W p l e rm_J6_bitCount_0f7a4 s m args below meth c H locs 0 0 Q (F0 m pc ls [.int r_z]) := by
    intro r_z hz H locs ls pc hP hD hS hn hd
    cases hz
    exact k_iret hx hb hr hlocks hn hK hP hD hS hQ rfl hd
  unfold p_J6_bitCount_0f7a4 at hf
  refine lv_iload_n hx hb dJ6_bitCount_0f7a4_0 rfl (lv_at hl 0 rfl) ?_
  refine lv_iload_n hx hb dJ6_bitCount_0f7a4_1 rfl (lv_at hl 0 rfl) ?_
  refine lv_iconst (v := 1) hx hb dJ6_bitCount_0f7a4_2 (by decide) ?_
  refine lv_iushr (v := ((a0).toUInt32 >>> ((1 : Int32).toUInt32 &&& Int32.toUInt32 31)).toInt32) hx hb dJ6_bitCount_0f7a4_3 rfl ?_
  refine lv_ldcw hx hb hown wl1 dJ6_bitCount_0f7a4_4 ?_
  refine lv_iand hx hb dJ6_bitCount_0f7a4_7 ?_
  refine lv_isub hx hb dJ6_bitCount_0f7a4_8 ?_
  obtain ⟨y1, ey1, hf⟩ := k_lt_some hf
  refine k_topi ey1 ?_
  refine lv_istore_n (lv' := [(0, .int y1)]) hx hb dJ6_bitCount_0f7a4_9 rfl hl (by decide) rfl (fun ls hl => ?_)
  refine lv_iload_n hx hb dJ6_bitCount_0f7a4_10 rfl (lv_at hl 0 rfl) ?_
  refine lv_ldcw hx hb hown wl2 dJ6_bitCount_0f7a4_11 ?_
  refine lv_iand hx hb dJ6_bitCount_0f7a4_14 ?_
  refine lv_iload_n hx hb dJ6_bitCount_0f7a4_15 rfl (lv_at hl 0 rfl) ?_
  refine lv_iconst (v := 2) hx hb dJ6_bitCount_0f7a4_16 (by decide) ?_
  refine lv_iushr (v := ((y1).toUInt32 >>> ((2 : Int32).toUInt32 &&& Int32.toUInt32 31)).toInt32) hx hb dJ6_bitCount_0f7a4_17 rfl ?_
  refine lv_ldcw hx hb hown wl2 dJ6_bitCount_0f7a4_18 ?_
  refine lv_iand hx hb dJ6_bitCount_0f7a4_21 ?_
  refine lv_iadd hx hb dJ6_bitCount_0f7a4_22 ?_
  obtain ⟨y2, ey2, hf⟩ := k_lt_some hf
  refine k_topi ey2 ?_
  refine lv_istore_n (lv' := [(0, .int y2)]) hx hb dJ6_bitCount_0f7a4_23 rfl hl (by decide) rfl (fun ls hl => ?_)
  refine lv_iload_n hx hb dJ6_bitCount_0f7a4_24 rfl (lv_at hl 0 rfl) ?_
  refine lv_iload_n hx hb dJ6_bitCount_0f7a4_25 rfl (lv_at hl 0 rfl) ?_
  refine lv_iconst (v := 4) hx hb dJ6_bitCount_0f7a4_26 (by decide) ?_
  refine lv_iushr (v := ((y2).toUInt32 >>> ((4 : Int32).toUInt32 &&& Int32.toUInt32 31)).toInt32) hx hb dJ6_bitCount_0f7a4_27 rfl ?_
  refine lv_iadd hx hb dJ6_bitCount_0f7a4_28 ?_
  refine lv_ldcw hx hb hown wl3 dJ6_bitCount_0f7a4_29 ?_
  refine lv_iand hx hb dJ6_bitCount_0f7a4_32 ?_
  obtain ⟨y3, ey3, hf⟩ := k_lt_some hf
  refine k_topi ey3 ?_
  refine lv_istore_n (lv' := [(0, .int y3)]) hx hb dJ6_bitCount_0f7a4_33 rfl hl (by decide) rfl (fun ls hl => ?_)
  refine lv_iload_n hx hb dJ6_bitCount_0f7a4_34 rfl (lv_at hl 0 rfl) ?_
  refine lv_iload_n hx hb dJ6_bitCount_0f7a4_35 rfl (lv_at hl 0 rfl) ?_
  refine lv_bipush (v := 8) hx hb dJ6_bitCount_0f7a4_36 (by decide) ?_
  refine lv_iushr (v := ((y3).toUInt32 >>> ((8 : Int32).toUInt32 &&& Int32.toUInt32 31)).toInt32) hx hb dJ6_bitCount_0f7a4_38 rfl ?_
  refine lv_iadd hx hb dJ6_bitCount_0f7a4_39 ?_
  obtain ⟨y4, ey4, hf⟩ := k_lt_some hf
  refine k_topi ey4 ?_
  refine lv_istore_n (lv' := [(0, .int y4)]) hx hb dJ6_bitCount_0f7a4_40 rfl hl (by decide) rfl (fun ls hl => ?_)
  refine lv_iload_n hx hb dJ6_bitCount_0f7a4_41 rfl (lv_at hl 0 rfl) ?_
  refine lv_iload_n hx hb dJ6_bitCount_0f7a4_42 rfl (lv_at hl 0 rfl) ?_
  refine lv_bipush (v := 16) hx hb dJ6_bitCount_0f7a4_43 (by decide) ?_
  refine lv_iushr (v := ((y4).toUInt32 >>> ((16 : Int32).toUInt32 &&& Int32.toUInt32 31)).toInt32) hx hb dJ6_bitCount_0f7a4_45 rfl ?_
  refine lv_iadd hx hb dJ6_bitCount_0f7a4_46 ?_
  obtain ⟨y5, ey5, hf⟩ := k_lt_some hf
  refine k_topi ey5 ?_
  refine lv_istore_n (lv' := [(0, .int y5)]) hx hb dJ6_bitCount_0f7a4_47 rfl hl (by decide) rfl (fun ls hl => ?_)
  refine lv_iload_n hx hb dJ6_bitCount_0f7a4_48 rfl (lv_at hl 0 rfl) ?_
  refine lv_bipush (v := 63) hx hb dJ6_bitCount_0f7a4_49 (by decide) ?_
  refine lv_iand hx hb dJ6_bitCount_0f7a4_51 ?_
  exact hRet _ hf _ _ _ _ hP hD hS rfl dJ6_bitCount_0f7a4_52

def p_X8_draught (a0 : Int32) : Option (Int32) :=
  some (a0 / 20)
abbrev rm_X8_draught : Room := { frames := 0, cells := 0, slots := 0, locals := 0 }
theorem hdS_X8_draught : yX8_draught.cls ≠ "java/lang/invoke/MethodHandle" ∧ yX8_draught.cls ≠ "java/lang/invoke/VarHandle" ∧ (parseMethodDescriptor yX8_draught.desc).map (fun d => d.parameters.length) = some 1 := by decide +kernel
theorem hdV_X8_draught : yX8_draught.cls = RX8 ∧ yX8_draught.cls ≠ "java/lang/invoke/MethodHandle" ∧ yX8_draught.cls ≠ "java/lang/invoke/VarHandle" ∧ (parseMethodDescriptor yX8_draught.desc).map (fun d => d.parameters.length) = some 1 := by decide +kernel
set_option maxHeartbeats 4000000 in
set_option maxRecDepth 100000 in
theorem c_X8_draught (l : Launch) (D : va_G) (cI cZ cJ cS : ClassId) (a0 : Int32) (r : Int32) (hf : p_X8_draught a0 = some r) : k_MI l yX8_draught wsX8_draught rm_X8_draught D (k_tys cI cZ cJ cS) [.int a0] [] [] r := by
  refine k_enter (y := yX8_draught) (wl := wsX8_draught) (cc := cX8_draught) (maxL := 1) (ret := (some .int)) (Qc := fun A => k_Qi D (k_tys cI cZ cJ cS) [] A r) (by decide) rfl (Nat.le_of_ble_eq_true rfl) [(0, .int a0)] rfl ?_
  intro p e s m below meth c A hx hb hml hr hlocks hnm hown hK hP hD hA hS hN ls args Q hts hl hQ
  replace hown : s.vm.findClass RX8 = some m.cls := hown
  have hRet : ∀ (r_z : Int32), some r_z = some r → ∀ (H : Heap) (locs : List Loc) (ls : Array Slot) (pc : Nat), va_P D vwCl [] H → va_D A [] → va_S A s.heap H locs → narrow .int (.int r_z) = .int r_z → decode cX8_draught pc = .ok (.ireturn, 1) → W p l e rm_X8_draught s m args below meth c H locs 0 0 Q (F0 m pc ls [.int r_z]) := by
    intro r_z hz H locs ls pc hP hD hS hn hd
    cases hz
    exact k_iret hx hb hr hlocks hn hK hP hD hS hQ rfl hd
  unfold p_X8_draught at hf
  refine lv_iload_n hx hb dX8_draught_0 rfl (lv_at hl 0 rfl) ?_
  refine lv_bipush (v := 20) hx hb dX8_draught_1 (by decide) ?_
  refine lv_idiv hx hb dX8_draught_3 (by decide) ?_
  exact hRet _ hf _ _ _ _ hP hD hS rfl dX8_draught_4

def p_X8_hasBit (a0 : Int32) (a1 : Int32) : Option (Int32) :=
  if ((a0 >>> (a1 &&& 31)) &&& 1) = 0 then
    some 0
  else
    some 1
abbrev rm_X8_hasBit : Room := { frames := 0, cells := 0, slots := 0, locals := 0 }
theorem hdS_X8_hasBit : yX8_hasBit.cls ≠ "java/lang/invoke/MethodHandle" ∧ yX8_hasBit.cls ≠ "java/lang/invoke/VarHandle" ∧ (parseMethodDescriptor yX8_hasBit.desc).map (fun d => d.parameters.length) = some 2 := by decide +kernel
theorem hdV_X8_hasBit : yX8_hasBit.cls = RX8 ∧ yX8_hasBit.cls ≠ "java/lang/invoke/MethodHandle" ∧ yX8_hasBit.cls ≠ "java/lang/invoke/VarHandle" ∧ (parseMethodDescriptor yX8_hasBit.desc).map (fun d => d.parameters.length) = some 2 := by decide +kernel
set_option maxHeartbeats 4000000 in
set_option maxRecDepth 100000 in
theorem c_X8_hasBit (l : Launch) (D : va_G) (cI cZ cJ cS : ClassId) (a0 : Int32) (a1 : Int32) (r : Int32) (hf : p_X8_hasBit a0 a1 = some r) : k_MI l yX8_hasBit wsX8_hasBit rm_X8_hasBit D (k_tys cI cZ cJ cS) [.int a0, .int a1] [] [] r := by
  refine k_enter (y := yX8_hasBit) (wl := wsX8_hasBit) (cc := cX8_hasBit) (maxL := 2) (ret := (some .boolean)) (Qc := fun A => k_Qi D (k_tys cI cZ cJ cS) [] A r) (by decide) rfl (Nat.le_of_ble_eq_true rfl) [(0, .int a0), (1, .int a1)] rfl ?_
  intro p e s m below meth c A hx hb hml hr hlocks hnm hown hK hP hD hA hS hN ls args Q hts hl hQ
  replace hown : s.vm.findClass RX8 = some m.cls := hown
  have hRet : ∀ (r_z : Int32), some r_z = some r → ∀ (H : Heap) (locs : List Loc) (ls : Array Slot) (pc : Nat), va_P D vwCl [] H → va_D A [] → va_S A s.heap H locs → narrow .boolean (.int r_z) = .int r_z → decode cX8_hasBit pc = .ok (.ireturn, 1) → W p l e rm_X8_hasBit s m args below meth c H locs 0 0 Q (F0 m pc ls [.int r_z]) := by
    intro r_z hz H locs ls pc hP hD hS hn hd
    cases hz
    exact k_iret hx hb hr hlocks hn hK hP hD hS hQ rfl hd
  unfold p_X8_hasBit at hf
  refine lv_iload_n hx hb dX8_hasBit_0 rfl (lv_at hl 0 rfl) ?_
  refine lv_iload_n hx hb dX8_hasBit_1 rfl (lv_at hl 1 rfl) ?_
  refine lv_ishr hx hb dX8_hasBit_2 ?_
  refine lv_iconst (v := 1) hx hb dX8_hasBit_3 (by decide) ?_
  refine lv_iand hx hb dX8_hasBit_4 ?_
  refine lv_if_eq (tgt := 12) hx hb dX8_hasBit_5 (by decide) (fun c1 => ?_) (fun c1 => ?_)
  · replace hf := k_pos hf c1
    refine lv_iconst (v := 0) hx hb dX8_hasBit_12 (by decide) ?_
    exact hRet _ hf _ _ _ _ hP hD hS rfl dX8_hasBit_13
  · replace hf := k_neg hf c1
    refine lv_iconst (v := 1) hx hb dX8_hasBit_8 (by decide) ?_
    refine lv_goto (tgt := 13) hx hb dX8_hasBit_9 (by decide) ?_
    exact hRet _ hf _ _ _ _ hP hD hS rfl dX8_hasBit_13

def p_X8_roundedUp (a0 : Int32) (a1 : Int32) : Option (Int32) :=
  if 0 < a1 then
    k_ck (¬ a1 = 0) (
      some (((a0 + a1) - 1) / a1))
  else
    some 0
abbrev rm_X8_roundedUp : Room := { frames := 0, cells := 0, slots := 0, locals := 0 }
theorem hdS_X8_roundedUp : yX8_roundedUp.cls ≠ "java/lang/invoke/MethodHandle" ∧ yX8_roundedUp.cls ≠ "java/lang/invoke/VarHandle" ∧ (parseMethodDescriptor yX8_roundedUp.desc).map (fun d => d.parameters.length) = some 2 := by decide +kernel
theorem hdV_X8_roundedUp : yX8_roundedUp.cls = RX8 ∧ yX8_roundedUp.cls ≠ "java/lang/invoke/MethodHandle" ∧ yX8_roundedUp.cls ≠ "java/lang/invoke/VarHandle" ∧ (parseMethodDescriptor yX8_roundedUp.desc).map (fun d => d.parameters.length) = some 2 := by decide +kernel
set_option maxHeartbeats 4000000 in
set_option maxRecDepth 100000 in
theorem c_X8_roundedUp (l : Launch) (D : va_G) (cI cZ cJ cS : ClassId) (a0 : Int32) (a1 : Int32) (r : Int32) (hf : p_X8_roundedUp a0 a1 = some r) : k_MI l yX8_roundedUp wsX8_roundedUp rm_X8_roundedUp D (k_tys cI cZ cJ cS) [.int a0, .int a1] [] [] r := by
  refine k_enter (y := yX8_roundedUp) (wl := wsX8_roundedUp) (cc := cX8_roundedUp) (maxL := 2) (ret := (some .int)) (Qc := fun A => k_Qi D (k_tys cI cZ cJ cS) [] A r) (by decide) rfl (Nat.le_of_ble_eq_true rfl) [(0, .int a0), (1, .int a1)] rfl ?_
  intro p e s m below meth c A hx hb hml hr hlocks hnm hown hK hP hD hA hS hN ls args Q hts hl hQ
  replace hown : s.vm.findClass RX8 = some m.cls := hown
  have hRet : ∀ (r_z : Int32), some r_z = some r → ∀ (H : Heap) (locs : List Loc) (ls : Array Slot) (pc : Nat), va_P D vwCl [] H → va_D A [] → va_S A s.heap H locs → narrow .int (.int r_z) = .int r_z → decode cX8_roundedUp pc = .ok (.ireturn, 1) → W p l e rm_X8_roundedUp s m args below meth c H locs 0 0 Q (F0 m pc ls [.int r_z]) := by
    intro r_z hz H locs ls pc hP hD hS hn hd
    cases hz
    exact k_iret hx hb hr hlocks hn hK hP hD hS hQ rfl hd
  unfold p_X8_roundedUp at hf
  refine lv_iload_n hx hb dX8_roundedUp_0 rfl (lv_at hl 1 rfl) ?_
  refine lv_if_gt (tgt := 8) hx hb dX8_roundedUp_1 (by decide) (fun c1 => ?_) (fun c1 => ?_)
  · replace hf := k_pos hf c1
    refine lv_iload_n hx hb dX8_roundedUp_8 rfl (lv_at hl 0 rfl) ?_
    refine lv_iload_n hx hb dX8_roundedUp_9 rfl (lv_at hl 1 rfl) ?_
    refine lv_iadd hx hb dX8_roundedUp_10 ?_
    refine lv_iconst (v := 1) hx hb dX8_roundedUp_11 (by decide) ?_
    refine lv_isub hx hb dX8_roundedUp_12 ?_
    refine lv_iload_n hx hb dX8_roundedUp_13 rfl (lv_at hl 1 rfl) ?_
    obtain ⟨hk2, hf⟩ := k_ck_some hf
    refine lv_idiv hx hb dX8_roundedUp_14 hk2 ?_
    exact hRet _ hf _ _ _ _ hP hD hS rfl dX8_roundedUp_15
  · replace hf := k_neg hf c1
    refine lv_iconst (v := 0) hx hb dX8_roundedUp_4 (by decide) ?_
    refine lv_goto (tgt := 15) hx hb dX8_roundedUp_5 (by decide) ?_
    exact hRet _ hf _ _ _ _ hP hD hS rfl dX8_roundedUp_15

def p_X8_within (a0 : Int32) (a1 : Int32) (a2 : Int32) : Option (Int32) :=
  if a0 < a1 then
    some 0
  else
    if a2 < a0 then
      some 0
    else
      some 1
abbrev rm_X8_within : Room := { frames := 0, cells := 0, slots := 0, locals := 0 }
theorem hdS_X8_within : yX8_within.cls ≠ "java/lang/invoke/MethodHandle" ∧ yX8_within.cls ≠ "java/lang/invoke/VarHandle" ∧ (parseMethodDescriptor yX8_within.desc).map (fun d => d.parameters.length) = some 3 := by decide +kernel
theorem hdV_X8_within : yX8_within.cls = RX8 ∧ yX8_within.cls ≠ "java/lang/invoke/MethodHandle" ∧ yX8_within.cls ≠ "java/lang/invoke/VarHandle" ∧ (parseMethodDescriptor yX8_within.desc).map (fun d => d.parameters.length) = some 3 := by decide +kernel
set_option maxHeartbeats 4000000 in
set_option maxRecDepth 100000 in
theorem c_X8_within (l : Launch) (D : va_G) (cI cZ cJ cS : ClassId) (a0 : Int32) (a1 : Int32) (a2 : Int32) (r : Int32) (hf : p_X8_within a0 a1 a2 = some r) : k_MI l yX8_within wsX8_within rm_X8_within D (k_tys cI cZ cJ cS) [.int a0, .int a1, .int a2] [] [] r := by
  refine k_enter (y := yX8_within) (wl := wsX8_within) (cc := cX8_within) (maxL := 3) (ret := (some .boolean)) (Qc := fun A => k_Qi D (k_tys cI cZ cJ cS) [] A r) (by decide) rfl (Nat.le_of_ble_eq_true rfl) [(0, .int a0), (1, .int a1), (2, .int a2)] rfl ?_
  intro p e s m below meth c A hx hb hml hr hlocks hnm hown hK hP hD hA hS hN ls args Q hts hl hQ
  replace hown : s.vm.findClass RX8 = some m.cls := hown
  have hRet : ∀ (r_z : Int32), some r_z = some r → ∀ (H : Heap) (locs : List Loc) (ls : Array Slot) (pc : Nat), va_P D vwCl [] H → va_D A [] → va_S A s.heap H locs → narrow .boolean (.int r_z) = .int r_z → decode cX8_within pc = .ok (.ireturn, 1) → W p l e rm_X8_within s m args below meth c H locs 0 0 Q (F0 m pc ls [.int r_z]) := by
    intro r_z hz H locs ls pc hP hD hS hn hd
    cases hz
    exact k_iret hx hb hr hlocks hn hK hP hD hS hQ rfl hd
  unfold p_X8_within at hf
  refine lv_iload_n hx hb dX8_within_0 rfl (lv_at hl 0 rfl) ?_
  refine lv_iload_n hx hb dX8_within_1 rfl (lv_at hl 1 rfl) ?_
  refine lv_icmp_lt (tgt := 14) hx hb dX8_within_2 (by decide) (fun c1 => ?_) (fun c1 => ?_)
  · replace hf := k_pos hf c1
    refine lv_iconst (v := 0) hx hb dX8_within_14 (by decide) ?_
    exact hRet _ hf _ _ _ _ hP hD hS rfl dX8_within_15
  · replace hf := k_neg hf c1
    refine lv_iload_n hx hb dX8_within_5 rfl (lv_at hl 0 rfl) ?_
    refine lv_iload_n hx hb dX8_within_6 rfl (lv_at hl 2 rfl) ?_
    refine lv_icmp_gt (tgt := 14) hx hb dX8_within_7 (by decide) (fun c2 => ?_) (fun c2 => ?_)
    · replace hf := k_pos hf c2
      refine lv_iconst (v := 0) hx hb dX8_within_14 (by decide) ?_
      exact hRet _ hf _ _ _ _ hP hD hS rfl dX8_within_15
    · replace hf := k_neg hf c2
      refine lv_iconst (v := 1) hx hb dX8_within_10 (by decide) ?_
      refine lv_goto (tgt := 15) hx hb dX8_within_11 (by decide) ?_
      exact hRet _ hf _ _ _ _ hP hD hS rfl dX8_within_15

def p_X8_eightBits (a0 : Int64) (a2 : Int32) : Option (Int32) :=
  some (((((a0).toUInt64 >>> ((8 * a2).toInt64.toUInt64 &&& Int64.toUInt64 63)).toInt64).toInt32) &&& 255)
abbrev rm_X8_eightBits : Room := { frames := 0, cells := 0, slots := 0, locals := 0 }
theorem hdS_X8_eightBits : yX8_eightBits.cls ≠ "java/lang/invoke/MethodHandle" ∧ yX8_eightBits.cls ≠ "java/lang/invoke/VarHandle" ∧ (parseMethodDescriptor yX8_eightBits.desc).map (fun d => d.parameters.length) = some 2 := by decide +kernel
theorem hdV_X8_eightBits : yX8_eightBits.cls = RX8 ∧ yX8_eightBits.cls ≠ "java/lang/invoke/MethodHandle" ∧ yX8_eightBits.cls ≠ "java/lang/invoke/VarHandle" ∧ (parseMethodDescriptor yX8_eightBits.desc).map (fun d => d.parameters.length) = some 2 := by decide +kernel
set_option maxHeartbeats 4000000 in
set_option maxRecDepth 100000 in
theorem c_X8_eightBits (l : Launch) (D : va_G) (cI cZ cJ cS : ClassId) (a0 : Int64) (a2 : Int32) (r : Int32) (hf : p_X8_eightBits a0 a2 = some r) : k_MI l yX8_eightBits wsX8_eightBits rm_X8_eightBits D (k_tys cI cZ cJ cS) [.long a0, .int a2] [] [] r := by
  refine k_enter (y := yX8_eightBits) (wl := wsX8_eightBits) (cc := cX8_eightBits) (maxL := 3) (ret := (some .int)) (Qc := fun A => k_Qi D (k_tys cI cZ cJ cS) [] A r) (by decide) rfl (Nat.le_of_ble_eq_true rfl) [(0, .long a0), (2, .int a2)] rfl ?_
  intro p e s m below meth c A hx hb hml hr hlocks hnm hown hK hP hD hA hS hN ls args Q hts hl hQ
  replace hown : s.vm.findClass RX8 = some m.cls := hown
  have hRet : ∀ (r_z : Int32), some r_z = some r → ∀ (H : Heap) (locs : List Loc) (ls : Array Slot) (pc : Nat), va_P D vwCl [] H → va_D A [] → va_S A s.heap H locs → narrow .int (.int r_z) = .int r_z → decode cX8_eightBits pc = .ok (.ireturn, 1) → W p l e rm_X8_eightBits s m args below meth c H locs 0 0 Q (F0 m pc ls [.int r_z]) := by
    intro r_z hz H locs ls pc hP hD hS hn hd
    cases hz
    exact k_iret hx hb hr hlocks hn hK hP hD hS hQ rfl hd
  unfold p_X8_eightBits at hf
  refine lv_lload_n hx hb dX8_eightBits_0 rfl (lv_at hl 0 rfl) ?_
  refine lv_bipush (v := 8) hx hb dX8_eightBits_1 (by decide) ?_
  refine lv_iload_n hx hb dX8_eightBits_3 rfl (lv_at hl 1 rfl) ?_
  refine lv_imul hx hb dX8_eightBits_4 ?_
  refine lv_lushr (v := ((a0).toUInt64 >>> ((8 * a2).toInt64.toUInt64 &&& Int64.toUInt64 63)).toInt64) hx hb dX8_eightBits_5 rfl ?_
  refine lv_l2i (v := (((a0).toUInt64 >>> ((8 * a2).toInt64.toUInt64 &&& Int64.toUInt64 63)).toInt64).toInt32) hx hb dX8_eightBits_6 rfl ?_
  refine lv_sipush (v := 255) hx hb dX8_eightBits_7 (by decide) ?_
  refine lv_iand hx hb dX8_eightBits_10 ?_
  exact hRet _ hf _ _ _ _ hP hD hS rfl dX8_eightBits_11

def lb_X8_areTides_2 (a1 : Int64) (a0 : Int32) (x3_12 : Int32) : Option ((Int32) ⊕ ((Int32) ⊕ (Unit))) :=
  if 8 ≤ x3_12 then
    some (.inr (.inr ()))
  else
    k_b1 (p_X8_eightBits a1 x3_12) fun r14 =>
    if a0 ≤ x3_12 then
      if r14 ≤ 0 then
        some (.inl (x3_12 + 1))
      else
        some (.inr (.inl 0))
    else
      if r14 ≤ 60 then
        some (.inl (x3_12 + 1))
      else
        some (.inr (.inl 0))
def p_X8_areTides (a0 : Int32) (a1 : Int64) : Option (Int32) :=
  k_bx0 (k_lp (fun s => lb_X8_areTides_2 a1 a0 s) k_fuel 0) (fun q => some q) (
    some 1)
abbrev rm_X8_areTides : Room := { frames := 1, cells := 0, slots := 0, locals := 22 }
theorem hdS_X8_areTides : yX8_areTides.cls ≠ "java/lang/invoke/MethodHandle" ∧ yX8_areTides.cls ≠ "java/lang/invoke/VarHandle" ∧ (parseMethodDescriptor yX8_areTides.desc).map (fun d => d.parameters.length) = some 2 := by decide +kernel
theorem hdV_X8_areTides : yX8_areTides.cls = RX8 ∧ yX8_areTides.cls ≠ "java/lang/invoke/MethodHandle" ∧ yX8_areTides.cls ≠ "java/lang/invoke/VarHandle" ∧ (parseMethodDescriptor yX8_areTides.desc).map (fun d => d.parameters.length) = some 2 := by decide +kernel
set_option maxHeartbeats 4000000 in
set_option maxRecDepth 100000 in
theorem c_X8_areTides (l : Launch) (D : va_G) (cI cZ cJ cS : ClassId) (a0 : Int32) (a1 : Int64) (r : Int32) (hf : p_X8_areTides a0 a1 = some r) : k_MI l yX8_areTides wsX8_areTides rm_X8_areTides D (k_tys cI cZ cJ cS) [.int a0, .long a1] [] [] r := by
  refine k_enter (y := yX8_areTides) (wl := wsX8_areTides) (cc := cX8_areTides) (maxL := 4) (ret := (some .boolean)) (Qc := fun A => k_Qi D (k_tys cI cZ cJ cS) [] A r) (by decide) rfl (Nat.le_of_ble_eq_true rfl) [(0, .int a0), (1, .long a1)] rfl ?_
  intro p e s m below meth c A hx hb hml hr hlocks hnm hown hK hP hD hA hS hN ls args Q hts hl hQ
  replace hown : s.vm.findClass RX8 = some m.cls := hown
  have S0 : CallFix p m c cX8_areTides 4 s args wsX8_areTides RX8 := ⟨hx, hb, hml, hown, hts⟩
  have hRet : ∀ (r_z : Int32), some r_z = some r → ∀ (H : Heap) (locs : List Loc) (ls : Array Slot) (pc : Nat), va_P D vwCl [] H → va_D A [] → va_S A s.heap H locs → narrow .boolean (.int r_z) = .int r_z → decode cX8_areTides pc = .ok (.ireturn, 1) → W p l e rm_X8_areTides s m args below meth c H locs 0 0 Q (F0 m pc ls [.int r_z]) := by
    intro r_z hz H locs ls pc hP hD hS hn hd
    cases hz
    exact k_iret hx hb hr hlocks hn hK hP hD hS hQ rfl hd
  unfold p_X8_areTides at hf
  refine lv_iconst (v := 0) hx hb dX8_areTides_0 (by decide) ?_
  refine lv_istore_n (lv' := [(3, .int 0), (0, .int a0), (1, .long a1)]) hx hb dX8_areTides_1 rfl hl (by decide) rfl (fun ls hl => ?_)
  obtain ⟨ee11, hlp11, hfl11, hfr11⟩ := k_bx0_some hf
  have hE11 : ee11 = .inr () → ∀ (H : Heap) (locs : List Loc) (ls : Array Slot), va_P D vwCl [] H → va_D A [] → va_S A s.heap H locs → lv_has ls 4 [] → W p l e rm_X8_areTides s m args below meth c H locs 0 0 Q (F0 m 35 ls []) := by
    intro  he H locs ls hP hD hS hl
    replace hf := hfr11  he
    refine lv_iconst (v := 1) hx hb dX8_areTides_35 (by decide) ?_
    exact hRet _ hf _ _ _ _ hP hD hS rfl dX8_areTides_36
  refine (k_lp_ind (fun sx11 => ∀ (H : Heap) (locs : List Loc) (ls : Array Slot), va_P D vwCl [] H → va_D A [] → va_S A s.heap H locs → lv_has ls 4 [(3, .int sx11), (0, .int a0), (1, .long a1)] → W p l e rm_X8_areTides s m args below meth c H locs 0 0 Q (F0 m 2 ls [])) (fun sx11 X11 hX11 hin11 hout11 => ?_) _ _ hlp11) _ _ _ hP hD hS (lv_sub hl [0, 1, 2] rfl)
  obtain ⟨x3_12, rfl⟩ : ∃ z, z = sx11 := ⟨_, rfl⟩
  intro H locs ls hP hD hS hl
  replace hP : va_P D vwCl [] H := hP
  replace hD : va_D A [] := hD
  replace hl : lv_has ls 4 [(3, .int x3_12), (0, .int a0), (1, .long a1)] := hl
  replace hX11 : lb_X8_areTides_2 a1 a0 x3_12 = some X11 := hX11
  unfold lb_X8_areTides_2 at hX11
  refine lv_iload_n hx hb dX8_areTides_2 rfl (lv_at hl 0 rfl) ?_
  refine lv_bipush (v := 8) hx hb dX8_areTides_3 (by decide) ?_
  refine lv_icmp_ge (tgt := 35) hx hb dX8_areTides_5 (by decide) (fun c13 => ?_) (fun c13 => ?_)
  · replace hX11 := k_pos hX11 c13
    exact hE11  (hout11 _ (Option.some.inj hX11).symm).symm _ _ _ hP hD hS (lv_sub hl [] rfl)
  · replace hX11 := k_neg hX11 c13
    refine lv_lload_n hx hb dX8_areTides_8 rfl (lv_at hl 2 rfl) ?_
    refine lv_iload_n hx hb dX8_areTides_9 rfl (lv_at hl 0 rfl) ?_
    obtain ⟨r14, hc14, hX11⟩ := k_b1_some hX11
    refine k_SiR (As := [.long a1, .int x3_12]) (rest := []) S0 (c_X8_eightBits l D cI cZ cJ cS a1 x3_12 r14 hc14) (va_cwS 2 hts gX8_areTides_X8_eightBits rfl rfl rfl hdS_X8_eightBits ⟨Nat.le_of_ble_eq_true rfl, Nat.le_of_ble_eq_true rfl⟩) hK hP hD hS hA hN [] rfl (by decide) rfl hl.1 rfl (Nat.le_of_ble_eq_true rfl) dX8_areTides_10 (fun H locs hP hS => ?_)
    refine lv_iload_n hx hb dX8_areTides_13 rfl (lv_at hl 0 rfl) ?_
    refine lv_iload_n hx hb dX8_areTides_14 rfl (lv_at hl 1 rfl) ?_
    refine lv_icmp_ge (tgt := 23) hx hb dX8_areTides_15 (by decide) (fun c15 => ?_) (fun c15 => ?_)
    · replace hX11 := k_pos hX11 c15
      refine lv_iconst (v := 0) hx hb dX8_areTides_23 (by decide) ?_
      refine lv_icmp_le (tgt := 29) hx hb dX8_areTides_24 (by decide) (fun c16 => ?_) (fun c16 => ?_)
      · replace hX11 := k_pos hX11 c16
        refine lv_iinc (v := x3_12 + 1) (lv' := [(3, .int (x3_12 + 1)), (0, .int a0), (1, .long a1)]) hx hb dX8_areTides_29 hl (k := 0) rfl rfl (by decide) rfl (fun ls hl => ?_)
        refine lv_goto (tgt := 2) hx hb dX8_areTides_32 (by decide) ?_
        exact hin11 (x3_12 + 1) (Option.some.inj hX11).symm _ _ _ hP hD hS (lv_sub hl [0, 1, 2] rfl)
      · replace hX11 := k_neg hX11 c16
        refine lv_iconst (v := 0) hx hb dX8_areTides_27 (by decide) ?_
        have he := hout11 _ (Option.some.inj hX11).symm
        replace hf := hfl11 _ he.symm
        exact hRet _ hf _ _ _ _ hP hD hS rfl dX8_areTides_28
    · replace hX11 := k_neg hX11 c15
      refine lv_bipush (v := 60) hx hb dX8_areTides_18 (by decide) ?_
      refine lv_goto (tgt := 24) hx hb dX8_areTides_20 (by decide) ?_
      refine lv_icmp_le (tgt := 29) hx hb dX8_areTides_24 (by decide) (fun c17 => ?_) (fun c17 => ?_)
      · replace hX11 := k_pos hX11 c17
        refine lv_iinc (v := x3_12 + 1) (lv' := [(3, .int (x3_12 + 1)), (0, .int a0), (1, .long a1)]) hx hb dX8_areTides_29 hl (k := 0) rfl rfl (by decide) rfl (fun ls hl => ?_)
        refine lv_goto (tgt := 2) hx hb dX8_areTides_32 (by decide) ?_
        exact hin11 (x3_12 + 1) (Option.some.inj hX11).symm _ _ _ hP hD hS (lv_sub hl [0, 1, 2] rfl)
      · replace hX11 := k_neg hX11 c17
        refine lv_iconst (v := 0) hx hb dX8_areTides_27 (by decide) ?_
        have he := hout11 _ (Option.some.inj hX11).symm
        replace hf := hfl11 _ he.symm
        exact hRet _ hf _ _ _ _ hP hD hS rfl dX8_areTides_28

def p_X8_asNumber (a0 : Int32) : Option (Int32) :=
  if a0 = 0 then
    some 0
  else
    some 1
abbrev rm_X8_asNumber : Room := { frames := 0, cells := 0, slots := 0, locals := 0 }
theorem hdS_X8_asNumber : yX8_asNumber.cls ≠ "java/lang/invoke/MethodHandle" ∧ yX8_asNumber.cls ≠ "java/lang/invoke/VarHandle" ∧ (parseMethodDescriptor yX8_asNumber.desc).map (fun d => d.parameters.length) = some 1 := by decide +kernel
theorem hdV_X8_asNumber : yX8_asNumber.cls = RX8 ∧ yX8_asNumber.cls ≠ "java/lang/invoke/MethodHandle" ∧ yX8_asNumber.cls ≠ "java/lang/invoke/VarHandle" ∧ (parseMethodDescriptor yX8_asNumber.desc).map (fun d => d.parameters.length) = some 1 := by decide +kernel
set_option maxHeartbeats 4000000 in
set_option maxRecDepth 100000 in
theorem c_X8_asNumber (l : Launch) (D : va_G) (cI cZ cJ cS : ClassId) (a0 : Int32) (r : Int32) (hf : p_X8_asNumber a0 = some r) : k_MI l yX8_asNumber wsX8_asNumber rm_X8_asNumber D (k_tys cI cZ cJ cS) [.int a0] [] [] r := by
  refine k_enter (y := yX8_asNumber) (wl := wsX8_asNumber) (cc := cX8_asNumber) (maxL := 1) (ret := (some .int)) (Qc := fun A => k_Qi D (k_tys cI cZ cJ cS) [] A r) (by decide) rfl (Nat.le_of_ble_eq_true rfl) [(0, .int a0)] rfl ?_
  intro p e s m below meth c A hx hb hml hr hlocks hnm hown hK hP hD hA hS hN ls args Q hts hl hQ
  replace hown : s.vm.findClass RX8 = some m.cls := hown
  have hRet : ∀ (r_z : Int32), some r_z = some r → ∀ (H : Heap) (locs : List Loc) (ls : Array Slot) (pc : Nat), va_P D vwCl [] H → va_D A [] → va_S A s.heap H locs → narrow .int (.int r_z) = .int r_z → decode cX8_asNumber pc = .ok (.ireturn, 1) → W p l e rm_X8_asNumber s m args below meth c H locs 0 0 Q (F0 m pc ls [.int r_z]) := by
    intro r_z hz H locs ls pc hP hD hS hn hd
    cases hz
    exact k_iret hx hb hr hlocks hn hK hP hD hS hQ rfl hd
  unfold p_X8_asNumber at hf
  refine lv_iload_n hx hb dX8_asNumber_0 rfl (lv_at hl 0 rfl) ?_
  refine lv_if_eq (tgt := 8) hx hb dX8_asNumber_1 (by decide) (fun c1 => ?_) (fun c1 => ?_)
  · replace hf := k_pos hf c1
    refine lv_iconst (v := 0) hx hb dX8_asNumber_8 (by decide) ?_
    exact hRet _ hf _ _ _ _ hP hD hS rfl dX8_asNumber_9
  · replace hf := k_neg hf c1
    refine lv_iconst (v := 1) hx hb dX8_asNumber_4 (by decide) ?_
    refine lv_goto (tgt := 9) hx hb dX8_asNumber_5 (by decide) ?_
    exact hRet _ hf _ _ _ _ hP hD hS rfl dX8_asNumber_9

def p_X5_tideIn (f_h_tide : Nat → Int32) (a1 : Int32) : Option (Int32) :=
  k_ix (if 0 < (if 95 < a1 then 95 else a1) then (if 95 < a1 then 95 else a1) else 0) 96 (
    some (f_h_tide (if 0 < (if 95 < a1 then 95 else a1) then (if 95 < a1 then 95 else a1) else 0).toNatClampNeg))
abbrev rm_X5_tideIn : Room := { frames := 1, cells := 0, slots := 0, locals := 24 }
theorem hdS_X5_tideIn : yX5_tideIn.cls ≠ "java/lang/invoke/MethodHandle" ∧ yX5_tideIn.cls ≠ "java/lang/invoke/VarHandle" ∧ (parseMethodDescriptor yX5_tideIn.desc).map (fun d => d.parameters.length) = some 1 := by decide +kernel
theorem hdV_X5_tideIn : yX5_tideIn.cls = RX5 ∧ yX5_tideIn.cls ≠ "java/lang/invoke/MethodHandle" ∧ yX5_tideIn.cls ≠ "java/lang/invoke/VarHandle" ∧ (parseMethodDescriptor yX5_tideIn.desc).map (fun d => d.parameters.length) = some 1 := by decide +kernel
set_option maxHeartbeats 4000000 in
set_option maxRecDepth 100000 in
theorem c_X5_tideIn (l : Launch) (D : va_G) (cI cZ cJ cS : ClassId) (h h_tide h_rain h_rules : Nat) (f_h_tide : Nat → Int32) (a1 : Int32) (r : Int32) (hf : p_X5_tideIn f_h_tide a1 = some r) : k_MI l yX5_tideIn wsX5_tideIn rm_X5_tideIn D (k_tys cI cZ cJ cS) [.ref h, .int a1] [(h, .inr (5, [.ref h_tide, .ref h_rain, .ref h_rules])), (h_tide, .inl (cI, 96, .inl f_h_tide))] [(h, .inr (5, [.ref h_tide, .ref h_rain, .ref h_rules])), (h_tide, .inl (cI, 96, .inl f_h_tide))] r := by
  refine k_enter (y := yX5_tideIn) (wl := wsX5_tideIn) (cc := cX5_tideIn) (maxL := 2) (ret := (some .int)) (Qc := fun A => k_Qi D (k_tys cI cZ cJ cS) [(h, .inr (5, [.ref h_tide, .ref h_rain, .ref h_rules])), (h_tide, .inl (cI, 96, .inl f_h_tide))] A r) (by decide) rfl (Nat.le_of_ble_eq_true rfl) [(0, .ref h), (1, .int a1)] rfl ?_
  intro p e s m below meth c A hx hb hml hr hlocks hnm hown hK hP hD hA hS hN ls args Q hts hl hQ
  replace hown : s.vm.findClass RX5 = some m.cls := hown
  have inX5 : ∀ w ∈ u_ws RX5 TX5 3, w ∈ wsX5_tideIn := fun w h => List.mem_cons_of_mem _ (List.mem_append_right _ h)
  have wl1 : (Cond.fieldLink RX5 9 "BeachedShip$Shore" "tide" "[I").before args s = true := hts _ (List.mem_of_getElem? (i := 1) rfl)
  have wl2 : (Cond.methodLink RX5 25 Lib.Math.min.name).before args s = true := hts _ (List.mem_of_getElem? (i := 2) rfl)
  have wl3 : (Cond.static Lib.Math.min.name).before args s = true := hts _ (List.mem_of_getElem? (i := 3) rfl)
  have wl4 : (Cond.initialized "java/lang/Math").before args s = true := hts _ (List.mem_of_getElem? (i := 4) rfl)
  have wl5 : (Cond.code Lib.Math.min.name Lib.Math.min.code 2 (some .int)).before args s = true := hts _ (List.mem_of_getElem? (i := 5) rfl)
  have wl6 : (Cond.methodLink RX5 31 Lib.Math.max.name).before args s = true := hts _ (List.mem_of_getElem? (i := 6) rfl)
  have wl7 : (Cond.static Lib.Math.max.name).before args s = true := hts _ (List.mem_of_getElem? (i := 7) rfl)
  have wl8 : (Cond.code Lib.Math.max.name Lib.Math.max.code 2 (some .int)).before args s = true := hts _ (List.mem_of_getElem? (i := 8) rfl)
  have hRet : ∀ (r_z : Int32), some r_z = some r → ∀ (H : Heap) (locs : List Loc) (ls : Array Slot) (pc : Nat), va_P D vwCl [(h, .inr (5, [.ref h_tide, .ref h_rain, .ref h_rules])), (h_tide, .inl (cI, 96, .inl f_h_tide))] H → va_D A [(h, .inr (5, [.ref h_tide, .ref h_rain, .ref h_rules])), (h_tide, .inl (cI, 96, .inl f_h_tide))] → va_S A s.heap H locs → narrow .int (.int r_z) = .int r_z → decode cX5_tideIn pc = .ok (.ireturn, 1) → W p l e rm_X5_tideIn s m args below meth c H locs 0 0 Q (F0 m pc ls [.int r_z]) := by
    intro r_z hz H locs ls pc hP hD hS hn hd
    cases hz
    exact k_iret hx hb hr hlocks hn hK hP hD hS hQ rfl hd
  unfold p_X5_tideIn at hf
  refine lv_aload_n hx hb dX5_tideIn_0 rfl (lv_at hl 0 rfl) ?_
  refine k_get (C := RX5) (T := TX5) (N := 3) hx hb hts inX5 hown hK hP 0 rfl rfl 0 (by decide) rfl wl1 rfl dX5_tideIn_1 ?_
  refine lv_iconst (v := 0) hx hb dX5_tideIn_4 (by decide) ?_
  refine lv_iload_n hx hb dX5_tideIn_5 rfl (lv_at hl 1 rfl) ?_
  refine lv_bipush (v := 95) hx hb dX5_tideIn_6 (by decide) ?_
  refine va_mmin hx hb (hml.trans hl.1.symm) hown wl2 wl3 wl4 wl5 (Nat.le_of_ble_eq_true rfl) (Nat.le_of_ble_eq_true rfl) (Nat.zero_le _) (Nat.zero_le _) dX5_tideIn_8 ?_
  refine va_mmax hx hb (hml.trans hl.1.symm) hown wl6 wl7 wl4 wl8 (Nat.le_of_ble_eq_true rfl) (Nat.le_of_ble_eq_true rfl) (Nat.zero_le _) (Nat.zero_le _) dX5_tideIn_11 ?_
  obtain ⟨hi1, hf⟩ := k_ix_some hf
  refine k_iald (k := (if 0 < (if 95 < a1 then 95 else a1) then (if 95 < a1 then 95 else a1) else 0).toNatClampNeg) hx hb hK hP 1 0 rfl rfl hi1 rfl dX5_tideIn_14 ?_
  exact hRet _ hf _ _ _ _ hP hD hS rfl dX5_tideIn_15

def p_X5_tideNeeded (f_h_rules : Nat → Int32) (a1 : Int32) : Option (Int32) :=
  k_b1 (p_X8_draught a1) fun r1 =>
  some (r1 + (f_h_rules 0))
abbrev rm_X5_tideNeeded : Room := { frames := 1, cells := 0, slots := 0, locals := 20 }
theorem hdS_X5_tideNeeded : yX5_tideNeeded.cls ≠ "java/lang/invoke/MethodHandle" ∧ yX5_tideNeeded.cls ≠ "java/lang/invoke/VarHandle" ∧ (parseMethodDescriptor yX5_tideNeeded.desc).map (fun d => d.parameters.length) = some 1 := by decide +kernel
theorem hdV_X5_tideNeeded : yX5_tideNeeded.cls = RX5 ∧ yX5_tideNeeded.cls ≠ "java/lang/invoke/MethodHandle" ∧ yX5_tideNeeded.cls ≠ "java/lang/invoke/VarHandle" ∧ (parseMethodDescriptor yX5_tideNeeded.desc).map (fun d => d.parameters.length) = some 1 := by decide +kernel
set_option maxHeartbeats 4000000 in
set_option maxRecDepth 100000 in
theorem c_X5_tideNeeded (l : Launch) (D : va_G) (cI cZ cJ cS : ClassId) (h h_tide h_rain h_rules : Nat) (f_h_rules : Nat → Int32) (a1 : Int32) (r : Int32) (hf : p_X5_tideNeeded f_h_rules a1 = some r) : k_MI l yX5_tideNeeded wsX5_tideNeeded rm_X5_tideNeeded D (k_tys cI cZ cJ cS) [.ref h, .int a1] [(h, .inr (5, [.ref h_tide, .ref h_rain, .ref h_rules])), (h_rules, .inl (cI, 8, .inl f_h_rules))] [(h, .inr (5, [.ref h_tide, .ref h_rain, .ref h_rules])), (h_rules, .inl (cI, 8, .inl f_h_rules))] r := by
  refine k_enter (y := yX5_tideNeeded) (wl := wsX5_tideNeeded) (cc := cX5_tideNeeded) (maxL := 2) (ret := (some .int)) (Qc := fun A => k_Qi D (k_tys cI cZ cJ cS) [(h, .inr (5, [.ref h_tide, .ref h_rain, .ref h_rules])), (h_rules, .inl (cI, 8, .inl f_h_rules))] A r) (by decide) rfl (Nat.le_of_ble_eq_true rfl) [(0, .ref h), (1, .int a1)] rfl ?_
  intro p e s m below meth c A hx hb hml hr hlocks hnm hown hK hP hD hA hS hN ls args Q hts hl hQ
  replace hown : s.vm.findClass RX5 = some m.cls := hown
  have S0 : CallFix p m c cX5_tideNeeded 2 s args wsX5_tideNeeded RX5 := ⟨hx, hb, hml, hown, hts⟩
  have inX5 : ∀ w ∈ u_ws RX5 TX5 3, w ∈ wsX5_tideNeeded := fun w h => List.mem_cons_of_mem _ (List.mem_append_right _ h)
  have wl3 : (Cond.initialized RX8).before args s = true := hts _ (List.mem_of_getElem? (i := 3) rfl)
  have wl2 : (Cond.static yX8_draught).before args s = true := hts _ (List.mem_of_getElem? (i := 2) rfl)
  have wl1 : (Cond.fieldLink RX5 22 "BeachedShip$Shore" "rules" "[I").before args s = true := hts _ (List.mem_of_getElem? (i := 1) rfl)
  have hRet : ∀ (r_z : Int32), some r_z = some r → ∀ (H : Heap) (locs : List Loc) (ls : Array Slot) (pc : Nat), va_P D vwCl [(h, .inr (5, [.ref h_tide, .ref h_rain, .ref h_rules])), (h_rules, .inl (cI, 8, .inl f_h_rules))] H → va_D A [(h, .inr (5, [.ref h_tide, .ref h_rain, .ref h_rules])), (h_rules, .inl (cI, 8, .inl f_h_rules))] → va_S A s.heap H locs → narrow .int (.int r_z) = .int r_z → decode cX5_tideNeeded pc = .ok (.ireturn, 1) → W p l e rm_X5_tideNeeded s m args below meth c H locs 0 0 Q (F0 m pc ls [.int r_z]) := by
    intro r_z hz H locs ls pc hP hD hS hn hd
    cases hz
    exact k_iret hx hb hr hlocks hn hK hP hD hS hQ rfl hd
  unfold p_X5_tideNeeded at hf
  refine lv_iload_n hx hb dX5_tideNeeded_0 rfl (lv_at hl 1 rfl) ?_
  obtain ⟨r1, hc1, hf⟩ := k_b1_some hf
  refine k_NiR (As := [.int a1]) (rest := []) S0 (c_X8_draught l D cI cZ cJ cS a1 r1 hc1) ⟨va_cnB 1 hts gX5_tideNeeded_X8_draught_n34 rfl rfl rfl (hN _ (List.mem_of_getElem? (i := 5) rfl)) wl3 hdS_X8_draught ⟨Nat.le_of_ble_eq_true rfl, Nat.le_of_ble_eq_true rfl⟩, wl2, trivial⟩ hK hP hD hS hA hN [] rfl (by decide) rfl hl.1 rfl (Nat.le_of_ble_eq_true rfl) dX5_tideNeeded_1 (fun H locs hP hS => ?_)
  refine lv_aload_n hx hb dX5_tideNeeded_4 rfl (lv_at hl 0 rfl) ?_
  refine k_get (C := RX5) (T := TX5) (N := 3) hx hb hts inX5 hown hK hP 0 rfl rfl 2 (by decide) rfl wl1 rfl dX5_tideNeeded_5 ?_
  refine lv_iconst (v := 0) hx hb dX5_tideNeeded_8 (by decide) ?_
  refine k_iald (k := 0) hx hb hK hP 1 0 rfl rfl (by unfold vp_in; decide) (by decide) dX5_tideNeeded_9 ?_
  refine lv_iadd hx hb dX5_tideNeeded_10 ?_
  exact hRet _ hf _ _ _ _ hP hD hS rfl dX5_tideNeeded_11

def lb_X7_weightOf_4 (v_h_size : Int32) (a1 : Int32) (f_h_weight : Nat → Int32) (x2_12 : Int32) (x3_13 : Int32) : Option ((Int32 × Int32) ⊕ (Int32)) :=
  if v_h_size ≤ x3_13 then
    some (.inr x2_12)
  else
    k_b1 (p_X8_hasBit a1 x3_13) fun r15 =>
    if r15 = 0 then
      some (.inl (x2_12 + 0, x3_13 + 1))
    else
      k_ix x3_13 12 (
        some (.inl (x2_12 + (f_h_weight x3_13.toNatClampNeg), x3_13 + 1)))
def p_X7_weightOf (v_h_size : Int32) (f_h_weight : Nat → Int32) (a1 : Int32) : Option (Int32) :=
  k_b1 (k_lp (fun s => lb_X7_weightOf_4 v_h_size a1 f_h_weight s.1 s.2) k_fuel (0, 0)) fun x2_11 =>
  some x2_11
abbrev rm_X7_weightOf : Room := { frames := 1, cells := 0, slots := 0, locals := 21 }
theorem hdS_X7_weightOf : yX7_weightOf.cls ≠ "java/lang/invoke/MethodHandle" ∧ yX7_weightOf.cls ≠ "java/lang/invoke/VarHandle" ∧ (parseMethodDescriptor yX7_weightOf.desc).map (fun d => d.parameters.length) = some 1 := by decide +kernel
theorem hdV_X7_weightOf : yX7_weightOf.cls = RX7 ∧ yX7_weightOf.cls ≠ "java/lang/invoke/MethodHandle" ∧ yX7_weightOf.cls ≠ "java/lang/invoke/VarHandle" ∧ (parseMethodDescriptor yX7_weightOf.desc).map (fun d => d.parameters.length) = some 1 := by decide +kernel
set_option maxHeartbeats 4000000 in
set_option maxRecDepth 100000 in
theorem c_X7_weightOf (l : Launch) (D : va_G) (cI cZ cJ cS : ClassId) (h h_weight h_under : Nat) (v_h_out : Int32) (v_h_size : Int32) (f_h_weight : Nat → Int32) (a1 : Int32) (r : Int32) (hf : p_X7_weightOf v_h_size f_h_weight a1 = some r) : k_MI l yX7_weightOf wsX7_weightOf rm_X7_weightOf D (k_tys cI cZ cJ cS) [.ref h, .int a1] [(h, .inr (7, [.ref h_weight, .ref h_under, .int v_h_out, .int v_h_size])), (h_weight, .inl (cI, 12, .inl f_h_weight))] [(h, .inr (7, [.ref h_weight, .ref h_under, .int v_h_out, .int v_h_size])), (h_weight, .inl (cI, 12, .inl f_h_weight))] r := by
  refine k_enter (y := yX7_weightOf) (wl := wsX7_weightOf) (cc := cX7_weightOf) (maxL := 4) (ret := (some .int)) (Qc := fun A => k_Qi D (k_tys cI cZ cJ cS) [(h, .inr (7, [.ref h_weight, .ref h_under, .int v_h_out, .int v_h_size])), (h_weight, .inl (cI, 12, .inl f_h_weight))] A r) (by decide) rfl (Nat.le_of_ble_eq_true rfl) [(0, .ref h), (1, .int a1)] rfl ?_
  intro p e s m below meth c A hx hb hml hr hlocks hnm hown hK hP hD hA hS hN ls args Q hts hl hQ
  replace hown : s.vm.findClass RX7 = some m.cls := hown
  have S0 : CallFix p m c cX7_weightOf 4 s args wsX7_weightOf RX7 := ⟨hx, hb, hml, hown, hts⟩
  have inX7 : ∀ w ∈ u_ws RX7 TX7 4, w ∈ wsX7_weightOf := fun w h => List.mem_cons_of_mem _ (List.mem_append_right _ h)
  have wl1 : (Cond.fieldLink RX7 18 "BeachedShip$Things" "size" "I").before args s = true := hts _ (List.mem_of_getElem? (i := 1) rfl)
  have wl4 : (Cond.initialized RX8).before args s = true := hts _ (List.mem_of_getElem? (i := 4) rfl)
  have wl3 : (Cond.static yX8_hasBit).before args s = true := hts _ (List.mem_of_getElem? (i := 3) rfl)
  have wl2 : (Cond.fieldLink RX7 9 "BeachedShip$Things" "weight" "[I").before args s = true := hts _ (List.mem_of_getElem? (i := 2) rfl)
  have hRet : ∀ (r_z : Int32), some r_z = some r → ∀ (H : Heap) (locs : List Loc) (ls : Array Slot) (pc : Nat), va_P D vwCl [(h, .inr (7, [.ref h_weight, .ref h_under, .int v_h_out, .int v_h_size])), (h_weight, .inl (cI, 12, .inl f_h_weight))] H → va_D A [(h, .inr (7, [.ref h_weight, .ref h_under, .int v_h_out, .int v_h_size])), (h_weight, .inl (cI, 12, .inl f_h_weight))] → va_S A s.heap H locs → narrow .int (.int r_z) = .int r_z → decode cX7_weightOf pc = .ok (.ireturn, 1) → W p l e rm_X7_weightOf s m args below meth c H locs 0 0 Q (F0 m pc ls [.int r_z]) := by
    intro r_z hz H locs ls pc hP hD hS hn hd
    cases hz
    exact k_iret hx hb hr hlocks hn hK hP hD hS hQ rfl hd
  unfold p_X7_weightOf at hf
  refine lv_iconst (v := 0) hx hb dX7_weightOf_0 (by decide) ?_
  refine lv_istore_n (lv' := [(2, .int 0), (0, .ref h), (1, .int a1)]) hx hb dX7_weightOf_1 rfl hl (by decide) rfl (fun ls hl => ?_)
  refine lv_iconst (v := 0) hx hb dX7_weightOf_2 (by decide) ?_
  refine lv_istore_n (lv' := [(3, .int 0), (2, .int 0), (0, .ref h), (1, .int a1)]) hx hb dX7_weightOf_3 rfl hl (by decide) rfl (fun ls hl => ?_)
  obtain ⟨ee10, hlp10, hfr10⟩ := k_b1_ee hf
  have hE10 : ∀ (x2_11 : Int32), ee10 = x2_11 → ∀ (H : Heap) (locs : List Loc) (ls : Array Slot), va_P D vwCl [(h, .inr (7, [.ref h_weight, .ref h_under, .int v_h_out, .int v_h_size])), (h_weight, .inl (cI, 12, .inl f_h_weight))] H → va_D A [(h, .inr (7, [.ref h_weight, .ref h_under, .int v_h_out, .int v_h_size])), (h_weight, .inl (cI, 12, .inl f_h_weight))] → va_S A s.heap H locs → lv_has ls 4 [(2, .int x2_11)] → W p l e rm_X7_weightOf s m args below meth c H locs 0 0 Q (F0 m 39 ls []) := by
    intro x2_11 he H locs ls hP hD hS hl
    replace hf := hfr10 x2_11 he
    refine lv_iload_n hx hb dX7_weightOf_39 rfl (lv_at hl 0 rfl) ?_
    exact hRet _ hf _ _ _ _ hP hD hS rfl dX7_weightOf_40
  refine (k_lp_ind (fun sx10 => ∀ (H : Heap) (locs : List Loc) (ls : Array Slot), va_P D vwCl [(h, .inr (7, [.ref h_weight, .ref h_under, .int v_h_out, .int v_h_size])), (h_weight, .inl (cI, 12, .inl f_h_weight))] H → va_D A [(h, .inr (7, [.ref h_weight, .ref h_under, .int v_h_out, .int v_h_size])), (h_weight, .inl (cI, 12, .inl f_h_weight))] → va_S A s.heap H locs → lv_has ls 4 [(3, .int sx10.2), (2, .int sx10.1), (0, .ref h), (1, .int a1)] → W p l e rm_X7_weightOf s m args below meth c H locs 0 0 Q (F0 m 4 ls [])) (fun sx10 X10 hX10 hin10 hout10 => ?_) _ _ hlp10) _ _ _ hP hD hS (lv_sub hl [0, 1, 2, 3] rfl)
  obtain ⟨x2_12, x3_13⟩ := sx10
  intro H locs ls hP hD hS hl
  replace hP : va_P D vwCl [(h, .inr (7, [.ref h_weight, .ref h_under, .int v_h_out, .int v_h_size])), (h_weight, .inl (cI, 12, .inl f_h_weight))] H := hP
  replace hD : va_D A [(h, .inr (7, [.ref h_weight, .ref h_under, .int v_h_out, .int v_h_size])), (h_weight, .inl (cI, 12, .inl f_h_weight))] := hD
  replace hl : lv_has ls 4 [(3, .int x3_13), (2, .int x2_12), (0, .ref h), (1, .int a1)] := hl
  replace hX10 : lb_X7_weightOf_4 v_h_size a1 f_h_weight x2_12 x3_13 = some X10 := hX10
  unfold lb_X7_weightOf_4 at hX10
  refine lv_iload_n hx hb dX7_weightOf_4 rfl (lv_at hl 0 rfl) ?_
  refine lv_aload_n hx hb dX7_weightOf_5 rfl (lv_at hl 2 rfl) ?_
  refine k_get (C := RX7) (T := TX7) (N := 4) hx hb hts inX7 hown hK hP 0 rfl rfl 3 (by decide) rfl wl1 rfl dX7_weightOf_6 ?_
  refine lv_icmp_ge (tgt := 39) hx hb dX7_weightOf_9 (by decide) (fun c14 => ?_) (fun c14 => ?_)
  · replace hX10 := k_pos hX10 c14
    exact hE10 _ (hout10 _ (Option.some.inj hX10).symm).symm _ _ _ hP hD hS (lv_sub hl [1] rfl)
  · replace hX10 := k_neg hX10 c14
    refine lv_iload_n hx hb dX7_weightOf_12 rfl (lv_at hl 1 rfl) ?_
    refine lv_iload_n hx hb dX7_weightOf_13 rfl (lv_at hl 3 rfl) ?_
    refine lv_iload_n hx hb dX7_weightOf_14 rfl (lv_at hl 0 rfl) ?_
    obtain ⟨r15, hc15, hX10⟩ := k_b1_some hX10
    refine k_NiR (As := [.int a1, .int x3_13]) (rest := [.int x2_12]) S0 (c_X8_hasBit l D cI cZ cJ cS a1 x3_13 r15 hc15) ⟨va_cnB 2 hts gX7_weightOf_X8_hasBit_n22 rfl rfl rfl (hN _ (List.mem_of_getElem? (i := 4) rfl)) wl4 hdS_X8_hasBit ⟨Nat.le_of_ble_eq_true rfl, Nat.le_of_ble_eq_true rfl⟩, wl3, trivial⟩ hK hP hD hS hA hN [] rfl (by decide) rfl hl.1 rfl (Nat.le_of_ble_eq_true rfl) dX7_weightOf_15 (fun H locs hP hS => ?_)
    refine lv_if_eq (tgt := 30) hx hb dX7_weightOf_18 (by decide) (fun c16 => ?_) (fun c16 => ?_)
    · replace hX10 := k_pos hX10 c16
      refine lv_iconst (v := 0) hx hb dX7_weightOf_30 (by decide) ?_
      refine lv_iadd hx hb dX7_weightOf_31 ?_
      refine lv_istore_n (lv' := [(2, .int (x2_12 + 0)), (3, .int x3_13), (0, .ref h), (1, .int a1)]) hx hb dX7_weightOf_32 rfl hl (by decide) rfl (fun ls hl => ?_)
      refine lv_iinc (v := x3_13 + 1) (lv' := [(3, .int (x3_13 + 1)), (2, .int (x2_12 + 0)), (0, .ref h), (1, .int a1)]) hx hb dX7_weightOf_33 hl (k := 1) rfl rfl (by decide) rfl (fun ls hl => ?_)
      refine lv_goto (tgt := 4) hx hb dX7_weightOf_36 (by decide) ?_
      exact hin10 (x2_12 + 0, x3_13 + 1) (Option.some.inj hX10).symm _ _ _ hP hD hS (lv_sub hl [0, 1, 2, 3] rfl)
    · replace hX10 := k_neg hX10 c16
      refine lv_aload_n hx hb dX7_weightOf_21 rfl (lv_at hl 2 rfl) ?_
      refine k_get (C := RX7) (T := TX7) (N := 4) hx hb hts inX7 hown hK hP 0 rfl rfl 0 (by decide) rfl wl2 rfl dX7_weightOf_22 ?_
      refine lv_iload_n hx hb dX7_weightOf_25 rfl (lv_at hl 0 rfl) ?_
      obtain ⟨hi17, hX10⟩ := k_ix_some hX10
      refine k_iald (k := x3_13.toNatClampNeg) hx hb hK hP 1 0 rfl rfl hi17 rfl dX7_weightOf_26 ?_
      refine lv_goto (tgt := 31) hx hb dX7_weightOf_27 (by decide) ?_
      refine lv_iadd hx hb dX7_weightOf_31 ?_
      refine lv_istore_n (lv' := [(2, .int (x2_12 + (f_h_weight x3_13.toNatClampNeg))), (3, .int x3_13), (0, .ref h), (1, .int a1)]) hx hb dX7_weightOf_32 rfl hl (by decide) rfl (fun ls hl => ?_)
      refine lv_iinc (v := x3_13 + 1) (lv' := [(3, .int (x3_13 + 1)), (2, .int (x2_12 + (f_h_weight x3_13.toNatClampNeg))), (0, .ref h), (1, .int a1)]) hx hb dX7_weightOf_33 hl (k := 1) rfl rfl (by decide) rfl (fun ls hl => ?_)
      refine lv_goto (tgt := 4) hx hb dX7_weightOf_36 (by decide) ?_
      exact hin10 (x2_12 + (f_h_weight x3_13.toNatClampNeg), x3_13 + 1) (Option.some.inj hX10).symm _ _ _ hP hD hS (lv_sub hl [0, 1, 2, 3] rfl)

def lb_X7_mayComeIn_11 (v_h_size : Int32) (a1 : Int32) (f_h_under : Nat → Int32) (v_h_out : Int32) (x3_17 : Int32) : Option ((Int32) ⊕ ((Int32) ⊕ (Unit))) :=
  if v_h_size ≤ x3_17 then
    some (.inr (.inr ()))
  else
    k_b1 (p_X8_hasBit a1 x3_17) fun r19 =>
    if r19 = 0 then
      some (.inl (x3_17 + 1))
    else
      k_ix x3_17 12 (
        if (f_h_under x3_17.toNatClampNeg) < 0 then
          some (.inl (x3_17 + 1))
        else
          k_ix x3_17 12 (
            k_b1 (p_X8_hasBit (v_h_out &&& (a1 ^^^ (-1))) (f_h_under x3_17.toNatClampNeg)) fun r24 =>
            if r24 = 0 then
              some (.inl (x3_17 + 1))
            else
              some (.inr (.inl 0))))
def p_X7_mayComeIn (v_h_out : Int32) (v_h_size : Int32) (f_h_under : Nat → Int32) (a1 : Int32) : Option (Int32) :=
  k_bx0 (k_lp (fun s => lb_X7_mayComeIn_11 v_h_size a1 f_h_under v_h_out s) k_fuel 0) (fun q => some q) (
    some 1)
abbrev rm_X7_mayComeIn : Room := { frames := 1, cells := 0, slots := 0, locals := 21 }
theorem hdS_X7_mayComeIn : yX7_mayComeIn.cls ≠ "java/lang/invoke/MethodHandle" ∧ yX7_mayComeIn.cls ≠ "java/lang/invoke/VarHandle" ∧ (parseMethodDescriptor yX7_mayComeIn.desc).map (fun d => d.parameters.length) = some 1 := by decide +kernel
theorem hdV_X7_mayComeIn : yX7_mayComeIn.cls = RX7 ∧ yX7_mayComeIn.cls ≠ "java/lang/invoke/MethodHandle" ∧ yX7_mayComeIn.cls ≠ "java/lang/invoke/VarHandle" ∧ (parseMethodDescriptor yX7_mayComeIn.desc).map (fun d => d.parameters.length) = some 1 := by decide +kernel
set_option maxHeartbeats 4000000 in
set_option maxRecDepth 100000 in
theorem c_X7_mayComeIn (l : Launch) (D : va_G) (cI cZ cJ cS : ClassId) (h h_weight h_under : Nat) (v_h_out : Int32) (v_h_size : Int32) (f_h_under : Nat → Int32) (a1 : Int32) (r : Int32) (hf : p_X7_mayComeIn v_h_out v_h_size f_h_under a1 = some r) : k_MI l yX7_mayComeIn wsX7_mayComeIn rm_X7_mayComeIn D (k_tys cI cZ cJ cS) [.ref h, .int a1] [(h, .inr (7, [.ref h_weight, .ref h_under, .int v_h_out, .int v_h_size])), (h_under, .inl (cI, 12, .inl f_h_under))] [(h, .inr (7, [.ref h_weight, .ref h_under, .int v_h_out, .int v_h_size])), (h_under, .inl (cI, 12, .inl f_h_under))] r := by
  refine k_enter (y := yX7_mayComeIn) (wl := wsX7_mayComeIn) (cc := cX7_mayComeIn) (maxL := 4) (ret := (some .boolean)) (Qc := fun A => k_Qi D (k_tys cI cZ cJ cS) [(h, .inr (7, [.ref h_weight, .ref h_under, .int v_h_out, .int v_h_size])), (h_under, .inl (cI, 12, .inl f_h_under))] A r) (by decide) rfl (Nat.le_of_ble_eq_true rfl) [(0, .ref h), (1, .int a1)] rfl ?_
  intro p e s m below meth c A hx hb hml hr hlocks hnm hown hK hP hD hA hS hN ls args Q hts hl hQ
  replace hown : s.vm.findClass RX7 = some m.cls := hown
  have S0 : CallFix p m c cX7_mayComeIn 4 s args wsX7_mayComeIn RX7 := ⟨hx, hb, hml, hown, hts⟩
  have inX7 : ∀ w ∈ u_ws RX7 TX7 4, w ∈ wsX7_mayComeIn := fun w h => List.mem_cons_of_mem _ (List.mem_append_right _ h)
  have wl1 : (Cond.fieldLink RX7 26 "BeachedShip$Things" "out" "I").before args s = true := hts _ (List.mem_of_getElem? (i := 1) rfl)
  have wl2 : (Cond.fieldLink RX7 18 "BeachedShip$Things" "size" "I").before args s = true := hts _ (List.mem_of_getElem? (i := 2) rfl)
  have wl5 : (Cond.initialized RX8).before args s = true := hts _ (List.mem_of_getElem? (i := 5) rfl)
  have wl4 : (Cond.static yX8_hasBit).before args s = true := hts _ (List.mem_of_getElem? (i := 4) rfl)
  have wl3 : (Cond.fieldLink RX7 15 "BeachedShip$Things" "under" "[I").before args s = true := hts _ (List.mem_of_getElem? (i := 3) rfl)
  have hRet : ∀ (r_z : Int32), some r_z = some r → ∀ (H : Heap) (locs : List Loc) (ls : Array Slot) (pc : Nat), va_P D vwCl [(h, .inr (7, [.ref h_weight, .ref h_under, .int v_h_out, .int v_h_size])), (h_under, .inl (cI, 12, .inl f_h_under))] H → va_D A [(h, .inr (7, [.ref h_weight, .ref h_under, .int v_h_out, .int v_h_size])), (h_under, .inl (cI, 12, .inl f_h_under))] → va_S A s.heap H locs → narrow .boolean (.int r_z) = .int r_z → decode cX7_mayComeIn pc = .ok (.ireturn, 1) → W p l e rm_X7_mayComeIn s m args below meth c H locs 0 0 Q (F0 m pc ls [.int r_z]) := by
    intro r_z hz H locs ls pc hP hD hS hn hd
    cases hz
    exact k_iret hx hb hr hlocks hn hK hP hD hS hQ rfl hd
  unfold p_X7_mayComeIn at hf
  refine lv_aload_n hx hb dX7_mayComeIn_0 rfl (lv_at hl 0 rfl) ?_
  refine k_get (C := RX7) (T := TX7) (N := 4) hx hb hts inX7 hown hK hP 0 rfl rfl 2 (by decide) rfl wl1 rfl dX7_mayComeIn_1 ?_
  refine lv_iload_n hx hb dX7_mayComeIn_4 rfl (lv_at hl 1 rfl) ?_
  refine lv_iconst (v := (-1)) hx hb dX7_mayComeIn_5 (by decide) ?_
  refine lv_ixor hx hb dX7_mayComeIn_6 ?_
  refine lv_iand hx hb dX7_mayComeIn_7 ?_
  refine lv_istore_n (lv' := [(2, .int (v_h_out &&& (a1 ^^^ (-1)))), (0, .ref h), (1, .int a1)]) hx hb dX7_mayComeIn_8 rfl hl (by decide) rfl (fun ls hl => ?_)
  refine lv_iconst (v := 0) hx hb dX7_mayComeIn_9 (by decide) ?_
  refine lv_istore_n (lv' := [(3, .int 0), (2, .int (v_h_out &&& (a1 ^^^ (-1)))), (0, .ref h), (1, .int a1)]) hx hb dX7_mayComeIn_10 rfl hl (by decide) rfl (fun ls hl => ?_)
  obtain ⟨ee16, hlp16, hfl16, hfr16⟩ := k_bx0_some hf
  have hE16 : ee16 = .inr () → ∀ (H : Heap) (locs : List Loc) (ls : Array Slot), va_P D vwCl [(h, .inr (7, [.ref h_weight, .ref h_under, .int v_h_out, .int v_h_size])), (h_under, .inl (cI, 12, .inl f_h_under))] H → va_D A [(h, .inr (7, [.ref h_weight, .ref h_under, .int v_h_out, .int v_h_size])), (h_under, .inl (cI, 12, .inl f_h_under))] → va_S A s.heap H locs → lv_has ls 4 [] → W p l e rm_X7_mayComeIn s m args below meth c H locs 0 0 Q (F0 m 57 ls []) := by
    intro  he H locs ls hP hD hS hl
    replace hf := hfr16  he
    refine lv_iconst (v := 1) hx hb dX7_mayComeIn_57 (by decide) ?_
    exact hRet _ hf _ _ _ _ hP hD hS rfl dX7_mayComeIn_58
  refine (k_lp_ind (fun sx16 => ∀ (H : Heap) (locs : List Loc) (ls : Array Slot), va_P D vwCl [(h, .inr (7, [.ref h_weight, .ref h_under, .int v_h_out, .int v_h_size])), (h_under, .inl (cI, 12, .inl f_h_under))] H → va_D A [(h, .inr (7, [.ref h_weight, .ref h_under, .int v_h_out, .int v_h_size])), (h_under, .inl (cI, 12, .inl f_h_under))] → va_S A s.heap H locs → lv_has ls 4 [(3, .int sx16), (2, .int (v_h_out &&& (a1 ^^^ (-1)))), (0, .ref h), (1, .int a1)] → W p l e rm_X7_mayComeIn s m args below meth c H locs 0 0 Q (F0 m 11 ls [])) (fun sx16 X16 hX16 hin16 hout16 => ?_) _ _ hlp16) _ _ _ hP hD hS (lv_sub hl [0, 1, 2, 3] rfl)
  obtain ⟨x3_17, rfl⟩ : ∃ z, z = sx16 := ⟨_, rfl⟩
  intro H locs ls hP hD hS hl
  replace hP : va_P D vwCl [(h, .inr (7, [.ref h_weight, .ref h_under, .int v_h_out, .int v_h_size])), (h_under, .inl (cI, 12, .inl f_h_under))] H := hP
  replace hD : va_D A [(h, .inr (7, [.ref h_weight, .ref h_under, .int v_h_out, .int v_h_size])), (h_under, .inl (cI, 12, .inl f_h_under))] := hD
  replace hl : lv_has ls 4 [(3, .int x3_17), (2, .int (v_h_out &&& (a1 ^^^ (-1)))), (0, .ref h), (1, .int a1)] := hl
  replace hX16 : lb_X7_mayComeIn_11 v_h_size a1 f_h_under v_h_out x3_17 = some X16 := hX16
  unfold lb_X7_mayComeIn_11 at hX16
  refine lv_iload_n hx hb dX7_mayComeIn_11 rfl (lv_at hl 0 rfl) ?_
  refine lv_aload_n hx hb dX7_mayComeIn_12 rfl (lv_at hl 2 rfl) ?_
  refine k_get (C := RX7) (T := TX7) (N := 4) hx hb hts inX7 hown hK hP 0 rfl rfl 3 (by decide) rfl wl2 rfl dX7_mayComeIn_13 ?_
  refine lv_icmp_ge (tgt := 57) hx hb dX7_mayComeIn_16 (by decide) (fun c18 => ?_) (fun c18 => ?_)
  · replace hX16 := k_pos hX16 c18
    exact hE16  (hout16 _ (Option.some.inj hX16).symm).symm _ _ _ hP hD hS (lv_sub hl [] rfl)
  · replace hX16 := k_neg hX16 c18
    refine lv_iload_n hx hb dX7_mayComeIn_19 rfl (lv_at hl 3 rfl) ?_
    refine lv_iload_n hx hb dX7_mayComeIn_20 rfl (lv_at hl 0 rfl) ?_
    obtain ⟨r19, hc19, hX16⟩ := k_b1_some hX16
    refine k_NiR (As := [.int a1, .int x3_17]) (rest := []) S0 (c_X8_hasBit l D cI cZ cJ cS a1 x3_17 r19 hc19) ⟨va_cnB 2 hts gX7_mayComeIn_X8_hasBit_n22 rfl rfl rfl (hN _ (List.mem_of_getElem? (i := 4) rfl)) wl5 hdS_X8_hasBit ⟨Nat.le_of_ble_eq_true rfl, Nat.le_of_ble_eq_true rfl⟩, wl4, trivial⟩ hK hP hD hS hA hN [] rfl (by decide) rfl hl.1 rfl (Nat.le_of_ble_eq_true rfl) dX7_mayComeIn_21 (fun H locs hP hS => ?_)
    refine lv_if_eq (tgt := 51) hx hb dX7_mayComeIn_24 (by decide) (fun c20 => ?_) (fun c20 => ?_)
    · replace hX16 := k_pos hX16 c20
      refine lv_iinc (v := x3_17 + 1) (lv' := [(3, .int (x3_17 + 1)), (2, .int (v_h_out &&& (a1 ^^^ (-1)))), (0, .ref h), (1, .int a1)]) hx hb dX7_mayComeIn_51 hl (k := 0) rfl rfl (by decide) rfl (fun ls hl => ?_)
      refine lv_goto (tgt := 11) hx hb dX7_mayComeIn_54 (by decide) ?_
      exact hin16 (x3_17 + 1) (Option.some.inj hX16).symm _ _ _ hP hD hS (lv_sub hl [0, 1, 2, 3] rfl)
    · replace hX16 := k_neg hX16 c20
      refine lv_aload_n hx hb dX7_mayComeIn_27 rfl (lv_at hl 2 rfl) ?_
      refine k_get (C := RX7) (T := TX7) (N := 4) hx hb hts inX7 hown hK hP 0 rfl rfl 1 (by decide) rfl wl3 rfl dX7_mayComeIn_28 ?_
      refine lv_iload_n hx hb dX7_mayComeIn_31 rfl (lv_at hl 0 rfl) ?_
      obtain ⟨hi21, hX16⟩ := k_ix_some hX16
      refine k_iald (k := x3_17.toNatClampNeg) hx hb hK hP 1 0 rfl rfl hi21 rfl dX7_mayComeIn_32 ?_
      refine lv_if_lt (tgt := 51) hx hb dX7_mayComeIn_33 (by decide) (fun c22 => ?_) (fun c22 => ?_)
      · replace hX16 := k_pos hX16 c22
        refine lv_iinc (v := x3_17 + 1) (lv' := [(3, .int (x3_17 + 1)), (2, .int (v_h_out &&& (a1 ^^^ (-1)))), (0, .ref h), (1, .int a1)]) hx hb dX7_mayComeIn_51 hl (k := 0) rfl rfl (by decide) rfl (fun ls hl => ?_)
        refine lv_goto (tgt := 11) hx hb dX7_mayComeIn_54 (by decide) ?_
        exact hin16 (x3_17 + 1) (Option.some.inj hX16).symm _ _ _ hP hD hS (lv_sub hl [0, 1, 2, 3] rfl)
      · replace hX16 := k_neg hX16 c22
        refine lv_iload_n hx hb dX7_mayComeIn_36 rfl (lv_at hl 1 rfl) ?_
        refine lv_aload_n hx hb dX7_mayComeIn_37 rfl (lv_at hl 2 rfl) ?_
        refine k_get (C := RX7) (T := TX7) (N := 4) hx hb hts inX7 hown hK hP 0 rfl rfl 1 (by decide) rfl wl3 rfl dX7_mayComeIn_38 ?_
        refine lv_iload_n hx hb dX7_mayComeIn_41 rfl (lv_at hl 0 rfl) ?_
        obtain ⟨hi23, hX16⟩ := k_ix_some hX16
        refine k_iald (k := x3_17.toNatClampNeg) hx hb hK hP 1 0 rfl rfl hi23 rfl dX7_mayComeIn_42 ?_
        obtain ⟨r24, hc24, hX16⟩ := k_b1_some hX16
        refine k_NiR (As := [.int (v_h_out &&& (a1 ^^^ (-1))), .int (f_h_under x3_17.toNatClampNeg)]) (rest := []) S0 (c_X8_hasBit l D cI cZ cJ cS (v_h_out &&& (a1 ^^^ (-1))) (f_h_under x3_17.toNatClampNeg) r24 hc24) ⟨va_cnB 2 hts gX7_mayComeIn_X8_hasBit_n22 rfl rfl rfl (hN _ (List.mem_of_getElem? (i := 4) rfl)) wl5 hdS_X8_hasBit ⟨Nat.le_of_ble_eq_true rfl, Nat.le_of_ble_eq_true rfl⟩, wl4, trivial⟩ hK hP hD hS hA hN [] rfl (by decide) rfl hl.1 rfl (Nat.le_of_ble_eq_true rfl) dX7_mayComeIn_43 (fun H locs hP hS => ?_)
        refine lv_if_eq (tgt := 51) hx hb dX7_mayComeIn_46 (by decide) (fun c25 => ?_) (fun c25 => ?_)
        · replace hX16 := k_pos hX16 c25
          refine lv_iinc (v := x3_17 + 1) (lv' := [(3, .int (x3_17 + 1)), (2, .int (v_h_out &&& (a1 ^^^ (-1)))), (0, .ref h), (1, .int a1)]) hx hb dX7_mayComeIn_51 hl (k := 0) rfl rfl (by decide) rfl (fun ls hl => ?_)
          refine lv_goto (tgt := 11) hx hb dX7_mayComeIn_54 (by decide) ?_
          exact hin16 (x3_17 + 1) (Option.some.inj hX16).symm _ _ _ hP hD hS (lv_sub hl [0, 1, 2, 3] rfl)
        · replace hX16 := k_neg hX16 c25
          refine lv_iconst (v := 0) hx hb dX7_mayComeIn_49 (by decide) ?_
          have he := hout16 _ (Option.some.inj hX16).symm
          replace hf := hfl16 _ he.symm
          exact hRet _ hf _ _ _ _ hP hD hS rfl dX7_mayComeIn_50

def lb_X3_bitsOf_4 (v_h_size : Int32) (f_h_state : Nat → Int32) (a1 : Int32) (x2_10 : Int32) (x3_11 : Int32) : Option ((Int32 × Int32) ⊕ (Int32)) :=
  if v_h_size ≤ x3_11 then
    some (.inr x2_10)
  else
    k_ix x3_11 12 (
      if (f_h_state x3_11.toNatClampNeg) = a1 then
        some (.inl (x2_10 ||| (1 <<< (x3_11 &&& 31)), x3_11 + 1))
      else
        some (.inl (x2_10 ||| 0, x3_11 + 1)))
def p_X3_bitsOf (v_h_size : Int32) (f_h_state : Nat → Int32) (a1 : Int32) : Option (Int32) :=
  k_b1 (k_lp (fun s => lb_X3_bitsOf_4 v_h_size f_h_state a1 s.1 s.2) k_fuel (0, 0)) fun x2_9 =>
  some x2_9
abbrev rm_X3_bitsOf : Room := { frames := 0, cells := 0, slots := 0, locals := 0 }
theorem hdS_X3_bitsOf : yX3_bitsOf.cls ≠ "java/lang/invoke/MethodHandle" ∧ yX3_bitsOf.cls ≠ "java/lang/invoke/VarHandle" ∧ (parseMethodDescriptor yX3_bitsOf.desc).map (fun d => d.parameters.length) = some 1 := by decide +kernel
theorem hdV_X3_bitsOf : yX3_bitsOf.cls = RX3 ∧ yX3_bitsOf.cls ≠ "java/lang/invoke/MethodHandle" ∧ yX3_bitsOf.cls ≠ "java/lang/invoke/VarHandle" ∧ (parseMethodDescriptor yX3_bitsOf.desc).map (fun d => d.parameters.length) = some 1 := by decide +kernel
set_option maxHeartbeats 4000000 in
set_option maxRecDepth 100000 in
theorem c_X3_bitsOf (l : Launch) (D : va_G) (cI cZ cJ cS : ClassId) (h h_strake h_side h_hands h_hours h_pitch h_worth h_state h_done : Nat) (v_h_size : Int32) (f_h_state : Nat → Int32) (a1 : Int32) (r : Int32) (hf : p_X3_bitsOf v_h_size f_h_state a1 = some r) : k_MI l yX3_bitsOf wsX3_bitsOf rm_X3_bitsOf D (k_tys cI cZ cJ cS) [.ref h, .int a1] [(h, .inr (3, [.ref h_strake, .ref h_side, .ref h_hands, .ref h_hours, .ref h_pitch, .ref h_worth, .ref h_state, .ref h_done, .int v_h_size])), (h_state, .inl (cI, 12, .inl f_h_state))] [(h, .inr (3, [.ref h_strake, .ref h_side, .ref h_hands, .ref h_hours, .ref h_pitch, .ref h_worth, .ref h_state, .ref h_done, .int v_h_size])), (h_state, .inl (cI, 12, .inl f_h_state))] r := by
  refine k_enter (y := yX3_bitsOf) (wl := wsX3_bitsOf) (cc := cX3_bitsOf) (maxL := 4) (ret := (some .int)) (Qc := fun A => k_Qi D (k_tys cI cZ cJ cS) [(h, .inr (3, [.ref h_strake, .ref h_side, .ref h_hands, .ref h_hours, .ref h_pitch, .ref h_worth, .ref h_state, .ref h_done, .int v_h_size])), (h_state, .inl (cI, 12, .inl f_h_state))] A r) (by decide) rfl (Nat.le_of_ble_eq_true rfl) [(0, .ref h), (1, .int a1)] rfl ?_
  intro p e s m below meth c A hx hb hml hr hlocks hnm hown hK hP hD hA hS hN ls args Q hts hl hQ
  replace hown : s.vm.findClass RX3 = some m.cls := hown
  have inX3 : ∀ w ∈ u_ws RX3 TX3 9, w ∈ wsX3_bitsOf := fun w h => List.mem_cons_of_mem _ (List.mem_append_right _ h)
  have wl1 : (Cond.fieldLink RX3 36 "BeachedShip$Seams" "size" "I").before args s = true := hts _ (List.mem_of_getElem? (i := 1) rfl)
  have wl2 : (Cond.fieldLink RX3 30 "BeachedShip$Seams" "state" "[I").before args s = true := hts _ (List.mem_of_getElem? (i := 2) rfl)
  have hRet : ∀ (r_z : Int32), some r_z = some r → ∀ (H : Heap) (locs : List Loc) (ls : Array Slot) (pc : Nat), va_P D vwCl [(h, .inr (3, [.ref h_strake, .ref h_side, .ref h_hands, .ref h_hours, .ref h_pitch, .ref h_worth, .ref h_state, .ref h_done, .int v_h_size])), (h_state, .inl (cI, 12, .inl f_h_state))] H → va_D A [(h, .inr (3, [.ref h_strake, .ref h_side, .ref h_hands, .ref h_hours, .ref h_pitch, .ref h_worth, .ref h_state, .ref h_done, .int v_h_size])), (h_state, .inl (cI, 12, .inl f_h_state))] → va_S A s.heap H locs → narrow .int (.int r_z) = .int r_z → decode cX3_bitsOf pc = .ok (.ireturn, 1) → W p l e rm_X3_bitsOf s m args below meth c H locs 0 0 Q (F0 m pc ls [.int r_z]) := by
    intro r_z hz H locs ls pc hP hD hS hn hd
    cases hz
    exact k_iret hx hb hr hlocks hn hK hP hD hS hQ rfl hd
  unfold p_X3_bitsOf at hf
  refine lv_iconst (v := 0) hx hb dX3_bitsOf_0 (by decide) ?_
  refine lv_istore_n (lv' := [(2, .int 0), (0, .ref h), (1, .int a1)]) hx hb dX3_bitsOf_1 rfl hl (by decide) rfl (fun ls hl => ?_)
  refine lv_iconst (v := 0) hx hb dX3_bitsOf_2 (by decide) ?_
  refine lv_istore_n (lv' := [(3, .int 0), (2, .int 0), (0, .ref h), (1, .int a1)]) hx hb dX3_bitsOf_3 rfl hl (by decide) rfl (fun ls hl => ?_)
  obtain ⟨ee8, hlp8, hfr8⟩ := k_b1_ee hf
  have hE8 : ∀ (x2_9 : Int32), ee8 = x2_9 → ∀ (H : Heap) (locs : List Loc) (ls : Array Slot), va_P D vwCl [(h, .inr (3, [.ref h_strake, .ref h_side, .ref h_hands, .ref h_hours, .ref h_pitch, .ref h_worth, .ref h_state, .ref h_done, .int v_h_size])), (h_state, .inl (cI, 12, .inl f_h_state))] H → va_D A [(h, .inr (3, [.ref h_strake, .ref h_side, .ref h_hands, .ref h_hours, .ref h_pitch, .ref h_worth, .ref h_state, .ref h_done, .int v_h_size])), (h_state, .inl (cI, 12, .inl f_h_state))] → va_S A s.heap H locs → lv_has ls 4 [(2, .int x2_9)] → W p l e rm_X3_bitsOf s m args below meth c H locs 0 0 Q (F0 m 38 ls []) := by
    intro x2_9 he H locs ls hP hD hS hl
    replace hf := hfr8 x2_9 he
    refine lv_iload_n hx hb dX3_bitsOf_38 rfl (lv_at hl 0 rfl) ?_
    exact hRet _ hf _ _ _ _ hP hD hS rfl dX3_bitsOf_39
  refine (k_lp_ind (fun sx8 => ∀ (H : Heap) (locs : List Loc) (ls : Array Slot), va_P D vwCl [(h, .inr (3, [.ref h_strake, .ref h_side, .ref h_hands, .ref h_hours, .ref h_pitch, .ref h_worth, .ref h_state, .ref h_done, .int v_h_size])), (h_state, .inl (cI, 12, .inl f_h_state))] H → va_D A [(h, .inr (3, [.ref h_strake, .ref h_side, .ref h_hands, .ref h_hours, .ref h_pitch, .ref h_worth, .ref h_state, .ref h_done, .int v_h_size])), (h_state, .inl (cI, 12, .inl f_h_state))] → va_S A s.heap H locs → lv_has ls 4 [(3, .int sx8.2), (2, .int sx8.1), (0, .ref h), (1, .int a1)] → W p l e rm_X3_bitsOf s m args below meth c H locs 0 0 Q (F0 m 4 ls [])) (fun sx8 X8 hX8 hin8 hout8 => ?_) _ _ hlp8) _ _ _ hP hD hS (lv_sub hl [0, 1, 2, 3] rfl)
  obtain ⟨x2_10, x3_11⟩ := sx8
  intro H locs ls hP hD hS hl
  replace hP : va_P D vwCl [(h, .inr (3, [.ref h_strake, .ref h_side, .ref h_hands, .ref h_hours, .ref h_pitch, .ref h_worth, .ref h_state, .ref h_done, .int v_h_size])), (h_state, .inl (cI, 12, .inl f_h_state))] H := hP
  replace hD : va_D A [(h, .inr (3, [.ref h_strake, .ref h_side, .ref h_hands, .ref h_hours, .ref h_pitch, .ref h_worth, .ref h_state, .ref h_done, .int v_h_size])), (h_state, .inl (cI, 12, .inl f_h_state))] := hD
  replace hl : lv_has ls 4 [(3, .int x3_11), (2, .int x2_10), (0, .ref h), (1, .int a1)] := hl
  replace hX8 : lb_X3_bitsOf_4 v_h_size f_h_state a1 x2_10 x3_11 = some X8 := hX8
  unfold lb_X3_bitsOf_4 at hX8
  refine lv_iload_n hx hb dX3_bitsOf_4 rfl (lv_at hl 0 rfl) ?_
  refine lv_aload_n hx hb dX3_bitsOf_5 rfl (lv_at hl 2 rfl) ?_
  refine k_get (C := RX3) (T := TX3) (N := 9) hx hb hts inX3 hown hK hP 0 rfl rfl 8 (by decide) rfl wl1 rfl dX3_bitsOf_6 ?_
  refine lv_icmp_ge (tgt := 38) hx hb dX3_bitsOf_9 (by decide) (fun c12 => ?_) (fun c12 => ?_)
  · replace hX8 := k_pos hX8 c12
    exact hE8 _ (hout8 _ (Option.some.inj hX8).symm).symm _ _ _ hP hD hS (lv_sub hl [1] rfl)
  · replace hX8 := k_neg hX8 c12
    refine lv_iload_n hx hb dX3_bitsOf_12 rfl (lv_at hl 1 rfl) ?_
    refine lv_aload_n hx hb dX3_bitsOf_13 rfl (lv_at hl 2 rfl) ?_
    refine k_get (C := RX3) (T := TX3) (N := 9) hx hb hts inX3 hown hK hP 0 rfl rfl 6 (by decide) rfl wl2 rfl dX3_bitsOf_14 ?_
    refine lv_iload_n hx hb dX3_bitsOf_17 rfl (lv_at hl 0 rfl) ?_
    obtain ⟨hi13, hX8⟩ := k_ix_some hX8
    refine k_iald (k := x3_11.toNatClampNeg) hx hb hK hP 1 0 rfl rfl hi13 rfl dX3_bitsOf_18 ?_
    refine lv_iload_n hx hb dX3_bitsOf_19 rfl (lv_at hl 3 rfl) ?_
    refine lv_icmp_ne (tgt := 29) hx hb dX3_bitsOf_20 (by decide) (fun c14 => ?_) (fun c14 => ?_)
    · replace hX8 := k_neg hX8 c14
      refine lv_iconst (v := 0) hx hb dX3_bitsOf_29 (by decide) ?_
      refine lv_ior hx hb dX3_bitsOf_30 ?_
      refine lv_istore_n (lv' := [(2, .int (x2_10 ||| 0)), (3, .int x3_11), (0, .ref h), (1, .int a1)]) hx hb dX3_bitsOf_31 rfl hl (by decide) rfl (fun ls hl => ?_)
      refine lv_iinc (v := x3_11 + 1) (lv' := [(3, .int (x3_11 + 1)), (2, .int (x2_10 ||| 0)), (0, .ref h), (1, .int a1)]) hx hb dX3_bitsOf_32 hl (k := 1) rfl rfl (by decide) rfl (fun ls hl => ?_)
      refine lv_goto (tgt := 4) hx hb dX3_bitsOf_35 (by decide) ?_
      exact hin8 (x2_10 ||| 0, x3_11 + 1) (Option.some.inj hX8).symm _ _ _ hP hD hS (lv_sub hl [0, 1, 2, 3] rfl)
    · replace hX8 := k_pos hX8 c14
      refine lv_iconst (v := 1) hx hb dX3_bitsOf_23 (by decide) ?_
      refine lv_iload_n hx hb dX3_bitsOf_24 rfl (lv_at hl 0 rfl) ?_
      refine lv_ishl hx hb dX3_bitsOf_25 ?_
      refine lv_goto (tgt := 30) hx hb dX3_bitsOf_26 (by decide) ?_
      refine lv_ior hx hb dX3_bitsOf_30 ?_
      refine lv_istore_n (lv' := [(2, .int (x2_10 ||| (1 <<< (x3_11 &&& 31)))), (3, .int x3_11), (0, .ref h), (1, .int a1)]) hx hb dX3_bitsOf_31 rfl hl (by decide) rfl (fun ls hl => ?_)
      refine lv_iinc (v := x3_11 + 1) (lv' := [(3, .int (x3_11 + 1)), (2, .int (x2_10 ||| (1 <<< (x3_11 &&& 31)))), (0, .ref h), (1, .int a1)]) hx hb dX3_bitsOf_32 hl (k := 1) rfl rfl (by decide) rfl (fun ls hl => ?_)
      refine lv_goto (tgt := 4) hx hb dX3_bitsOf_35 (by decide) ?_
      exact hin8 (x2_10 ||| (1 <<< (x3_11 &&& 31)), x3_11 + 1) (Option.some.inj hX8).symm _ _ _ hP hD hS (lv_sub hl [0, 1, 2, 3] rfl)

def p_X3_copyFrom (v_o1_size : Int32) (f_o1_strake : Nat → Int32) (f_h_strake : Nat → Int32) (f_o1_side : Nat → Int32) (f_h_side : Nat → Int32) (f_o1_hands : Nat → Int32) (f_h_hands : Nat → Int32) (f_o1_hours : Nat → Int32) (f_h_hours : Nat → Int32) (f_o1_pitch : Nat → Int32) (f_h_pitch : Nat → Int32) (f_o1_worth : Nat → Int32) (f_h_worth : Nat → Int32) (f_o1_state : Nat → Int32) (f_h_state : Nat → Int32) (f_o1_done : Nat → Int32) (f_h_done : Nat → Int32) : Option (Int32 × (Nat → Int32) × (Nat → Int32) × (Nat → Int32) × (Nat → Int32) × (Nat → Int32) × (Nat → Int32) × (Nat → Int32) × (Nat → Int32)) :=
  some (v_o1_size, k_cpy 12 f_o1_strake f_h_strake, k_cpy 12 f_o1_side f_h_side, k_cpy 12 f_o1_hands f_h_hands, k_cpy 12 f_o1_hours f_h_hours, k_cpy 12 f_o1_pitch f_h_pitch, k_cpy 12 f_o1_worth f_h_worth, k_cpy 12 f_o1_state f_h_state, k_cpy 12 f_o1_done f_h_done)
abbrev rm_X3_copyFrom : Room := { frames := 1, cells := 0, slots := 0, locals := 32 }
theorem hdS_X3_copyFrom : yX3_copyFrom.cls ≠ "java/lang/invoke/MethodHandle" ∧ yX3_copyFrom.cls ≠ "java/lang/invoke/VarHandle" ∧ (parseMethodDescriptor yX3_copyFrom.desc).map (fun d => d.parameters.length) = some 1 := by decide +kernel
theorem hdV_X3_copyFrom : yX3_copyFrom.cls = RX3 ∧ yX3_copyFrom.cls ≠ "java/lang/invoke/MethodHandle" ∧ yX3_copyFrom.cls ≠ "java/lang/invoke/VarHandle" ∧ (parseMethodDescriptor yX3_copyFrom.desc).map (fun d => d.parameters.length) = some 1 := by decide +kernel
set_option maxHeartbeats 4000000 in
set_option maxRecDepth 100000 in
theorem c_X3_copyFrom (l : Launch) (D : va_G) (cI cZ cJ cS : ClassId) (h h_strake h_side h_hands h_hours h_pitch h_worth h_state h_done o1 o1_strake o1_side o1_hands o1_hours o1_pitch o1_worth o1_state o1_done : Nat) (v_h_size : Int32) (v_o1_size : Int32) (f_o1_strake : Nat → Int32) (f_h_strake : Nat → Int32) (f_o1_side : Nat → Int32) (f_h_side : Nat → Int32) (f_o1_hands : Nat → Int32) (f_h_hands : Nat → Int32) (f_o1_hours : Nat → Int32) (f_h_hours : Nat → Int32) (f_o1_pitch : Nat → Int32) (f_h_pitch : Nat → Int32) (f_o1_worth : Nat → Int32) (f_h_worth : Nat → Int32) (f_o1_state : Nat → Int32) (f_h_state : Nat → Int32) (f_o1_done : Nat → Int32) (f_h_done : Nat → Int32) (v_h_size' : Int32) (f_h_strake' : Nat → Int32) (f_h_side' : Nat → Int32) (f_h_hands' : Nat → Int32) (f_h_hours' : Nat → Int32) (f_h_pitch' : Nat → Int32) (f_h_worth' : Nat → Int32) (f_h_state' : Nat → Int32) (f_h_done' : Nat → Int32) (hf : p_X3_copyFrom v_o1_size f_o1_strake f_h_strake f_o1_side f_h_side f_o1_hands f_h_hands f_o1_hours f_h_hours f_o1_pitch f_h_pitch f_o1_worth f_h_worth f_o1_state f_h_state f_o1_done f_h_done = some (v_h_size', f_h_strake', f_h_side', f_h_hands', f_h_hours', f_h_pitch', f_h_worth', f_h_state', f_h_done')) : k_MV l yX3_copyFrom wsX3_copyFrom rm_X3_copyFrom D (k_tys cI cZ cJ cS) [.ref h, .ref o1] [(h, .inr (3, [.ref h_strake, .ref h_side, .ref h_hands, .ref h_hours, .ref h_pitch, .ref h_worth, .ref h_state, .ref h_done, .int v_h_size])), (o1, .inr (3, [.ref o1_strake, .ref o1_side, .ref o1_hands, .ref o1_hours, .ref o1_pitch, .ref o1_worth, .ref o1_state, .ref o1_done, .int v_o1_size])), (o1_strake, .inl (cI, 12, .inl f_o1_strake)), (h_strake, .inl (cI, 12, .inl f_h_strake)), (o1_side, .inl (cI, 12, .inl f_o1_side)), (h_side, .inl (cI, 12, .inl f_h_side)), (o1_hands, .inl (cI, 12, .inl f_o1_hands)), (h_hands, .inl (cI, 12, .inl f_h_hands)), (o1_hours, .inl (cI, 12, .inl f_o1_hours)), (h_hours, .inl (cI, 12, .inl f_h_hours)), (o1_pitch, .inl (cI, 12, .inl f_o1_pitch)), (h_pitch, .inl (cI, 12, .inl f_h_pitch)), (o1_worth, .inl (cI, 12, .inl f_o1_worth)), (h_worth, .inl (cI, 12, .inl f_h_worth)), (o1_state, .inl (cI, 12, .inl f_o1_state)), (h_state, .inl (cI, 12, .inl f_h_state)), (o1_done, .inl (cI, 12, .inl f_o1_done)), (h_done, .inl (cI, 12, .inl f_h_done))] [(h, .inr (3, [.ref h_strake, .ref h_side, .ref h_hands, .ref h_hours, .ref h_pitch, .ref h_worth, .ref h_state, .ref h_done, .int v_h_size'])), (o1, .inr (3, [.ref o1_strake, .ref o1_side, .ref o1_hands, .ref o1_hours, .ref o1_pitch, .ref o1_worth, .ref o1_state, .ref o1_done, .int v_o1_size])), (o1_strake, .inl (cI, 12, .inl f_o1_strake)), (h_strake, .inl (cI, 12, .inl f_h_strake')), (o1_side, .inl (cI, 12, .inl f_o1_side)), (h_side, .inl (cI, 12, .inl f_h_side')), (o1_hands, .inl (cI, 12, .inl f_o1_hands)), (h_hands, .inl (cI, 12, .inl f_h_hands')), (o1_hours, .inl (cI, 12, .inl f_o1_hours)), (h_hours, .inl (cI, 12, .inl f_h_hours')), (o1_pitch, .inl (cI, 12, .inl f_o1_pitch)), (h_pitch, .inl (cI, 12, .inl f_h_pitch')), (o1_worth, .inl (cI, 12, .inl f_o1_worth)), (h_worth, .inl (cI, 12, .inl f_h_worth')), (o1_state, .inl (cI, 12, .inl f_o1_state)), (h_state, .inl (cI, 12, .inl f_h_state')), (o1_done, .inl (cI, 12, .inl f_o1_done)), (h_done, .inl (cI, 12, .inl f_h_done'))] := by
  refine k_enter (y := yX3_copyFrom) (wl := wsX3_copyFrom) (cc := cX3_copyFrom) (maxL := 2) (ret := none) (Qc := fun A => k_Qv D (k_tys cI cZ cJ cS) [(h, .inr (3, [.ref h_strake, .ref h_side, .ref h_hands, .ref h_hours, .ref h_pitch, .ref h_worth, .ref h_state, .ref h_done, .int v_h_size'])), (o1, .inr (3, [.ref o1_strake, .ref o1_side, .ref o1_hands, .ref o1_hours, .ref o1_pitch, .ref o1_worth, .ref o1_state, .ref o1_done, .int v_o1_size])), (o1_strake, .inl (cI, 12, .inl f_o1_strake)), (h_strake, .inl (cI, 12, .inl f_h_strake')), (o1_side, .inl (cI, 12, .inl f_o1_side)), (h_side, .inl (cI, 12, .inl f_h_side')), (o1_hands, .inl (cI, 12, .inl f_o1_hands)), (h_hands, .inl (cI, 12, .inl f_h_hands')), (o1_hours, .inl (cI, 12, .inl f_o1_hours)), (h_hours, .inl (cI, 12, .inl f_h_hours')), (o1_pitch, .inl (cI, 12, .inl f_o1_pitch)), (h_pitch, .inl (cI, 12, .inl f_h_pitch')), (o1_worth, .inl (cI, 12, .inl f_o1_worth)), (h_worth, .inl (cI, 12, .inl f_h_worth')), (o1_state, .inl (cI, 12, .inl f_o1_state)), (h_state, .inl (cI, 12, .inl f_h_state')), (o1_done, .inl (cI, 12, .inl f_o1_done)), (h_done, .inl (cI, 12, .inl f_h_done'))] A) (by decide) rfl (Nat.le_of_ble_eq_true rfl) [(0, .ref h), (1, .ref o1)] rfl ?_
  intro p e s m below meth c A hx hb hml hr hlocks hnm hown hK hP hD hA hS hN ls args Q hts hl hQ
  replace hown : s.vm.findClass RX3 = some m.cls := hown
  have inX3 : ∀ w ∈ u_ws RX3 TX3 9, w ∈ wsX3_copyFrom := fun w h => List.mem_cons_of_mem _ (List.mem_append_right _ h)
  have wl1 : (Cond.fieldLink RX3 9 "BeachedShip$Seams" "strake" "[I").before args s = true := hts _ (List.mem_of_getElem? (i := 1) rfl)
  have wl2 : (Cond.methodLink RX3 40 arraycopyName).before args s = true := hts _ (List.mem_of_getElem? (i := 2) rfl)
  have wl3 : (Cond.native arraycopyName).before args s = true := hts _ (List.mem_of_getElem? (i := 3) rfl)
  have wl4 : (Cond.static arraycopyName).before args s = true := hts _ (List.mem_of_getElem? (i := 4) rfl)
  have wl5 : (Cond.initialized "java/lang/System").before args s = true := hts _ (List.mem_of_getElem? (i := 5) rfl)
  have wl6 : (Cond.fieldLink RX3 15 "BeachedShip$Seams" "side" "[I").before args s = true := hts _ (List.mem_of_getElem? (i := 6) rfl)
  have wl7 : (Cond.fieldLink RX3 18 "BeachedShip$Seams" "hands" "[I").before args s = true := hts _ (List.mem_of_getElem? (i := 7) rfl)
  have wl8 : (Cond.fieldLink RX3 21 "BeachedShip$Seams" "hours" "[I").before args s = true := hts _ (List.mem_of_getElem? (i := 8) rfl)
  have wl9 : (Cond.fieldLink RX3 24 "BeachedShip$Seams" "pitch" "[I").before args s = true := hts _ (List.mem_of_getElem? (i := 9) rfl)
  have wl10 : (Cond.fieldLink RX3 27 "BeachedShip$Seams" "worth" "[I").before args s = true := hts _ (List.mem_of_getElem? (i := 10) rfl)
  have wl11 : (Cond.fieldLink RX3 30 "BeachedShip$Seams" "state" "[I").before args s = true := hts _ (List.mem_of_getElem? (i := 11) rfl)
  have wl12 : (Cond.fieldLink RX3 33 "BeachedShip$Seams" "done" "[I").before args s = true := hts _ (List.mem_of_getElem? (i := 12) rfl)
  have wl13 : (Cond.fieldLink RX3 36 "BeachedShip$Seams" "size" "I").before args s = true := hts _ (List.mem_of_getElem? (i := 13) rfl)
  have hRet : ∀ (v_h_size_z : Int32) (f_h_strake_z : Nat → Int32) (f_h_side_z : Nat → Int32) (f_h_hands_z : Nat → Int32) (f_h_hours_z : Nat → Int32) (f_h_pitch_z : Nat → Int32) (f_h_worth_z : Nat → Int32) (f_h_state_z : Nat → Int32) (f_h_done_z : Nat → Int32), some (v_h_size_z, f_h_strake_z, f_h_side_z, f_h_hands_z, f_h_hours_z, f_h_pitch_z, f_h_worth_z, f_h_state_z, f_h_done_z) = some (v_h_size', f_h_strake', f_h_side', f_h_hands', f_h_hours', f_h_pitch', f_h_worth', f_h_state', f_h_done') → ∀ (H : Heap) (locs : List Loc) (ls : Array Slot) (pc : Nat), va_P D vwCl [(h, .inr (3, [.ref h_strake, .ref h_side, .ref h_hands, .ref h_hours, .ref h_pitch, .ref h_worth, .ref h_state, .ref h_done, .int v_h_size_z])), (o1, .inr (3, [.ref o1_strake, .ref o1_side, .ref o1_hands, .ref o1_hours, .ref o1_pitch, .ref o1_worth, .ref o1_state, .ref o1_done, .int v_o1_size])), (o1_strake, .inl (cI, 12, .inl f_o1_strake)), (h_strake, .inl (cI, 12, .inl f_h_strake_z)), (o1_side, .inl (cI, 12, .inl f_o1_side)), (h_side, .inl (cI, 12, .inl f_h_side_z)), (o1_hands, .inl (cI, 12, .inl f_o1_hands)), (h_hands, .inl (cI, 12, .inl f_h_hands_z)), (o1_hours, .inl (cI, 12, .inl f_o1_hours)), (h_hours, .inl (cI, 12, .inl f_h_hours_z)), (o1_pitch, .inl (cI, 12, .inl f_o1_pitch)), (h_pitch, .inl (cI, 12, .inl f_h_pitch_z)), (o1_worth, .inl (cI, 12, .inl f_o1_worth)), (h_worth, .inl (cI, 12, .inl f_h_worth_z)), (o1_state, .inl (cI, 12, .inl f_o1_state)), (h_state, .inl (cI, 12, .inl f_h_state_z)), (o1_done, .inl (cI, 12, .inl f_o1_done)), (h_done, .inl (cI, 12, .inl f_h_done_z))] H → va_D A [(h, .inr (3, [.ref h_strake, .ref h_side, .ref h_hands, .ref h_hours, .ref h_pitch, .ref h_worth, .ref h_state, .ref h_done, .int v_h_size_z])), (o1, .inr (3, [.ref o1_strake, .ref o1_side, .ref o1_hands, .ref o1_hours, .ref o1_pitch, .ref o1_worth, .ref o1_state, .ref o1_done, .int v_o1_size])), (o1_strake, .inl (cI, 12, .inl f_o1_strake)), (h_strake, .inl (cI, 12, .inl f_h_strake_z)), (o1_side, .inl (cI, 12, .inl f_o1_side)), (h_side, .inl (cI, 12, .inl f_h_side_z)), (o1_hands, .inl (cI, 12, .inl f_o1_hands)), (h_hands, .inl (cI, 12, .inl f_h_hands_z)), (o1_hours, .inl (cI, 12, .inl f_o1_hours)), (h_hours, .inl (cI, 12, .inl f_h_hours_z)), (o1_pitch, .inl (cI, 12, .inl f_o1_pitch)), (h_pitch, .inl (cI, 12, .inl f_h_pitch_z)), (o1_worth, .inl (cI, 12, .inl f_o1_worth)), (h_worth, .inl (cI, 12, .inl f_h_worth_z)), (o1_state, .inl (cI, 12, .inl f_o1_state)), (h_state, .inl (cI, 12, .inl f_h_state_z)), (o1_done, .inl (cI, 12, .inl f_o1_done)), (h_done, .inl (cI, 12, .inl f_h_done_z))] → va_S A s.heap H locs → decode cX3_copyFrom pc = .ok (.return_, 1) → W p l e rm_X3_copyFrom s m args below meth c H locs 0 0 Q (F0 m pc ls []) := by
    intro v_h_size_z f_h_strake_z f_h_side_z f_h_hands_z f_h_hours_z f_h_pitch_z f_h_worth_z f_h_state_z f_h_done_z hz H locs ls pc hP hD hS hd
    cases hz
    exact k_vret hx hb hr hlocks hK hP hD hS hQ hd
  unfold p_X3_copyFrom at hf
  refine lv_aload_n hx hb dX3_copyFrom_0 rfl (lv_at hl 1 rfl) ?_
  refine k_get (C := RX3) (T := TX3) (N := 9) hx hb hts inX3 hown hK hP 1 rfl rfl 0 (by decide) rfl wl1 rfl dX3_copyFrom_1 ?_
  refine lv_iconst (v := 0) hx hb dX3_copyFrom_4 (by decide) ?_
  refine lv_aload_n hx hb dX3_copyFrom_5 rfl (lv_at hl 0 rfl) ?_
  refine k_get (C := RX3) (T := TX3) (N := 9) hx hb hts inX3 hown hK hP 0 rfl rfl 0 (by decide) rfl wl1 rfl dX3_copyFrom_6 ?_
  refine lv_iconst (v := 0) hx hb dX3_copyFrom_9 (by decide) ?_
  refine lv_bipush (v := 12) hx hb dX3_copyFrom_10 (by decide) ?_
  refine k_copyi (ws2 := [(h, .inr (3, [.ref h_strake, .ref h_side, .ref h_hands, .ref h_hours, .ref h_pitch, .ref h_worth, .ref h_state, .ref h_done, .int v_h_size])), (o1, .inr (3, [.ref o1_strake, .ref o1_side, .ref o1_hands, .ref o1_hours, .ref o1_pitch, .ref o1_worth, .ref o1_state, .ref o1_done, .int v_o1_size])), (o1_strake, .inl (cI, 12, .inl f_o1_strake)), (h_strake, .inl (cI, 12, .inl (k_cpy 12 f_o1_strake f_h_strake))), (o1_side, .inl (cI, 12, .inl f_o1_side)), (h_side, .inl (cI, 12, .inl f_h_side)), (o1_hands, .inl (cI, 12, .inl f_o1_hands)), (h_hands, .inl (cI, 12, .inl f_h_hands)), (o1_hours, .inl (cI, 12, .inl f_o1_hours)), (h_hours, .inl (cI, 12, .inl f_h_hours)), (o1_pitch, .inl (cI, 12, .inl f_o1_pitch)), (h_pitch, .inl (cI, 12, .inl f_h_pitch)), (o1_worth, .inl (cI, 12, .inl f_o1_worth)), (h_worth, .inl (cI, 12, .inl f_h_worth)), (o1_state, .inl (cI, 12, .inl f_o1_state)), (h_state, .inl (cI, 12, .inl f_h_state)), (o1_done, .inl (cI, 12, .inl f_o1_done)), (h_done, .inl (cI, 12, .inl f_h_done))]) (nn := 12) (k := 12) hx hb (hml.trans hl.1.symm) hown wl2 wl3 wl4 wl5 hK hP hD hS 2 3 0 rfl rfl rfl (by decide) (by decide) (Nat.le_of_ble_eq_true rfl) (Nat.le_of_ble_eq_true rfl) (Nat.le_of_ble_eq_true rfl) (Nat.le_of_ble_eq_true rfl) rfl dX3_copyFrom_12 (fun H locs hP hD hS => ?_)
  refine lv_aload_n hx hb dX3_copyFrom_15 rfl (lv_at hl 1 rfl) ?_
  refine k_get (C := RX3) (T := TX3) (N := 9) hx hb hts inX3 hown hK hP 1 rfl rfl 1 (by decide) rfl wl6 rfl dX3_copyFrom_16 ?_
  refine lv_iconst (v := 0) hx hb dX3_copyFrom_19 (by decide) ?_
  refine lv_aload_n hx hb dX3_copyFrom_20 rfl (lv_at hl 0 rfl) ?_
  refine k_get (C := RX3) (T := TX3) (N := 9) hx hb hts inX3 hown hK hP 0 rfl rfl 1 (by decide) rfl wl6 rfl dX3_copyFrom_21 ?_
  refine lv_iconst (v := 0) hx hb dX3_copyFrom_24 (by decide) ?_
  refine lv_bipush (v := 12) hx hb dX3_copyFrom_25 (by decide) ?_
  refine k_copyi (ws2 := [(h, .inr (3, [.ref h_strake, .ref h_side, .ref h_hands, .ref h_hours, .ref h_pitch, .ref h_worth, .ref h_state, .ref h_done, .int v_h_size])), (o1, .inr (3, [.ref o1_strake, .ref o1_side, .ref o1_hands, .ref o1_hours, .ref o1_pitch, .ref o1_worth, .ref o1_state, .ref o1_done, .int v_o1_size])), (o1_strake, .inl (cI, 12, .inl f_o1_strake)), (h_strake, .inl (cI, 12, .inl (k_cpy 12 f_o1_strake f_h_strake))), (o1_side, .inl (cI, 12, .inl f_o1_side)), (h_side, .inl (cI, 12, .inl (k_cpy 12 f_o1_side f_h_side))), (o1_hands, .inl (cI, 12, .inl f_o1_hands)), (h_hands, .inl (cI, 12, .inl f_h_hands)), (o1_hours, .inl (cI, 12, .inl f_o1_hours)), (h_hours, .inl (cI, 12, .inl f_h_hours)), (o1_pitch, .inl (cI, 12, .inl f_o1_pitch)), (h_pitch, .inl (cI, 12, .inl f_h_pitch)), (o1_worth, .inl (cI, 12, .inl f_o1_worth)), (h_worth, .inl (cI, 12, .inl f_h_worth)), (o1_state, .inl (cI, 12, .inl f_o1_state)), (h_state, .inl (cI, 12, .inl f_h_state)), (o1_done, .inl (cI, 12, .inl f_o1_done)), (h_done, .inl (cI, 12, .inl f_h_done))]) (nn := 12) (k := 12) hx hb (hml.trans hl.1.symm) hown wl2 wl3 wl4 wl5 hK hP hD hS 4 5 0 rfl rfl rfl (by decide) (by decide) (Nat.le_of_ble_eq_true rfl) (Nat.le_of_ble_eq_true rfl) (Nat.le_of_ble_eq_true rfl) (Nat.le_of_ble_eq_true rfl) rfl dX3_copyFrom_27 (fun H locs hP hD hS => ?_)
  refine lv_aload_n hx hb dX3_copyFrom_30 rfl (lv_at hl 1 rfl) ?_
  refine k_get (C := RX3) (T := TX3) (N := 9) hx hb hts inX3 hown hK hP 1 rfl rfl 2 (by decide) rfl wl7 rfl dX3_copyFrom_31 ?_
  refine lv_iconst (v := 0) hx hb dX3_copyFrom_34 (by decide) ?_
  refine lv_aload_n hx hb dX3_copyFrom_35 rfl (lv_at hl 0 rfl) ?_
  refine k_get (C := RX3) (T := TX3) (N := 9) hx hb hts inX3 hown hK hP 0 rfl rfl 2 (by decide) rfl wl7 rfl dX3_copyFrom_36 ?_
  refine lv_iconst (v := 0) hx hb dX3_copyFrom_39 (by decide) ?_
  refine lv_bipush (v := 12) hx hb dX3_copyFrom_40 (by decide) ?_
  refine k_copyi (ws2 := [(h, .inr (3, [.ref h_strake, .ref h_side, .ref h_hands, .ref h_hours, .ref h_pitch, .ref h_worth, .ref h_state, .ref h_done, .int v_h_size])), (o1, .inr (3, [.ref o1_strake, .ref o1_side, .ref o1_hands, .ref o1_hours, .ref o1_pitch, .ref o1_worth, .ref o1_state, .ref o1_done, .int v_o1_size])), (o1_strake, .inl (cI, 12, .inl f_o1_strake)), (h_strake, .inl (cI, 12, .inl (k_cpy 12 f_o1_strake f_h_strake))), (o1_side, .inl (cI, 12, .inl f_o1_side)), (h_side, .inl (cI, 12, .inl (k_cpy 12 f_o1_side f_h_side))), (o1_hands, .inl (cI, 12, .inl f_o1_hands)), (h_hands, .inl (cI, 12, .inl (k_cpy 12 f_o1_hands f_h_hands))), (o1_hours, .inl (cI, 12, .inl f_o1_hours)), (h_hours, .inl (cI, 12, .inl f_h_hours)), (o1_pitch, .inl (cI, 12, .inl f_o1_pitch)), (h_pitch, .inl (cI, 12, .inl f_h_pitch)), (o1_worth, .inl (cI, 12, .inl f_o1_worth)), (h_worth, .inl (cI, 12, .inl f_h_worth)), (o1_state, .inl (cI, 12, .inl f_o1_state)), (h_state, .inl (cI, 12, .inl f_h_state)), (o1_done, .inl (cI, 12, .inl f_o1_done)), (h_done, .inl (cI, 12, .inl f_h_done))]) (nn := 12) (k := 12) hx hb (hml.trans hl.1.symm) hown wl2 wl3 wl4 wl5 hK hP hD hS 6 7 0 rfl rfl rfl (by decide) (by decide) (Nat.le_of_ble_eq_true rfl) (Nat.le_of_ble_eq_true rfl) (Nat.le_of_ble_eq_true rfl) (Nat.le_of_ble_eq_true rfl) rfl dX3_copyFrom_42 (fun H locs hP hD hS => ?_)
  refine lv_aload_n hx hb dX3_copyFrom_45 rfl (lv_at hl 1 rfl) ?_
  refine k_get (C := RX3) (T := TX3) (N := 9) hx hb hts inX3 hown hK hP 1 rfl rfl 3 (by decide) rfl wl8 rfl dX3_copyFrom_46 ?_
  refine lv_iconst (v := 0) hx hb dX3_copyFrom_49 (by decide) ?_
  refine lv_aload_n hx hb dX3_copyFrom_50 rfl (lv_at hl 0 rfl) ?_
  refine k_get (C := RX3) (T := TX3) (N := 9) hx hb hts inX3 hown hK hP 0 rfl rfl 3 (by decide) rfl wl8 rfl dX3_copyFrom_51 ?_
  refine lv_iconst (v := 0) hx hb dX3_copyFrom_54 (by decide) ?_
  refine lv_bipush (v := 12) hx hb dX3_copyFrom_55 (by decide) ?_
  refine k_copyi (ws2 := [(h, .inr (3, [.ref h_strake, .ref h_side, .ref h_hands, .ref h_hours, .ref h_pitch, .ref h_worth, .ref h_state, .ref h_done, .int v_h_size])), (o1, .inr (3, [.ref o1_strake, .ref o1_side, .ref o1_hands, .ref o1_hours, .ref o1_pitch, .ref o1_worth, .ref o1_state, .ref o1_done, .int v_o1_size])), (o1_strake, .inl (cI, 12, .inl f_o1_strake)), (h_strake, .inl (cI, 12, .inl (k_cpy 12 f_o1_strake f_h_strake))), (o1_side, .inl (cI, 12, .inl f_o1_side)), (h_side, .inl (cI, 12, .inl (k_cpy 12 f_o1_side f_h_side))), (o1_hands, .inl (cI, 12, .inl f_o1_hands)), (h_hands, .inl (cI, 12, .inl (k_cpy 12 f_o1_hands f_h_hands))), (o1_hours, .inl (cI, 12, .inl f_o1_hours)), (h_hours, .inl (cI, 12, .inl (k_cpy 12 f_o1_hours f_h_hours))), (o1_pitch, .inl (cI, 12, .inl f_o1_pitch)), (h_pitch, .inl (cI, 12, .inl f_h_pitch)), (o1_worth, .inl (cI, 12, .inl f_o1_worth)), (h_worth, .inl (cI, 12, .inl f_h_worth)), (o1_state, .inl (cI, 12, .inl f_o1_state)), (h_state, .inl (cI, 12, .inl f_h_state)), (o1_done, .inl (cI, 12, .inl f_o1_done)), (h_done, .inl (cI, 12, .inl f_h_done))]) (nn := 12) (k := 12) hx hb (hml.trans hl.1.symm) hown wl2 wl3 wl4 wl5 hK hP hD hS 8 9 0 rfl rfl rfl (by decide) (by decide) (Nat.le_of_ble_eq_true rfl) (Nat.le_of_ble_eq_true rfl) (Nat.le_of_ble_eq_true rfl) (Nat.le_of_ble_eq_true rfl) rfl dX3_copyFrom_57 (fun H locs hP hD hS => ?_)
  refine lv_aload_n hx hb dX3_copyFrom_60 rfl (lv_at hl 1 rfl) ?_
  refine k_get (C := RX3) (T := TX3) (N := 9) hx hb hts inX3 hown hK hP 1 rfl rfl 4 (by decide) rfl wl9 rfl dX3_copyFrom_61 ?_
  refine lv_iconst (v := 0) hx hb dX3_copyFrom_64 (by decide) ?_
  refine lv_aload_n hx hb dX3_copyFrom_65 rfl (lv_at hl 0 rfl) ?_
  refine k_get (C := RX3) (T := TX3) (N := 9) hx hb hts inX3 hown hK hP 0 rfl rfl 4 (by decide) rfl wl9 rfl dX3_copyFrom_66 ?_
  refine lv_iconst (v := 0) hx hb dX3_copyFrom_69 (by decide) ?_
  refine lv_bipush (v := 12) hx hb dX3_copyFrom_70 (by decide) ?_
  refine k_copyi (ws2 := [(h, .inr (3, [.ref h_strake, .ref h_side, .ref h_hands, .ref h_hours, .ref h_pitch, .ref h_worth, .ref h_state, .ref h_done, .int v_h_size])), (o1, .inr (3, [.ref o1_strake, .ref o1_side, .ref o1_hands, .ref o1_hours, .ref o1_pitch, .ref o1_worth, .ref o1_state, .ref o1_done, .int v_o1_size])), (o1_strake, .inl (cI, 12, .inl f_o1_strake)), (h_strake, .inl (cI, 12, .inl (k_cpy 12 f_o1_strake f_h_strake))), (o1_side, .inl (cI, 12, .inl f_o1_side)), (h_side, .inl (cI, 12, .inl (k_cpy 12 f_o1_side f_h_side))), (o1_hands, .inl (cI, 12, .inl f_o1_hands)), (h_hands, .inl (cI, 12, .inl (k_cpy 12 f_o1_hands f_h_hands))), (o1_hours, .inl (cI, 12, .inl f_o1_hours)), (h_hours, .inl (cI, 12, .inl (k_cpy 12 f_o1_hours f_h_hours))), (o1_pitch, .inl (cI, 12, .inl f_o1_pitch)), (h_pitch, .inl (cI, 12, .inl (k_cpy 12 f_o1_pitch f_h_pitch))), (o1_worth, .inl (cI, 12, .inl f_o1_worth)), (h_worth, .inl (cI, 12, .inl f_h_worth)), (o1_state, .inl (cI, 12, .inl f_o1_state)), (h_state, .inl (cI, 12, .inl f_h_state)), (o1_done, .inl (cI, 12, .inl f_o1_done)), (h_done, .inl (cI, 12, .inl f_h_done))]) (nn := 12) (k := 12) hx hb (hml.trans hl.1.symm) hown wl2 wl3 wl4 wl5 hK hP hD hS 10 11 0 rfl rfl rfl (by decide) (by decide) (Nat.le_of_ble_eq_true rfl) (Nat.le_of_ble_eq_true rfl) (Nat.le_of_ble_eq_true rfl) (Nat.le_of_ble_eq_true rfl) rfl dX3_copyFrom_72 (fun H locs hP hD hS => ?_)
  refine lv_aload_n hx hb dX3_copyFrom_75 rfl (lv_at hl 1 rfl) ?_
  refine k_get (C := RX3) (T := TX3) (N := 9) hx hb hts inX3 hown hK hP 1 rfl rfl 5 (by decide) rfl wl10 rfl dX3_copyFrom_76 ?_
  refine lv_iconst (v := 0) hx hb dX3_copyFrom_79 (by decide) ?_
  refine lv_aload_n hx hb dX3_copyFrom_80 rfl (lv_at hl 0 rfl) ?_
  refine k_get (C := RX3) (T := TX3) (N := 9) hx hb hts inX3 hown hK hP 0 rfl rfl 5 (by decide) rfl wl10 rfl dX3_copyFrom_81 ?_
  refine lv_iconst (v := 0) hx hb dX3_copyFrom_84 (by decide) ?_
  refine lv_bipush (v := 12) hx hb dX3_copyFrom_85 (by decide) ?_
  refine k_copyi (ws2 := [(h, .inr (3, [.ref h_strake, .ref h_side, .ref h_hands, .ref h_hours, .ref h_pitch, .ref h_worth, .ref h_state, .ref h_done, .int v_h_size])), (o1, .inr (3, [.ref o1_strake, .ref o1_side, .ref o1_hands, .ref o1_hours, .ref o1_pitch, .ref o1_worth, .ref o1_state, .ref o1_done, .int v_o1_size])), (o1_strake, .inl (cI, 12, .inl f_o1_strake)), (h_strake, .inl (cI, 12, .inl (k_cpy 12 f_o1_strake f_h_strake))), (o1_side, .inl (cI, 12, .inl f_o1_side)), (h_side, .inl (cI, 12, .inl (k_cpy 12 f_o1_side f_h_side))), (o1_hands, .inl (cI, 12, .inl f_o1_hands)), (h_hands, .inl (cI, 12, .inl (k_cpy 12 f_o1_hands f_h_hands))), (o1_hours, .inl (cI, 12, .inl f_o1_hours)), (h_hours, .inl (cI, 12, .inl (k_cpy 12 f_o1_hours f_h_hours))), (o1_pitch, .inl (cI, 12, .inl f_o1_pitch)), (h_pitch, .inl (cI, 12, .inl (k_cpy 12 f_o1_pitch f_h_pitch))), (o1_worth, .inl (cI, 12, .inl f_o1_worth)), (h_worth, .inl (cI, 12, .inl (k_cpy 12 f_o1_worth f_h_worth))), (o1_state, .inl (cI, 12, .inl f_o1_state)), (h_state, .inl (cI, 12, .inl f_h_state)), (o1_done, .inl (cI, 12, .inl f_o1_done)), (h_done, .inl (cI, 12, .inl f_h_done))]) (nn := 12) (k := 12) hx hb (hml.trans hl.1.symm) hown wl2 wl3 wl4 wl5 hK hP hD hS 12 13 0 rfl rfl rfl (by decide) (by decide) (Nat.le_of_ble_eq_true rfl) (Nat.le_of_ble_eq_true rfl) (Nat.le_of_ble_eq_true rfl) (Nat.le_of_ble_eq_true rfl) rfl dX3_copyFrom_87 (fun H locs hP hD hS => ?_)
  refine lv_aload_n hx hb dX3_copyFrom_90 rfl (lv_at hl 1 rfl) ?_
  refine k_get (C := RX3) (T := TX3) (N := 9) hx hb hts inX3 hown hK hP 1 rfl rfl 6 (by decide) rfl wl11 rfl dX3_copyFrom_91 ?_
  refine lv_iconst (v := 0) hx hb dX3_copyFrom_94 (by decide) ?_
  refine lv_aload_n hx hb dX3_copyFrom_95 rfl (lv_at hl 0 rfl) ?_
  refine k_get (C := RX3) (T := TX3) (N := 9) hx hb hts inX3 hown hK hP 0 rfl rfl 6 (by decide) rfl wl11 rfl dX3_copyFrom_96 ?_
  refine lv_iconst (v := 0) hx hb dX3_copyFrom_99 (by decide) ?_
  refine lv_bipush (v := 12) hx hb dX3_copyFrom_100 (by decide) ?_
  refine k_copyi (ws2 := [(h, .inr (3, [.ref h_strake, .ref h_side, .ref h_hands, .ref h_hours, .ref h_pitch, .ref h_worth, .ref h_state, .ref h_done, .int v_h_size])), (o1, .inr (3, [.ref o1_strake, .ref o1_side, .ref o1_hands, .ref o1_hours, .ref o1_pitch, .ref o1_worth, .ref o1_state, .ref o1_done, .int v_o1_size])), (o1_strake, .inl (cI, 12, .inl f_o1_strake)), (h_strake, .inl (cI, 12, .inl (k_cpy 12 f_o1_strake f_h_strake))), (o1_side, .inl (cI, 12, .inl f_o1_side)), (h_side, .inl (cI, 12, .inl (k_cpy 12 f_o1_side f_h_side))), (o1_hands, .inl (cI, 12, .inl f_o1_hands)), (h_hands, .inl (cI, 12, .inl (k_cpy 12 f_o1_hands f_h_hands))), (o1_hours, .inl (cI, 12, .inl f_o1_hours)), (h_hours, .inl (cI, 12, .inl (k_cpy 12 f_o1_hours f_h_hours))), (o1_pitch, .inl (cI, 12, .inl f_o1_pitch)), (h_pitch, .inl (cI, 12, .inl (k_cpy 12 f_o1_pitch f_h_pitch))), (o1_worth, .inl (cI, 12, .inl f_o1_worth)), (h_worth, .inl (cI, 12, .inl (k_cpy 12 f_o1_worth f_h_worth))), (o1_state, .inl (cI, 12, .inl f_o1_state)), (h_state, .inl (cI, 12, .inl (k_cpy 12 f_o1_state f_h_state))), (o1_done, .inl (cI, 12, .inl f_o1_done)), (h_done, .inl (cI, 12, .inl f_h_done))]) (nn := 12) (k := 12) hx hb (hml.trans hl.1.symm) hown wl2 wl3 wl4 wl5 hK hP hD hS 14 15 0 rfl rfl rfl (by decide) (by decide) (Nat.le_of_ble_eq_true rfl) (Nat.le_of_ble_eq_true rfl) (Nat.le_of_ble_eq_true rfl) (Nat.le_of_ble_eq_true rfl) rfl dX3_copyFrom_102 (fun H locs hP hD hS => ?_)
  refine lv_aload_n hx hb dX3_copyFrom_105 rfl (lv_at hl 1 rfl) ?_
  refine k_get (C := RX3) (T := TX3) (N := 9) hx hb hts inX3 hown hK hP 1 rfl rfl 7 (by decide) rfl wl12 rfl dX3_copyFrom_106 ?_
  refine lv_iconst (v := 0) hx hb dX3_copyFrom_109 (by decide) ?_
  refine lv_aload_n hx hb dX3_copyFrom_110 rfl (lv_at hl 0 rfl) ?_
  refine k_get (C := RX3) (T := TX3) (N := 9) hx hb hts inX3 hown hK hP 0 rfl rfl 7 (by decide) rfl wl12 rfl dX3_copyFrom_111 ?_
  refine lv_iconst (v := 0) hx hb dX3_copyFrom_114 (by decide) ?_
  refine lv_bipush (v := 12) hx hb dX3_copyFrom_115 (by decide) ?_
  refine k_copyi (ws2 := [(h, .inr (3, [.ref h_strake, .ref h_side, .ref h_hands, .ref h_hours, .ref h_pitch, .ref h_worth, .ref h_state, .ref h_done, .int v_h_size])), (o1, .inr (3, [.ref o1_strake, .ref o1_side, .ref o1_hands, .ref o1_hours, .ref o1_pitch, .ref o1_worth, .ref o1_state, .ref o1_done, .int v_o1_size])), (o1_strake, .inl (cI, 12, .inl f_o1_strake)), (h_strake, .inl (cI, 12, .inl (k_cpy 12 f_o1_strake f_h_strake))), (o1_side, .inl (cI, 12, .inl f_o1_side)), (h_side, .inl (cI, 12, .inl (k_cpy 12 f_o1_side f_h_side))), (o1_hands, .inl (cI, 12, .inl f_o1_hands)), (h_hands, .inl (cI, 12, .inl (k_cpy 12 f_o1_hands f_h_hands))), (o1_hours, .inl (cI, 12, .inl f_o1_hours)), (h_hours, .inl (cI, 12, .inl (k_cpy 12 f_o1_hours f_h_hours))), (o1_pitch, .inl (cI, 12, .inl f_o1_pitch)), (h_pitch, .inl (cI, 12, .inl (k_cpy 12 f_o1_pitch f_h_pitch))), (o1_worth, .inl (cI, 12, .inl f_o1_worth)), (h_worth, .inl (cI, 12, .inl (k_cpy 12 f_o1_worth f_h_worth))), (o1_state, .inl (cI, 12, .inl f_o1_state)), (h_state, .inl (cI, 12, .inl (k_cpy 12 f_o1_state f_h_state))), (o1_done, .inl (cI, 12, .inl f_o1_done)), (h_done, .inl (cI, 12, .inl (k_cpy 12 f_o1_done f_h_done)))]) (nn := 12) (k := 12) hx hb (hml.trans hl.1.symm) hown wl2 wl3 wl4 wl5 hK hP hD hS 16 17 0 rfl rfl rfl (by decide) (by decide) (Nat.le_of_ble_eq_true rfl) (Nat.le_of_ble_eq_true rfl) (Nat.le_of_ble_eq_true rfl) (Nat.le_of_ble_eq_true rfl) rfl dX3_copyFrom_117 (fun H locs hP hD hS => ?_)
  refine lv_aload_n hx hb dX3_copyFrom_120 rfl (lv_at hl 0 rfl) ?_
  refine lv_aload_n hx hb dX3_copyFrom_121 rfl (lv_at hl 1 rfl) ?_
  refine k_get (C := RX3) (T := TX3) (N := 9) hx hb hts inX3 hown hK hP 1 rfl rfl 8 (by decide) rfl wl13 rfl dX3_copyFrom_122 ?_
  refine k_putf (ws2 := [(h, .inr (3, [.ref h_strake, .ref h_side, .ref h_hands, .ref h_hours, .ref h_pitch, .ref h_worth, .ref h_state, .ref h_done, .int v_o1_size])), (o1, .inr (3, [.ref o1_strake, .ref o1_side, .ref o1_hands, .ref o1_hours, .ref o1_pitch, .ref o1_worth, .ref o1_state, .ref o1_done, .int v_o1_size])), (o1_strake, .inl (cI, 12, .inl f_o1_strake)), (h_strake, .inl (cI, 12, .inl (k_cpy 12 f_o1_strake f_h_strake))), (o1_side, .inl (cI, 12, .inl f_o1_side)), (h_side, .inl (cI, 12, .inl (k_cpy 12 f_o1_side f_h_side))), (o1_hands, .inl (cI, 12, .inl f_o1_hands)), (h_hands, .inl (cI, 12, .inl (k_cpy 12 f_o1_hands f_h_hands))), (o1_hours, .inl (cI, 12, .inl f_o1_hours)), (h_hours, .inl (cI, 12, .inl (k_cpy 12 f_o1_hours f_h_hours))), (o1_pitch, .inl (cI, 12, .inl f_o1_pitch)), (h_pitch, .inl (cI, 12, .inl (k_cpy 12 f_o1_pitch f_h_pitch))), (o1_worth, .inl (cI, 12, .inl f_o1_worth)), (h_worth, .inl (cI, 12, .inl (k_cpy 12 f_o1_worth f_h_worth))), (o1_state, .inl (cI, 12, .inl f_o1_state)), (h_state, .inl (cI, 12, .inl (k_cpy 12 f_o1_state f_h_state))), (o1_done, .inl (cI, 12, .inl f_o1_done)), (h_done, .inl (cI, 12, .inl (k_cpy 12 f_o1_done f_h_done)))]) (C := RX3) (T := TX3) (N := 9) hx hb hts inX3 tyX3 tyX3_ok nmX3 hown hK hP hD hS 0 rfl rfl 8 (by decide) rfl wl13 rfl rfl rfl (Nat.le_of_ble_eq_true rfl) rfl dX3_copyFrom_125 (fun H locs hP hD hS => ?_)
  exact hRet _ _ _ _ _ _ _ _ _ hf _ _ _ _ hP hD hS dX3_copyFrom_128

def p_X6_copyFrom (v_o1_whole : Int32) (v_o1_size : Int32) (f_o1_mast : Nat → Int32) (f_h_mast : Nat → Int32) (f_o1_parts : Nat → Int32) (f_h_parts : Nat → Int32) (f_o1_strength : Nat → Int32) (f_h_strength : Nat → Int32) : Option (Int32 × Int32 × (Nat → Int32) × (Nat → Int32) × (Nat → Int32)) :=
  some (v_o1_whole, v_o1_size, k_cpy 6 f_o1_mast f_h_mast, k_cpy 6 f_o1_parts f_h_parts, k_cpy 6 f_o1_strength f_h_strength)
abbrev rm_X6_copyFrom : Room := { frames := 1, cells := 0, slots := 0, locals := 32 }
theorem hdS_X6_copyFrom : yX6_copyFrom.cls ≠ "java/lang/invoke/MethodHandle" ∧ yX6_copyFrom.cls ≠ "java/lang/invoke/VarHandle" ∧ (parseMethodDescriptor yX6_copyFrom.desc).map (fun d => d.parameters.length) = some 1 := by decide +kernel
theorem hdV_X6_copyFrom : yX6_copyFrom.cls = RX6 ∧ yX6_copyFrom.cls ≠ "java/lang/invoke/MethodHandle" ∧ yX6_copyFrom.cls ≠ "java/lang/invoke/VarHandle" ∧ (parseMethodDescriptor yX6_copyFrom.desc).map (fun d => d.parameters.length) = some 1 := by decide +kernel
set_option maxHeartbeats 4000000 in
set_option maxRecDepth 100000 in
theorem c_X6_copyFrom (l : Launch) (D : va_G) (cI cZ cJ cS : ClassId) (h h_mast h_parts h_strength o1 o1_mast o1_parts o1_strength : Nat) (v_h_whole : Int32) (v_h_size : Int32) (v_o1_whole : Int32) (v_o1_size : Int32) (f_o1_mast : Nat → Int32) (f_h_mast : Nat → Int32) (f_o1_parts : Nat → Int32) (f_h_parts : Nat → Int32) (f_o1_strength : Nat → Int32) (f_h_strength : Nat → Int32) (v_h_whole' : Int32) (v_h_size' : Int32) (f_h_mast' : Nat → Int32) (f_h_parts' : Nat → Int32) (f_h_strength' : Nat → Int32) (hf : p_X6_copyFrom v_o1_whole v_o1_size f_o1_mast f_h_mast f_o1_parts f_h_parts f_o1_strength f_h_strength = some (v_h_whole', v_h_size', f_h_mast', f_h_parts', f_h_strength')) : k_MV l yX6_copyFrom wsX6_copyFrom rm_X6_copyFrom D (k_tys cI cZ cJ cS) [.ref h, .ref o1] [(h, .inr (6, [.ref h_mast, .ref h_parts, .ref h_strength, .int v_h_whole, .int v_h_size])), (o1, .inr (6, [.ref o1_mast, .ref o1_parts, .ref o1_strength, .int v_o1_whole, .int v_o1_size])), (o1_mast, .inl (cI, 6, .inl f_o1_mast)), (h_mast, .inl (cI, 6, .inl f_h_mast)), (o1_parts, .inl (cI, 6, .inl f_o1_parts)), (h_parts, .inl (cI, 6, .inl f_h_parts)), (o1_strength, .inl (cI, 6, .inl f_o1_strength)), (h_strength, .inl (cI, 6, .inl f_h_strength))] [(h, .inr (6, [.ref h_mast, .ref h_parts, .ref h_strength, .int v_h_whole', .int v_h_size'])), (o1, .inr (6, [.ref o1_mast, .ref o1_parts, .ref o1_strength, .int v_o1_whole, .int v_o1_size])), (o1_mast, .inl (cI, 6, .inl f_o1_mast)), (h_mast, .inl (cI, 6, .inl f_h_mast')), (o1_parts, .inl (cI, 6, .inl f_o1_parts)), (h_parts, .inl (cI, 6, .inl f_h_parts')), (o1_strength, .inl (cI, 6, .inl f_o1_strength)), (h_strength, .inl (cI, 6, .inl f_h_strength'))] := by
  refine k_enter (y := yX6_copyFrom) (wl := wsX6_copyFrom) (cc := cX6_copyFrom) (maxL := 2) (ret := none) (Qc := fun A => k_Qv D (k_tys cI cZ cJ cS) [(h, .inr (6, [.ref h_mast, .ref h_parts, .ref h_strength, .int v_h_whole', .int v_h_size'])), (o1, .inr (6, [.ref o1_mast, .ref o1_parts, .ref o1_strength, .int v_o1_whole, .int v_o1_size])), (o1_mast, .inl (cI, 6, .inl f_o1_mast)), (h_mast, .inl (cI, 6, .inl f_h_mast')), (o1_parts, .inl (cI, 6, .inl f_o1_parts)), (h_parts, .inl (cI, 6, .inl f_h_parts')), (o1_strength, .inl (cI, 6, .inl f_o1_strength)), (h_strength, .inl (cI, 6, .inl f_h_strength'))] A) (by decide) rfl (Nat.le_of_ble_eq_true rfl) [(0, .ref h), (1, .ref o1)] rfl ?_
  intro p e s m below meth c A hx hb hml hr hlocks hnm hown hK hP hD hA hS hN ls args Q hts hl hQ
  replace hown : s.vm.findClass RX6 = some m.cls := hown
  have inX6 : ∀ w ∈ u_ws RX6 TX6 5, w ∈ wsX6_copyFrom := fun w h => List.mem_cons_of_mem _ (List.mem_append_right _ h)
  have wl1 : (Cond.fieldLink RX6 9 "BeachedShip$Tackles" "mast" "[I").before args s = true := hts _ (List.mem_of_getElem? (i := 1) rfl)
  have wl2 : (Cond.methodLink RX6 61 arraycopyName).before args s = true := hts _ (List.mem_of_getElem? (i := 2) rfl)
  have wl3 : (Cond.native arraycopyName).before args s = true := hts _ (List.mem_of_getElem? (i := 3) rfl)
  have wl4 : (Cond.static arraycopyName).before args s = true := hts _ (List.mem_of_getElem? (i := 4) rfl)
  have wl5 : (Cond.initialized "java/lang/System").before args s = true := hts _ (List.mem_of_getElem? (i := 5) rfl)
  have wl6 : (Cond.fieldLink RX6 15 "BeachedShip$Tackles" "parts" "[I").before args s = true := hts _ (List.mem_of_getElem? (i := 6) rfl)
  have wl7 : (Cond.fieldLink RX6 18 "BeachedShip$Tackles" "strength" "[I").before args s = true := hts _ (List.mem_of_getElem? (i := 7) rfl)
  have wl8 : (Cond.fieldLink RX6 25 "BeachedShip$Tackles" "whole" "I").before args s = true := hts _ (List.mem_of_getElem? (i := 8) rfl)
  have wl9 : (Cond.fieldLink RX6 21 "BeachedShip$Tackles" "size" "I").before args s = true := hts _ (List.mem_of_getElem? (i := 9) rfl)
  have hRet : ∀ (v_h_whole_z : Int32) (v_h_size_z : Int32) (f_h_mast_z : Nat → Int32) (f_h_parts_z : Nat → Int32) (f_h_strength_z : Nat → Int32), some (v_h_whole_z, v_h_size_z, f_h_mast_z, f_h_parts_z, f_h_strength_z) = some (v_h_whole', v_h_size', f_h_mast', f_h_parts', f_h_strength') → ∀ (H : Heap) (locs : List Loc) (ls : Array Slot) (pc : Nat), va_P D vwCl [(h, .inr (6, [.ref h_mast, .ref h_parts, .ref h_strength, .int v_h_whole_z, .int v_h_size_z])), (o1, .inr (6, [.ref o1_mast, .ref o1_parts, .ref o1_strength, .int v_o1_whole, .int v_o1_size])), (o1_mast, .inl (cI, 6, .inl f_o1_mast)), (h_mast, .inl (cI, 6, .inl f_h_mast_z)), (o1_parts, .inl (cI, 6, .inl f_o1_parts)), (h_parts, .inl (cI, 6, .inl f_h_parts_z)), (o1_strength, .inl (cI, 6, .inl f_o1_strength)), (h_strength, .inl (cI, 6, .inl f_h_strength_z))] H → va_D A [(h, .inr (6, [.ref h_mast, .ref h_parts, .ref h_strength, .int v_h_whole_z, .int v_h_size_z])), (o1, .inr (6, [.ref o1_mast, .ref o1_parts, .ref o1_strength, .int v_o1_whole, .int v_o1_size])), (o1_mast, .inl (cI, 6, .inl f_o1_mast)), (h_mast, .inl (cI, 6, .inl f_h_mast_z)), (o1_parts, .inl (cI, 6, .inl f_o1_parts)), (h_parts, .inl (cI, 6, .inl f_h_parts_z)), (o1_strength, .inl (cI, 6, .inl f_o1_strength)), (h_strength, .inl (cI, 6, .inl f_h_strength_z))] → va_S A s.heap H locs → decode cX6_copyFrom pc = .ok (.return_, 1) → W p l e rm_X6_copyFrom s m args below meth c H locs 0 0 Q (F0 m pc ls []) := by
    intro v_h_whole_z v_h_size_z f_h_mast_z f_h_parts_z f_h_strength_z hz H locs ls pc hP hD hS hd
    cases hz
    exact k_vret hx hb hr hlocks hK hP hD hS hQ hd
  unfold p_X6_copyFrom at hf
  refine lv_aload_n hx hb dX6_copyFrom_0 rfl (lv_at hl 1 rfl) ?_
  refine k_get (C := RX6) (T := TX6) (N := 5) hx hb hts inX6 hown hK hP 1 rfl rfl 0 (by decide) rfl wl1 rfl dX6_copyFrom_1 ?_
  refine lv_iconst (v := 0) hx hb dX6_copyFrom_4 (by decide) ?_
  refine lv_aload_n hx hb dX6_copyFrom_5 rfl (lv_at hl 0 rfl) ?_
  refine k_get (C := RX6) (T := TX6) (N := 5) hx hb hts inX6 hown hK hP 0 rfl rfl 0 (by decide) rfl wl1 rfl dX6_copyFrom_6 ?_
  refine lv_iconst (v := 0) hx hb dX6_copyFrom_9 (by decide) ?_
  refine lv_bipush (v := 6) hx hb dX6_copyFrom_10 (by decide) ?_
  refine k_copyi (ws2 := [(h, .inr (6, [.ref h_mast, .ref h_parts, .ref h_strength, .int v_h_whole, .int v_h_size])), (o1, .inr (6, [.ref o1_mast, .ref o1_parts, .ref o1_strength, .int v_o1_whole, .int v_o1_size])), (o1_mast, .inl (cI, 6, .inl f_o1_mast)), (h_mast, .inl (cI, 6, .inl (k_cpy 6 f_o1_mast f_h_mast))), (o1_parts, .inl (cI, 6, .inl f_o1_parts)), (h_parts, .inl (cI, 6, .inl f_h_parts)), (o1_strength, .inl (cI, 6, .inl f_o1_strength)), (h_strength, .inl (cI, 6, .inl f_h_strength))]) (nn := 6) (k := 6) hx hb (hml.trans hl.1.symm) hown wl2 wl3 wl4 wl5 hK hP hD hS 2 3 0 rfl rfl rfl (by decide) (by decide) (Nat.le_of_ble_eq_true rfl) (Nat.le_of_ble_eq_true rfl) (Nat.le_of_ble_eq_true rfl) (Nat.le_of_ble_eq_true rfl) rfl dX6_copyFrom_12 (fun H locs hP hD hS => ?_)
  refine lv_aload_n hx hb dX6_copyFrom_15 rfl (lv_at hl 1 rfl) ?_
  refine k_get (C := RX6) (T := TX6) (N := 5) hx hb hts inX6 hown hK hP 1 rfl rfl 1 (by decide) rfl wl6 rfl dX6_copyFrom_16 ?_
  refine lv_iconst (v := 0) hx hb dX6_copyFrom_19 (by decide) ?_
  refine lv_aload_n hx hb dX6_copyFrom_20 rfl (lv_at hl 0 rfl) ?_
  refine k_get (C := RX6) (T := TX6) (N := 5) hx hb hts inX6 hown hK hP 0 rfl rfl 1 (by decide) rfl wl6 rfl dX6_copyFrom_21 ?_
  refine lv_iconst (v := 0) hx hb dX6_copyFrom_24 (by decide) ?_
  refine lv_bipush (v := 6) hx hb dX6_copyFrom_25 (by decide) ?_
  refine k_copyi (ws2 := [(h, .inr (6, [.ref h_mast, .ref h_parts, .ref h_strength, .int v_h_whole, .int v_h_size])), (o1, .inr (6, [.ref o1_mast, .ref o1_parts, .ref o1_strength, .int v_o1_whole, .int v_o1_size])), (o1_mast, .inl (cI, 6, .inl f_o1_mast)), (h_mast, .inl (cI, 6, .inl (k_cpy 6 f_o1_mast f_h_mast))), (o1_parts, .inl (cI, 6, .inl f_o1_parts)), (h_parts, .inl (cI, 6, .inl (k_cpy 6 f_o1_parts f_h_parts))), (o1_strength, .inl (cI, 6, .inl f_o1_strength)), (h_strength, .inl (cI, 6, .inl f_h_strength))]) (nn := 6) (k := 6) hx hb (hml.trans hl.1.symm) hown wl2 wl3 wl4 wl5 hK hP hD hS 4 5 0 rfl rfl rfl (by decide) (by decide) (Nat.le_of_ble_eq_true rfl) (Nat.le_of_ble_eq_true rfl) (Nat.le_of_ble_eq_true rfl) (Nat.le_of_ble_eq_true rfl) rfl dX6_copyFrom_27 (fun H locs hP hD hS => ?_)
  refine lv_aload_n hx hb dX6_copyFrom_30 rfl (lv_at hl 1 rfl) ?_
  refine k_get (C := RX6) (T := TX6) (N := 5) hx hb hts inX6 hown hK hP 1 rfl rfl 2 (by decide) rfl wl7 rfl dX6_copyFrom_31 ?_
  refine lv_iconst (v := 0) hx hb dX6_copyFrom_34 (by decide) ?_
  refine lv_aload_n hx hb dX6_copyFrom_35 rfl (lv_at hl 0 rfl) ?_
  refine k_get (C := RX6) (T := TX6) (N := 5) hx hb hts inX6 hown hK hP 0 rfl rfl 2 (by decide) rfl wl7 rfl dX6_copyFrom_36 ?_
  refine lv_iconst (v := 0) hx hb dX6_copyFrom_39 (by decide) ?_
  refine lv_bipush (v := 6) hx hb dX6_copyFrom_40 (by decide) ?_
  refine k_copyi (ws2 := [(h, .inr (6, [.ref h_mast, .ref h_parts, .ref h_strength, .int v_h_whole, .int v_h_size])), (o1, .inr (6, [.ref o1_mast, .ref o1_parts, .ref o1_strength, .int v_o1_whole, .int v_o1_size])), (o1_mast, .inl (cI, 6, .inl f_o1_mast)), (h_mast, .inl (cI, 6, .inl (k_cpy 6 f_o1_mast f_h_mast))), (o1_parts, .inl (cI, 6, .inl f_o1_parts)), (h_parts, .inl (cI, 6, .inl (k_cpy 6 f_o1_parts f_h_parts))), (o1_strength, .inl (cI, 6, .inl f_o1_strength)), (h_strength, .inl (cI, 6, .inl (k_cpy 6 f_o1_strength f_h_strength)))]) (nn := 6) (k := 6) hx hb (hml.trans hl.1.symm) hown wl2 wl3 wl4 wl5 hK hP hD hS 6 7 0 rfl rfl rfl (by decide) (by decide) (Nat.le_of_ble_eq_true rfl) (Nat.le_of_ble_eq_true rfl) (Nat.le_of_ble_eq_true rfl) (Nat.le_of_ble_eq_true rfl) rfl dX6_copyFrom_42 (fun H locs hP hD hS => ?_)
  refine lv_aload_n hx hb dX6_copyFrom_45 rfl (lv_at hl 0 rfl) ?_
  refine lv_aload_n hx hb dX6_copyFrom_46 rfl (lv_at hl 1 rfl) ?_
  refine k_get (C := RX6) (T := TX6) (N := 5) hx hb hts inX6 hown hK hP 1 rfl rfl 3 (by decide) rfl wl8 rfl dX6_copyFrom_47 ?_
  refine k_putf (ws2 := [(h, .inr (6, [.ref h_mast, .ref h_parts, .ref h_strength, .int v_o1_whole, .int v_h_size])), (o1, .inr (6, [.ref o1_mast, .ref o1_parts, .ref o1_strength, .int v_o1_whole, .int v_o1_size])), (o1_mast, .inl (cI, 6, .inl f_o1_mast)), (h_mast, .inl (cI, 6, .inl (k_cpy 6 f_o1_mast f_h_mast))), (o1_parts, .inl (cI, 6, .inl f_o1_parts)), (h_parts, .inl (cI, 6, .inl (k_cpy 6 f_o1_parts f_h_parts))), (o1_strength, .inl (cI, 6, .inl f_o1_strength)), (h_strength, .inl (cI, 6, .inl (k_cpy 6 f_o1_strength f_h_strength)))]) (C := RX6) (T := TX6) (N := 5) hx hb hts inX6 tyX6 tyX6_ok nmX6 hown hK hP hD hS 0 rfl rfl 3 (by decide) rfl wl8 rfl rfl rfl (Nat.le_of_ble_eq_true rfl) rfl dX6_copyFrom_50 (fun H locs hP hD hS => ?_)
  refine lv_aload_n hx hb dX6_copyFrom_53 rfl (lv_at hl 0 rfl) ?_
  refine lv_aload_n hx hb dX6_copyFrom_54 rfl (lv_at hl 1 rfl) ?_
  refine k_get (C := RX6) (T := TX6) (N := 5) hx hb hts inX6 hown hK hP 1 rfl rfl 4 (by decide) rfl wl9 rfl dX6_copyFrom_55 ?_
  refine k_putf (ws2 := [(h, .inr (6, [.ref h_mast, .ref h_parts, .ref h_strength, .int v_o1_whole, .int v_o1_size])), (o1, .inr (6, [.ref o1_mast, .ref o1_parts, .ref o1_strength, .int v_o1_whole, .int v_o1_size])), (o1_mast, .inl (cI, 6, .inl f_o1_mast)), (h_mast, .inl (cI, 6, .inl (k_cpy 6 f_o1_mast f_h_mast))), (o1_parts, .inl (cI, 6, .inl f_o1_parts)), (h_parts, .inl (cI, 6, .inl (k_cpy 6 f_o1_parts f_h_parts))), (o1_strength, .inl (cI, 6, .inl f_o1_strength)), (h_strength, .inl (cI, 6, .inl (k_cpy 6 f_o1_strength f_h_strength)))]) (C := RX6) (T := TX6) (N := 5) hx hb hts inX6 tyX6 tyX6_ok nmX6 hown hK hP hD hS 0 rfl rfl 4 (by decide) rfl wl9 rfl rfl rfl (Nat.le_of_ble_eq_true rfl) rfl dX6_copyFrom_58 (fun H locs hP hD hS => ?_)
  exact hRet _ _ _ _ _ hf _ _ _ _ hP hD hS dX6_copyFrom_61

def p_X7_copyFrom (v_o1_out : Int32) (v_o1_size : Int32) (f_o1_weight : Nat → Int32) (f_h_weight : Nat → Int32) (f_o1_under : Nat → Int32) (f_h_under : Nat → Int32) : Option (Int32 × Int32 × (Nat → Int32) × (Nat → Int32)) :=
  some (v_o1_out, v_o1_size, k_cpy 12 f_o1_weight f_h_weight, k_cpy 12 f_o1_under f_h_under)
abbrev rm_X7_copyFrom : Room := { frames := 1, cells := 0, slots := 0, locals := 32 }
theorem hdS_X7_copyFrom : yX7_copyFrom.cls ≠ "java/lang/invoke/MethodHandle" ∧ yX7_copyFrom.cls ≠ "java/lang/invoke/VarHandle" ∧ (parseMethodDescriptor yX7_copyFrom.desc).map (fun d => d.parameters.length) = some 1 := by decide +kernel
theorem hdV_X7_copyFrom : yX7_copyFrom.cls = RX7 ∧ yX7_copyFrom.cls ≠ "java/lang/invoke/MethodHandle" ∧ yX7_copyFrom.cls ≠ "java/lang/invoke/VarHandle" ∧ (parseMethodDescriptor yX7_copyFrom.desc).map (fun d => d.parameters.length) = some 1 := by decide +kernel
set_option maxHeartbeats 4000000 in
set_option maxRecDepth 100000 in
theorem c_X7_copyFrom (l : Launch) (D : va_G) (cI cZ cJ cS : ClassId) (h h_weight h_under o1 o1_weight o1_under : Nat) (v_h_out : Int32) (v_h_size : Int32) (v_o1_out : Int32) (v_o1_size : Int32) (f_o1_weight : Nat → Int32) (f_h_weight : Nat → Int32) (f_o1_under : Nat → Int32) (f_h_under : Nat → Int32) (v_h_out' : Int32) (v_h_size' : Int32) (f_h_weight' : Nat → Int32) (f_h_under' : Nat → Int32) (hf : p_X7_copyFrom v_o1_out v_o1_size f_o1_weight f_h_weight f_o1_under f_h_under = some (v_h_out', v_h_size', f_h_weight', f_h_under')) : k_MV l yX7_copyFrom wsX7_copyFrom rm_X7_copyFrom D (k_tys cI cZ cJ cS) [.ref h, .ref o1] [(h, .inr (7, [.ref h_weight, .ref h_under, .int v_h_out, .int v_h_size])), (o1, .inr (7, [.ref o1_weight, .ref o1_under, .int v_o1_out, .int v_o1_size])), (o1_weight, .inl (cI, 12, .inl f_o1_weight)), (h_weight, .inl (cI, 12, .inl f_h_weight)), (o1_under, .inl (cI, 12, .inl f_o1_under)), (h_under, .inl (cI, 12, .inl f_h_under))] [(h, .inr (7, [.ref h_weight, .ref h_under, .int v_h_out', .int v_h_size'])), (o1, .inr (7, [.ref o1_weight, .ref o1_under, .int v_o1_out, .int v_o1_size])), (o1_weight, .inl (cI, 12, .inl f_o1_weight)), (h_weight, .inl (cI, 12, .inl f_h_weight')), (o1_under, .inl (cI, 12, .inl f_o1_under)), (h_under, .inl (cI, 12, .inl f_h_under'))] := by
  refine k_enter (y := yX7_copyFrom) (wl := wsX7_copyFrom) (cc := cX7_copyFrom) (maxL := 2) (ret := none) (Qc := fun A => k_Qv D (k_tys cI cZ cJ cS) [(h, .inr (7, [.ref h_weight, .ref h_under, .int v_h_out', .int v_h_size'])), (o1, .inr (7, [.ref o1_weight, .ref o1_under, .int v_o1_out, .int v_o1_size])), (o1_weight, .inl (cI, 12, .inl f_o1_weight)), (h_weight, .inl (cI, 12, .inl f_h_weight')), (o1_under, .inl (cI, 12, .inl f_o1_under)), (h_under, .inl (cI, 12, .inl f_h_under'))] A) (by decide) rfl (Nat.le_of_ble_eq_true rfl) [(0, .ref h), (1, .ref o1)] rfl ?_
  intro p e s m below meth c A hx hb hml hr hlocks hnm hown hK hP hD hA hS hN ls args Q hts hl hQ
  replace hown : s.vm.findClass RX7 = some m.cls := hown
  have inX7 : ∀ w ∈ u_ws RX7 TX7 4, w ∈ wsX7_copyFrom := fun w h => List.mem_cons_of_mem _ (List.mem_append_right _ h)
  have wl1 : (Cond.fieldLink RX7 9 "BeachedShip$Things" "weight" "[I").before args s = true := hts _ (List.mem_of_getElem? (i := 1) rfl)
  have wl2 : (Cond.methodLink RX7 36 arraycopyName).before args s = true := hts _ (List.mem_of_getElem? (i := 2) rfl)
  have wl3 : (Cond.native arraycopyName).before args s = true := hts _ (List.mem_of_getElem? (i := 3) rfl)
  have wl4 : (Cond.static arraycopyName).before args s = true := hts _ (List.mem_of_getElem? (i := 4) rfl)
  have wl5 : (Cond.initialized "java/lang/System").before args s = true := hts _ (List.mem_of_getElem? (i := 5) rfl)
  have wl6 : (Cond.fieldLink RX7 15 "BeachedShip$Things" "under" "[I").before args s = true := hts _ (List.mem_of_getElem? (i := 6) rfl)
  have wl7 : (Cond.fieldLink RX7 26 "BeachedShip$Things" "out" "I").before args s = true := hts _ (List.mem_of_getElem? (i := 7) rfl)
  have wl8 : (Cond.fieldLink RX7 18 "BeachedShip$Things" "size" "I").before args s = true := hts _ (List.mem_of_getElem? (i := 8) rfl)
  have hRet : ∀ (v_h_out_z : Int32) (v_h_size_z : Int32) (f_h_weight_z : Nat → Int32) (f_h_under_z : Nat → Int32), some (v_h_out_z, v_h_size_z, f_h_weight_z, f_h_under_z) = some (v_h_out', v_h_size', f_h_weight', f_h_under') → ∀ (H : Heap) (locs : List Loc) (ls : Array Slot) (pc : Nat), va_P D vwCl [(h, .inr (7, [.ref h_weight, .ref h_under, .int v_h_out_z, .int v_h_size_z])), (o1, .inr (7, [.ref o1_weight, .ref o1_under, .int v_o1_out, .int v_o1_size])), (o1_weight, .inl (cI, 12, .inl f_o1_weight)), (h_weight, .inl (cI, 12, .inl f_h_weight_z)), (o1_under, .inl (cI, 12, .inl f_o1_under)), (h_under, .inl (cI, 12, .inl f_h_under_z))] H → va_D A [(h, .inr (7, [.ref h_weight, .ref h_under, .int v_h_out_z, .int v_h_size_z])), (o1, .inr (7, [.ref o1_weight, .ref o1_under, .int v_o1_out, .int v_o1_size])), (o1_weight, .inl (cI, 12, .inl f_o1_weight)), (h_weight, .inl (cI, 12, .inl f_h_weight_z)), (o1_under, .inl (cI, 12, .inl f_o1_under)), (h_under, .inl (cI, 12, .inl f_h_under_z))] → va_S A s.heap H locs → decode cX7_copyFrom pc = .ok (.return_, 1) → W p l e rm_X7_copyFrom s m args below meth c H locs 0 0 Q (F0 m pc ls []) := by
    intro v_h_out_z v_h_size_z f_h_weight_z f_h_under_z hz H locs ls pc hP hD hS hd
    cases hz
    exact k_vret hx hb hr hlocks hK hP hD hS hQ hd
  unfold p_X7_copyFrom at hf
  refine lv_aload_n hx hb dX7_copyFrom_0 rfl (lv_at hl 1 rfl) ?_
  refine k_get (C := RX7) (T := TX7) (N := 4) hx hb hts inX7 hown hK hP 1 rfl rfl 0 (by decide) rfl wl1 rfl dX7_copyFrom_1 ?_
  refine lv_iconst (v := 0) hx hb dX7_copyFrom_4 (by decide) ?_
  refine lv_aload_n hx hb dX7_copyFrom_5 rfl (lv_at hl 0 rfl) ?_
  refine k_get (C := RX7) (T := TX7) (N := 4) hx hb hts inX7 hown hK hP 0 rfl rfl 0 (by decide) rfl wl1 rfl dX7_copyFrom_6 ?_
  refine lv_iconst (v := 0) hx hb dX7_copyFrom_9 (by decide) ?_
  refine lv_bipush (v := 12) hx hb dX7_copyFrom_10 (by decide) ?_
  refine k_copyi (ws2 := [(h, .inr (7, [.ref h_weight, .ref h_under, .int v_h_out, .int v_h_size])), (o1, .inr (7, [.ref o1_weight, .ref o1_under, .int v_o1_out, .int v_o1_size])), (o1_weight, .inl (cI, 12, .inl f_o1_weight)), (h_weight, .inl (cI, 12, .inl (k_cpy 12 f_o1_weight f_h_weight))), (o1_under, .inl (cI, 12, .inl f_o1_under)), (h_under, .inl (cI, 12, .inl f_h_under))]) (nn := 12) (k := 12) hx hb (hml.trans hl.1.symm) hown wl2 wl3 wl4 wl5 hK hP hD hS 2 3 0 rfl rfl rfl (by decide) (by decide) (Nat.le_of_ble_eq_true rfl) (Nat.le_of_ble_eq_true rfl) (Nat.le_of_ble_eq_true rfl) (Nat.le_of_ble_eq_true rfl) rfl dX7_copyFrom_12 (fun H locs hP hD hS => ?_)
  refine lv_aload_n hx hb dX7_copyFrom_15 rfl (lv_at hl 1 rfl) ?_
  refine k_get (C := RX7) (T := TX7) (N := 4) hx hb hts inX7 hown hK hP 1 rfl rfl 1 (by decide) rfl wl6 rfl dX7_copyFrom_16 ?_
  refine lv_iconst (v := 0) hx hb dX7_copyFrom_19 (by decide) ?_
  refine lv_aload_n hx hb dX7_copyFrom_20 rfl (lv_at hl 0 rfl) ?_
  refine k_get (C := RX7) (T := TX7) (N := 4) hx hb hts inX7 hown hK hP 0 rfl rfl 1 (by decide) rfl wl6 rfl dX7_copyFrom_21 ?_
  refine lv_iconst (v := 0) hx hb dX7_copyFrom_24 (by decide) ?_
  refine lv_bipush (v := 12) hx hb dX7_copyFrom_25 (by decide) ?_
  refine k_copyi (ws2 := [(h, .inr (7, [.ref h_weight, .ref h_under, .int v_h_out, .int v_h_size])), (o1, .inr (7, [.ref o1_weight, .ref o1_under, .int v_o1_out, .int v_o1_size])), (o1_weight, .inl (cI, 12, .inl f_o1_weight)), (h_weight, .inl (cI, 12, .inl (k_cpy 12 f_o1_weight f_h_weight))), (o1_under, .inl (cI, 12, .inl f_o1_under)), (h_under, .inl (cI, 12, .inl (k_cpy 12 f_o1_under f_h_under)))]) (nn := 12) (k := 12) hx hb (hml.trans hl.1.symm) hown wl2 wl3 wl4 wl5 hK hP hD hS 4 5 0 rfl rfl rfl (by decide) (by decide) (Nat.le_of_ble_eq_true rfl) (Nat.le_of_ble_eq_true rfl) (Nat.le_of_ble_eq_true rfl) (Nat.le_of_ble_eq_true rfl) rfl dX7_copyFrom_27 (fun H locs hP hD hS => ?_)
  refine lv_aload_n hx hb dX7_copyFrom_30 rfl (lv_at hl 0 rfl) ?_
  refine lv_aload_n hx hb dX7_copyFrom_31 rfl (lv_at hl 1 rfl) ?_
  refine k_get (C := RX7) (T := TX7) (N := 4) hx hb hts inX7 hown hK hP 1 rfl rfl 2 (by decide) rfl wl7 rfl dX7_copyFrom_32 ?_
  refine k_putf (ws2 := [(h, .inr (7, [.ref h_weight, .ref h_under, .int v_o1_out, .int v_h_size])), (o1, .inr (7, [.ref o1_weight, .ref o1_under, .int v_o1_out, .int v_o1_size])), (o1_weight, .inl (cI, 12, .inl f_o1_weight)), (h_weight, .inl (cI, 12, .inl (k_cpy 12 f_o1_weight f_h_weight))), (o1_under, .inl (cI, 12, .inl f_o1_under)), (h_under, .inl (cI, 12, .inl (k_cpy 12 f_o1_under f_h_under)))]) (C := RX7) (T := TX7) (N := 4) hx hb hts inX7 tyX7 tyX7_ok nmX7 hown hK hP hD hS 0 rfl rfl 2 (by decide) rfl wl7 rfl rfl rfl (Nat.le_of_ble_eq_true rfl) rfl dX7_copyFrom_35 (fun H locs hP hD hS => ?_)
  refine lv_aload_n hx hb dX7_copyFrom_38 rfl (lv_at hl 0 rfl) ?_
  refine lv_aload_n hx hb dX7_copyFrom_39 rfl (lv_at hl 1 rfl) ?_
  refine k_get (C := RX7) (T := TX7) (N := 4) hx hb hts inX7 hown hK hP 1 rfl rfl 3 (by decide) rfl wl8 rfl dX7_copyFrom_40 ?_
  refine k_putf (ws2 := [(h, .inr (7, [.ref h_weight, .ref h_under, .int v_o1_out, .int v_o1_size])), (o1, .inr (7, [.ref o1_weight, .ref o1_under, .int v_o1_out, .int v_o1_size])), (o1_weight, .inl (cI, 12, .inl f_o1_weight)), (h_weight, .inl (cI, 12, .inl (k_cpy 12 f_o1_weight f_h_weight))), (o1_under, .inl (cI, 12, .inl f_o1_under)), (h_under, .inl (cI, 12, .inl (k_cpy 12 f_o1_under f_h_under)))]) (C := RX7) (T := TX7) (N := 4) hx hb hts inX7 tyX7 tyX7_ok nmX7 hown hK hP hD hS 0 rfl rfl 3 (by decide) rfl wl8 rfl rfl rfl (Nat.le_of_ble_eq_true rfl) rfl dX7_copyFrom_43 (fun H locs hP hD hS => ?_)
  exact hRet _ _ _ _ hf _ _ _ _ hP hD hS dX7_copyFrom_46

def p_X3_isBare (f_h_strake : Nat → Int32) (f_h_side : Nat → Int32) (a1 : Int32) (a2 : Int32) (a3 : Int32) : Option (Int32) :=
  k_ix a1 12 (
    k_ix a1 12 (
      if (f_h_side a1.toNatClampNeg) = 0 then
        if ((4 * (f_h_strake a1.toNatClampNeg)) + (3 * a3)) ≤ a2 then
          some 0
        else
          some 1
      else
        if ((4 * (f_h_strake a1.toNatClampNeg)) + ((-3) * a3)) ≤ a2 then
          some 0
        else
          some 1))
abbrev rm_X3_isBare : Room := { frames := 0, cells := 0, slots := 0, locals := 0 }
theorem hdS_X3_isBare : yX3_isBare.cls ≠ "java/lang/invoke/MethodHandle" ∧ yX3_isBare.cls ≠ "java/lang/invoke/VarHandle" ∧ (parseMethodDescriptor yX3_isBare.desc).map (fun d => d.parameters.length) = some 3 := by decide +kernel
theorem hdV_X3_isBare : yX3_isBare.cls = RX3 ∧ yX3_isBare.cls ≠ "java/lang/invoke/MethodHandle" ∧ yX3_isBare.cls ≠ "java/lang/invoke/VarHandle" ∧ (parseMethodDescriptor yX3_isBare.desc).map (fun d => d.parameters.length) = some 3 := by decide +kernel
set_option maxHeartbeats 4000000 in
set_option maxRecDepth 100000 in
theorem c_X3_isBare (l : Launch) (D : va_G) (cI cZ cJ cS : ClassId) (h h_strake h_side h_hands h_hours h_pitch h_worth h_state h_done : Nat) (v_h_size : Int32) (f_h_strake : Nat → Int32) (f_h_side : Nat → Int32) (a1 : Int32) (a2 : Int32) (a3 : Int32) (r : Int32) (hf : p_X3_isBare f_h_strake f_h_side a1 a2 a3 = some r) : k_MI l yX3_isBare wsX3_isBare rm_X3_isBare D (k_tys cI cZ cJ cS) [.ref h, .int a1, .int a2, .int a3] [(h, .inr (3, [.ref h_strake, .ref h_side, .ref h_hands, .ref h_hours, .ref h_pitch, .ref h_worth, .ref h_state, .ref h_done, .int v_h_size])), (h_strake, .inl (cI, 12, .inl f_h_strake)), (h_side, .inl (cI, 12, .inl f_h_side))] [(h, .inr (3, [.ref h_strake, .ref h_side, .ref h_hands, .ref h_hours, .ref h_pitch, .ref h_worth, .ref h_state, .ref h_done, .int v_h_size])), (h_strake, .inl (cI, 12, .inl f_h_strake)), (h_side, .inl (cI, 12, .inl f_h_side))] r := by
  refine k_enter (y := yX3_isBare) (wl := wsX3_isBare) (cc := cX3_isBare) (maxL := 4) (ret := (some .boolean)) (Qc := fun A => k_Qi D (k_tys cI cZ cJ cS) [(h, .inr (3, [.ref h_strake, .ref h_side, .ref h_hands, .ref h_hours, .ref h_pitch, .ref h_worth, .ref h_state, .ref h_done, .int v_h_size])), (h_strake, .inl (cI, 12, .inl f_h_strake)), (h_side, .inl (cI, 12, .inl f_h_side))] A r) (by decide) rfl (Nat.le_of_ble_eq_true rfl) [(0, .ref h), (1, .int a1), (2, .int a2), (3, .int a3)] rfl ?_
  intro p e s m below meth c A hx hb hml hr hlocks hnm hown hK hP hD hA hS hN ls args Q hts hl hQ
  replace hown : s.vm.findClass RX3 = some m.cls := hown
  have inX3 : ∀ w ∈ u_ws RX3 TX3 9, w ∈ wsX3_isBare := fun w h => List.mem_cons_of_mem _ (List.mem_append_right _ h)
  have wl1 : (Cond.fieldLink RX3 9 "BeachedShip$Seams" "strake" "[I").before args s = true := hts _ (List.mem_of_getElem? (i := 1) rfl)
  have wl2 : (Cond.fieldLink RX3 15 "BeachedShip$Seams" "side" "[I").before args s = true := hts _ (List.mem_of_getElem? (i := 2) rfl)
  have hRet : ∀ (r_z : Int32), some r_z = some r → ∀ (H : Heap) (locs : List Loc) (ls : Array Slot) (pc : Nat), va_P D vwCl [(h, .inr (3, [.ref h_strake, .ref h_side, .ref h_hands, .ref h_hours, .ref h_pitch, .ref h_worth, .ref h_state, .ref h_done, .int v_h_size])), (h_strake, .inl (cI, 12, .inl f_h_strake)), (h_side, .inl (cI, 12, .inl f_h_side))] H → va_D A [(h, .inr (3, [.ref h_strake, .ref h_side, .ref h_hands, .ref h_hours, .ref h_pitch, .ref h_worth, .ref h_state, .ref h_done, .int v_h_size])), (h_strake, .inl (cI, 12, .inl f_h_strake)), (h_side, .inl (cI, 12, .inl f_h_side))] → va_S A s.heap H locs → narrow .boolean (.int r_z) = .int r_z → decode cX3_isBare pc = .ok (.ireturn, 1) → W p l e rm_X3_isBare s m args below meth c H locs 0 0 Q (F0 m pc ls [.int r_z]) := by
    intro r_z hz H locs ls pc hP hD hS hn hd
    cases hz
    exact k_iret hx hb hr hlocks hn hK hP hD hS hQ rfl hd
  unfold p_X3_isBare at hf
  refine lv_iload_n hx hb dX3_isBare_0 rfl (lv_at hl 2 rfl) ?_
  refine lv_iconst (v := 4) hx hb dX3_isBare_1 (by decide) ?_
  refine lv_aload_n hx hb dX3_isBare_2 rfl (lv_at hl 0 rfl) ?_
  refine k_get (C := RX3) (T := TX3) (N := 9) hx hb hts inX3 hown hK hP 0 rfl rfl 0 (by decide) rfl wl1 rfl dX3_isBare_3 ?_
  refine lv_iload_n hx hb dX3_isBare_6 rfl (lv_at hl 1 rfl) ?_
  obtain ⟨hi1, hf⟩ := k_ix_some hf
  refine k_iald (k := a1.toNatClampNeg) hx hb hK hP 1 0 rfl rfl hi1 rfl dX3_isBare_7 ?_
  refine lv_imul hx hb dX3_isBare_8 ?_
  refine lv_aload_n hx hb dX3_isBare_9 rfl (lv_at hl 0 rfl) ?_
  refine k_get (C := RX3) (T := TX3) (N := 9) hx hb hts inX3 hown hK hP 0 rfl rfl 1 (by decide) rfl wl2 rfl dX3_isBare_10 ?_
  refine lv_iload_n hx hb dX3_isBare_13 rfl (lv_at hl 1 rfl) ?_
  obtain ⟨hi2, hf⟩ := k_ix_some hf
  refine k_iald (k := a1.toNatClampNeg) hx hb hK hP 2 0 rfl rfl hi2 rfl dX3_isBare_14 ?_
  refine lv_if_ne (tgt := 24) hx hb dX3_isBare_15 (by decide) (fun c3 => ?_) (fun c3 => ?_)
  · replace hf := k_neg hf c3
    refine lv_bipush (v := (-3)) hx hb dX3_isBare_24 (by decide) ?_
    refine lv_iload_n hx hb dX3_isBare_26 rfl (lv_at hl 3 rfl) ?_
    refine lv_imul hx hb dX3_isBare_27 ?_
    refine lv_iadd hx hb dX3_isBare_28 ?_
    refine lv_icmp_ge (tgt := 36) hx hb dX3_isBare_29 (by decide) (fun c4 => ?_) (fun c4 => ?_)
    · replace hf := k_pos hf c4
      refine lv_iconst (v := 0) hx hb dX3_isBare_36 (by decide) ?_
      exact hRet _ hf _ _ _ _ hP hD hS rfl dX3_isBare_37
    · replace hf := k_neg hf c4
      refine lv_iconst (v := 1) hx hb dX3_isBare_32 (by decide) ?_
      refine lv_goto (tgt := 37) hx hb dX3_isBare_33 (by decide) ?_
      exact hRet _ hf _ _ _ _ hP hD hS rfl dX3_isBare_37
  · replace hf := k_pos hf c3
    refine lv_iconst (v := 3) hx hb dX3_isBare_18 (by decide) ?_
    refine lv_iload_n hx hb dX3_isBare_19 rfl (lv_at hl 3 rfl) ?_
    refine lv_imul hx hb dX3_isBare_20 ?_
    refine lv_goto (tgt := 28) hx hb dX3_isBare_21 (by decide) ?_
    refine lv_iadd hx hb dX3_isBare_28 ?_
    refine lv_icmp_ge (tgt := 36) hx hb dX3_isBare_29 (by decide) (fun c5 => ?_) (fun c5 => ?_)
    · replace hf := k_pos hf c5
      refine lv_iconst (v := 0) hx hb dX3_isBare_36 (by decide) ?_
      exact hRet _ hf _ _ _ _ hP hD hS rfl dX3_isBare_37
    · replace hf := k_neg hf c5
      refine lv_iconst (v := 1) hx hb dX3_isBare_32 (by decide) ?_
      refine lv_goto (tgt := 37) hx hb dX3_isBare_33 (by decide) ?_
      exact hRet _ hf _ _ _ _ hP hD hS rfl dX3_isBare_37

def p_X5_rainsIn (f_h_rain : Nat → Int32) (a1 : Int32) : Option (Int32) :=
  k_ix (if 0 < (if 95 < a1 then 95 else a1) then (if 95 < a1 then 95 else a1) else 0) 96 (
    k_ck ((f_h_rain (if 0 < (if 95 < a1 then 95 else a1) then (if 95 < a1 then 95 else a1) else 0).toNatClampNeg) = 0 ∨ (f_h_rain (if 0 < (if 95 < a1 then 95 else a1) then (if 95 < a1 then 95 else a1) else 0).toNatClampNeg) = 1) (some (f_h_rain (if 0 < (if 95 < a1 then 95 else a1) then (if 95 < a1 then 95 else a1) else 0).toNatClampNeg)))
abbrev rm_X5_rainsIn : Room := { frames := 1, cells := 0, slots := 0, locals := 24 }
theorem hdS_X5_rainsIn : yX5_rainsIn.cls ≠ "java/lang/invoke/MethodHandle" ∧ yX5_rainsIn.cls ≠ "java/lang/invoke/VarHandle" ∧ (parseMethodDescriptor yX5_rainsIn.desc).map (fun d => d.parameters.length) = some 1 := by decide +kernel
theorem hdV_X5_rainsIn : yX5_rainsIn.cls = RX5 ∧ yX5_rainsIn.cls ≠ "java/lang/invoke/MethodHandle" ∧ yX5_rainsIn.cls ≠ "java/lang/invoke/VarHandle" ∧ (parseMethodDescriptor yX5_rainsIn.desc).map (fun d => d.parameters.length) = some 1 := by decide +kernel
set_option maxHeartbeats 4000000 in
set_option maxRecDepth 100000 in
theorem c_X5_rainsIn (l : Launch) (D : va_G) (cI cZ cJ cS : ClassId) (h h_tide h_rain h_rules : Nat) (f_h_rain : Nat → Int32) (a1 : Int32) (r : Int32) (hf : p_X5_rainsIn f_h_rain a1 = some r) : k_MI l yX5_rainsIn wsX5_rainsIn rm_X5_rainsIn D (k_tys cI cZ cJ cS) [.ref h, .int a1] [(h, .inr (5, [.ref h_tide, .ref h_rain, .ref h_rules])), (h_rain, .inl (cZ, 96, .inl f_h_rain))] [(h, .inr (5, [.ref h_tide, .ref h_rain, .ref h_rules])), (h_rain, .inl (cZ, 96, .inl f_h_rain))] r := by
  refine k_enter (y := yX5_rainsIn) (wl := wsX5_rainsIn) (cc := cX5_rainsIn) (maxL := 2) (ret := (some .boolean)) (Qc := fun A => k_Qi D (k_tys cI cZ cJ cS) [(h, .inr (5, [.ref h_tide, .ref h_rain, .ref h_rules])), (h_rain, .inl (cZ, 96, .inl f_h_rain))] A r) (by decide) rfl (Nat.le_of_ble_eq_true rfl) [(0, .ref h), (1, .int a1)] rfl ?_
  intro p e s m below meth c A hx hb hml hr hlocks hnm hown hK hP hD hA hS hN ls args Q hts hl hQ
  replace hown : s.vm.findClass RX5 = some m.cls := hown
  have inX5 : ∀ w ∈ u_ws RX5 TX5 3, w ∈ wsX5_rainsIn := fun w h => List.mem_cons_of_mem _ (List.mem_append_right _ h)
  have wl1 : (Cond.fieldLink RX5 15 "BeachedShip$Shore" "rain" "[Z").before args s = true := hts _ (List.mem_of_getElem? (i := 1) rfl)
  have wl2 : (Cond.methodLink RX5 25 Lib.Math.min.name).before args s = true := hts _ (List.mem_of_getElem? (i := 2) rfl)
  have wl3 : (Cond.static Lib.Math.min.name).before args s = true := hts _ (List.mem_of_getElem? (i := 3) rfl)
  have wl4 : (Cond.initialized "java/lang/Math").before args s = true := hts _ (List.mem_of_getElem? (i := 4) rfl)
  have wl5 : (Cond.code Lib.Math.min.name Lib.Math.min.code 2 (some .int)).before args s = true := hts _ (List.mem_of_getElem? (i := 5) rfl)
  have wl6 : (Cond.methodLink RX5 31 Lib.Math.max.name).before args s = true := hts _ (List.mem_of_getElem? (i := 6) rfl)
  have wl7 : (Cond.static Lib.Math.max.name).before args s = true := hts _ (List.mem_of_getElem? (i := 7) rfl)
  have wl8 : (Cond.code Lib.Math.max.name Lib.Math.max.code 2 (some .int)).before args s = true := hts _ (List.mem_of_getElem? (i := 8) rfl)
  have hRet : ∀ (r_z : Int32), some r_z = some r → ∀ (H : Heap) (locs : List Loc) (ls : Array Slot) (pc : Nat), va_P D vwCl [(h, .inr (5, [.ref h_tide, .ref h_rain, .ref h_rules])), (h_rain, .inl (cZ, 96, .inl f_h_rain))] H → va_D A [(h, .inr (5, [.ref h_tide, .ref h_rain, .ref h_rules])), (h_rain, .inl (cZ, 96, .inl f_h_rain))] → va_S A s.heap H locs → narrow .boolean (.int r_z) = .int r_z → decode cX5_rainsIn pc = .ok (.ireturn, 1) → W p l e rm_X5_rainsIn s m args below meth c H locs 0 0 Q (F0 m pc ls [.int r_z]) := by
    intro r_z hz H locs ls pc hP hD hS hn hd
    cases hz
    exact k_iret hx hb hr hlocks hn hK hP hD hS hQ rfl hd
  unfold p_X5_rainsIn at hf
  refine lv_aload_n hx hb dX5_rainsIn_0 rfl (lv_at hl 0 rfl) ?_
  refine k_get (C := RX5) (T := TX5) (N := 3) hx hb hts inX5 hown hK hP 0 rfl rfl 1 (by decide) rfl wl1 rfl dX5_rainsIn_1 ?_
  refine lv_iconst (v := 0) hx hb dX5_rainsIn_4 (by decide) ?_
  refine lv_iload_n hx hb dX5_rainsIn_5 rfl (lv_at hl 1 rfl) ?_
  refine lv_bipush (v := 95) hx hb dX5_rainsIn_6 (by decide) ?_
  refine va_mmin hx hb (hml.trans hl.1.symm) hown wl2 wl3 wl4 wl5 (Nat.le_of_ble_eq_true rfl) (Nat.le_of_ble_eq_true rfl) (Nat.zero_le _) (Nat.zero_le _) dX5_rainsIn_8 ?_
  refine va_mmax hx hb (hml.trans hl.1.symm) hown wl6 wl7 wl4 wl8 (Nat.le_of_ble_eq_true rfl) (Nat.le_of_ble_eq_true rfl) (Nat.zero_le _) (Nat.zero_le _) dX5_rainsIn_11 ?_
  obtain ⟨hi1, hf⟩ := k_ix_some hf
  refine k_zald (k := (if 0 < (if 95 < a1 then 95 else a1) then (if 95 < a1 then 95 else a1) else 0).toNatClampNeg) hx hb hK hP 1 1 rfl rfl hi1 rfl dX5_rainsIn_14 ?_
  obtain ⟨hk2, hf⟩ := k_ck_some hf
  exact hRet _ hf _ _ _ _ hP hD hS (k_bool hk2).1 dX5_rainsIn_15

def lb_X6_lowestOn_2 (v_h_size : Int32) (v_h_whole : Int32) (f_h_mast : Nat → Int32) (a1 : Int32) (x2_12 : Int32) : Option ((Int32) ⊕ ((Int32) ⊕ (Unit))) :=
  if v_h_size ≤ x2_12 then
    some (.inr (.inr ()))
  else
    k_b1 (p_X8_hasBit v_h_whole x2_12) fun r14 =>
    if r14 = 0 then
      some (.inl (x2_12 + 1))
    else
      k_ix x2_12 6 (
        if (f_h_mast x2_12.toNatClampNeg) = a1 then
          some (.inr (.inl x2_12))
        else
          some (.inl (x2_12 + 1)))
def p_X6_lowestOn (v_h_whole : Int32) (v_h_size : Int32) (f_h_mast : Nat → Int32) (a1 : Int32) : Option (Int32) :=
  k_bx0 (k_lp (fun s => lb_X6_lowestOn_2 v_h_size v_h_whole f_h_mast a1 s) k_fuel 0) (fun q => some q) (
    some (-1))
abbrev rm_X6_lowestOn : Room := { frames := 1, cells := 0, slots := 0, locals := 21 }
theorem hdS_X6_lowestOn : yX6_lowestOn.cls ≠ "java/lang/invoke/MethodHandle" ∧ yX6_lowestOn.cls ≠ "java/lang/invoke/VarHandle" ∧ (parseMethodDescriptor yX6_lowestOn.desc).map (fun d => d.parameters.length) = some 1 := by decide +kernel
theorem hdV_X6_lowestOn : yX6_lowestOn.cls = RX6 ∧ yX6_lowestOn.cls ≠ "java/lang/invoke/MethodHandle" ∧ yX6_lowestOn.cls ≠ "java/lang/invoke/VarHandle" ∧ (parseMethodDescriptor yX6_lowestOn.desc).map (fun d => d.parameters.length) = some 1 := by decide +kernel
set_option maxHeartbeats 4000000 in
set_option maxRecDepth 100000 in
theorem c_X6_lowestOn (l : Launch) (D : va_G) (cI cZ cJ cS : ClassId) (h h_mast h_parts h_strength : Nat) (v_h_whole : Int32) (v_h_size : Int32) (f_h_mast : Nat → Int32) (a1 : Int32) (r : Int32) (hf : p_X6_lowestOn v_h_whole v_h_size f_h_mast a1 = some r) : k_MI l yX6_lowestOn wsX6_lowestOn rm_X6_lowestOn D (k_tys cI cZ cJ cS) [.ref h, .int a1] [(h, .inr (6, [.ref h_mast, .ref h_parts, .ref h_strength, .int v_h_whole, .int v_h_size])), (h_mast, .inl (cI, 6, .inl f_h_mast))] [(h, .inr (6, [.ref h_mast, .ref h_parts, .ref h_strength, .int v_h_whole, .int v_h_size])), (h_mast, .inl (cI, 6, .inl f_h_mast))] r := by
  refine k_enter (y := yX6_lowestOn) (wl := wsX6_lowestOn) (cc := cX6_lowestOn) (maxL := 3) (ret := (some .int)) (Qc := fun A => k_Qi D (k_tys cI cZ cJ cS) [(h, .inr (6, [.ref h_mast, .ref h_parts, .ref h_strength, .int v_h_whole, .int v_h_size])), (h_mast, .inl (cI, 6, .inl f_h_mast))] A r) (by decide) rfl (Nat.le_of_ble_eq_true rfl) [(0, .ref h), (1, .int a1)] rfl ?_
  intro p e s m below meth c A hx hb hml hr hlocks hnm hown hK hP hD hA hS hN ls args Q hts hl hQ
  replace hown : s.vm.findClass RX6 = some m.cls := hown
  have S0 : CallFix p m c cX6_lowestOn 3 s args wsX6_lowestOn RX6 := ⟨hx, hb, hml, hown, hts⟩
  have inX6 : ∀ w ∈ u_ws RX6 TX6 5, w ∈ wsX6_lowestOn := fun w h => List.mem_cons_of_mem _ (List.mem_append_right _ h)
  have wl1 : (Cond.fieldLink RX6 21 "BeachedShip$Tackles" "size" "I").before args s = true := hts _ (List.mem_of_getElem? (i := 1) rfl)
  have wl2 : (Cond.fieldLink RX6 25 "BeachedShip$Tackles" "whole" "I").before args s = true := hts _ (List.mem_of_getElem? (i := 2) rfl)
  have wl5 : (Cond.initialized RX8).before args s = true := hts _ (List.mem_of_getElem? (i := 5) rfl)
  have wl4 : (Cond.static yX8_hasBit).before args s = true := hts _ (List.mem_of_getElem? (i := 4) rfl)
  have wl3 : (Cond.fieldLink RX6 9 "BeachedShip$Tackles" "mast" "[I").before args s = true := hts _ (List.mem_of_getElem? (i := 3) rfl)
  have hRet : ∀ (r_z : Int32), some r_z = some r → ∀ (H : Heap) (locs : List Loc) (ls : Array Slot) (pc : Nat), va_P D vwCl [(h, .inr (6, [.ref h_mast, .ref h_parts, .ref h_strength, .int v_h_whole, .int v_h_size])), (h_mast, .inl (cI, 6, .inl f_h_mast))] H → va_D A [(h, .inr (6, [.ref h_mast, .ref h_parts, .ref h_strength, .int v_h_whole, .int v_h_size])), (h_mast, .inl (cI, 6, .inl f_h_mast))] → va_S A s.heap H locs → narrow .int (.int r_z) = .int r_z → decode cX6_lowestOn pc = .ok (.ireturn, 1) → W p l e rm_X6_lowestOn s m args below meth c H locs 0 0 Q (F0 m pc ls [.int r_z]) := by
    intro r_z hz H locs ls pc hP hD hS hn hd
    cases hz
    exact k_iret hx hb hr hlocks hn hK hP hD hS hQ rfl hd
  unfold p_X6_lowestOn at hf
  refine lv_iconst (v := 0) hx hb dX6_lowestOn_0 (by decide) ?_
  refine lv_istore_n (lv' := [(2, .int 0), (0, .ref h), (1, .int a1)]) hx hb dX6_lowestOn_1 rfl hl (by decide) rfl (fun ls hl => ?_)
  obtain ⟨ee11, hlp11, hfl11, hfr11⟩ := k_bx0_some hf
  have hE11 : ee11 = .inr () → ∀ (H : Heap) (locs : List Loc) (ls : Array Slot), va_P D vwCl [(h, .inr (6, [.ref h_mast, .ref h_parts, .ref h_strength, .int v_h_whole, .int v_h_size])), (h_mast, .inl (cI, 6, .inl f_h_mast))] H → va_D A [(h, .inr (6, [.ref h_mast, .ref h_parts, .ref h_strength, .int v_h_whole, .int v_h_size])), (h_mast, .inl (cI, 6, .inl f_h_mast))] → va_S A s.heap H locs → lv_has ls 3 [] → W p l e rm_X6_lowestOn s m args below meth c H locs 0 0 Q (F0 m 39 ls []) := by
    intro  he H locs ls hP hD hS hl
    replace hf := hfr11  he
    refine lv_iconst (v := (-1)) hx hb dX6_lowestOn_39 (by decide) ?_
    exact hRet _ hf _ _ _ _ hP hD hS rfl dX6_lowestOn_40
  refine (k_lp_ind (fun sx11 => ∀ (H : Heap) (locs : List Loc) (ls : Array Slot), va_P D vwCl [(h, .inr (6, [.ref h_mast, .ref h_parts, .ref h_strength, .int v_h_whole, .int v_h_size])), (h_mast, .inl (cI, 6, .inl f_h_mast))] H → va_D A [(h, .inr (6, [.ref h_mast, .ref h_parts, .ref h_strength, .int v_h_whole, .int v_h_size])), (h_mast, .inl (cI, 6, .inl f_h_mast))] → va_S A s.heap H locs → lv_has ls 3 [(2, .int sx11), (0, .ref h), (1, .int a1)] → W p l e rm_X6_lowestOn s m args below meth c H locs 0 0 Q (F0 m 2 ls [])) (fun sx11 X11 hX11 hin11 hout11 => ?_) _ _ hlp11) _ _ _ hP hD hS (lv_sub hl [0, 1, 2] rfl)
  obtain ⟨x2_12, rfl⟩ : ∃ z, z = sx11 := ⟨_, rfl⟩
  intro H locs ls hP hD hS hl
  replace hP : va_P D vwCl [(h, .inr (6, [.ref h_mast, .ref h_parts, .ref h_strength, .int v_h_whole, .int v_h_size])), (h_mast, .inl (cI, 6, .inl f_h_mast))] H := hP
  replace hD : va_D A [(h, .inr (6, [.ref h_mast, .ref h_parts, .ref h_strength, .int v_h_whole, .int v_h_size])), (h_mast, .inl (cI, 6, .inl f_h_mast))] := hD
  replace hl : lv_has ls 3 [(2, .int x2_12), (0, .ref h), (1, .int a1)] := hl
  replace hX11 : lb_X6_lowestOn_2 v_h_size v_h_whole f_h_mast a1 x2_12 = some X11 := hX11
  unfold lb_X6_lowestOn_2 at hX11
  refine lv_iload_n hx hb dX6_lowestOn_2 rfl (lv_at hl 0 rfl) ?_
  refine lv_aload_n hx hb dX6_lowestOn_3 rfl (lv_at hl 1 rfl) ?_
  refine k_get (C := RX6) (T := TX6) (N := 5) hx hb hts inX6 hown hK hP 0 rfl rfl 4 (by decide) rfl wl1 rfl dX6_lowestOn_4 ?_
  refine lv_icmp_ge (tgt := 39) hx hb dX6_lowestOn_7 (by decide) (fun c13 => ?_) (fun c13 => ?_)
  · replace hX11 := k_pos hX11 c13
    exact hE11  (hout11 _ (Option.some.inj hX11).symm).symm _ _ _ hP hD hS (lv_sub hl [] rfl)
  · replace hX11 := k_neg hX11 c13
    refine lv_aload_n hx hb dX6_lowestOn_10 rfl (lv_at hl 1 rfl) ?_
    refine k_get (C := RX6) (T := TX6) (N := 5) hx hb hts inX6 hown hK hP 0 rfl rfl 3 (by decide) rfl wl2 rfl dX6_lowestOn_11 ?_
    refine lv_iload_n hx hb dX6_lowestOn_14 rfl (lv_at hl 0 rfl) ?_
    obtain ⟨r14, hc14, hX11⟩ := k_b1_some hX11
    refine k_NiR (As := [.int v_h_whole, .int x2_12]) (rest := []) S0 (c_X8_hasBit l D cI cZ cJ cS v_h_whole x2_12 r14 hc14) ⟨va_cnB 2 hts gX6_lowestOn_X8_hasBit_n57 rfl rfl rfl (hN _ (List.mem_of_getElem? (i := 7) rfl)) wl5 hdS_X8_hasBit ⟨Nat.le_of_ble_eq_true rfl, Nat.le_of_ble_eq_true rfl⟩, wl4, trivial⟩ hK hP hD hS hA hN [] rfl (by decide) rfl hl.1 rfl (Nat.le_of_ble_eq_true rfl) dX6_lowestOn_15 (fun H locs hP hS => ?_)
    refine lv_if_eq (tgt := 33) hx hb dX6_lowestOn_18 (by decide) (fun c15 => ?_) (fun c15 => ?_)
    · replace hX11 := k_pos hX11 c15
      refine lv_iinc (v := x2_12 + 1) (lv' := [(2, .int (x2_12 + 1)), (0, .ref h), (1, .int a1)]) hx hb dX6_lowestOn_33 hl (k := 0) rfl rfl (by decide) rfl (fun ls hl => ?_)
      refine lv_goto (tgt := 2) hx hb dX6_lowestOn_36 (by decide) ?_
      exact hin11 (x2_12 + 1) (Option.some.inj hX11).symm _ _ _ hP hD hS (lv_sub hl [0, 1, 2] rfl)
    · replace hX11 := k_neg hX11 c15
      refine lv_aload_n hx hb dX6_lowestOn_21 rfl (lv_at hl 1 rfl) ?_
      refine k_get (C := RX6) (T := TX6) (N := 5) hx hb hts inX6 hown hK hP 0 rfl rfl 0 (by decide) rfl wl3 rfl dX6_lowestOn_22 ?_
      refine lv_iload_n hx hb dX6_lowestOn_25 rfl (lv_at hl 0 rfl) ?_
      obtain ⟨hi16, hX11⟩ := k_ix_some hX11
      refine k_iald (k := x2_12.toNatClampNeg) hx hb hK hP 1 0 rfl rfl hi16 rfl dX6_lowestOn_26 ?_
      refine lv_iload_n hx hb dX6_lowestOn_27 rfl (lv_at hl 2 rfl) ?_
      refine lv_icmp_ne (tgt := 33) hx hb dX6_lowestOn_28 (by decide) (fun c17 => ?_) (fun c17 => ?_)
      · replace hX11 := k_neg hX11 c17
        refine lv_iinc (v := x2_12 + 1) (lv' := [(2, .int (x2_12 + 1)), (0, .ref h), (1, .int a1)]) hx hb dX6_lowestOn_33 hl (k := 0) rfl rfl (by decide) rfl (fun ls hl => ?_)
        refine lv_goto (tgt := 2) hx hb dX6_lowestOn_36 (by decide) ?_
        exact hin11 (x2_12 + 1) (Option.some.inj hX11).symm _ _ _ hP hD hS (lv_sub hl [0, 1, 2] rfl)
      · replace hX11 := k_pos hX11 c17
        refine lv_iload_n hx hb dX6_lowestOn_31 rfl (lv_at hl 0 rfl) ?_
        have he := hout11 _ (Option.some.inj hX11).symm
        replace hf := hfl11 _ he.symm
        exact hRet _ hf _ _ _ _ hP hD hS rfl dX6_lowestOn_32

def lb_X6_onMast_4 (v_h_size : Int32) (v_h_whole : Int32) (f_h_mast : Nat → Int32) (a1 : Int32) (x2_14 : Int32) (x3_15 : Int32) : Option ((Int32 × Int32) ⊕ (Int32)) :=
  if v_h_size ≤ x3_15 then
    some (.inr x2_14)
  else
    k_b1 (p_X8_hasBit v_h_whole x3_15) fun r17 =>
    if r17 = 0 then
      some (.inl (x2_14 + 0, x3_15 + 1))
    else
      k_ix x3_15 6 (
        if (f_h_mast x3_15.toNatClampNeg) = a1 then
          some (.inl (x2_14 + 1, x3_15 + 1))
        else
          some (.inl (x2_14 + 0, x3_15 + 1)))
def p_X6_onMast (v_h_whole : Int32) (v_h_size : Int32) (f_h_mast : Nat → Int32) (a1 : Int32) : Option (Int32) :=
  k_b1 (k_lp (fun s => lb_X6_onMast_4 v_h_size v_h_whole f_h_mast a1 s.1 s.2) k_fuel (0, 0)) fun x2_13 =>
  some x2_13
abbrev rm_X6_onMast : Room := { frames := 1, cells := 0, slots := 0, locals := 21 }
theorem hdS_X6_onMast : yX6_onMast.cls ≠ "java/lang/invoke/MethodHandle" ∧ yX6_onMast.cls ≠ "java/lang/invoke/VarHandle" ∧ (parseMethodDescriptor yX6_onMast.desc).map (fun d => d.parameters.length) = some 1 := by decide +kernel
theorem hdV_X6_onMast : yX6_onMast.cls = RX6 ∧ yX6_onMast.cls ≠ "java/lang/invoke/MethodHandle" ∧ yX6_onMast.cls ≠ "java/lang/invoke/VarHandle" ∧ (parseMethodDescriptor yX6_onMast.desc).map (fun d => d.parameters.length) = some 1 := by decide +kernel
set_option maxHeartbeats 4000000 in
set_option maxRecDepth 100000 in
theorem c_X6_onMast (l : Launch) (D : va_G) (cI cZ cJ cS : ClassId) (h h_mast h_parts h_strength : Nat) (v_h_whole : Int32) (v_h_size : Int32) (f_h_mast : Nat → Int32) (a1 : Int32) (r : Int32) (hf : p_X6_onMast v_h_whole v_h_size f_h_mast a1 = some r) : k_MI l yX6_onMast wsX6_onMast rm_X6_onMast D (k_tys cI cZ cJ cS) [.ref h, .int a1] [(h, .inr (6, [.ref h_mast, .ref h_parts, .ref h_strength, .int v_h_whole, .int v_h_size])), (h_mast, .inl (cI, 6, .inl f_h_mast))] [(h, .inr (6, [.ref h_mast, .ref h_parts, .ref h_strength, .int v_h_whole, .int v_h_size])), (h_mast, .inl (cI, 6, .inl f_h_mast))] r := by
  refine k_enter (y := yX6_onMast) (wl := wsX6_onMast) (cc := cX6_onMast) (maxL := 4) (ret := (some .int)) (Qc := fun A => k_Qi D (k_tys cI cZ cJ cS) [(h, .inr (6, [.ref h_mast, .ref h_parts, .ref h_strength, .int v_h_whole, .int v_h_size])), (h_mast, .inl (cI, 6, .inl f_h_mast))] A r) (by decide) rfl (Nat.le_of_ble_eq_true rfl) [(0, .ref h), (1, .int a1)] rfl ?_
  intro p e s m below meth c A hx hb hml hr hlocks hnm hown hK hP hD hA hS hN ls args Q hts hl hQ
  replace hown : s.vm.findClass RX6 = some m.cls := hown
  have S0 : CallFix p m c cX6_onMast 4 s args wsX6_onMast RX6 := ⟨hx, hb, hml, hown, hts⟩
  have inX6 : ∀ w ∈ u_ws RX6 TX6 5, w ∈ wsX6_onMast := fun w h => List.mem_cons_of_mem _ (List.mem_append_right _ h)
  have wl1 : (Cond.fieldLink RX6 21 "BeachedShip$Tackles" "size" "I").before args s = true := hts _ (List.mem_of_getElem? (i := 1) rfl)
  have wl2 : (Cond.fieldLink RX6 25 "BeachedShip$Tackles" "whole" "I").before args s = true := hts _ (List.mem_of_getElem? (i := 2) rfl)
  have wl5 : (Cond.initialized RX8).before args s = true := hts _ (List.mem_of_getElem? (i := 5) rfl)
  have wl4 : (Cond.static yX8_hasBit).before args s = true := hts _ (List.mem_of_getElem? (i := 4) rfl)
  have wl3 : (Cond.fieldLink RX6 9 "BeachedShip$Tackles" "mast" "[I").before args s = true := hts _ (List.mem_of_getElem? (i := 3) rfl)
  have hRet : ∀ (r_z : Int32), some r_z = some r → ∀ (H : Heap) (locs : List Loc) (ls : Array Slot) (pc : Nat), va_P D vwCl [(h, .inr (6, [.ref h_mast, .ref h_parts, .ref h_strength, .int v_h_whole, .int v_h_size])), (h_mast, .inl (cI, 6, .inl f_h_mast))] H → va_D A [(h, .inr (6, [.ref h_mast, .ref h_parts, .ref h_strength, .int v_h_whole, .int v_h_size])), (h_mast, .inl (cI, 6, .inl f_h_mast))] → va_S A s.heap H locs → narrow .int (.int r_z) = .int r_z → decode cX6_onMast pc = .ok (.ireturn, 1) → W p l e rm_X6_onMast s m args below meth c H locs 0 0 Q (F0 m pc ls [.int r_z]) := by
    intro r_z hz H locs ls pc hP hD hS hn hd
    cases hz
    exact k_iret hx hb hr hlocks hn hK hP hD hS hQ rfl hd
  unfold p_X6_onMast at hf
  refine lv_iconst (v := 0) hx hb dX6_onMast_0 (by decide) ?_
  refine lv_istore_n (lv' := [(2, .int 0), (0, .ref h), (1, .int a1)]) hx hb dX6_onMast_1 rfl hl (by decide) rfl (fun ls hl => ?_)
  refine lv_iconst (v := 0) hx hb dX6_onMast_2 (by decide) ?_
  refine lv_istore_n (lv' := [(3, .int 0), (2, .int 0), (0, .ref h), (1, .int a1)]) hx hb dX6_onMast_3 rfl hl (by decide) rfl (fun ls hl => ?_)
  obtain ⟨ee12, hlp12, hfr12⟩ := k_b1_ee hf
  have hE12 : ∀ (x2_13 : Int32), ee12 = x2_13 → ∀ (H : Heap) (locs : List Loc) (ls : Array Slot), va_P D vwCl [(h, .inr (6, [.ref h_mast, .ref h_parts, .ref h_strength, .int v_h_whole, .int v_h_size])), (h_mast, .inl (cI, 6, .inl f_h_mast))] H → va_D A [(h, .inr (6, [.ref h_mast, .ref h_parts, .ref h_strength, .int v_h_whole, .int v_h_size])), (h_mast, .inl (cI, 6, .inl f_h_mast))] → va_S A s.heap H locs → lv_has ls 4 [(2, .int x2_13)] → W p l e rm_X6_onMast s m args below meth c H locs 0 0 Q (F0 m 47 ls []) := by
    intro x2_13 he H locs ls hP hD hS hl
    replace hf := hfr12 x2_13 he
    refine lv_iload_n hx hb dX6_onMast_47 rfl (lv_at hl 0 rfl) ?_
    exact hRet _ hf _ _ _ _ hP hD hS rfl dX6_onMast_48
  refine (k_lp_ind (fun sx12 => ∀ (H : Heap) (locs : List Loc) (ls : Array Slot), va_P D vwCl [(h, .inr (6, [.ref h_mast, .ref h_parts, .ref h_strength, .int v_h_whole, .int v_h_size])), (h_mast, .inl (cI, 6, .inl f_h_mast))] H → va_D A [(h, .inr (6, [.ref h_mast, .ref h_parts, .ref h_strength, .int v_h_whole, .int v_h_size])), (h_mast, .inl (cI, 6, .inl f_h_mast))] → va_S A s.heap H locs → lv_has ls 4 [(3, .int sx12.2), (2, .int sx12.1), (0, .ref h), (1, .int a1)] → W p l e rm_X6_onMast s m args below meth c H locs 0 0 Q (F0 m 4 ls [])) (fun sx12 X12 hX12 hin12 hout12 => ?_) _ _ hlp12) _ _ _ hP hD hS (lv_sub hl [0, 1, 2, 3] rfl)
  obtain ⟨x2_14, x3_15⟩ := sx12
  intro H locs ls hP hD hS hl
  replace hP : va_P D vwCl [(h, .inr (6, [.ref h_mast, .ref h_parts, .ref h_strength, .int v_h_whole, .int v_h_size])), (h_mast, .inl (cI, 6, .inl f_h_mast))] H := hP
  replace hD : va_D A [(h, .inr (6, [.ref h_mast, .ref h_parts, .ref h_strength, .int v_h_whole, .int v_h_size])), (h_mast, .inl (cI, 6, .inl f_h_mast))] := hD
  replace hl : lv_has ls 4 [(3, .int x3_15), (2, .int x2_14), (0, .ref h), (1, .int a1)] := hl
  replace hX12 : lb_X6_onMast_4 v_h_size v_h_whole f_h_mast a1 x2_14 x3_15 = some X12 := hX12
  unfold lb_X6_onMast_4 at hX12
  refine lv_iload_n hx hb dX6_onMast_4 rfl (lv_at hl 0 rfl) ?_
  refine lv_aload_n hx hb dX6_onMast_5 rfl (lv_at hl 2 rfl) ?_
  refine k_get (C := RX6) (T := TX6) (N := 5) hx hb hts inX6 hown hK hP 0 rfl rfl 4 (by decide) rfl wl1 rfl dX6_onMast_6 ?_
  refine lv_icmp_ge (tgt := 47) hx hb dX6_onMast_9 (by decide) (fun c16 => ?_) (fun c16 => ?_)
  · replace hX12 := k_pos hX12 c16
    exact hE12 _ (hout12 _ (Option.some.inj hX12).symm).symm _ _ _ hP hD hS (lv_sub hl [1] rfl)
  · replace hX12 := k_neg hX12 c16
    refine lv_iload_n hx hb dX6_onMast_12 rfl (lv_at hl 1 rfl) ?_
    refine lv_aload_n hx hb dX6_onMast_13 rfl (lv_at hl 2 rfl) ?_
    refine k_get (C := RX6) (T := TX6) (N := 5) hx hb hts inX6 hown hK hP 0 rfl rfl 3 (by decide) rfl wl2 rfl dX6_onMast_14 ?_
    refine lv_iload_n hx hb dX6_onMast_17 rfl (lv_at hl 0 rfl) ?_
    obtain ⟨r17, hc17, hX12⟩ := k_b1_some hX12
    refine k_NiR (As := [.int v_h_whole, .int x3_15]) (rest := [.int x2_14]) S0 (c_X8_hasBit l D cI cZ cJ cS v_h_whole x3_15 r17 hc17) ⟨va_cnB 2 hts gX6_onMast_X8_hasBit_n57 rfl rfl rfl (hN _ (List.mem_of_getElem? (i := 7) rfl)) wl5 hdS_X8_hasBit ⟨Nat.le_of_ble_eq_true rfl, Nat.le_of_ble_eq_true rfl⟩, wl4, trivial⟩ hK hP hD hS hA hN [] rfl (by decide) rfl hl.1 rfl (Nat.le_of_ble_eq_true rfl) dX6_onMast_18 (fun H locs hP hS => ?_)
    refine lv_if_eq (tgt := 38) hx hb dX6_onMast_21 (by decide) (fun c18 => ?_) (fun c18 => ?_)
    · replace hX12 := k_pos hX12 c18
      refine lv_iconst (v := 0) hx hb dX6_onMast_38 (by decide) ?_
      refine lv_iadd hx hb dX6_onMast_39 ?_
      refine lv_istore_n (lv' := [(2, .int (x2_14 + 0)), (3, .int x3_15), (0, .ref h), (1, .int a1)]) hx hb dX6_onMast_40 rfl hl (by decide) rfl (fun ls hl => ?_)
      refine lv_iinc (v := x3_15 + 1) (lv' := [(3, .int (x3_15 + 1)), (2, .int (x2_14 + 0)), (0, .ref h), (1, .int a1)]) hx hb dX6_onMast_41 hl (k := 1) rfl rfl (by decide) rfl (fun ls hl => ?_)
      refine lv_goto (tgt := 4) hx hb dX6_onMast_44 (by decide) ?_
      exact hin12 (x2_14 + 0, x3_15 + 1) (Option.some.inj hX12).symm _ _ _ hP hD hS (lv_sub hl [0, 1, 2, 3] rfl)
    · replace hX12 := k_neg hX12 c18
      refine lv_aload_n hx hb dX6_onMast_24 rfl (lv_at hl 2 rfl) ?_
      refine k_get (C := RX6) (T := TX6) (N := 5) hx hb hts inX6 hown hK hP 0 rfl rfl 0 (by decide) rfl wl3 rfl dX6_onMast_25 ?_
      refine lv_iload_n hx hb dX6_onMast_28 rfl (lv_at hl 0 rfl) ?_
      obtain ⟨hi19, hX12⟩ := k_ix_some hX12
      refine k_iald (k := x3_15.toNatClampNeg) hx hb hK hP 1 0 rfl rfl hi19 rfl dX6_onMast_29 ?_
      refine lv_iload_n hx hb dX6_onMast_30 rfl (lv_at hl 3 rfl) ?_
      refine lv_icmp_ne (tgt := 38) hx hb dX6_onMast_31 (by decide) (fun c20 => ?_) (fun c20 => ?_)
      · replace hX12 := k_neg hX12 c20
        refine lv_iconst (v := 0) hx hb dX6_onMast_38 (by decide) ?_
        refine lv_iadd hx hb dX6_onMast_39 ?_
        refine lv_istore_n (lv' := [(2, .int (x2_14 + 0)), (3, .int x3_15), (0, .ref h), (1, .int a1)]) hx hb dX6_onMast_40 rfl hl (by decide) rfl (fun ls hl => ?_)
        refine lv_iinc (v := x3_15 + 1) (lv' := [(3, .int (x3_15 + 1)), (2, .int (x2_14 + 0)), (0, .ref h), (1, .int a1)]) hx hb dX6_onMast_41 hl (k := 1) rfl rfl (by decide) rfl (fun ls hl => ?_)
        refine lv_goto (tgt := 4) hx hb dX6_onMast_44 (by decide) ?_
        exact hin12 (x2_14 + 0, x3_15 + 1) (Option.some.inj hX12).symm _ _ _ hP hD hS (lv_sub hl [0, 1, 2, 3] rfl)
      · replace hX12 := k_pos hX12 c20
        refine lv_iconst (v := 1) hx hb dX6_onMast_34 (by decide) ?_
        refine lv_goto (tgt := 39) hx hb dX6_onMast_35 (by decide) ?_
        refine lv_iadd hx hb dX6_onMast_39 ?_
        refine lv_istore_n (lv' := [(2, .int (x2_14 + 1)), (3, .int x3_15), (0, .ref h), (1, .int a1)]) hx hb dX6_onMast_40 rfl hl (by decide) rfl (fun ls hl => ?_)
        refine lv_iinc (v := x3_15 + 1) (lv' := [(3, .int (x3_15 + 1)), (2, .int (x2_14 + 1)), (0, .ref h), (1, .int a1)]) hx hb dX6_onMast_41 hl (k := 1) rfl rfl (by decide) rfl (fun ls hl => ?_)
        refine lv_goto (tgt := 4) hx hb dX6_onMast_44 (by decide) ?_
        exact hin12 (x2_14 + 1, x3_15 + 1) (Option.some.inj hX12).symm _ _ _ hP hD hS (lv_sub hl [0, 1, 2, 3] rfl)

def p_X6_ropeMay (f_h_strength : Nat → Int32) (a1 : Int32) (a2 : Int32) : Option (Int32) :=
  if a2 = 0 then
    k_ix a1 6 (
      some (f_h_strength a1.toNatClampNeg))
  else
    k_ix a1 6 (
      some (((f_h_strength a1.toNatClampNeg) * 3) / 4))
abbrev rm_X6_ropeMay : Room := { frames := 0, cells := 0, slots := 0, locals := 0 }
theorem hdS_X6_ropeMay : yX6_ropeMay.cls ≠ "java/lang/invoke/MethodHandle" ∧ yX6_ropeMay.cls ≠ "java/lang/invoke/VarHandle" ∧ (parseMethodDescriptor yX6_ropeMay.desc).map (fun d => d.parameters.length) = some 2 := by decide +kernel
theorem hdV_X6_ropeMay : yX6_ropeMay.cls = RX6 ∧ yX6_ropeMay.cls ≠ "java/lang/invoke/MethodHandle" ∧ yX6_ropeMay.cls ≠ "java/lang/invoke/VarHandle" ∧ (parseMethodDescriptor yX6_ropeMay.desc).map (fun d => d.parameters.length) = some 2 := by decide +kernel
set_option maxHeartbeats 4000000 in
set_option maxRecDepth 100000 in
theorem c_X6_ropeMay (l : Launch) (D : va_G) (cI cZ cJ cS : ClassId) (h h_mast h_parts h_strength : Nat) (v_h_whole : Int32) (v_h_size : Int32) (f_h_strength : Nat → Int32) (a1 : Int32) (a2 : Int32) (r : Int32) (hf : p_X6_ropeMay f_h_strength a1 a2 = some r) : k_MI l yX6_ropeMay wsX6_ropeMay rm_X6_ropeMay D (k_tys cI cZ cJ cS) [.ref h, .int a1, .int a2] [(h, .inr (6, [.ref h_mast, .ref h_parts, .ref h_strength, .int v_h_whole, .int v_h_size])), (h_strength, .inl (cI, 6, .inl f_h_strength))] [(h, .inr (6, [.ref h_mast, .ref h_parts, .ref h_strength, .int v_h_whole, .int v_h_size])), (h_strength, .inl (cI, 6, .inl f_h_strength))] r := by
  refine k_enter (y := yX6_ropeMay) (wl := wsX6_ropeMay) (cc := cX6_ropeMay) (maxL := 3) (ret := (some .int)) (Qc := fun A => k_Qi D (k_tys cI cZ cJ cS) [(h, .inr (6, [.ref h_mast, .ref h_parts, .ref h_strength, .int v_h_whole, .int v_h_size])), (h_strength, .inl (cI, 6, .inl f_h_strength))] A r) (by decide) rfl (Nat.le_of_ble_eq_true rfl) [(0, .ref h), (1, .int a1), (2, .int a2)] rfl ?_
  intro p e s m below meth c A hx hb hml hr hlocks hnm hown hK hP hD hA hS hN ls args Q hts hl hQ
  replace hown : s.vm.findClass RX6 = some m.cls := hown
  have inX6 : ∀ w ∈ u_ws RX6 TX6 5, w ∈ wsX6_ropeMay := fun w h => List.mem_cons_of_mem _ (List.mem_append_right _ h)
  have wl1 : (Cond.fieldLink RX6 18 "BeachedShip$Tackles" "strength" "[I").before args s = true := hts _ (List.mem_of_getElem? (i := 1) rfl)
  have hRet : ∀ (r_z : Int32), some r_z = some r → ∀ (H : Heap) (locs : List Loc) (ls : Array Slot) (pc : Nat), va_P D vwCl [(h, .inr (6, [.ref h_mast, .ref h_parts, .ref h_strength, .int v_h_whole, .int v_h_size])), (h_strength, .inl (cI, 6, .inl f_h_strength))] H → va_D A [(h, .inr (6, [.ref h_mast, .ref h_parts, .ref h_strength, .int v_h_whole, .int v_h_size])), (h_strength, .inl (cI, 6, .inl f_h_strength))] → va_S A s.heap H locs → narrow .int (.int r_z) = .int r_z → decode cX6_ropeMay pc = .ok (.ireturn, 1) → W p l e rm_X6_ropeMay s m args below meth c H locs 0 0 Q (F0 m pc ls [.int r_z]) := by
    intro r_z hz H locs ls pc hP hD hS hn hd
    cases hz
    exact k_iret hx hb hr hlocks hn hK hP hD hS hQ rfl hd
  unfold p_X6_ropeMay at hf
  refine lv_iload_n hx hb dX6_ropeMay_0 rfl (lv_at hl 2 rfl) ?_
  refine lv_if_eq (tgt := 17) hx hb dX6_ropeMay_1 (by decide) (fun c1 => ?_) (fun c1 => ?_)
  · replace hf := k_pos hf c1
    refine lv_aload_n hx hb dX6_ropeMay_17 rfl (lv_at hl 0 rfl) ?_
    refine k_get (C := RX6) (T := TX6) (N := 5) hx hb hts inX6 hown hK hP 0 rfl rfl 2 (by decide) rfl wl1 rfl dX6_ropeMay_18 ?_
    refine lv_iload_n hx hb dX6_ropeMay_21 rfl (lv_at hl 1 rfl) ?_
    obtain ⟨hi2, hf⟩ := k_ix_some hf
    refine k_iald (k := a1.toNatClampNeg) hx hb hK hP 1 0 rfl rfl hi2 rfl dX6_ropeMay_22 ?_
    exact hRet _ hf _ _ _ _ hP hD hS rfl dX6_ropeMay_23
  · replace hf := k_neg hf c1
    refine lv_aload_n hx hb dX6_ropeMay_4 rfl (lv_at hl 0 rfl) ?_
    refine k_get (C := RX6) (T := TX6) (N := 5) hx hb hts inX6 hown hK hP 0 rfl rfl 2 (by decide) rfl wl1 rfl dX6_ropeMay_5 ?_
    refine lv_iload_n hx hb dX6_ropeMay_8 rfl (lv_at hl 1 rfl) ?_
    obtain ⟨hi3, hf⟩ := k_ix_some hf
    refine k_iald (k := a1.toNatClampNeg) hx hb hK hP 1 0 rfl rfl hi3 rfl dX6_ropeMay_9 ?_
    refine lv_iconst (v := 3) hx hb dX6_ropeMay_10 (by decide) ?_
    refine lv_imul hx hb dX6_ropeMay_11 ?_
    refine lv_iconst (v := 4) hx hb dX6_ropeMay_12 (by decide) ?_
    refine lv_idiv hx hb dX6_ropeMay_13 (by decide) ?_
    refine lv_goto (tgt := 23) hx hb dX6_ropeMay_14 (by decide) ?_
    exact hRet _ hf _ _ _ _ hP hD hS rfl dX6_ropeMay_23

def p_X6_ropeTakes (f_h_parts : Nat → Int32) (a1 : Int32) (a2 : Int32) : Option (Int32) :=
  k_ix a1 6 (
    k_b1 (p_X8_roundedUp a2 (f_h_parts a1.toNatClampNeg)) fun r2 =>
    some r2)
abbrev rm_X6_ropeTakes : Room := { frames := 1, cells := 0, slots := 0, locals := 21 }
theorem hdS_X6_ropeTakes : yX6_ropeTakes.cls ≠ "java/lang/invoke/MethodHandle" ∧ yX6_ropeTakes.cls ≠ "java/lang/invoke/VarHandle" ∧ (parseMethodDescriptor yX6_ropeTakes.desc).map (fun d => d.parameters.length) = some 2 := by decide +kernel
theorem hdV_X6_ropeTakes : yX6_ropeTakes.cls = RX6 ∧ yX6_ropeTakes.cls ≠ "java/lang/invoke/MethodHandle" ∧ yX6_ropeTakes.cls ≠ "java/lang/invoke/VarHandle" ∧ (parseMethodDescriptor yX6_ropeTakes.desc).map (fun d => d.parameters.length) = some 2 := by decide +kernel
set_option maxHeartbeats 4000000 in
set_option maxRecDepth 100000 in
theorem c_X6_ropeTakes (l : Launch) (D : va_G) (cI cZ cJ cS : ClassId) (h h_mast h_parts h_strength : Nat) (v_h_whole : Int32) (v_h_size : Int32) (f_h_parts : Nat → Int32) (a1 : Int32) (a2 : Int32) (r : Int32) (hf : p_X6_ropeTakes f_h_parts a1 a2 = some r) : k_MI l yX6_ropeTakes wsX6_ropeTakes rm_X6_ropeTakes D (k_tys cI cZ cJ cS) [.ref h, .int a1, .int a2] [(h, .inr (6, [.ref h_mast, .ref h_parts, .ref h_strength, .int v_h_whole, .int v_h_size])), (h_parts, .inl (cI, 6, .inl f_h_parts))] [(h, .inr (6, [.ref h_mast, .ref h_parts, .ref h_strength, .int v_h_whole, .int v_h_size])), (h_parts, .inl (cI, 6, .inl f_h_parts))] r := by
  refine k_enter (y := yX6_ropeTakes) (wl := wsX6_ropeTakes) (cc := cX6_ropeTakes) (maxL := 3) (ret := (some .int)) (Qc := fun A => k_Qi D (k_tys cI cZ cJ cS) [(h, .inr (6, [.ref h_mast, .ref h_parts, .ref h_strength, .int v_h_whole, .int v_h_size])), (h_parts, .inl (cI, 6, .inl f_h_parts))] A r) (by decide) rfl (Nat.le_of_ble_eq_true rfl) [(0, .ref h), (1, .int a1), (2, .int a2)] rfl ?_
  intro p e s m below meth c A hx hb hml hr hlocks hnm hown hK hP hD hA hS hN ls args Q hts hl hQ
  replace hown : s.vm.findClass RX6 = some m.cls := hown
  have S0 : CallFix p m c cX6_ropeTakes 3 s args wsX6_ropeTakes RX6 := ⟨hx, hb, hml, hown, hts⟩
  have inX6 : ∀ w ∈ u_ws RX6 TX6 5, w ∈ wsX6_ropeTakes := fun w h => List.mem_cons_of_mem _ (List.mem_append_right _ h)
  have wl1 : (Cond.fieldLink RX6 15 "BeachedShip$Tackles" "parts" "[I").before args s = true := hts _ (List.mem_of_getElem? (i := 1) rfl)
  have wl3 : (Cond.initialized RX8).before args s = true := hts _ (List.mem_of_getElem? (i := 3) rfl)
  have wl2 : (Cond.static yX8_roundedUp).before args s = true := hts _ (List.mem_of_getElem? (i := 2) rfl)
  have hRet : ∀ (r_z : Int32), some r_z = some r → ∀ (H : Heap) (locs : List Loc) (ls : Array Slot) (pc : Nat), va_P D vwCl [(h, .inr (6, [.ref h_mast, .ref h_parts, .ref h_strength, .int v_h_whole, .int v_h_size])), (h_parts, .inl (cI, 6, .inl f_h_parts))] H → va_D A [(h, .inr (6, [.ref h_mast, .ref h_parts, .ref h_strength, .int v_h_whole, .int v_h_size])), (h_parts, .inl (cI, 6, .inl f_h_parts))] → va_S A s.heap H locs → narrow .int (.int r_z) = .int r_z → decode cX6_ropeTakes pc = .ok (.ireturn, 1) → W p l e rm_X6_ropeTakes s m args below meth c H locs 0 0 Q (F0 m pc ls [.int r_z]) := by
    intro r_z hz H locs ls pc hP hD hS hn hd
    cases hz
    exact k_iret hx hb hr hlocks hn hK hP hD hS hQ rfl hd
  unfold p_X6_ropeTakes at hf
  refine lv_iload_n hx hb dX6_ropeTakes_0 rfl (lv_at hl 2 rfl) ?_
  refine lv_aload_n hx hb dX6_ropeTakes_1 rfl (lv_at hl 0 rfl) ?_
  refine k_get (C := RX6) (T := TX6) (N := 5) hx hb hts inX6 hown hK hP 0 rfl rfl 1 (by decide) rfl wl1 rfl dX6_ropeTakes_2 ?_
  refine lv_iload_n hx hb dX6_ropeTakes_5 rfl (lv_at hl 1 rfl) ?_
  obtain ⟨hi1, hf⟩ := k_ix_some hf
  refine k_iald (k := a1.toNatClampNeg) hx hb hK hP 1 0 rfl rfl hi1 rfl dX6_ropeTakes_6 ?_
  obtain ⟨r2, hc2, hf⟩ := k_b1_some hf
  refine k_NiR (As := [.int a2, .int (f_h_parts a1.toNatClampNeg)]) (rest := []) S0 (c_X8_roundedUp l D cI cZ cJ cS a2 (f_h_parts a1.toNatClampNeg) r2 hc2) ⟨va_cnB 2 hts gX6_ropeTakes_X8_roundedUp_n34 rfl rfl rfl (hN _ (List.mem_of_getElem? (i := 6) rfl)) wl3 hdS_X8_roundedUp ⟨Nat.le_of_ble_eq_true rfl, Nat.le_of_ble_eq_true rfl⟩, wl2, trivial⟩ hK hP hD hS hA hN [] rfl (by decide) rfl hl.1 rfl (Nat.le_of_ble_eq_true rfl) dX6_ropeTakes_7 (fun H locs hP hS => ?_)
  exact hRet _ hf _ _ _ _ hP hD hS rfl dX6_ropeTakes_10

def lb_X6_ropeMostOver_8 (v_h_size : Int32) (f_h_parts : Nat → Int32) (a1 : Int32) (f_h_strength : Nat → Int32) (a2 : Int32) (v_h_whole : Int32) (x3_18 : Int32) (x4_19 : Int32) (x5_20 : Int32) : Option ((Int32 × Int32 × Int32) ⊕ (Int32)) :=
  if v_h_size ≤ x5_20 then
    some (.inr x4_19)
  else
    k_b1 (p_X6_ropeTakes f_h_parts x5_20 a1) fun r22 =>
    k_b1 (p_X6_ropeMay f_h_strength x5_20 a2) fun r23 =>
    k_b1 (p_X8_hasBit v_h_whole x5_20) fun r24 =>
    if r24 = 0 then
      some (.inl (x3_18, x4_19, x5_20 + 1))
    else
      if (r22 - r23) ≤ x3_18 then
        some (.inl (x3_18, x4_19, x5_20 + 1))
      else
        some (.inl (r22 - r23, x5_20, x5_20 + 1))
def p_X6_ropeMostOver (v_h_whole : Int32) (v_h_size : Int32) (f_h_parts : Nat → Int32) (f_h_strength : Nat → Int32) (a1 : Int32) (a2 : Int32) : Option (Int32) :=
  k_b1 (k_lp (fun s => lb_X6_ropeMostOver_8 v_h_size f_h_parts a1 f_h_strength a2 v_h_whole s.1 s.2.1 s.2.2) k_fuel (0, (-1), 0)) fun x4_17 =>
  some x4_17
abbrev rm_X6_ropeMostOver : Room := { frames := 2, cells := 0, slots := 0, locals := 43 }
theorem hdS_X6_ropeMostOver : yX6_ropeMostOver.cls ≠ "java/lang/invoke/MethodHandle" ∧ yX6_ropeMostOver.cls ≠ "java/lang/invoke/VarHandle" ∧ (parseMethodDescriptor yX6_ropeMostOver.desc).map (fun d => d.parameters.length) = some 2 := by decide +kernel
theorem hdV_X6_ropeMostOver : yX6_ropeMostOver.cls = RX6 ∧ yX6_ropeMostOver.cls ≠ "java/lang/invoke/MethodHandle" ∧ yX6_ropeMostOver.cls ≠ "java/lang/invoke/VarHandle" ∧ (parseMethodDescriptor yX6_ropeMostOver.desc).map (fun d => d.parameters.length) = some 2 := by decide +kernel
set_option maxHeartbeats 4000000 in
set_option maxRecDepth 100000 in
theorem c_X6_ropeMostOver (l : Launch) (D : va_G) (cI cZ cJ cS : ClassId) (h h_mast h_parts h_strength : Nat) (v_h_whole : Int32) (v_h_size : Int32) (f_h_parts : Nat → Int32) (f_h_strength : Nat → Int32) (a1 : Int32) (a2 : Int32) (r : Int32) (hf : p_X6_ropeMostOver v_h_whole v_h_size f_h_parts f_h_strength a1 a2 = some r) : k_MI l yX6_ropeMostOver wsX6_ropeMostOver rm_X6_ropeMostOver D (k_tys cI cZ cJ cS) [.ref h, .int a1, .int a2] [(h, .inr (6, [.ref h_mast, .ref h_parts, .ref h_strength, .int v_h_whole, .int v_h_size])), (h_parts, .inl (cI, 6, .inl f_h_parts)), (h_strength, .inl (cI, 6, .inl f_h_strength))] [(h, .inr (6, [.ref h_mast, .ref h_parts, .ref h_strength, .int v_h_whole, .int v_h_size])), (h_parts, .inl (cI, 6, .inl f_h_parts)), (h_strength, .inl (cI, 6, .inl f_h_strength))] r := by
  refine k_enter (y := yX6_ropeMostOver) (wl := wsX6_ropeMostOver) (cc := cX6_ropeMostOver) (maxL := 7) (ret := (some .int)) (Qc := fun A => k_Qi D (k_tys cI cZ cJ cS) [(h, .inr (6, [.ref h_mast, .ref h_parts, .ref h_strength, .int v_h_whole, .int v_h_size])), (h_parts, .inl (cI, 6, .inl f_h_parts)), (h_strength, .inl (cI, 6, .inl f_h_strength))] A r) (by decide) rfl (Nat.le_of_ble_eq_true rfl) [(0, .ref h), (1, .int a1), (2, .int a2)] rfl ?_
  intro p e s m below meth c A hx hb hml hr hlocks hnm hown hK hP hD hA hS hN ls args Q hts hl hQ
  replace hown : s.vm.findClass RX6 = some m.cls := hown
  have S0 : CallFix p m c cX6_ropeMostOver 7 s args wsX6_ropeMostOver RX6 := ⟨hx, hb, hml, hown, hts⟩
  have inX6 : ∀ w ∈ u_ws RX6 TX6 5, w ∈ wsX6_ropeMostOver := fun w h => List.mem_cons_of_mem _ (List.mem_append_right _ h)
  have wl1 : (Cond.fieldLink RX6 21 "BeachedShip$Tackles" "size" "I").before args s = true := hts _ (List.mem_of_getElem? (i := 1) rfl)
  have wl2 : (Cond.fieldLink RX6 25 "BeachedShip$Tackles" "whole" "I").before args s = true := hts _ (List.mem_of_getElem? (i := 2) rfl)
  have wl10 : (Cond.initialized RX8).before args s = true := hts _ (List.mem_of_getElem? (i := 10) rfl)
  have wl17 : (Cond.static yX8_hasBit).before args s = true := hts _ (List.mem_of_getElem? (i := 17) rfl)
  have hRet : ∀ (r_z : Int32), some r_z = some r → ∀ (H : Heap) (locs : List Loc) (ls : Array Slot) (pc : Nat), va_P D vwCl [(h, .inr (6, [.ref h_mast, .ref h_parts, .ref h_strength, .int v_h_whole, .int v_h_size])), (h_parts, .inl (cI, 6, .inl f_h_parts)), (h_strength, .inl (cI, 6, .inl f_h_strength))] H → va_D A [(h, .inr (6, [.ref h_mast, .ref h_parts, .ref h_strength, .int v_h_whole, .int v_h_size])), (h_parts, .inl (cI, 6, .inl f_h_parts)), (h_strength, .inl (cI, 6, .inl f_h_strength))] → va_S A s.heap H locs → narrow .int (.int r_z) = .int r_z → decode cX6_ropeMostOver pc = .ok (.ireturn, 1) → W p l e rm_X6_ropeMostOver s m args below meth c H locs 0 0 Q (F0 m pc ls [.int r_z]) := by
    intro r_z hz H locs ls pc hP hD hS hn hd
    cases hz
    exact k_iret hx hb hr hlocks hn hK hP hD hS hQ rfl hd
  unfold p_X6_ropeMostOver at hf
  refine lv_iconst (v := 0) hx hb dX6_ropeMostOver_0 (by decide) ?_
  refine lv_istore_n (lv' := [(3, .int 0), (0, .ref h), (1, .int a1), (2, .int a2)]) hx hb dX6_ropeMostOver_1 rfl hl (by decide) rfl (fun ls hl => ?_)
  refine lv_iconst (v := (-1)) hx hb dX6_ropeMostOver_2 (by decide) ?_
  refine lv_istore (lv' := [(4, .int (-1)), (3, .int 0), (0, .ref h), (1, .int a1), (2, .int a2)]) hx hb dX6_ropeMostOver_3 hl (by decide) rfl (fun ls hl => ?_)
  refine lv_iconst (v := 0) hx hb dX6_ropeMostOver_5 (by decide) ?_
  refine lv_istore (lv' := [(5, .int 0), (4, .int (-1)), (3, .int 0), (0, .ref h), (1, .int a1), (2, .int a2)]) hx hb dX6_ropeMostOver_6 hl (by decide) rfl (fun ls hl => ?_)
  obtain ⟨ee16, hlp16, hfr16⟩ := k_b1_ee hf
  have hE16 : ∀ (x4_17 : Int32), ee16 = x4_17 → ∀ (H : Heap) (locs : List Loc) (ls : Array Slot), va_P D vwCl [(h, .inr (6, [.ref h_mast, .ref h_parts, .ref h_strength, .int v_h_whole, .int v_h_size])), (h_parts, .inl (cI, 6, .inl f_h_parts)), (h_strength, .inl (cI, 6, .inl f_h_strength))] H → va_D A [(h, .inr (6, [.ref h_mast, .ref h_parts, .ref h_strength, .int v_h_whole, .int v_h_size])), (h_parts, .inl (cI, 6, .inl f_h_parts)), (h_strength, .inl (cI, 6, .inl f_h_strength))] → va_S A s.heap H locs → lv_has ls 7 [(4, .int x4_17)] → W p l e rm_X6_ropeMostOver s m args below meth c H locs 0 0 Q (F0 m 65 ls []) := by
    intro x4_17 he H locs ls hP hD hS hl
    replace hf := hfr16 x4_17 he
    refine lv_iload hx hb dX6_ropeMostOver_65 (lv_at hl 0 rfl) ?_
    exact hRet _ hf _ _ _ _ hP hD hS rfl dX6_ropeMostOver_67
  refine (k_lp_ind (fun sx16 => ∀ (H : Heap) (locs : List Loc) (ls : Array Slot), va_P D vwCl [(h, .inr (6, [.ref h_mast, .ref h_parts, .ref h_strength, .int v_h_whole, .int v_h_size])), (h_parts, .inl (cI, 6, .inl f_h_parts)), (h_strength, .inl (cI, 6, .inl f_h_strength))] H → va_D A [(h, .inr (6, [.ref h_mast, .ref h_parts, .ref h_strength, .int v_h_whole, .int v_h_size])), (h_parts, .inl (cI, 6, .inl f_h_parts)), (h_strength, .inl (cI, 6, .inl f_h_strength))] → va_S A s.heap H locs → lv_has ls 7 [(5, .int sx16.2.2), (4, .int sx16.2.1), (3, .int sx16.1), (0, .ref h), (1, .int a1), (2, .int a2)] → W p l e rm_X6_ropeMostOver s m args below meth c H locs 0 0 Q (F0 m 8 ls [])) (fun sx16 X16 hX16 hin16 hout16 => ?_) _ _ hlp16) _ _ _ hP hD hS (lv_sub hl [0, 1, 2, 3, 4, 5] rfl)
  obtain ⟨x3_18, x4_19, x5_20⟩ := sx16
  intro H locs ls hP hD hS hl
  replace hP : va_P D vwCl [(h, .inr (6, [.ref h_mast, .ref h_parts, .ref h_strength, .int v_h_whole, .int v_h_size])), (h_parts, .inl (cI, 6, .inl f_h_parts)), (h_strength, .inl (cI, 6, .inl f_h_strength))] H := hP
  replace hD : va_D A [(h, .inr (6, [.ref h_mast, .ref h_parts, .ref h_strength, .int v_h_whole, .int v_h_size])), (h_parts, .inl (cI, 6, .inl f_h_parts)), (h_strength, .inl (cI, 6, .inl f_h_strength))] := hD
  replace hl : lv_has ls 7 [(5, .int x5_20), (4, .int x4_19), (3, .int x3_18), (0, .ref h), (1, .int a1), (2, .int a2)] := hl
  replace hX16 : lb_X6_ropeMostOver_8 v_h_size f_h_parts a1 f_h_strength a2 v_h_whole x3_18 x4_19 x5_20 = some X16 := hX16
  unfold lb_X6_ropeMostOver_8 at hX16
  refine lv_iload hx hb dX6_ropeMostOver_8 (lv_at hl 0 rfl) ?_
  refine lv_aload_n hx hb dX6_ropeMostOver_10 rfl (lv_at hl 3 rfl) ?_
  refine k_get (C := RX6) (T := TX6) (N := 5) hx hb hts inX6 hown hK hP 0 rfl rfl 4 (by decide) rfl wl1 rfl dX6_ropeMostOver_11 ?_
  refine lv_icmp_ge (tgt := 65) hx hb dX6_ropeMostOver_14 (by decide) (fun c21 => ?_) (fun c21 => ?_)
  · replace hX16 := k_pos hX16 c21
    exact hE16 _ (hout16 _ (Option.some.inj hX16).symm).symm _ _ _ hP hD hS (lv_sub hl [1] rfl)
  · replace hX16 := k_neg hX16 c21
    refine lv_aload_n hx hb dX6_ropeMostOver_17 rfl (lv_at hl 3 rfl) ?_
    refine lv_iload hx hb dX6_ropeMostOver_18 (lv_at hl 0 rfl) ?_
    refine lv_iload_n hx hb dX6_ropeMostOver_20 rfl (lv_at hl 4 rfl) ?_
    obtain ⟨r22, hc22, hX16⟩ := k_b1_some hX16
    refine k_ViR (q0 := 0) (As := [.int x5_20, .int a1]) (rest := []) S0 (c_X6_ropeTakes l D cI cZ cJ cS h h_mast h_parts h_strength v_h_whole v_h_size f_h_parts x5_20 a1 r22 hc22) (cwV 2 hts gX6_ropeMostOver_X6_ropeTakes rfl rfl rfl hdV_X6_ropeTakes ⟨Nat.le_of_ble_eq_true rfl, Nat.le_of_ble_eq_true rfl⟩) hK hP hD hS hA hN [0, 1] rfl (by decide) rfl rfl rfl rfl hl.1 rfl (Nat.le_of_ble_eq_true rfl) dX6_ropeMostOver_21 (fun H locs hP hS => ?_)
    refine lv_aload_n hx hb dX6_ropeMostOver_24 rfl (lv_at hl 3 rfl) ?_
    refine lv_iload hx hb dX6_ropeMostOver_25 (lv_at hl 0 rfl) ?_
    refine lv_iload_n hx hb dX6_ropeMostOver_27 rfl (lv_at hl 5 rfl) ?_
    obtain ⟨r23, hc23, hX16⟩ := k_b1_some hX16
    refine k_ViR (q0 := 0) (As := [.int x5_20, .int a2]) (rest := [.int r22]) S0 (c_X6_ropeMay l D cI cZ cJ cS h h_mast h_parts h_strength v_h_whole v_h_size f_h_strength x5_20 a2 r23 hc23) (cwV 2 hts gX6_ropeMostOver_X6_ropeMay rfl rfl rfl hdV_X6_ropeMay ⟨Nat.le_of_ble_eq_true rfl, Nat.le_of_ble_eq_true rfl⟩) hK hP hD hS hA hN [0, 2] rfl (by decide) rfl rfl rfl rfl hl.1 rfl (Nat.le_of_ble_eq_true rfl) dX6_ropeMostOver_28 (fun H locs hP hS => ?_)
    refine lv_isub hx hb dX6_ropeMostOver_31 ?_
    refine lv_istore (lv' := [(6, .int (r22 - r23)), (5, .int x5_20), (4, .int x4_19), (3, .int x3_18), (0, .ref h), (1, .int a1), (2, .int a2)]) hx hb dX6_ropeMostOver_32 hl (by decide) rfl (fun ls hl => ?_)
    refine lv_aload_n hx hb dX6_ropeMostOver_34 rfl (lv_at hl 4 rfl) ?_
    refine k_get (C := RX6) (T := TX6) (N := 5) hx hb hts inX6 hown hK hP 0 rfl rfl 3 (by decide) rfl wl2 rfl dX6_ropeMostOver_35 ?_
    refine lv_iload hx hb dX6_ropeMostOver_38 (lv_at hl 1 rfl) ?_
    obtain ⟨r24, hc24, hX16⟩ := k_b1_some hX16
    refine k_NiR (As := [.int v_h_whole, .int x5_20]) (rest := []) S0 (c_X8_hasBit l D cI cZ cJ cS v_h_whole x5_20 r24 hc24) ⟨va_cnB 2 hts gX6_ropeMostOver_X8_hasBit_n57 rfl rfl rfl (hN _ (List.mem_of_getElem? (i := 7) rfl)) wl10 hdS_X8_hasBit ⟨Nat.le_of_ble_eq_true rfl, Nat.le_of_ble_eq_true rfl⟩, wl17, trivial⟩ hK hP hD hS hA hN [] rfl (by decide) rfl hl.1 rfl (Nat.le_of_ble_eq_true rfl) dX6_ropeMostOver_40 (fun H locs hP hS => ?_)
    refine lv_if_eq (tgt := 59) hx hb dX6_ropeMostOver_43 (by decide) (fun c25 => ?_) (fun c25 => ?_)
    · replace hX16 := k_pos hX16 c25
      refine lv_iinc (v := x5_20 + 1) (lv' := [(5, .int (x5_20 + 1)), (6, .int (r22 - r23)), (4, .int x4_19), (3, .int x3_18), (0, .ref h), (1, .int a1), (2, .int a2)]) hx hb dX6_ropeMostOver_59 hl (k := 1) rfl rfl (by decide) rfl (fun ls hl => ?_)
      refine lv_goto (tgt := 8) hx hb dX6_ropeMostOver_62 (by decide) ?_
      exact hin16 (x3_18, x4_19, x5_20 + 1) (Option.some.inj hX16).symm _ _ _ hP hD hS (lv_sub hl [0, 2, 3, 4, 5, 6] rfl)
    · replace hX16 := k_neg hX16 c25
      refine lv_iload hx hb dX6_ropeMostOver_46 (lv_at hl 0 rfl) ?_
      refine lv_iload_n hx hb dX6_ropeMostOver_48 rfl (lv_at hl 3 rfl) ?_
      refine lv_icmp_le (tgt := 59) hx hb dX6_ropeMostOver_49 (by decide) (fun c26 => ?_) (fun c26 => ?_)
      · replace hX16 := k_pos hX16 c26
        refine lv_iinc (v := x5_20 + 1) (lv' := [(5, .int (x5_20 + 1)), (6, .int (r22 - r23)), (4, .int x4_19), (3, .int x3_18), (0, .ref h), (1, .int a1), (2, .int a2)]) hx hb dX6_ropeMostOver_59 hl (k := 1) rfl rfl (by decide) rfl (fun ls hl => ?_)
        refine lv_goto (tgt := 8) hx hb dX6_ropeMostOver_62 (by decide) ?_
        exact hin16 (x3_18, x4_19, x5_20 + 1) (Option.some.inj hX16).symm _ _ _ hP hD hS (lv_sub hl [0, 2, 3, 4, 5, 6] rfl)
      · replace hX16 := k_neg hX16 c26
        refine lv_iload hx hb dX6_ropeMostOver_52 (lv_at hl 0 rfl) ?_
        refine lv_istore_n (lv' := [(3, .int (r22 - r23)), (6, .int (r22 - r23)), (5, .int x5_20), (4, .int x4_19), (0, .ref h), (1, .int a1), (2, .int a2)]) hx hb dX6_ropeMostOver_54 rfl hl (by decide) rfl (fun ls hl => ?_)
        refine lv_iload hx hb dX6_ropeMostOver_55 (lv_at hl 2 rfl) ?_
        refine lv_istore (lv' := [(4, .int x5_20), (3, .int (r22 - r23)), (6, .int (r22 - r23)), (5, .int x5_20), (0, .ref h), (1, .int a1), (2, .int a2)]) hx hb dX6_ropeMostOver_57 hl (by decide) rfl (fun ls hl => ?_)
        refine lv_iinc (v := x5_20 + 1) (lv' := [(5, .int (x5_20 + 1)), (4, .int x5_20), (3, .int (r22 - r23)), (6, .int (r22 - r23)), (0, .ref h), (1, .int a1), (2, .int a2)]) hx hb dX6_ropeMostOver_59 hl (k := 3) rfl rfl (by decide) rfl (fun ls hl => ?_)
        refine lv_goto (tgt := 8) hx hb dX6_ropeMostOver_62 (by decide) ?_
        exact hin16 (r22 - r23, x5_20, x5_20 + 1) (Option.some.inj hX16).symm _ _ _ hP hD hS (lv_sub hl [0, 1, 2, 4, 5, 6] rfl)

def p_X6_share (v_h_whole : Int32) (a1 : Int32) : Option (Int32) :=
  k_b1 (p_J6_bitCount_0f7a4 v_h_whole) fun r1 =>
  k_b1 (p_X8_roundedUp a1 r1) fun r2 =>
  some r2
abbrev rm_X6_share : Room := { frames := 1, cells := 0, slots := 0, locals := 21 }
theorem hdS_X6_share : yX6_share.cls ≠ "java/lang/invoke/MethodHandle" ∧ yX6_share.cls ≠ "java/lang/invoke/VarHandle" ∧ (parseMethodDescriptor yX6_share.desc).map (fun d => d.parameters.length) = some 1 := by decide +kernel
theorem hdV_X6_share : yX6_share.cls = RX6 ∧ yX6_share.cls ≠ "java/lang/invoke/MethodHandle" ∧ yX6_share.cls ≠ "java/lang/invoke/VarHandle" ∧ (parseMethodDescriptor yX6_share.desc).map (fun d => d.parameters.length) = some 1 := by decide +kernel
set_option maxHeartbeats 4000000 in
set_option maxRecDepth 100000 in
theorem c_X6_share (l : Launch) (D : va_G) (cI cZ cJ cS : ClassId) (h h_mast h_parts h_strength : Nat) (v_h_whole : Int32) (v_h_size : Int32) (a1 : Int32) (r : Int32) (hf : p_X6_share v_h_whole a1 = some r) : k_MI l yX6_share wsX6_share rm_X6_share D (k_tys cI cZ cJ cS) [.ref h, .int a1] [(h, .inr (6, [.ref h_mast, .ref h_parts, .ref h_strength, .int v_h_whole, .int v_h_size]))] [(h, .inr (6, [.ref h_mast, .ref h_parts, .ref h_strength, .int v_h_whole, .int v_h_size]))] r := by
  refine k_enter (y := yX6_share) (wl := wsX6_share) (cc := cX6_share) (maxL := 2) (ret := (some .int)) (Qc := fun A => k_Qi D (k_tys cI cZ cJ cS) [(h, .inr (6, [.ref h_mast, .ref h_parts, .ref h_strength, .int v_h_whole, .int v_h_size]))] A r) (by decide) rfl (Nat.le_of_ble_eq_true rfl) [(0, .ref h), (1, .int a1)] rfl ?_
  intro p e s m below meth c A hx hb hml hr hlocks hnm hown hK hP hD hA hS hN ls args Q hts hl hQ
  replace hown : s.vm.findClass RX6 = some m.cls := hown
  have S0 : CallFix p m c cX6_share 2 s args wsX6_share RX6 := ⟨hx, hb, hml, hown, hts⟩
  have inX6 : ∀ w ∈ u_ws RX6 TX6 5, w ∈ wsX6_share := fun w h => List.mem_cons_of_mem _ (List.mem_append_right _ h)
  have wl1 : (Cond.fieldLink RX6 25 "BeachedShip$Tackles" "whole" "I").before args s = true := hts _ (List.mem_of_getElem? (i := 1) rfl)
  have wl10 : (Cond.initialized RX8).before args s = true := hts _ (List.mem_of_getElem? (i := 10) rfl)
  have wl9 : (Cond.static yX8_roundedUp).before args s = true := hts _ (List.mem_of_getElem? (i := 9) rfl)
  have hRet : ∀ (r_z : Int32), some r_z = some r → ∀ (H : Heap) (locs : List Loc) (ls : Array Slot) (pc : Nat), va_P D vwCl [(h, .inr (6, [.ref h_mast, .ref h_parts, .ref h_strength, .int v_h_whole, .int v_h_size]))] H → va_D A [(h, .inr (6, [.ref h_mast, .ref h_parts, .ref h_strength, .int v_h_whole, .int v_h_size]))] → va_S A s.heap H locs → narrow .int (.int r_z) = .int r_z → decode cX6_share pc = .ok (.ireturn, 1) → W p l e rm_X6_share s m args below meth c H locs 0 0 Q (F0 m pc ls [.int r_z]) := by
    intro r_z hz H locs ls pc hP hD hS hn hd
    cases hz
    exact k_iret hx hb hr hlocks hn hK hP hD hS hQ rfl hd
  unfold p_X6_share at hf
  refine lv_iload_n hx hb dX6_share_0 rfl (lv_at hl 1 rfl) ?_
  refine lv_aload_n hx hb dX6_share_1 rfl (lv_at hl 0 rfl) ?_
  refine k_get (C := RX6) (T := TX6) (N := 5) hx hb hts inX6 hown hK hP 0 rfl rfl 3 (by decide) rfl wl1 rfl dX6_share_2 ?_
  obtain ⟨r1, hc1, hf⟩ := k_b1_some hf
  refine k_SiR (As := [.int v_h_whole]) (rest := [.int a1]) S0 (c_J6_bitCount_0f7a4 l D cI cZ cJ cS v_h_whole r1 hc1) (va_cwS 1 hts gX6_share_J6_bitCount_0f7a4 rfl rfl rfl hdS_J6_bitCount_0f7a4 ⟨Nat.le_of_ble_eq_true rfl, Nat.le_of_ble_eq_true rfl⟩) hK hP hD hS hA hN [] rfl (by decide) rfl hl.1 rfl (Nat.le_of_ble_eq_true rfl) dX6_share_5 (fun H locs hP hS => ?_)
  obtain ⟨r2, hc2, hf⟩ := k_b1_some hf
  refine k_NiR (As := [.int a1, .int r1]) (rest := []) S0 (c_X8_roundedUp l D cI cZ cJ cS a1 r1 r2 hc2) ⟨va_cnB 2 hts gX6_share_X8_roundedUp_n34 rfl rfl rfl (hN _ (List.mem_of_getElem? (i := 6) rfl)) wl10 hdS_X8_roundedUp ⟨Nat.le_of_ble_eq_true rfl, Nat.le_of_ble_eq_true rfl⟩, wl9, trivial⟩ hK hP hD hS hA hN [] rfl (by decide) rfl hl.1 rfl (Nat.le_of_ble_eq_true rfl) dX6_share_8 (fun H locs hP hS => ?_)
  exact hRet _ hf _ _ _ _ hP hD hS rfl dX6_share_11

def p_X3_hoursLacking (f_h_state : Nat → Int32) (f_h_hours : Nat → Int32) (f_h_done : Nat → Int32) (a1 : Int32) : Option (Int32) :=
  k_ix a1 12 (
    if (f_h_state a1.toNatClampNeg) = 0 then
      k_ix a1 12 (
        k_ix a1 12 (
          some ((1 + (f_h_hours a1.toNatClampNeg)) - (f_h_done a1.toNatClampNeg))))
    else
      k_ix a1 12 (
        k_ix a1 12 (
          some ((0 + (f_h_hours a1.toNatClampNeg)) - (f_h_done a1.toNatClampNeg)))))
abbrev rm_X3_hoursLacking : Room := { frames := 0, cells := 0, slots := 0, locals := 0 }
theorem hdS_X3_hoursLacking : yX3_hoursLacking.cls ≠ "java/lang/invoke/MethodHandle" ∧ yX3_hoursLacking.cls ≠ "java/lang/invoke/VarHandle" ∧ (parseMethodDescriptor yX3_hoursLacking.desc).map (fun d => d.parameters.length) = some 1 := by decide +kernel
theorem hdV_X3_hoursLacking : yX3_hoursLacking.cls = RX3 ∧ yX3_hoursLacking.cls ≠ "java/lang/invoke/MethodHandle" ∧ yX3_hoursLacking.cls ≠ "java/lang/invoke/VarHandle" ∧ (parseMethodDescriptor yX3_hoursLacking.desc).map (fun d => d.parameters.length) = some 1 := by decide +kernel
set_option maxHeartbeats 4000000 in
set_option maxRecDepth 100000 in
theorem c_X3_hoursLacking (l : Launch) (D : va_G) (cI cZ cJ cS : ClassId) (h h_strake h_side h_hands h_hours h_pitch h_worth h_state h_done : Nat) (v_h_size : Int32) (f_h_state : Nat → Int32) (f_h_hours : Nat → Int32) (f_h_done : Nat → Int32) (a1 : Int32) (r : Int32) (hf : p_X3_hoursLacking f_h_state f_h_hours f_h_done a1 = some r) : k_MI l yX3_hoursLacking wsX3_hoursLacking rm_X3_hoursLacking D (k_tys cI cZ cJ cS) [.ref h, .int a1] [(h, .inr (3, [.ref h_strake, .ref h_side, .ref h_hands, .ref h_hours, .ref h_pitch, .ref h_worth, .ref h_state, .ref h_done, .int v_h_size])), (h_state, .inl (cI, 12, .inl f_h_state)), (h_hours, .inl (cI, 12, .inl f_h_hours)), (h_done, .inl (cI, 12, .inl f_h_done))] [(h, .inr (3, [.ref h_strake, .ref h_side, .ref h_hands, .ref h_hours, .ref h_pitch, .ref h_worth, .ref h_state, .ref h_done, .int v_h_size])), (h_state, .inl (cI, 12, .inl f_h_state)), (h_hours, .inl (cI, 12, .inl f_h_hours)), (h_done, .inl (cI, 12, .inl f_h_done))] r := by
  refine k_enter (y := yX3_hoursLacking) (wl := wsX3_hoursLacking) (cc := cX3_hoursLacking) (maxL := 2) (ret := (some .int)) (Qc := fun A => k_Qi D (k_tys cI cZ cJ cS) [(h, .inr (3, [.ref h_strake, .ref h_side, .ref h_hands, .ref h_hours, .ref h_pitch, .ref h_worth, .ref h_state, .ref h_done, .int v_h_size])), (h_state, .inl (cI, 12, .inl f_h_state)), (h_hours, .inl (cI, 12, .inl f_h_hours)), (h_done, .inl (cI, 12, .inl f_h_done))] A r) (by decide) rfl (Nat.le_of_ble_eq_true rfl) [(0, .ref h), (1, .int a1)] rfl ?_
  intro p e s m below meth c A hx hb hml hr hlocks hnm hown hK hP hD hA hS hN ls args Q hts hl hQ
  replace hown : s.vm.findClass RX3 = some m.cls := hown
  have inX3 : ∀ w ∈ u_ws RX3 TX3 9, w ∈ wsX3_hoursLacking := fun w h => List.mem_cons_of_mem _ (List.mem_append_right _ h)
  have wl1 : (Cond.fieldLink RX3 30 "BeachedShip$Seams" "state" "[I").before args s = true := hts _ (List.mem_of_getElem? (i := 1) rfl)
  have wl2 : (Cond.fieldLink RX3 21 "BeachedShip$Seams" "hours" "[I").before args s = true := hts _ (List.mem_of_getElem? (i := 2) rfl)
  have wl3 : (Cond.fieldLink RX3 33 "BeachedShip$Seams" "done" "[I").before args s = true := hts _ (List.mem_of_getElem? (i := 3) rfl)
  have hRet : ∀ (r_z : Int32), some r_z = some r → ∀ (H : Heap) (locs : List Loc) (ls : Array Slot) (pc : Nat), va_P D vwCl [(h, .inr (3, [.ref h_strake, .ref h_side, .ref h_hands, .ref h_hours, .ref h_pitch, .ref h_worth, .ref h_state, .ref h_done, .int v_h_size])), (h_state, .inl (cI, 12, .inl f_h_state)), (h_hours, .inl (cI, 12, .inl f_h_hours)), (h_done, .inl (cI, 12, .inl f_h_done))] H → va_D A [(h, .inr (3, [.ref h_strake, .ref h_side, .ref h_hands, .ref h_hours, .ref h_pitch, .ref h_worth, .ref h_state, .ref h_done, .int v_h_size])), (h_state, .inl (cI, 12, .inl f_h_state)), (h_hours, .inl (cI, 12, .inl f_h_hours)), (h_done, .inl (cI, 12, .inl f_h_done))] → va_S A s.heap H locs → narrow .int (.int r_z) = .int r_z → decode cX3_hoursLacking pc = .ok (.ireturn, 1) → W p l e rm_X3_hoursLacking s m args below meth c H locs 0 0 Q (F0 m pc ls [.int r_z]) := by
    intro r_z hz H locs ls pc hP hD hS hn hd
    cases hz
    exact k_iret hx hb hr hlocks hn hK hP hD hS hQ rfl hd
  unfold p_X3_hoursLacking at hf
  refine lv_aload_n hx hb dX3_hoursLacking_0 rfl (lv_at hl 0 rfl) ?_
  refine k_get (C := RX3) (T := TX3) (N := 9) hx hb hts inX3 hown hK hP 0 rfl rfl 6 (by decide) rfl wl1 rfl dX3_hoursLacking_1 ?_
  refine lv_iload_n hx hb dX3_hoursLacking_4 rfl (lv_at hl 1 rfl) ?_
  obtain ⟨hi1, hf⟩ := k_ix_some hf
  refine k_iald (k := a1.toNatClampNeg) hx hb hK hP 1 0 rfl rfl hi1 rfl dX3_hoursLacking_5 ?_
  refine lv_if_ne (tgt := 13) hx hb dX3_hoursLacking_6 (by decide) (fun c2 => ?_) (fun c2 => ?_)
  · replace hf := k_neg hf c2
    refine lv_iconst (v := 0) hx hb dX3_hoursLacking_13 (by decide) ?_
    refine lv_aload_n hx hb dX3_hoursLacking_14 rfl (lv_at hl 0 rfl) ?_
    refine k_get (C := RX3) (T := TX3) (N := 9) hx hb hts inX3 hown hK hP 0 rfl rfl 3 (by decide) rfl wl2 rfl dX3_hoursLacking_15 ?_
    refine lv_iload_n hx hb dX3_hoursLacking_18 rfl (lv_at hl 1 rfl) ?_
    obtain ⟨hi3, hf⟩ := k_ix_some hf
    refine k_iald (k := a1.toNatClampNeg) hx hb hK hP 2 0 rfl rfl hi3 rfl dX3_hoursLacking_19 ?_
    refine lv_iadd hx hb dX3_hoursLacking_20 ?_
    refine lv_aload_n hx hb dX3_hoursLacking_21 rfl (lv_at hl 0 rfl) ?_
    refine k_get (C := RX3) (T := TX3) (N := 9) hx hb hts inX3 hown hK hP 0 rfl rfl 7 (by decide) rfl wl3 rfl dX3_hoursLacking_22 ?_
    refine lv_iload_n hx hb dX3_hoursLacking_25 rfl (lv_at hl 1 rfl) ?_
    obtain ⟨hi4, hf⟩ := k_ix_some hf
    refine k_iald (k := a1.toNatClampNeg) hx hb hK hP 3 0 rfl rfl hi4 rfl dX3_hoursLacking_26 ?_
    refine lv_isub hx hb dX3_hoursLacking_27 ?_
    exact hRet _ hf _ _ _ _ hP hD hS rfl dX3_hoursLacking_28
  · replace hf := k_pos hf c2
    refine lv_iconst (v := 1) hx hb dX3_hoursLacking_9 (by decide) ?_
    refine lv_goto (tgt := 14) hx hb dX3_hoursLacking_10 (by decide) ?_
    refine lv_aload_n hx hb dX3_hoursLacking_14 rfl (lv_at hl 0 rfl) ?_
    refine k_get (C := RX3) (T := TX3) (N := 9) hx hb hts inX3 hown hK hP 0 rfl rfl 3 (by decide) rfl wl2 rfl dX3_hoursLacking_15 ?_
    refine lv_iload_n hx hb dX3_hoursLacking_18 rfl (lv_at hl 1 rfl) ?_
    obtain ⟨hi5, hf⟩ := k_ix_some hf
    refine k_iald (k := a1.toNatClampNeg) hx hb hK hP 2 0 rfl rfl hi5 rfl dX3_hoursLacking_19 ?_
    refine lv_iadd hx hb dX3_hoursLacking_20 ?_
    refine lv_aload_n hx hb dX3_hoursLacking_21 rfl (lv_at hl 0 rfl) ?_
    refine k_get (C := RX3) (T := TX3) (N := 9) hx hb hts inX3 hown hK hP 0 rfl rfl 7 (by decide) rfl wl3 rfl dX3_hoursLacking_22 ?_
    refine lv_iload_n hx hb dX3_hoursLacking_25 rfl (lv_at hl 1 rfl) ?_
    obtain ⟨hi6, hf⟩ := k_ix_some hf
    refine k_iald (k := a1.toNatClampNeg) hx hb hK hP 3 0 rfl rfl hi6 rfl dX3_hoursLacking_26 ?_
    refine lv_isub hx hb dX3_hoursLacking_27 ?_
    exact hRet _ hf _ _ _ _ hP hD hS rfl dX3_hoursLacking_28

def p_X3_pitchLacking (f_h_done : Nat → Int32) (f_h_pitch : Nat → Int32) (a1 : Int32) : Option (Int32) :=
  k_ix a1 12 (
    if (f_h_done a1.toNatClampNeg) ≤ 0 then
      k_ix a1 12 (
        some (f_h_pitch a1.toNatClampNeg))
    else
      some 0)
abbrev rm_X3_pitchLacking : Room := { frames := 0, cells := 0, slots := 0, locals := 0 }
theorem hdS_X3_pitchLacking : yX3_pitchLacking.cls ≠ "java/lang/invoke/MethodHandle" ∧ yX3_pitchLacking.cls ≠ "java/lang/invoke/VarHandle" ∧ (parseMethodDescriptor yX3_pitchLacking.desc).map (fun d => d.parameters.length) = some 1 := by decide +kernel
theorem hdV_X3_pitchLacking : yX3_pitchLacking.cls = RX3 ∧ yX3_pitchLacking.cls ≠ "java/lang/invoke/MethodHandle" ∧ yX3_pitchLacking.cls ≠ "java/lang/invoke/VarHandle" ∧ (parseMethodDescriptor yX3_pitchLacking.desc).map (fun d => d.parameters.length) = some 1 := by decide +kernel
set_option maxHeartbeats 4000000 in
set_option maxRecDepth 100000 in
theorem c_X3_pitchLacking (l : Launch) (D : va_G) (cI cZ cJ cS : ClassId) (h h_strake h_side h_hands h_hours h_pitch h_worth h_state h_done : Nat) (v_h_size : Int32) (f_h_done : Nat → Int32) (f_h_pitch : Nat → Int32) (a1 : Int32) (r : Int32) (hf : p_X3_pitchLacking f_h_done f_h_pitch a1 = some r) : k_MI l yX3_pitchLacking wsX3_pitchLacking rm_X3_pitchLacking D (k_tys cI cZ cJ cS) [.ref h, .int a1] [(h, .inr (3, [.ref h_strake, .ref h_side, .ref h_hands, .ref h_hours, .ref h_pitch, .ref h_worth, .ref h_state, .ref h_done, .int v_h_size])), (h_done, .inl (cI, 12, .inl f_h_done)), (h_pitch, .inl (cI, 12, .inl f_h_pitch))] [(h, .inr (3, [.ref h_strake, .ref h_side, .ref h_hands, .ref h_hours, .ref h_pitch, .ref h_worth, .ref h_state, .ref h_done, .int v_h_size])), (h_done, .inl (cI, 12, .inl f_h_done)), (h_pitch, .inl (cI, 12, .inl f_h_pitch))] r := by
  refine k_enter (y := yX3_pitchLacking) (wl := wsX3_pitchLacking) (cc := cX3_pitchLacking) (maxL := 2) (ret := (some .int)) (Qc := fun A => k_Qi D (k_tys cI cZ cJ cS) [(h, .inr (3, [.ref h_strake, .ref h_side, .ref h_hands, .ref h_hours, .ref h_pitch, .ref h_worth, .ref h_state, .ref h_done, .int v_h_size])), (h_done, .inl (cI, 12, .inl f_h_done)), (h_pitch, .inl (cI, 12, .inl f_h_pitch))] A r) (by decide) rfl (Nat.le_of_ble_eq_true rfl) [(0, .ref h), (1, .int a1)] rfl ?_
  intro p e s m below meth c A hx hb hml hr hlocks hnm hown hK hP hD hA hS hN ls args Q hts hl hQ
  replace hown : s.vm.findClass RX3 = some m.cls := hown
  have inX3 : ∀ w ∈ u_ws RX3 TX3 9, w ∈ wsX3_pitchLacking := fun w h => List.mem_cons_of_mem _ (List.mem_append_right _ h)
  have wl1 : (Cond.fieldLink RX3 33 "BeachedShip$Seams" "done" "[I").before args s = true := hts _ (List.mem_of_getElem? (i := 1) rfl)
  have wl2 : (Cond.fieldLink RX3 24 "BeachedShip$Seams" "pitch" "[I").before args s = true := hts _ (List.mem_of_getElem? (i := 2) rfl)
  have hRet : ∀ (r_z : Int32), some r_z = some r → ∀ (H : Heap) (locs : List Loc) (ls : Array Slot) (pc : Nat), va_P D vwCl [(h, .inr (3, [.ref h_strake, .ref h_side, .ref h_hands, .ref h_hours, .ref h_pitch, .ref h_worth, .ref h_state, .ref h_done, .int v_h_size])), (h_done, .inl (cI, 12, .inl f_h_done)), (h_pitch, .inl (cI, 12, .inl f_h_pitch))] H → va_D A [(h, .inr (3, [.ref h_strake, .ref h_side, .ref h_hands, .ref h_hours, .ref h_pitch, .ref h_worth, .ref h_state, .ref h_done, .int v_h_size])), (h_done, .inl (cI, 12, .inl f_h_done)), (h_pitch, .inl (cI, 12, .inl f_h_pitch))] → va_S A s.heap H locs → narrow .int (.int r_z) = .int r_z → decode cX3_pitchLacking pc = .ok (.ireturn, 1) → W p l e rm_X3_pitchLacking s m args below meth c H locs 0 0 Q (F0 m pc ls [.int r_z]) := by
    intro r_z hz H locs ls pc hP hD hS hn hd
    cases hz
    exact k_iret hx hb hr hlocks hn hK hP hD hS hQ rfl hd
  unfold p_X3_pitchLacking at hf
  refine lv_aload_n hx hb dX3_pitchLacking_0 rfl (lv_at hl 0 rfl) ?_
  refine k_get (C := RX3) (T := TX3) (N := 9) hx hb hts inX3 hown hK hP 0 rfl rfl 7 (by decide) rfl wl1 rfl dX3_pitchLacking_1 ?_
  refine lv_iload_n hx hb dX3_pitchLacking_4 rfl (lv_at hl 1 rfl) ?_
  obtain ⟨hi1, hf⟩ := k_ix_some hf
  refine k_iald (k := a1.toNatClampNeg) hx hb hK hP 1 0 rfl rfl hi1 rfl dX3_pitchLacking_5 ?_
  refine lv_if_le (tgt := 13) hx hb dX3_pitchLacking_6 (by decide) (fun c2 => ?_) (fun c2 => ?_)
  · replace hf := k_pos hf c2
    refine lv_aload_n hx hb dX3_pitchLacking_13 rfl (lv_at hl 0 rfl) ?_
    refine k_get (C := RX3) (T := TX3) (N := 9) hx hb hts inX3 hown hK hP 0 rfl rfl 4 (by decide) rfl wl2 rfl dX3_pitchLacking_14 ?_
    refine lv_iload_n hx hb dX3_pitchLacking_17 rfl (lv_at hl 1 rfl) ?_
    obtain ⟨hi3, hf⟩ := k_ix_some hf
    refine k_iald (k := a1.toNatClampNeg) hx hb hK hP 2 0 rfl rfl hi3 rfl dX3_pitchLacking_18 ?_
    exact hRet _ hf _ _ _ _ hP hD hS rfl dX3_pitchLacking_19
  · replace hf := k_neg hf c2
    refine lv_iconst (v := 0) hx hb dX3_pitchLacking_9 (by decide) ?_
    refine lv_goto (tgt := 19) hx hb dX3_pitchLacking_10 (by decide) ?_
    exact hRet _ hf _ _ _ _ hP hD hS rfl dX3_pitchLacking_19

def p_X3_add (v_h_size : Int32) (f_h_strake : Nat → Int32) (f_h_side : Nat → Int32) (f_h_hands : Nat → Int32) (f_h_hours : Nat → Int32) (f_h_pitch : Nat → Int32) (f_h_worth : Nat → Int32) (f_h_state : Nat → Int32) (f_h_done : Nat → Int32) (a1 : Int32) (a2 : Int32) (a3 : Int32) (a4 : Int32) (a5 : Int32) (a6 : Int32) : Option (Int32 × Int32 × (Nat → Int32) × (Nat → Int32) × (Nat → Int32) × (Nat → Int32) × (Nat → Int32) × (Nat → Int32) × (Nat → Int32) × (Nat → Int32)) :=
  k_ix v_h_size 12 (
    k_ix v_h_size 12 (
      k_ix v_h_size 12 (
        k_ix v_h_size 12 (
          k_ix v_h_size 12 (
            k_ix v_h_size 12 (
              k_ix v_h_size 12 (
                k_ix v_h_size 12 (
                  some ((v_h_size + 1) - 1, v_h_size + 1, upd f_h_strake v_h_size.toNatClampNeg a1, upd f_h_side v_h_size.toNatClampNeg a2, upd f_h_hands v_h_size.toNatClampNeg a3, upd f_h_hours v_h_size.toNatClampNeg a4, upd f_h_pitch v_h_size.toNatClampNeg a5, upd f_h_worth v_h_size.toNatClampNeg a6, upd f_h_state v_h_size.toNatClampNeg 0, upd f_h_done v_h_size.toNatClampNeg 0)))))))))
abbrev rm_X3_add : Room := { frames := 0, cells := 0, slots := 0, locals := 0 }
theorem hdS_X3_add : yX3_add.cls ≠ "java/lang/invoke/MethodHandle" ∧ yX3_add.cls ≠ "java/lang/invoke/VarHandle" ∧ (parseMethodDescriptor yX3_add.desc).map (fun d => d.parameters.length) = some 6 := by decide +kernel
theorem hdV_X3_add : yX3_add.cls = RX3 ∧ yX3_add.cls ≠ "java/lang/invoke/MethodHandle" ∧ yX3_add.cls ≠ "java/lang/invoke/VarHandle" ∧ (parseMethodDescriptor yX3_add.desc).map (fun d => d.parameters.length) = some 6 := by decide +kernel
set_option maxHeartbeats 4000000 in
set_option maxRecDepth 100000 in
theorem c_X3_add (l : Launch) (D : va_G) (cI cZ cJ cS : ClassId) (h h_strake h_side h_hands h_hours h_pitch h_worth h_state h_done : Nat) (v_h_size : Int32) (f_h_strake : Nat → Int32) (f_h_side : Nat → Int32) (f_h_hands : Nat → Int32) (f_h_hours : Nat → Int32) (f_h_pitch : Nat → Int32) (f_h_worth : Nat → Int32) (f_h_state : Nat → Int32) (f_h_done : Nat → Int32) (a1 : Int32) (a2 : Int32) (a3 : Int32) (a4 : Int32) (a5 : Int32) (a6 : Int32) (r : Int32) (v_h_size' : Int32) (f_h_strake' : Nat → Int32) (f_h_side' : Nat → Int32) (f_h_hands' : Nat → Int32) (f_h_hours' : Nat → Int32) (f_h_pitch' : Nat → Int32) (f_h_worth' : Nat → Int32) (f_h_state' : Nat → Int32) (f_h_done' : Nat → Int32) (hf : p_X3_add v_h_size f_h_strake f_h_side f_h_hands f_h_hours f_h_pitch f_h_worth f_h_state f_h_done a1 a2 a3 a4 a5 a6 = some (r, v_h_size', f_h_strake', f_h_side', f_h_hands', f_h_hours', f_h_pitch', f_h_worth', f_h_state', f_h_done')) : k_MI l yX3_add wsX3_add rm_X3_add D (k_tys cI cZ cJ cS) [.ref h, .int a1, .int a2, .int a3, .int a4, .int a5, .int a6] [(h, .inr (3, [.ref h_strake, .ref h_side, .ref h_hands, .ref h_hours, .ref h_pitch, .ref h_worth, .ref h_state, .ref h_done, .int v_h_size])), (h_strake, .inl (cI, 12, .inl f_h_strake)), (h_side, .inl (cI, 12, .inl f_h_side)), (h_hands, .inl (cI, 12, .inl f_h_hands)), (h_hours, .inl (cI, 12, .inl f_h_hours)), (h_pitch, .inl (cI, 12, .inl f_h_pitch)), (h_worth, .inl (cI, 12, .inl f_h_worth)), (h_state, .inl (cI, 12, .inl f_h_state)), (h_done, .inl (cI, 12, .inl f_h_done))] [(h, .inr (3, [.ref h_strake, .ref h_side, .ref h_hands, .ref h_hours, .ref h_pitch, .ref h_worth, .ref h_state, .ref h_done, .int v_h_size'])), (h_strake, .inl (cI, 12, .inl f_h_strake')), (h_side, .inl (cI, 12, .inl f_h_side')), (h_hands, .inl (cI, 12, .inl f_h_hands')), (h_hours, .inl (cI, 12, .inl f_h_hours')), (h_pitch, .inl (cI, 12, .inl f_h_pitch')), (h_worth, .inl (cI, 12, .inl f_h_worth')), (h_state, .inl (cI, 12, .inl f_h_state')), (h_done, .inl (cI, 12, .inl f_h_done'))] r := by
  refine k_enter (y := yX3_add) (wl := wsX3_add) (cc := cX3_add) (maxL := 7) (ret := (some .int)) (Qc := fun A => k_Qi D (k_tys cI cZ cJ cS) [(h, .inr (3, [.ref h_strake, .ref h_side, .ref h_hands, .ref h_hours, .ref h_pitch, .ref h_worth, .ref h_state, .ref h_done, .int v_h_size'])), (h_strake, .inl (cI, 12, .inl f_h_strake')), (h_side, .inl (cI, 12, .inl f_h_side')), (h_hands, .inl (cI, 12, .inl f_h_hands')), (h_hours, .inl (cI, 12, .inl f_h_hours')), (h_pitch, .inl (cI, 12, .inl f_h_pitch')), (h_worth, .inl (cI, 12, .inl f_h_worth')), (h_state, .inl (cI, 12, .inl f_h_state')), (h_done, .inl (cI, 12, .inl f_h_done'))] A r) (by decide) rfl (Nat.le_of_ble_eq_true rfl) [(0, .ref h), (1, .int a1), (2, .int a2), (3, .int a3), (4, .int a4), (5, .int a5), (6, .int a6)] rfl ?_
  intro p e s m below meth c A hx hb hml hr hlocks hnm hown hK hP hD hA hS hN ls args Q hts hl hQ
  replace hown : s.vm.findClass RX3 = some m.cls := hown
  have inX3 : ∀ w ∈ u_ws RX3 TX3 9, w ∈ wsX3_add := fun w h => List.mem_cons_of_mem _ (List.mem_append_right _ h)
  have wl1 : (Cond.fieldLink RX3 9 "BeachedShip$Seams" "strake" "[I").before args s = true := hts _ (List.mem_of_getElem? (i := 1) rfl)
  have wl2 : (Cond.fieldLink RX3 36 "BeachedShip$Seams" "size" "I").before args s = true := hts _ (List.mem_of_getElem? (i := 2) rfl)
  have wl3 : (Cond.fieldLink RX3 15 "BeachedShip$Seams" "side" "[I").before args s = true := hts _ (List.mem_of_getElem? (i := 3) rfl)
  have wl4 : (Cond.fieldLink RX3 18 "BeachedShip$Seams" "hands" "[I").before args s = true := hts _ (List.mem_of_getElem? (i := 4) rfl)
  have wl5 : (Cond.fieldLink RX3 21 "BeachedShip$Seams" "hours" "[I").before args s = true := hts _ (List.mem_of_getElem? (i := 5) rfl)
  have wl6 : (Cond.fieldLink RX3 24 "BeachedShip$Seams" "pitch" "[I").before args s = true := hts _ (List.mem_of_getElem? (i := 6) rfl)
  have wl7 : (Cond.fieldLink RX3 27 "BeachedShip$Seams" "worth" "[I").before args s = true := hts _ (List.mem_of_getElem? (i := 7) rfl)
  have wl8 : (Cond.fieldLink RX3 30 "BeachedShip$Seams" "state" "[I").before args s = true := hts _ (List.mem_of_getElem? (i := 8) rfl)
  have wl9 : (Cond.fieldLink RX3 33 "BeachedShip$Seams" "done" "[I").before args s = true := hts _ (List.mem_of_getElem? (i := 9) rfl)
  have hRet : ∀ (r_z : Int32) (v_h_size_z : Int32) (f_h_strake_z : Nat → Int32) (f_h_side_z : Nat → Int32) (f_h_hands_z : Nat → Int32) (f_h_hours_z : Nat → Int32) (f_h_pitch_z : Nat → Int32) (f_h_worth_z : Nat → Int32) (f_h_state_z : Nat → Int32) (f_h_done_z : Nat → Int32), some (r_z, v_h_size_z, f_h_strake_z, f_h_side_z, f_h_hands_z, f_h_hours_z, f_h_pitch_z, f_h_worth_z, f_h_state_z, f_h_done_z) = some (r, v_h_size', f_h_strake', f_h_side', f_h_hands', f_h_hours', f_h_pitch', f_h_worth', f_h_state', f_h_done') → ∀ (H : Heap) (locs : List Loc) (ls : Array Slot) (pc : Nat), va_P D vwCl [(h, .inr (3, [.ref h_strake, .ref h_side, .ref h_hands, .ref h_hours, .ref h_pitch, .ref h_worth, .ref h_state, .ref h_done, .int v_h_size_z])), (h_strake, .inl (cI, 12, .inl f_h_strake_z)), (h_side, .inl (cI, 12, .inl f_h_side_z)), (h_hands, .inl (cI, 12, .inl f_h_hands_z)), (h_hours, .inl (cI, 12, .inl f_h_hours_z)), (h_pitch, .inl (cI, 12, .inl f_h_pitch_z)), (h_worth, .inl (cI, 12, .inl f_h_worth_z)), (h_state, .inl (cI, 12, .inl f_h_state_z)), (h_done, .inl (cI, 12, .inl f_h_done_z))] H → va_D A [(h, .inr (3, [.ref h_strake, .ref h_side, .ref h_hands, .ref h_hours, .ref h_pitch, .ref h_worth, .ref h_state, .ref h_done, .int v_h_size_z])), (h_strake, .inl (cI, 12, .inl f_h_strake_z)), (h_side, .inl (cI, 12, .inl f_h_side_z)), (h_hands, .inl (cI, 12, .inl f_h_hands_z)), (h_hours, .inl (cI, 12, .inl f_h_hours_z)), (h_pitch, .inl (cI, 12, .inl f_h_pitch_z)), (h_worth, .inl (cI, 12, .inl f_h_worth_z)), (h_state, .inl (cI, 12, .inl f_h_state_z)), (h_done, .inl (cI, 12, .inl f_h_done_z))] → va_S A s.heap H locs → narrow .int (.int r_z) = .int r_z → decode cX3_add pc = .ok (.ireturn, 1) → W p l e rm_X3_add s m args below meth c H locs 0 0 Q (F0 m pc ls [.int r_z]) := by
    intro r_z v_h_size_z f_h_strake_z f_h_side_z f_h_hands_z f_h_hours_z f_h_pitch_z f_h_worth_z f_h_state_z f_h_done_z hz H locs ls pc hP hD hS hn hd
    cases hz
    exact k_iret hx hb hr hlocks hn hK hP hD hS hQ rfl hd
  unfold p_X3_add at hf
  refine lv_aload_n hx hb dX3_add_0 rfl (lv_at hl 0 rfl) ?_
  refine k_get (C := RX3) (T := TX3) (N := 9) hx hb hts inX3 hown hK hP 0 rfl rfl 0 (by decide) rfl wl1 rfl dX3_add_1 ?_
  refine lv_aload_n hx hb dX3_add_4 rfl (lv_at hl 0 rfl) ?_
  refine k_get (C := RX3) (T := TX3) (N := 9) hx hb hts inX3 hown hK hP 0 rfl rfl 8 (by decide) rfl wl2 rfl dX3_add_5 ?_
  refine lv_iload_n hx hb dX3_add_8 rfl (lv_at hl 1 rfl) ?_
  obtain ⟨hi1, hf⟩ := k_ix_some hf
  refine k_iast (ws2 := [(h, .inr (3, [.ref h_strake, .ref h_side, .ref h_hands, .ref h_hours, .ref h_pitch, .ref h_worth, .ref h_state, .ref h_done, .int v_h_size])), (h_strake, .inl (cI, 12, .inl (upd f_h_strake v_h_size.toNatClampNeg a1))), (h_side, .inl (cI, 12, .inl f_h_side)), (h_hands, .inl (cI, 12, .inl f_h_hands)), (h_hours, .inl (cI, 12, .inl f_h_hours)), (h_pitch, .inl (cI, 12, .inl f_h_pitch)), (h_worth, .inl (cI, 12, .inl f_h_worth)), (h_state, .inl (cI, 12, .inl f_h_state)), (h_done, .inl (cI, 12, .inl f_h_done))]) (k := v_h_size.toNatClampNeg) hx hb hK hP hD hS 1 0 rfl rfl hi1 rfl rfl dX3_add_9 (fun H locs hP hD hS => ?_)
  refine lv_aload_n hx hb dX3_add_10 rfl (lv_at hl 0 rfl) ?_
  refine k_get (C := RX3) (T := TX3) (N := 9) hx hb hts inX3 hown hK hP 0 rfl rfl 1 (by decide) rfl wl3 rfl dX3_add_11 ?_
  refine lv_aload_n hx hb dX3_add_14 rfl (lv_at hl 0 rfl) ?_
  refine k_get (C := RX3) (T := TX3) (N := 9) hx hb hts inX3 hown hK hP 0 rfl rfl 8 (by decide) rfl wl2 rfl dX3_add_15 ?_
  refine lv_iload_n hx hb dX3_add_18 rfl (lv_at hl 2 rfl) ?_
  obtain ⟨hi2, hf⟩ := k_ix_some hf
  refine k_iast (ws2 := [(h, .inr (3, [.ref h_strake, .ref h_side, .ref h_hands, .ref h_hours, .ref h_pitch, .ref h_worth, .ref h_state, .ref h_done, .int v_h_size])), (h_strake, .inl (cI, 12, .inl (upd f_h_strake v_h_size.toNatClampNeg a1))), (h_side, .inl (cI, 12, .inl (upd f_h_side v_h_size.toNatClampNeg a2))), (h_hands, .inl (cI, 12, .inl f_h_hands)), (h_hours, .inl (cI, 12, .inl f_h_hours)), (h_pitch, .inl (cI, 12, .inl f_h_pitch)), (h_worth, .inl (cI, 12, .inl f_h_worth)), (h_state, .inl (cI, 12, .inl f_h_state)), (h_done, .inl (cI, 12, .inl f_h_done))]) (k := v_h_size.toNatClampNeg) hx hb hK hP hD hS 2 0 rfl rfl hi2 rfl rfl dX3_add_19 (fun H locs hP hD hS => ?_)
  refine lv_aload_n hx hb dX3_add_20 rfl (lv_at hl 0 rfl) ?_
  refine k_get (C := RX3) (T := TX3) (N := 9) hx hb hts inX3 hown hK hP 0 rfl rfl 2 (by decide) rfl wl4 rfl dX3_add_21 ?_
  refine lv_aload_n hx hb dX3_add_24 rfl (lv_at hl 0 rfl) ?_
  refine k_get (C := RX3) (T := TX3) (N := 9) hx hb hts inX3 hown hK hP 0 rfl rfl 8 (by decide) rfl wl2 rfl dX3_add_25 ?_
  refine lv_iload_n hx hb dX3_add_28 rfl (lv_at hl 3 rfl) ?_
  obtain ⟨hi3, hf⟩ := k_ix_some hf
  refine k_iast (ws2 := [(h, .inr (3, [.ref h_strake, .ref h_side, .ref h_hands, .ref h_hours, .ref h_pitch, .ref h_worth, .ref h_state, .ref h_done, .int v_h_size])), (h_strake, .inl (cI, 12, .inl (upd f_h_strake v_h_size.toNatClampNeg a1))), (h_side, .inl (cI, 12, .inl (upd f_h_side v_h_size.toNatClampNeg a2))), (h_hands, .inl (cI, 12, .inl (upd f_h_hands v_h_size.toNatClampNeg a3))), (h_hours, .inl (cI, 12, .inl f_h_hours)), (h_pitch, .inl (cI, 12, .inl f_h_pitch)), (h_worth, .inl (cI, 12, .inl f_h_worth)), (h_state, .inl (cI, 12, .inl f_h_state)), (h_done, .inl (cI, 12, .inl f_h_done))]) (k := v_h_size.toNatClampNeg) hx hb hK hP hD hS 3 0 rfl rfl hi3 rfl rfl dX3_add_29 (fun H locs hP hD hS => ?_)
  refine lv_aload_n hx hb dX3_add_30 rfl (lv_at hl 0 rfl) ?_
  refine k_get (C := RX3) (T := TX3) (N := 9) hx hb hts inX3 hown hK hP 0 rfl rfl 3 (by decide) rfl wl5 rfl dX3_add_31 ?_
  refine lv_aload_n hx hb dX3_add_34 rfl (lv_at hl 0 rfl) ?_
  refine k_get (C := RX3) (T := TX3) (N := 9) hx hb hts inX3 hown hK hP 0 rfl rfl 8 (by decide) rfl wl2 rfl dX3_add_35 ?_
  refine lv_iload hx hb dX3_add_38 (lv_at hl 4 rfl) ?_
  obtain ⟨hi4, hf⟩ := k_ix_some hf
  refine k_iast (ws2 := [(h, .inr (3, [.ref h_strake, .ref h_side, .ref h_hands, .ref h_hours, .ref h_pitch, .ref h_worth, .ref h_state, .ref h_done, .int v_h_size])), (h_strake, .inl (cI, 12, .inl (upd f_h_strake v_h_size.toNatClampNeg a1))), (h_side, .inl (cI, 12, .inl (upd f_h_side v_h_size.toNatClampNeg a2))), (h_hands, .inl (cI, 12, .inl (upd f_h_hands v_h_size.toNatClampNeg a3))), (h_hours, .inl (cI, 12, .inl (upd f_h_hours v_h_size.toNatClampNeg a4))), (h_pitch, .inl (cI, 12, .inl f_h_pitch)), (h_worth, .inl (cI, 12, .inl f_h_worth)), (h_state, .inl (cI, 12, .inl f_h_state)), (h_done, .inl (cI, 12, .inl f_h_done))]) (k := v_h_size.toNatClampNeg) hx hb hK hP hD hS 4 0 rfl rfl hi4 rfl rfl dX3_add_40 (fun H locs hP hD hS => ?_)
  refine lv_aload_n hx hb dX3_add_41 rfl (lv_at hl 0 rfl) ?_
  refine k_get (C := RX3) (T := TX3) (N := 9) hx hb hts inX3 hown hK hP 0 rfl rfl 4 (by decide) rfl wl6 rfl dX3_add_42 ?_
  refine lv_aload_n hx hb dX3_add_45 rfl (lv_at hl 0 rfl) ?_
  refine k_get (C := RX3) (T := TX3) (N := 9) hx hb hts inX3 hown hK hP 0 rfl rfl 8 (by decide) rfl wl2 rfl dX3_add_46 ?_
  refine lv_iload hx hb dX3_add_49 (lv_at hl 5 rfl) ?_
  obtain ⟨hi5, hf⟩ := k_ix_some hf
  refine k_iast (ws2 := [(h, .inr (3, [.ref h_strake, .ref h_side, .ref h_hands, .ref h_hours, .ref h_pitch, .ref h_worth, .ref h_state, .ref h_done, .int v_h_size])), (h_strake, .inl (cI, 12, .inl (upd f_h_strake v_h_size.toNatClampNeg a1))), (h_side, .inl (cI, 12, .inl (upd f_h_side v_h_size.toNatClampNeg a2))), (h_hands, .inl (cI, 12, .inl (upd f_h_hands v_h_size.toNatClampNeg a3))), (h_hours, .inl (cI, 12, .inl (upd f_h_hours v_h_size.toNatClampNeg a4))), (h_pitch, .inl (cI, 12, .inl (upd f_h_pitch v_h_size.toNatClampNeg a5))), (h_worth, .inl (cI, 12, .inl f_h_worth)), (h_state, .inl (cI, 12, .inl f_h_state)), (h_done, .inl (cI, 12, .inl f_h_done))]) (k := v_h_size.toNatClampNeg) hx hb hK hP hD hS 5 0 rfl rfl hi5 rfl rfl dX3_add_51 (fun H locs hP hD hS => ?_)
  refine lv_aload_n hx hb dX3_add_52 rfl (lv_at hl 0 rfl) ?_
  refine k_get (C := RX3) (T := TX3) (N := 9) hx hb hts inX3 hown hK hP 0 rfl rfl 5 (by decide) rfl wl7 rfl dX3_add_53 ?_
  refine lv_aload_n hx hb dX3_add_56 rfl (lv_at hl 0 rfl) ?_
  refine k_get (C := RX3) (T := TX3) (N := 9) hx hb hts inX3 hown hK hP 0 rfl rfl 8 (by decide) rfl wl2 rfl dX3_add_57 ?_
  refine lv_iload hx hb dX3_add_60 (lv_at hl 6 rfl) ?_
  obtain ⟨hi6, hf⟩ := k_ix_some hf
  refine k_iast (ws2 := [(h, .inr (3, [.ref h_strake, .ref h_side, .ref h_hands, .ref h_hours, .ref h_pitch, .ref h_worth, .ref h_state, .ref h_done, .int v_h_size])), (h_strake, .inl (cI, 12, .inl (upd f_h_strake v_h_size.toNatClampNeg a1))), (h_side, .inl (cI, 12, .inl (upd f_h_side v_h_size.toNatClampNeg a2))), (h_hands, .inl (cI, 12, .inl (upd f_h_hands v_h_size.toNatClampNeg a3))), (h_hours, .inl (cI, 12, .inl (upd f_h_hours v_h_size.toNatClampNeg a4))), (h_pitch, .inl (cI, 12, .inl (upd f_h_pitch v_h_size.toNatClampNeg a5))), (h_worth, .inl (cI, 12, .inl (upd f_h_worth v_h_size.toNatClampNeg a6))), (h_state, .inl (cI, 12, .inl f_h_state)), (h_done, .inl (cI, 12, .inl f_h_done))]) (k := v_h_size.toNatClampNeg) hx hb hK hP hD hS 6 0 rfl rfl hi6 rfl rfl dX3_add_62 (fun H locs hP hD hS => ?_)
  refine lv_aload_n hx hb dX3_add_63 rfl (lv_at hl 0 rfl) ?_
  refine k_get (C := RX3) (T := TX3) (N := 9) hx hb hts inX3 hown hK hP 0 rfl rfl 6 (by decide) rfl wl8 rfl dX3_add_64 ?_
  refine lv_aload_n hx hb dX3_add_67 rfl (lv_at hl 0 rfl) ?_
  refine k_get (C := RX3) (T := TX3) (N := 9) hx hb hts inX3 hown hK hP 0 rfl rfl 8 (by decide) rfl wl2 rfl dX3_add_68 ?_
  refine lv_iconst (v := 0) hx hb dX3_add_71 (by decide) ?_
  obtain ⟨hi7, hf⟩ := k_ix_some hf
  refine k_iast (ws2 := [(h, .inr (3, [.ref h_strake, .ref h_side, .ref h_hands, .ref h_hours, .ref h_pitch, .ref h_worth, .ref h_state, .ref h_done, .int v_h_size])), (h_strake, .inl (cI, 12, .inl (upd f_h_strake v_h_size.toNatClampNeg a1))), (h_side, .inl (cI, 12, .inl (upd f_h_side v_h_size.toNatClampNeg a2))), (h_hands, .inl (cI, 12, .inl (upd f_h_hands v_h_size.toNatClampNeg a3))), (h_hours, .inl (cI, 12, .inl (upd f_h_hours v_h_size.toNatClampNeg a4))), (h_pitch, .inl (cI, 12, .inl (upd f_h_pitch v_h_size.toNatClampNeg a5))), (h_worth, .inl (cI, 12, .inl (upd f_h_worth v_h_size.toNatClampNeg a6))), (h_state, .inl (cI, 12, .inl (upd f_h_state v_h_size.toNatClampNeg 0))), (h_done, .inl (cI, 12, .inl f_h_done))]) (k := v_h_size.toNatClampNeg) hx hb hK hP hD hS 7 0 rfl rfl hi7 rfl rfl dX3_add_72 (fun H locs hP hD hS => ?_)
  refine lv_aload_n hx hb dX3_add_73 rfl (lv_at hl 0 rfl) ?_
  refine k_get (C := RX3) (T := TX3) (N := 9) hx hb hts inX3 hown hK hP 0 rfl rfl 7 (by decide) rfl wl9 rfl dX3_add_74 ?_
  refine lv_aload_n hx hb dX3_add_77 rfl (lv_at hl 0 rfl) ?_
  refine k_get (C := RX3) (T := TX3) (N := 9) hx hb hts inX3 hown hK hP 0 rfl rfl 8 (by decide) rfl wl2 rfl dX3_add_78 ?_
  refine lv_iconst (v := 0) hx hb dX3_add_81 (by decide) ?_
  obtain ⟨hi8, hf⟩ := k_ix_some hf
  refine k_iast (ws2 := [(h, .inr (3, [.ref h_strake, .ref h_side, .ref h_hands, .ref h_hours, .ref h_pitch, .ref h_worth, .ref h_state, .ref h_done, .int v_h_size])), (h_strake, .inl (cI, 12, .inl (upd f_h_strake v_h_size.toNatClampNeg a1))), (h_side, .inl (cI, 12, .inl (upd f_h_side v_h_size.toNatClampNeg a2))), (h_hands, .inl (cI, 12, .inl (upd f_h_hands v_h_size.toNatClampNeg a3))), (h_hours, .inl (cI, 12, .inl (upd f_h_hours v_h_size.toNatClampNeg a4))), (h_pitch, .inl (cI, 12, .inl (upd f_h_pitch v_h_size.toNatClampNeg a5))), (h_worth, .inl (cI, 12, .inl (upd f_h_worth v_h_size.toNatClampNeg a6))), (h_state, .inl (cI, 12, .inl (upd f_h_state v_h_size.toNatClampNeg 0))), (h_done, .inl (cI, 12, .inl (upd f_h_done v_h_size.toNatClampNeg 0)))]) (k := v_h_size.toNatClampNeg) hx hb hK hP hD hS 8 0 rfl rfl hi8 rfl rfl dX3_add_82 (fun H locs hP hD hS => ?_)
  refine lv_aload_n hx hb dX3_add_83 rfl (lv_at hl 0 rfl) ?_
  refine lv_dup hx hb dX3_add_84 rfl ?_
  refine k_get (C := RX3) (T := TX3) (N := 9) hx hb hts inX3 hown hK hP 0 rfl rfl 8 (by decide) rfl wl2 rfl dX3_add_85 ?_
  refine lv_iconst (v := 1) hx hb dX3_add_88 (by decide) ?_
  refine lv_iadd hx hb dX3_add_89 ?_
  refine k_putf (ws2 := [(h, .inr (3, [.ref h_strake, .ref h_side, .ref h_hands, .ref h_hours, .ref h_pitch, .ref h_worth, .ref h_state, .ref h_done, .int (v_h_size + 1)])), (h_strake, .inl (cI, 12, .inl (upd f_h_strake v_h_size.toNatClampNeg a1))), (h_side, .inl (cI, 12, .inl (upd f_h_side v_h_size.toNatClampNeg a2))), (h_hands, .inl (cI, 12, .inl (upd f_h_hands v_h_size.toNatClampNeg a3))), (h_hours, .inl (cI, 12, .inl (upd f_h_hours v_h_size.toNatClampNeg a4))), (h_pitch, .inl (cI, 12, .inl (upd f_h_pitch v_h_size.toNatClampNeg a5))), (h_worth, .inl (cI, 12, .inl (upd f_h_worth v_h_size.toNatClampNeg a6))), (h_state, .inl (cI, 12, .inl (upd f_h_state v_h_size.toNatClampNeg 0))), (h_done, .inl (cI, 12, .inl (upd f_h_done v_h_size.toNatClampNeg 0)))]) (C := RX3) (T := TX3) (N := 9) hx hb hts inX3 tyX3 tyX3_ok nmX3 hown hK hP hD hS 0 rfl rfl 8 (by decide) rfl wl2 rfl rfl rfl (Nat.le_of_ble_eq_true rfl) rfl dX3_add_90 (fun H locs hP hD hS => ?_)
  refine lv_aload_n hx hb dX3_add_93 rfl (lv_at hl 0 rfl) ?_
  refine k_get (C := RX3) (T := TX3) (N := 9) hx hb hts inX3 hown hK hP 0 rfl rfl 8 (by decide) rfl wl2 rfl dX3_add_94 ?_
  refine lv_iconst (v := 1) hx hb dX3_add_97 (by decide) ?_
  refine lv_isub hx hb dX3_add_98 ?_
  exact hRet _ _ _ _ _ _ _ _ _ _ hf _ _ _ _ hP hD hS rfl dX3_add_99

def lb_X3_worthTight_4 (v_h_size : Int32) (f_h_state : Nat → Int32) (f_h_worth : Nat → Int32) (x1_11 : Int32) (x2_12 : Int32) : Option ((Int32 × Int32) ⊕ (Int32)) :=
  if v_h_size ≤ x2_12 then
    some (.inr x1_11)
  else
    k_ix x2_12 12 (
      if (f_h_state x2_12.toNatClampNeg) = 2 then
        k_ix x2_12 12 (
          some (.inl (x1_11 + (f_h_worth x2_12.toNatClampNeg), x2_12 + 1)))
      else
        some (.inl (x1_11 + 0, x2_12 + 1)))
def p_X3_worthTight (v_h_size : Int32) (f_h_state : Nat → Int32) (f_h_worth : Nat → Int32) : Option (Int32) :=
  k_b1 (k_lp (fun s => lb_X3_worthTight_4 v_h_size f_h_state f_h_worth s.1 s.2) k_fuel (0, 0)) fun x1_10 =>
  some x1_10
abbrev rm_X3_worthTight : Room := { frames := 0, cells := 0, slots := 0, locals := 0 }
theorem hdS_X3_worthTight : yX3_worthTight.cls ≠ "java/lang/invoke/MethodHandle" ∧ yX3_worthTight.cls ≠ "java/lang/invoke/VarHandle" ∧ (parseMethodDescriptor yX3_worthTight.desc).map (fun d => d.parameters.length) = some 0 := by decide +kernel
theorem hdV_X3_worthTight : yX3_worthTight.cls = RX3 ∧ yX3_worthTight.cls ≠ "java/lang/invoke/MethodHandle" ∧ yX3_worthTight.cls ≠ "java/lang/invoke/VarHandle" ∧ (parseMethodDescriptor yX3_worthTight.desc).map (fun d => d.parameters.length) = some 0 := by decide +kernel
set_option maxHeartbeats 4000000 in
set_option maxRecDepth 100000 in
theorem c_X3_worthTight (l : Launch) (D : va_G) (cI cZ cJ cS : ClassId) (h h_strake h_side h_hands h_hours h_pitch h_worth h_state h_done : Nat) (v_h_size : Int32) (f_h_state : Nat → Int32) (f_h_worth : Nat → Int32) (r : Int32) (hf : p_X3_worthTight v_h_size f_h_state f_h_worth = some r) : k_MI l yX3_worthTight wsX3_worthTight rm_X3_worthTight D (k_tys cI cZ cJ cS) [.ref h] [(h, .inr (3, [.ref h_strake, .ref h_side, .ref h_hands, .ref h_hours, .ref h_pitch, .ref h_worth, .ref h_state, .ref h_done, .int v_h_size])), (h_state, .inl (cI, 12, .inl f_h_state)), (h_worth, .inl (cI, 12, .inl f_h_worth))] [(h, .inr (3, [.ref h_strake, .ref h_side, .ref h_hands, .ref h_hours, .ref h_pitch, .ref h_worth, .ref h_state, .ref h_done, .int v_h_size])), (h_state, .inl (cI, 12, .inl f_h_state)), (h_worth, .inl (cI, 12, .inl f_h_worth))] r := by
  refine k_enter (y := yX3_worthTight) (wl := wsX3_worthTight) (cc := cX3_worthTight) (maxL := 3) (ret := (some .int)) (Qc := fun A => k_Qi D (k_tys cI cZ cJ cS) [(h, .inr (3, [.ref h_strake, .ref h_side, .ref h_hands, .ref h_hours, .ref h_pitch, .ref h_worth, .ref h_state, .ref h_done, .int v_h_size])), (h_state, .inl (cI, 12, .inl f_h_state)), (h_worth, .inl (cI, 12, .inl f_h_worth))] A r) (by decide) rfl (Nat.le_of_ble_eq_true rfl) [(0, .ref h)] rfl ?_
  intro p e s m below meth c A hx hb hml hr hlocks hnm hown hK hP hD hA hS hN ls args Q hts hl hQ
  replace hown : s.vm.findClass RX3 = some m.cls := hown
  have inX3 : ∀ w ∈ u_ws RX3 TX3 9, w ∈ wsX3_worthTight := fun w h => List.mem_cons_of_mem _ (List.mem_append_right _ h)
  have wl1 : (Cond.fieldLink RX3 36 "BeachedShip$Seams" "size" "I").before args s = true := hts _ (List.mem_of_getElem? (i := 1) rfl)
  have wl2 : (Cond.fieldLink RX3 30 "BeachedShip$Seams" "state" "[I").before args s = true := hts _ (List.mem_of_getElem? (i := 2) rfl)
  have wl3 : (Cond.fieldLink RX3 27 "BeachedShip$Seams" "worth" "[I").before args s = true := hts _ (List.mem_of_getElem? (i := 3) rfl)
  have hRet : ∀ (r_z : Int32), some r_z = some r → ∀ (H : Heap) (locs : List Loc) (ls : Array Slot) (pc : Nat), va_P D vwCl [(h, .inr (3, [.ref h_strake, .ref h_side, .ref h_hands, .ref h_hours, .ref h_pitch, .ref h_worth, .ref h_state, .ref h_done, .int v_h_size])), (h_state, .inl (cI, 12, .inl f_h_state)), (h_worth, .inl (cI, 12, .inl f_h_worth))] H → va_D A [(h, .inr (3, [.ref h_strake, .ref h_side, .ref h_hands, .ref h_hours, .ref h_pitch, .ref h_worth, .ref h_state, .ref h_done, .int v_h_size])), (h_state, .inl (cI, 12, .inl f_h_state)), (h_worth, .inl (cI, 12, .inl f_h_worth))] → va_S A s.heap H locs → narrow .int (.int r_z) = .int r_z → decode cX3_worthTight pc = .ok (.ireturn, 1) → W p l e rm_X3_worthTight s m args below meth c H locs 0 0 Q (F0 m pc ls [.int r_z]) := by
    intro r_z hz H locs ls pc hP hD hS hn hd
    cases hz
    exact k_iret hx hb hr hlocks hn hK hP hD hS hQ rfl hd
  unfold p_X3_worthTight at hf
  refine lv_iconst (v := 0) hx hb dX3_worthTight_0 (by decide) ?_
  refine lv_istore_n (lv' := [(1, .int 0), (0, .ref h)]) hx hb dX3_worthTight_1 rfl hl (by decide) rfl (fun ls hl => ?_)
  refine lv_iconst (v := 0) hx hb dX3_worthTight_2 (by decide) ?_
  refine lv_istore_n (lv' := [(2, .int 0), (1, .int 0), (0, .ref h)]) hx hb dX3_worthTight_3 rfl hl (by decide) rfl (fun ls hl => ?_)
  obtain ⟨ee9, hlp9, hfr9⟩ := k_b1_ee hf
  have hE9 : ∀ (x1_10 : Int32), ee9 = x1_10 → ∀ (H : Heap) (locs : List Loc) (ls : Array Slot), va_P D vwCl [(h, .inr (3, [.ref h_strake, .ref h_side, .ref h_hands, .ref h_hours, .ref h_pitch, .ref h_worth, .ref h_state, .ref h_done, .int v_h_size])), (h_state, .inl (cI, 12, .inl f_h_state)), (h_worth, .inl (cI, 12, .inl f_h_worth))] H → va_D A [(h, .inr (3, [.ref h_strake, .ref h_side, .ref h_hands, .ref h_hours, .ref h_pitch, .ref h_worth, .ref h_state, .ref h_done, .int v_h_size])), (h_state, .inl (cI, 12, .inl f_h_state)), (h_worth, .inl (cI, 12, .inl f_h_worth))] → va_S A s.heap H locs → lv_has ls 3 [(1, .int x1_10)] → W p l e rm_X3_worthTight s m args below meth c H locs 0 0 Q (F0 m 41 ls []) := by
    intro x1_10 he H locs ls hP hD hS hl
    replace hf := hfr9 x1_10 he
    refine lv_iload_n hx hb dX3_worthTight_41 rfl (lv_at hl 0 rfl) ?_
    exact hRet _ hf _ _ _ _ hP hD hS rfl dX3_worthTight_42
  refine (k_lp_ind (fun sx9 => ∀ (H : Heap) (locs : List Loc) (ls : Array Slot), va_P D vwCl [(h, .inr (3, [.ref h_strake, .ref h_side, .ref h_hands, .ref h_hours, .ref h_pitch, .ref h_worth, .ref h_state, .ref h_done, .int v_h_size])), (h_state, .inl (cI, 12, .inl f_h_state)), (h_worth, .inl (cI, 12, .inl f_h_worth))] H → va_D A [(h, .inr (3, [.ref h_strake, .ref h_side, .ref h_hands, .ref h_hours, .ref h_pitch, .ref h_worth, .ref h_state, .ref h_done, .int v_h_size])), (h_state, .inl (cI, 12, .inl f_h_state)), (h_worth, .inl (cI, 12, .inl f_h_worth))] → va_S A s.heap H locs → lv_has ls 3 [(2, .int sx9.2), (1, .int sx9.1), (0, .ref h)] → W p l e rm_X3_worthTight s m args below meth c H locs 0 0 Q (F0 m 4 ls [])) (fun sx9 X9 hX9 hin9 hout9 => ?_) _ _ hlp9) _ _ _ hP hD hS (lv_sub hl [0, 1, 2] rfl)
  obtain ⟨x1_11, x2_12⟩ := sx9
  intro H locs ls hP hD hS hl
  replace hP : va_P D vwCl [(h, .inr (3, [.ref h_strake, .ref h_side, .ref h_hands, .ref h_hours, .ref h_pitch, .ref h_worth, .ref h_state, .ref h_done, .int v_h_size])), (h_state, .inl (cI, 12, .inl f_h_state)), (h_worth, .inl (cI, 12, .inl f_h_worth))] H := hP
  replace hD : va_D A [(h, .inr (3, [.ref h_strake, .ref h_side, .ref h_hands, .ref h_hours, .ref h_pitch, .ref h_worth, .ref h_state, .ref h_done, .int v_h_size])), (h_state, .inl (cI, 12, .inl f_h_state)), (h_worth, .inl (cI, 12, .inl f_h_worth))] := hD
  replace hl : lv_has ls 3 [(2, .int x2_12), (1, .int x1_11), (0, .ref h)] := hl
  replace hX9 : lb_X3_worthTight_4 v_h_size f_h_state f_h_worth x1_11 x2_12 = some X9 := hX9
  unfold lb_X3_worthTight_4 at hX9
  refine lv_iload_n hx hb dX3_worthTight_4 rfl (lv_at hl 0 rfl) ?_
  refine lv_aload_n hx hb dX3_worthTight_5 rfl (lv_at hl 2 rfl) ?_
  refine k_get (C := RX3) (T := TX3) (N := 9) hx hb hts inX3 hown hK hP 0 rfl rfl 8 (by decide) rfl wl1 rfl dX3_worthTight_6 ?_
  refine lv_icmp_ge (tgt := 41) hx hb dX3_worthTight_9 (by decide) (fun c13 => ?_) (fun c13 => ?_)
  · replace hX9 := k_pos hX9 c13
    exact hE9 _ (hout9 _ (Option.some.inj hX9).symm).symm _ _ _ hP hD hS (lv_sub hl [1] rfl)
  · replace hX9 := k_neg hX9 c13
    refine lv_iload_n hx hb dX3_worthTight_12 rfl (lv_at hl 1 rfl) ?_
    refine lv_aload_n hx hb dX3_worthTight_13 rfl (lv_at hl 2 rfl) ?_
    refine k_get (C := RX3) (T := TX3) (N := 9) hx hb hts inX3 hown hK hP 0 rfl rfl 6 (by decide) rfl wl2 rfl dX3_worthTight_14 ?_
    refine lv_iload_n hx hb dX3_worthTight_17 rfl (lv_at hl 0 rfl) ?_
    obtain ⟨hi14, hX9⟩ := k_ix_some hX9
    refine k_iald (k := x2_12.toNatClampNeg) hx hb hK hP 1 0 rfl rfl hi14 rfl dX3_worthTight_18 ?_
    refine lv_iconst (v := 2) hx hb dX3_worthTight_19 (by decide) ?_
    refine lv_icmp_ne (tgt := 32) hx hb dX3_worthTight_20 (by decide) (fun c15 => ?_) (fun c15 => ?_)
    · replace hX9 := k_neg hX9 c15
      refine lv_iconst (v := 0) hx hb dX3_worthTight_32 (by decide) ?_
      refine lv_iadd hx hb dX3_worthTight_33 ?_
      refine lv_istore_n (lv' := [(1, .int (x1_11 + 0)), (2, .int x2_12), (0, .ref h)]) hx hb dX3_worthTight_34 rfl hl (by decide) rfl (fun ls hl => ?_)
      refine lv_iinc (v := x2_12 + 1) (lv' := [(2, .int (x2_12 + 1)), (1, .int (x1_11 + 0)), (0, .ref h)]) hx hb dX3_worthTight_35 hl (k := 1) rfl rfl (by decide) rfl (fun ls hl => ?_)
      refine lv_goto (tgt := 4) hx hb dX3_worthTight_38 (by decide) ?_
      exact hin9 (x1_11 + 0, x2_12 + 1) (Option.some.inj hX9).symm _ _ _ hP hD hS (lv_sub hl [0, 1, 2] rfl)
    · replace hX9 := k_pos hX9 c15
      refine lv_aload_n hx hb dX3_worthTight_23 rfl (lv_at hl 2 rfl) ?_
      refine k_get (C := RX3) (T := TX3) (N := 9) hx hb hts inX3 hown hK hP 0 rfl rfl 5 (by decide) rfl wl3 rfl dX3_worthTight_24 ?_
      refine lv_iload_n hx hb dX3_worthTight_27 rfl (lv_at hl 0 rfl) ?_
      obtain ⟨hi16, hX9⟩ := k_ix_some hX9
      refine k_iald (k := x2_12.toNatClampNeg) hx hb hK hP 2 0 rfl rfl hi16 rfl dX3_worthTight_28 ?_
      refine lv_goto (tgt := 33) hx hb dX3_worthTight_29 (by decide) ?_
      refine lv_iadd hx hb dX3_worthTight_33 ?_
      refine lv_istore_n (lv' := [(1, .int (x1_11 + (f_h_worth x2_12.toNatClampNeg))), (2, .int x2_12), (0, .ref h)]) hx hb dX3_worthTight_34 rfl hl (by decide) rfl (fun ls hl => ?_)
      refine lv_iinc (v := x2_12 + 1) (lv' := [(2, .int (x2_12 + 1)), (1, .int (x1_11 + (f_h_worth x2_12.toNatClampNeg))), (0, .ref h)]) hx hb dX3_worthTight_35 hl (k := 1) rfl rfl (by decide) rfl (fun ls hl => ?_)
      refine lv_goto (tgt := 4) hx hb dX3_worthTight_38 (by decide) ?_
      exact hin9 (x1_11 + (f_h_worth x2_12.toNatClampNeg), x2_12 + 1) (Option.some.inj hX9).symm _ _ _ hP hD hS (lv_sub hl [0, 1, 2] rfl)

def p_X6_add (v_h_whole : Int32) (v_h_size : Int32) (f_h_mast : Nat → Int32) (f_h_parts : Nat → Int32) (f_h_strength : Nat → Int32) (a1 : Int32) (a2 : Int32) (a3 : Int32) : Option (Int32 × Int32 × Int32 × (Nat → Int32) × (Nat → Int32) × (Nat → Int32)) :=
  k_ix v_h_size 6 (
    k_ix v_h_size 6 (
      k_ix v_h_size 6 (
        some ((v_h_size + 1) - 1, v_h_whole ||| (1 <<< (v_h_size &&& 31)), v_h_size + 1, upd f_h_mast v_h_size.toNatClampNeg a1, upd f_h_parts v_h_size.toNatClampNeg a2, upd f_h_strength v_h_size.toNatClampNeg a3))))
abbrev rm_X6_add : Room := { frames := 0, cells := 0, slots := 0, locals := 0 }
theorem hdS_X6_add : yX6_add.cls ≠ "java/lang/invoke/MethodHandle" ∧ yX6_add.cls ≠ "java/lang/invoke/VarHandle" ∧ (parseMethodDescriptor yX6_add.desc).map (fun d => d.parameters.length) = some 3 := by decide +kernel
theorem hdV_X6_add : yX6_add.cls = RX6 ∧ yX6_add.cls ≠ "java/lang/invoke/MethodHandle" ∧ yX6_add.cls ≠ "java/lang/invoke/VarHandle" ∧ (parseMethodDescriptor yX6_add.desc).map (fun d => d.parameters.length) = some 3 := by decide +kernel
set_option maxHeartbeats 4000000 in
set_option maxRecDepth 100000 in
theorem c_X6_add (l : Launch) (D : va_G) (cI cZ cJ cS : ClassId) (h h_mast h_parts h_strength : Nat) (v_h_whole : Int32) (v_h_size : Int32) (f_h_mast : Nat → Int32) (f_h_parts : Nat → Int32) (f_h_strength : Nat → Int32) (a1 : Int32) (a2 : Int32) (a3 : Int32) (r : Int32) (v_h_whole' : Int32) (v_h_size' : Int32) (f_h_mast' : Nat → Int32) (f_h_parts' : Nat → Int32) (f_h_strength' : Nat → Int32) (hf : p_X6_add v_h_whole v_h_size f_h_mast f_h_parts f_h_strength a1 a2 a3 = some (r, v_h_whole', v_h_size', f_h_mast', f_h_parts', f_h_strength')) : k_MI l yX6_add wsX6_add rm_X6_add D (k_tys cI cZ cJ cS) [.ref h, .int a1, .int a2, .int a3] [(h, .inr (6, [.ref h_mast, .ref h_parts, .ref h_strength, .int v_h_whole, .int v_h_size])), (h_mast, .inl (cI, 6, .inl f_h_mast)), (h_parts, .inl (cI, 6, .inl f_h_parts)), (h_strength, .inl (cI, 6, .inl f_h_strength))] [(h, .inr (6, [.ref h_mast, .ref h_parts, .ref h_strength, .int v_h_whole', .int v_h_size'])), (h_mast, .inl (cI, 6, .inl f_h_mast')), (h_parts, .inl (cI, 6, .inl f_h_parts')), (h_strength, .inl (cI, 6, .inl f_h_strength'))] r := by
  refine k_enter (y := yX6_add) (wl := wsX6_add) (cc := cX6_add) (maxL := 4) (ret := (some .int)) (Qc := fun A => k_Qi D (k_tys cI cZ cJ cS) [(h, .inr (6, [.ref h_mast, .ref h_parts, .ref h_strength, .int v_h_whole', .int v_h_size'])), (h_mast, .inl (cI, 6, .inl f_h_mast')), (h_parts, .inl (cI, 6, .inl f_h_parts')), (h_strength, .inl (cI, 6, .inl f_h_strength'))] A r) (by decide) rfl (Nat.le_of_ble_eq_true rfl) [(0, .ref h), (1, .int a1), (2, .int a2), (3, .int a3)] rfl ?_
  intro p e s m below meth c A hx hb hml hr hlocks hnm hown hK hP hD hA hS hN ls args Q hts hl hQ
  replace hown : s.vm.findClass RX6 = some m.cls := hown
  have inX6 : ∀ w ∈ u_ws RX6 TX6 5, w ∈ wsX6_add := fun w h => List.mem_cons_of_mem _ (List.mem_append_right _ h)
  have wl1 : (Cond.fieldLink RX6 9 "BeachedShip$Tackles" "mast" "[I").before args s = true := hts _ (List.mem_of_getElem? (i := 1) rfl)
  have wl2 : (Cond.fieldLink RX6 21 "BeachedShip$Tackles" "size" "I").before args s = true := hts _ (List.mem_of_getElem? (i := 2) rfl)
  have wl3 : (Cond.fieldLink RX6 15 "BeachedShip$Tackles" "parts" "[I").before args s = true := hts _ (List.mem_of_getElem? (i := 3) rfl)
  have wl4 : (Cond.fieldLink RX6 18 "BeachedShip$Tackles" "strength" "[I").before args s = true := hts _ (List.mem_of_getElem? (i := 4) rfl)
  have wl5 : (Cond.fieldLink RX6 25 "BeachedShip$Tackles" "whole" "I").before args s = true := hts _ (List.mem_of_getElem? (i := 5) rfl)
  have hRet : ∀ (r_z : Int32) (v_h_whole_z : Int32) (v_h_size_z : Int32) (f_h_mast_z : Nat → Int32) (f_h_parts_z : Nat → Int32) (f_h_strength_z : Nat → Int32), some (r_z, v_h_whole_z, v_h_size_z, f_h_mast_z, f_h_parts_z, f_h_strength_z) = some (r, v_h_whole', v_h_size', f_h_mast', f_h_parts', f_h_strength') → ∀ (H : Heap) (locs : List Loc) (ls : Array Slot) (pc : Nat), va_P D vwCl [(h, .inr (6, [.ref h_mast, .ref h_parts, .ref h_strength, .int v_h_whole_z, .int v_h_size_z])), (h_mast, .inl (cI, 6, .inl f_h_mast_z)), (h_parts, .inl (cI, 6, .inl f_h_parts_z)), (h_strength, .inl (cI, 6, .inl f_h_strength_z))] H → va_D A [(h, .inr (6, [.ref h_mast, .ref h_parts, .ref h_strength, .int v_h_whole_z, .int v_h_size_z])), (h_mast, .inl (cI, 6, .inl f_h_mast_z)), (h_parts, .inl (cI, 6, .inl f_h_parts_z)), (h_strength, .inl (cI, 6, .inl f_h_strength_z))] → va_S A s.heap H locs → narrow .int (.int r_z) = .int r_z → decode cX6_add pc = .ok (.ireturn, 1) → W p l e rm_X6_add s m args below meth c H locs 0 0 Q (F0 m pc ls [.int r_z]) := by
    intro r_z v_h_whole_z v_h_size_z f_h_mast_z f_h_parts_z f_h_strength_z hz H locs ls pc hP hD hS hn hd
    cases hz
    exact k_iret hx hb hr hlocks hn hK hP hD hS hQ rfl hd
  unfold p_X6_add at hf
  refine lv_aload_n hx hb dX6_add_0 rfl (lv_at hl 0 rfl) ?_
  refine k_get (C := RX6) (T := TX6) (N := 5) hx hb hts inX6 hown hK hP 0 rfl rfl 0 (by decide) rfl wl1 rfl dX6_add_1 ?_
  refine lv_aload_n hx hb dX6_add_4 rfl (lv_at hl 0 rfl) ?_
  refine k_get (C := RX6) (T := TX6) (N := 5) hx hb hts inX6 hown hK hP 0 rfl rfl 4 (by decide) rfl wl2 rfl dX6_add_5 ?_
  refine lv_iload_n hx hb dX6_add_8 rfl (lv_at hl 1 rfl) ?_
  obtain ⟨hi1, hf⟩ := k_ix_some hf
  refine k_iast (ws2 := [(h, .inr (6, [.ref h_mast, .ref h_parts, .ref h_strength, .int v_h_whole, .int v_h_size])), (h_mast, .inl (cI, 6, .inl (upd f_h_mast v_h_size.toNatClampNeg a1))), (h_parts, .inl (cI, 6, .inl f_h_parts)), (h_strength, .inl (cI, 6, .inl f_h_strength))]) (k := v_h_size.toNatClampNeg) hx hb hK hP hD hS 1 0 rfl rfl hi1 rfl rfl dX6_add_9 (fun H locs hP hD hS => ?_)
  refine lv_aload_n hx hb dX6_add_10 rfl (lv_at hl 0 rfl) ?_
  refine k_get (C := RX6) (T := TX6) (N := 5) hx hb hts inX6 hown hK hP 0 rfl rfl 1 (by decide) rfl wl3 rfl dX6_add_11 ?_
  refine lv_aload_n hx hb dX6_add_14 rfl (lv_at hl 0 rfl) ?_
  refine k_get (C := RX6) (T := TX6) (N := 5) hx hb hts inX6 hown hK hP 0 rfl rfl 4 (by decide) rfl wl2 rfl dX6_add_15 ?_
  refine lv_iload_n hx hb dX6_add_18 rfl (lv_at hl 2 rfl) ?_
  obtain ⟨hi2, hf⟩ := k_ix_some hf
  refine k_iast (ws2 := [(h, .inr (6, [.ref h_mast, .ref h_parts, .ref h_strength, .int v_h_whole, .int v_h_size])), (h_mast, .inl (cI, 6, .inl (upd f_h_mast v_h_size.toNatClampNeg a1))), (h_parts, .inl (cI, 6, .inl (upd f_h_parts v_h_size.toNatClampNeg a2))), (h_strength, .inl (cI, 6, .inl f_h_strength))]) (k := v_h_size.toNatClampNeg) hx hb hK hP hD hS 2 0 rfl rfl hi2 rfl rfl dX6_add_19 (fun H locs hP hD hS => ?_)
  refine lv_aload_n hx hb dX6_add_20 rfl (lv_at hl 0 rfl) ?_
  refine k_get (C := RX6) (T := TX6) (N := 5) hx hb hts inX6 hown hK hP 0 rfl rfl 2 (by decide) rfl wl4 rfl dX6_add_21 ?_
  refine lv_aload_n hx hb dX6_add_24 rfl (lv_at hl 0 rfl) ?_
  refine k_get (C := RX6) (T := TX6) (N := 5) hx hb hts inX6 hown hK hP 0 rfl rfl 4 (by decide) rfl wl2 rfl dX6_add_25 ?_
  refine lv_iload_n hx hb dX6_add_28 rfl (lv_at hl 3 rfl) ?_
  obtain ⟨hi3, hf⟩ := k_ix_some hf
  refine k_iast (ws2 := [(h, .inr (6, [.ref h_mast, .ref h_parts, .ref h_strength, .int v_h_whole, .int v_h_size])), (h_mast, .inl (cI, 6, .inl (upd f_h_mast v_h_size.toNatClampNeg a1))), (h_parts, .inl (cI, 6, .inl (upd f_h_parts v_h_size.toNatClampNeg a2))), (h_strength, .inl (cI, 6, .inl (upd f_h_strength v_h_size.toNatClampNeg a3)))]) (k := v_h_size.toNatClampNeg) hx hb hK hP hD hS 3 0 rfl rfl hi3 rfl rfl dX6_add_29 (fun H locs hP hD hS => ?_)
  refine lv_aload_n hx hb dX6_add_30 rfl (lv_at hl 0 rfl) ?_
  refine lv_dup hx hb dX6_add_31 rfl ?_
  refine k_get (C := RX6) (T := TX6) (N := 5) hx hb hts inX6 hown hK hP 0 rfl rfl 3 (by decide) rfl wl5 rfl dX6_add_32 ?_
  refine lv_iconst (v := 1) hx hb dX6_add_35 (by decide) ?_
  refine lv_aload_n hx hb dX6_add_36 rfl (lv_at hl 0 rfl) ?_
  refine k_get (C := RX6) (T := TX6) (N := 5) hx hb hts inX6 hown hK hP 0 rfl rfl 4 (by decide) rfl wl2 rfl dX6_add_37 ?_
  refine lv_ishl hx hb dX6_add_40 ?_
  refine lv_ior hx hb dX6_add_41 ?_
  refine k_putf (ws2 := [(h, .inr (6, [.ref h_mast, .ref h_parts, .ref h_strength, .int (v_h_whole ||| (1 <<< (v_h_size &&& 31))), .int v_h_size])), (h_mast, .inl (cI, 6, .inl (upd f_h_mast v_h_size.toNatClampNeg a1))), (h_parts, .inl (cI, 6, .inl (upd f_h_parts v_h_size.toNatClampNeg a2))), (h_strength, .inl (cI, 6, .inl (upd f_h_strength v_h_size.toNatClampNeg a3)))]) (C := RX6) (T := TX6) (N := 5) hx hb hts inX6 tyX6 tyX6_ok nmX6 hown hK hP hD hS 0 rfl rfl 3 (by decide) rfl wl5 rfl rfl rfl (Nat.le_of_ble_eq_true rfl) rfl dX6_add_42 (fun H locs hP hD hS => ?_)
  refine lv_aload_n hx hb dX6_add_45 rfl (lv_at hl 0 rfl) ?_
  refine lv_dup hx hb dX6_add_46 rfl ?_
  refine k_get (C := RX6) (T := TX6) (N := 5) hx hb hts inX6 hown hK hP 0 rfl rfl 4 (by decide) rfl wl2 rfl dX6_add_47 ?_
  refine lv_iconst (v := 1) hx hb dX6_add_50 (by decide) ?_
  refine lv_iadd hx hb dX6_add_51 ?_
  refine k_putf (ws2 := [(h, .inr (6, [.ref h_mast, .ref h_parts, .ref h_strength, .int (v_h_whole ||| (1 <<< (v_h_size &&& 31))), .int (v_h_size + 1)])), (h_mast, .inl (cI, 6, .inl (upd f_h_mast v_h_size.toNatClampNeg a1))), (h_parts, .inl (cI, 6, .inl (upd f_h_parts v_h_size.toNatClampNeg a2))), (h_strength, .inl (cI, 6, .inl (upd f_h_strength v_h_size.toNatClampNeg a3)))]) (C := RX6) (T := TX6) (N := 5) hx hb hts inX6 tyX6 tyX6_ok nmX6 hown hK hP hD hS 0 rfl rfl 4 (by decide) rfl wl2 rfl rfl rfl (Nat.le_of_ble_eq_true rfl) rfl dX6_add_52 (fun H locs hP hD hS => ?_)
  refine lv_aload_n hx hb dX6_add_55 rfl (lv_at hl 0 rfl) ?_
  refine k_get (C := RX6) (T := TX6) (N := 5) hx hb hts inX6 hown hK hP 0 rfl rfl 4 (by decide) rfl wl2 rfl dX6_add_56 ?_
  refine lv_iconst (v := 1) hx hb dX6_add_59 (by decide) ?_
  refine lv_isub hx hb dX6_add_60 ?_
  exact hRet _ _ _ _ _ _ hf _ _ _ _ hP hD hS rfl dX6_add_61

def p_X7_add (v_h_size : Int32) (f_h_weight : Nat → Int32) (f_h_under : Nat → Int32) (a1 : Int32) (a2 : Int32) : Option (Int32 × Int32 × (Nat → Int32) × (Nat → Int32)) :=
  k_ix v_h_size 12 (
    k_ix v_h_size 12 (
      some ((v_h_size + 1) - 1, v_h_size + 1, upd f_h_weight v_h_size.toNatClampNeg a1, upd f_h_under v_h_size.toNatClampNeg a2)))
abbrev rm_X7_add : Room := { frames := 0, cells := 0, slots := 0, locals := 0 }
theorem hdS_X7_add : yX7_add.cls ≠ "java/lang/invoke/MethodHandle" ∧ yX7_add.cls ≠ "java/lang/invoke/VarHandle" ∧ (parseMethodDescriptor yX7_add.desc).map (fun d => d.parameters.length) = some 2 := by decide +kernel
theorem hdV_X7_add : yX7_add.cls = RX7 ∧ yX7_add.cls ≠ "java/lang/invoke/MethodHandle" ∧ yX7_add.cls ≠ "java/lang/invoke/VarHandle" ∧ (parseMethodDescriptor yX7_add.desc).map (fun d => d.parameters.length) = some 2 := by decide +kernel
set_option maxHeartbeats 4000000 in
set_option maxRecDepth 100000 in
theorem c_X7_add (l : Launch) (D : va_G) (cI cZ cJ cS : ClassId) (h h_weight h_under : Nat) (v_h_out : Int32) (v_h_size : Int32) (f_h_weight : Nat → Int32) (f_h_under : Nat → Int32) (a1 : Int32) (a2 : Int32) (r : Int32) (v_h_size' : Int32) (f_h_weight' : Nat → Int32) (f_h_under' : Nat → Int32) (hf : p_X7_add v_h_size f_h_weight f_h_under a1 a2 = some (r, v_h_size', f_h_weight', f_h_under')) : k_MI l yX7_add wsX7_add rm_X7_add D (k_tys cI cZ cJ cS) [.ref h, .int a1, .int a2] [(h, .inr (7, [.ref h_weight, .ref h_under, .int v_h_out, .int v_h_size])), (h_weight, .inl (cI, 12, .inl f_h_weight)), (h_under, .inl (cI, 12, .inl f_h_under))] [(h, .inr (7, [.ref h_weight, .ref h_under, .int v_h_out, .int v_h_size'])), (h_weight, .inl (cI, 12, .inl f_h_weight')), (h_under, .inl (cI, 12, .inl f_h_under'))] r := by
  refine k_enter (y := yX7_add) (wl := wsX7_add) (cc := cX7_add) (maxL := 3) (ret := (some .int)) (Qc := fun A => k_Qi D (k_tys cI cZ cJ cS) [(h, .inr (7, [.ref h_weight, .ref h_under, .int v_h_out, .int v_h_size'])), (h_weight, .inl (cI, 12, .inl f_h_weight')), (h_under, .inl (cI, 12, .inl f_h_under'))] A r) (by decide) rfl (Nat.le_of_ble_eq_true rfl) [(0, .ref h), (1, .int a1), (2, .int a2)] rfl ?_
  intro p e s m below meth c A hx hb hml hr hlocks hnm hown hK hP hD hA hS hN ls args Q hts hl hQ
  replace hown : s.vm.findClass RX7 = some m.cls := hown
  have inX7 : ∀ w ∈ u_ws RX7 TX7 4, w ∈ wsX7_add := fun w h => List.mem_cons_of_mem _ (List.mem_append_right _ h)
  have wl1 : (Cond.fieldLink RX7 9 "BeachedShip$Things" "weight" "[I").before args s = true := hts _ (List.mem_of_getElem? (i := 1) rfl)
  have wl2 : (Cond.fieldLink RX7 18 "BeachedShip$Things" "size" "I").before args s = true := hts _ (List.mem_of_getElem? (i := 2) rfl)
  have wl3 : (Cond.fieldLink RX7 15 "BeachedShip$Things" "under" "[I").before args s = true := hts _ (List.mem_of_getElem? (i := 3) rfl)
  have hRet : ∀ (r_z : Int32) (v_h_size_z : Int32) (f_h_weight_z : Nat → Int32) (f_h_under_z : Nat → Int32), some (r_z, v_h_size_z, f_h_weight_z, f_h_under_z) = some (r, v_h_size', f_h_weight', f_h_under') → ∀ (H : Heap) (locs : List Loc) (ls : Array Slot) (pc : Nat), va_P D vwCl [(h, .inr (7, [.ref h_weight, .ref h_under, .int v_h_out, .int v_h_size_z])), (h_weight, .inl (cI, 12, .inl f_h_weight_z)), (h_under, .inl (cI, 12, .inl f_h_under_z))] H → va_D A [(h, .inr (7, [.ref h_weight, .ref h_under, .int v_h_out, .int v_h_size_z])), (h_weight, .inl (cI, 12, .inl f_h_weight_z)), (h_under, .inl (cI, 12, .inl f_h_under_z))] → va_S A s.heap H locs → narrow .int (.int r_z) = .int r_z → decode cX7_add pc = .ok (.ireturn, 1) → W p l e rm_X7_add s m args below meth c H locs 0 0 Q (F0 m pc ls [.int r_z]) := by
    intro r_z v_h_size_z f_h_weight_z f_h_under_z hz H locs ls pc hP hD hS hn hd
    cases hz
    exact k_iret hx hb hr hlocks hn hK hP hD hS hQ rfl hd
  unfold p_X7_add at hf
  refine lv_aload_n hx hb dX7_add_0 rfl (lv_at hl 0 rfl) ?_
  refine k_get (C := RX7) (T := TX7) (N := 4) hx hb hts inX7 hown hK hP 0 rfl rfl 0 (by decide) rfl wl1 rfl dX7_add_1 ?_
  refine lv_aload_n hx hb dX7_add_4 rfl (lv_at hl 0 rfl) ?_
  refine k_get (C := RX7) (T := TX7) (N := 4) hx hb hts inX7 hown hK hP 0 rfl rfl 3 (by decide) rfl wl2 rfl dX7_add_5 ?_
  refine lv_iload_n hx hb dX7_add_8 rfl (lv_at hl 1 rfl) ?_
  obtain ⟨hi1, hf⟩ := k_ix_some hf
  refine k_iast (ws2 := [(h, .inr (7, [.ref h_weight, .ref h_under, .int v_h_out, .int v_h_size])), (h_weight, .inl (cI, 12, .inl (upd f_h_weight v_h_size.toNatClampNeg a1))), (h_under, .inl (cI, 12, .inl f_h_under))]) (k := v_h_size.toNatClampNeg) hx hb hK hP hD hS 1 0 rfl rfl hi1 rfl rfl dX7_add_9 (fun H locs hP hD hS => ?_)
  refine lv_aload_n hx hb dX7_add_10 rfl (lv_at hl 0 rfl) ?_
  refine k_get (C := RX7) (T := TX7) (N := 4) hx hb hts inX7 hown hK hP 0 rfl rfl 1 (by decide) rfl wl3 rfl dX7_add_11 ?_
  refine lv_aload_n hx hb dX7_add_14 rfl (lv_at hl 0 rfl) ?_
  refine k_get (C := RX7) (T := TX7) (N := 4) hx hb hts inX7 hown hK hP 0 rfl rfl 3 (by decide) rfl wl2 rfl dX7_add_15 ?_
  refine lv_iload_n hx hb dX7_add_18 rfl (lv_at hl 2 rfl) ?_
  obtain ⟨hi2, hf⟩ := k_ix_some hf
  refine k_iast (ws2 := [(h, .inr (7, [.ref h_weight, .ref h_under, .int v_h_out, .int v_h_size])), (h_weight, .inl (cI, 12, .inl (upd f_h_weight v_h_size.toNatClampNeg a1))), (h_under, .inl (cI, 12, .inl (upd f_h_under v_h_size.toNatClampNeg a2)))]) (k := v_h_size.toNatClampNeg) hx hb hK hP hD hS 2 0 rfl rfl hi2 rfl rfl dX7_add_19 (fun H locs hP hD hS => ?_)
  refine lv_aload_n hx hb dX7_add_20 rfl (lv_at hl 0 rfl) ?_
  refine lv_dup hx hb dX7_add_21 rfl ?_
  refine k_get (C := RX7) (T := TX7) (N := 4) hx hb hts inX7 hown hK hP 0 rfl rfl 3 (by decide) rfl wl2 rfl dX7_add_22 ?_
  refine lv_iconst (v := 1) hx hb dX7_add_25 (by decide) ?_
  refine lv_iadd hx hb dX7_add_26 ?_
  refine k_putf (ws2 := [(h, .inr (7, [.ref h_weight, .ref h_under, .int v_h_out, .int (v_h_size + 1)])), (h_weight, .inl (cI, 12, .inl (upd f_h_weight v_h_size.toNatClampNeg a1))), (h_under, .inl (cI, 12, .inl (upd f_h_under v_h_size.toNatClampNeg a2)))]) (C := RX7) (T := TX7) (N := 4) hx hb hts inX7 tyX7 tyX7_ok nmX7 hown hK hP hD hS 0 rfl rfl 3 (by decide) rfl wl2 rfl rfl rfl (Nat.le_of_ble_eq_true rfl) rfl dX7_add_27 (fun H locs hP hD hS => ?_)
  refine lv_aload_n hx hb dX7_add_30 rfl (lv_at hl 0 rfl) ?_
  refine k_get (C := RX7) (T := TX7) (N := 4) hx hb hts inX7 hown hK hP 0 rfl rfl 3 (by decide) rfl wl2 rfl dX7_add_31 ?_
  refine lv_iconst (v := 1) hx hb dX7_add_34 (by decide) ?_
  refine lv_isub hx hb dX7_add_35 ?_
  exact hRet _ _ _ _ hf _ _ _ _ hP hD hS rfl dX7_add_36

def lb_X7_bearsAny_2 (v_h_size : Int32) (v_h_out : Int32) (f_h_under : Nat → Int32) (a1 : Int32) (x2_12 : Int32) : Option ((Int32) ⊕ ((Int32) ⊕ (Unit))) :=
  if v_h_size ≤ x2_12 then
    some (.inr (.inr ()))
  else
    k_b1 (p_X8_hasBit v_h_out x2_12) fun r14 =>
    if r14 = 0 then
      k_ix x2_12 12 (
        if (f_h_under x2_12.toNatClampNeg) = a1 then
          some (.inr (.inl 1))
        else
          some (.inl (x2_12 + 1)))
    else
      some (.inl (x2_12 + 1))
def p_X7_bearsAny (v_h_out : Int32) (v_h_size : Int32) (f_h_under : Nat → Int32) (a1 : Int32) : Option (Int32) :=
  k_bx0 (k_lp (fun s => lb_X7_bearsAny_2 v_h_size v_h_out f_h_under a1 s) k_fuel 0) (fun q => some q) (
    some 0)
abbrev rm_X7_bearsAny : Room := { frames := 1, cells := 0, slots := 0, locals := 21 }
theorem hdS_X7_bearsAny : yX7_bearsAny.cls ≠ "java/lang/invoke/MethodHandle" ∧ yX7_bearsAny.cls ≠ "java/lang/invoke/VarHandle" ∧ (parseMethodDescriptor yX7_bearsAny.desc).map (fun d => d.parameters.length) = some 1 := by decide +kernel
theorem hdV_X7_bearsAny : yX7_bearsAny.cls = RX7 ∧ yX7_bearsAny.cls ≠ "java/lang/invoke/MethodHandle" ∧ yX7_bearsAny.cls ≠ "java/lang/invoke/VarHandle" ∧ (parseMethodDescriptor yX7_bearsAny.desc).map (fun d => d.parameters.length) = some 1 := by decide +kernel
set_option maxHeartbeats 4000000 in
set_option maxRecDepth 100000 in
theorem c_X7_bearsAny (l : Launch) (D : va_G) (cI cZ cJ cS : ClassId) (h h_weight h_under : Nat) (v_h_out : Int32) (v_h_size : Int32) (f_h_under : Nat → Int32) (a1 : Int32) (r : Int32) (hf : p_X7_bearsAny v_h_out v_h_size f_h_under a1 = some r) : k_MI l yX7_bearsAny wsX7_bearsAny rm_X7_bearsAny D (k_tys cI cZ cJ cS) [.ref h, .int a1] [(h, .inr (7, [.ref h_weight, .ref h_under, .int v_h_out, .int v_h_size])), (h_under, .inl (cI, 12, .inl f_h_under))] [(h, .inr (7, [.ref h_weight, .ref h_under, .int v_h_out, .int v_h_size])), (h_under, .inl (cI, 12, .inl f_h_under))] r := by
  refine k_enter (y := yX7_bearsAny) (wl := wsX7_bearsAny) (cc := cX7_bearsAny) (maxL := 3) (ret := (some .boolean)) (Qc := fun A => k_Qi D (k_tys cI cZ cJ cS) [(h, .inr (7, [.ref h_weight, .ref h_under, .int v_h_out, .int v_h_size])), (h_under, .inl (cI, 12, .inl f_h_under))] A r) (by decide) rfl (Nat.le_of_ble_eq_true rfl) [(0, .ref h), (1, .int a1)] rfl ?_
  intro p e s m below meth c A hx hb hml hr hlocks hnm hown hK hP hD hA hS hN ls args Q hts hl hQ
  replace hown : s.vm.findClass RX7 = some m.cls := hown
  have S0 : CallFix p m c cX7_bearsAny 3 s args wsX7_bearsAny RX7 := ⟨hx, hb, hml, hown, hts⟩
  have inX7 : ∀ w ∈ u_ws RX7 TX7 4, w ∈ wsX7_bearsAny := fun w h => List.mem_cons_of_mem _ (List.mem_append_right _ h)
  have wl1 : (Cond.fieldLink RX7 18 "BeachedShip$Things" "size" "I").before args s = true := hts _ (List.mem_of_getElem? (i := 1) rfl)
  have wl2 : (Cond.fieldLink RX7 26 "BeachedShip$Things" "out" "I").before args s = true := hts _ (List.mem_of_getElem? (i := 2) rfl)
  have wl5 : (Cond.initialized RX8).before args s = true := hts _ (List.mem_of_getElem? (i := 5) rfl)
  have wl4 : (Cond.static yX8_hasBit).before args s = true := hts _ (List.mem_of_getElem? (i := 4) rfl)
  have wl3 : (Cond.fieldLink RX7 15 "BeachedShip$Things" "under" "[I").before args s = true := hts _ (List.mem_of_getElem? (i := 3) rfl)
  have hRet : ∀ (r_z : Int32), some r_z = some r → ∀ (H : Heap) (locs : List Loc) (ls : Array Slot) (pc : Nat), va_P D vwCl [(h, .inr (7, [.ref h_weight, .ref h_under, .int v_h_out, .int v_h_size])), (h_under, .inl (cI, 12, .inl f_h_under))] H → va_D A [(h, .inr (7, [.ref h_weight, .ref h_under, .int v_h_out, .int v_h_size])), (h_under, .inl (cI, 12, .inl f_h_under))] → va_S A s.heap H locs → narrow .boolean (.int r_z) = .int r_z → decode cX7_bearsAny pc = .ok (.ireturn, 1) → W p l e rm_X7_bearsAny s m args below meth c H locs 0 0 Q (F0 m pc ls [.int r_z]) := by
    intro r_z hz H locs ls pc hP hD hS hn hd
    cases hz
    exact k_iret hx hb hr hlocks hn hK hP hD hS hQ rfl hd
  unfold p_X7_bearsAny at hf
  refine lv_iconst (v := 0) hx hb dX7_bearsAny_0 (by decide) ?_
  refine lv_istore_n (lv' := [(2, .int 0), (0, .ref h), (1, .int a1)]) hx hb dX7_bearsAny_1 rfl hl (by decide) rfl (fun ls hl => ?_)
  obtain ⟨ee11, hlp11, hfl11, hfr11⟩ := k_bx0_some hf
  have hE11 : ee11 = .inr () → ∀ (H : Heap) (locs : List Loc) (ls : Array Slot), va_P D vwCl [(h, .inr (7, [.ref h_weight, .ref h_under, .int v_h_out, .int v_h_size])), (h_under, .inl (cI, 12, .inl f_h_under))] H → va_D A [(h, .inr (7, [.ref h_weight, .ref h_under, .int v_h_out, .int v_h_size])), (h_under, .inl (cI, 12, .inl f_h_under))] → va_S A s.heap H locs → lv_has ls 3 [] → W p l e rm_X7_bearsAny s m args below meth c H locs 0 0 Q (F0 m 39 ls []) := by
    intro  he H locs ls hP hD hS hl
    replace hf := hfr11  he
    refine lv_iconst (v := 0) hx hb dX7_bearsAny_39 (by decide) ?_
    exact hRet _ hf _ _ _ _ hP hD hS rfl dX7_bearsAny_40
  refine (k_lp_ind (fun sx11 => ∀ (H : Heap) (locs : List Loc) (ls : Array Slot), va_P D vwCl [(h, .inr (7, [.ref h_weight, .ref h_under, .int v_h_out, .int v_h_size])), (h_under, .inl (cI, 12, .inl f_h_under))] H → va_D A [(h, .inr (7, [.ref h_weight, .ref h_under, .int v_h_out, .int v_h_size])), (h_under, .inl (cI, 12, .inl f_h_under))] → va_S A s.heap H locs → lv_has ls 3 [(2, .int sx11), (0, .ref h), (1, .int a1)] → W p l e rm_X7_bearsAny s m args below meth c H locs 0 0 Q (F0 m 2 ls [])) (fun sx11 X11 hX11 hin11 hout11 => ?_) _ _ hlp11) _ _ _ hP hD hS (lv_sub hl [0, 1, 2] rfl)
  obtain ⟨x2_12, rfl⟩ : ∃ z, z = sx11 := ⟨_, rfl⟩
  intro H locs ls hP hD hS hl
  replace hP : va_P D vwCl [(h, .inr (7, [.ref h_weight, .ref h_under, .int v_h_out, .int v_h_size])), (h_under, .inl (cI, 12, .inl f_h_under))] H := hP
  replace hD : va_D A [(h, .inr (7, [.ref h_weight, .ref h_under, .int v_h_out, .int v_h_size])), (h_under, .inl (cI, 12, .inl f_h_under))] := hD
  replace hl : lv_has ls 3 [(2, .int x2_12), (0, .ref h), (1, .int a1)] := hl
  replace hX11 : lb_X7_bearsAny_2 v_h_size v_h_out f_h_under a1 x2_12 = some X11 := hX11
  unfold lb_X7_bearsAny_2 at hX11
  refine lv_iload_n hx hb dX7_bearsAny_2 rfl (lv_at hl 0 rfl) ?_
  refine lv_aload_n hx hb dX7_bearsAny_3 rfl (lv_at hl 1 rfl) ?_
  refine k_get (C := RX7) (T := TX7) (N := 4) hx hb hts inX7 hown hK hP 0 rfl rfl 3 (by decide) rfl wl1 rfl dX7_bearsAny_4 ?_
  refine lv_icmp_ge (tgt := 39) hx hb dX7_bearsAny_7 (by decide) (fun c13 => ?_) (fun c13 => ?_)
  · replace hX11 := k_pos hX11 c13
    exact hE11  (hout11 _ (Option.some.inj hX11).symm).symm _ _ _ hP hD hS (lv_sub hl [] rfl)
  · replace hX11 := k_neg hX11 c13
    refine lv_aload_n hx hb dX7_bearsAny_10 rfl (lv_at hl 1 rfl) ?_
    refine k_get (C := RX7) (T := TX7) (N := 4) hx hb hts inX7 hown hK hP 0 rfl rfl 2 (by decide) rfl wl2 rfl dX7_bearsAny_11 ?_
    refine lv_iload_n hx hb dX7_bearsAny_14 rfl (lv_at hl 0 rfl) ?_
    obtain ⟨r14, hc14, hX11⟩ := k_b1_some hX11
    refine k_NiR (As := [.int v_h_out, .int x2_12]) (rest := []) S0 (c_X8_hasBit l D cI cZ cJ cS v_h_out x2_12 r14 hc14) ⟨va_cnB 2 hts gX7_bearsAny_X8_hasBit_n22 rfl rfl rfl (hN _ (List.mem_of_getElem? (i := 4) rfl)) wl5 hdS_X8_hasBit ⟨Nat.le_of_ble_eq_true rfl, Nat.le_of_ble_eq_true rfl⟩, wl4, trivial⟩ hK hP hD hS hA hN [] rfl (by decide) rfl hl.1 rfl (Nat.le_of_ble_eq_true rfl) dX7_bearsAny_15 (fun H locs hP hS => ?_)
    refine lv_if_ne (tgt := 33) hx hb dX7_bearsAny_18 (by decide) (fun c15 => ?_) (fun c15 => ?_)
    · replace hX11 := k_neg hX11 c15
      refine lv_iinc (v := x2_12 + 1) (lv' := [(2, .int (x2_12 + 1)), (0, .ref h), (1, .int a1)]) hx hb dX7_bearsAny_33 hl (k := 0) rfl rfl (by decide) rfl (fun ls hl => ?_)
      refine lv_goto (tgt := 2) hx hb dX7_bearsAny_36 (by decide) ?_
      exact hin11 (x2_12 + 1) (Option.some.inj hX11).symm _ _ _ hP hD hS (lv_sub hl [0, 1, 2] rfl)
    · replace hX11 := k_pos hX11 c15
      refine lv_aload_n hx hb dX7_bearsAny_21 rfl (lv_at hl 1 rfl) ?_
      refine k_get (C := RX7) (T := TX7) (N := 4) hx hb hts inX7 hown hK hP 0 rfl rfl 1 (by decide) rfl wl3 rfl dX7_bearsAny_22 ?_
      refine lv_iload_n hx hb dX7_bearsAny_25 rfl (lv_at hl 0 rfl) ?_
      obtain ⟨hi16, hX11⟩ := k_ix_some hX11
      refine k_iald (k := x2_12.toNatClampNeg) hx hb hK hP 1 0 rfl rfl hi16 rfl dX7_bearsAny_26 ?_
      refine lv_iload_n hx hb dX7_bearsAny_27 rfl (lv_at hl 2 rfl) ?_
      refine lv_icmp_ne (tgt := 33) hx hb dX7_bearsAny_28 (by decide) (fun c17 => ?_) (fun c17 => ?_)
      · replace hX11 := k_neg hX11 c17
        refine lv_iinc (v := x2_12 + 1) (lv' := [(2, .int (x2_12 + 1)), (0, .ref h), (1, .int a1)]) hx hb dX7_bearsAny_33 hl (k := 0) rfl rfl (by decide) rfl (fun ls hl => ?_)
        refine lv_goto (tgt := 2) hx hb dX7_bearsAny_36 (by decide) ?_
        exact hin11 (x2_12 + 1) (Option.some.inj hX11).symm _ _ _ hP hD hS (lv_sub hl [0, 1, 2] rfl)
      · replace hX11 := k_pos hX11 c17
        refine lv_iconst (v := 1) hx hb dX7_bearsAny_31 (by decide) ?_
        have he := hout11 _ (Option.some.inj hX11).symm
        replace hf := hfl11 _ he.symm
        exact hRet _ hf _ _ _ _ hP hD hS rfl dX7_bearsAny_32

def p_X7_mayMove (v_h_out : Int32) (v_h_size : Int32) (f_h_under : Nat → Int32) (a1 : Int32) : Option (Int32) :=
  k_b1 (p_X8_hasBit v_h_out a1) fun r1 =>
  if r1 = 0 then
    k_b1 (p_X7_bearsAny v_h_out v_h_size f_h_under a1) fun r3 =>
    if r3 = 0 then
      some 1
    else
      some 0
  else
    k_b1 (p_X7_mayComeIn v_h_out v_h_size f_h_under (1 <<< (a1 &&& 31))) fun r5 =>
    k_ck (r5 = 0 ∨ r5 = 1) (some r5)
abbrev rm_X7_mayMove : Room := { frames := 2, cells := 0, slots := 0, locals := 44 }
theorem hdS_X7_mayMove : yX7_mayMove.cls ≠ "java/lang/invoke/MethodHandle" ∧ yX7_mayMove.cls ≠ "java/lang/invoke/VarHandle" ∧ (parseMethodDescriptor yX7_mayMove.desc).map (fun d => d.parameters.length) = some 1 := by decide +kernel
theorem hdV_X7_mayMove : yX7_mayMove.cls = RX7 ∧ yX7_mayMove.cls ≠ "java/lang/invoke/MethodHandle" ∧ yX7_mayMove.cls ≠ "java/lang/invoke/VarHandle" ∧ (parseMethodDescriptor yX7_mayMove.desc).map (fun d => d.parameters.length) = some 1 := by decide +kernel
set_option maxHeartbeats 4000000 in
set_option maxRecDepth 100000 in
theorem c_X7_mayMove (l : Launch) (D : va_G) (cI cZ cJ cS : ClassId) (h h_weight h_under : Nat) (v_h_out : Int32) (v_h_size : Int32) (f_h_under : Nat → Int32) (a1 : Int32) (r : Int32) (hf : p_X7_mayMove v_h_out v_h_size f_h_under a1 = some r) : k_MI l yX7_mayMove wsX7_mayMove rm_X7_mayMove D (k_tys cI cZ cJ cS) [.ref h, .int a1] [(h, .inr (7, [.ref h_weight, .ref h_under, .int v_h_out, .int v_h_size])), (h_under, .inl (cI, 12, .inl f_h_under))] [(h, .inr (7, [.ref h_weight, .ref h_under, .int v_h_out, .int v_h_size])), (h_under, .inl (cI, 12, .inl f_h_under))] r := by
  refine k_enter (y := yX7_mayMove) (wl := wsX7_mayMove) (cc := cX7_mayMove) (maxL := 2) (ret := (some .boolean)) (Qc := fun A => k_Qi D (k_tys cI cZ cJ cS) [(h, .inr (7, [.ref h_weight, .ref h_under, .int v_h_out, .int v_h_size])), (h_under, .inl (cI, 12, .inl f_h_under))] A r) (by decide) rfl (Nat.le_of_ble_eq_true rfl) [(0, .ref h), (1, .int a1)] rfl ?_
  intro p e s m below meth c A hx hb hml hr hlocks hnm hown hK hP hD hA hS hN ls args Q hts hl hQ
  replace hown : s.vm.findClass RX7 = some m.cls := hown
  have S0 : CallFix p m c cX7_mayMove 2 s args wsX7_mayMove RX7 := ⟨hx, hb, hml, hown, hts⟩
  have inX7 : ∀ w ∈ u_ws RX7 TX7 4, w ∈ wsX7_mayMove := fun w h => List.mem_cons_of_mem _ (List.mem_append_right _ h)
  have wl1 : (Cond.fieldLink RX7 26 "BeachedShip$Things" "out" "I").before args s = true := hts _ (List.mem_of_getElem? (i := 1) rfl)
  have wl3 : (Cond.initialized RX8).before args s = true := hts _ (List.mem_of_getElem? (i := 3) rfl)
  have wl2 : (Cond.static yX8_hasBit).before args s = true := hts _ (List.mem_of_getElem? (i := 2) rfl)
  have hRet : ∀ (r_z : Int32), some r_z = some r → ∀ (H : Heap) (locs : List Loc) (ls : Array Slot) (pc : Nat), va_P D vwCl [(h, .inr (7, [.ref h_weight, .ref h_under, .int v_h_out, .int v_h_size])), (h_under, .inl (cI, 12, .inl f_h_under))] H → va_D A [(h, .inr (7, [.ref h_weight, .ref h_under, .int v_h_out, .int v_h_size])), (h_under, .inl (cI, 12, .inl f_h_under))] → va_S A s.heap H locs → narrow .boolean (.int r_z) = .int r_z → decode cX7_mayMove pc = .ok (.ireturn, 1) → W p l e rm_X7_mayMove s m args below meth c H locs 0 0 Q (F0 m pc ls [.int r_z]) := by
    intro r_z hz H locs ls pc hP hD hS hn hd
    cases hz
    exact k_iret hx hb hr hlocks hn hK hP hD hS hQ rfl hd
  unfold p_X7_mayMove at hf
  refine lv_aload_n hx hb dX7_mayMove_0 rfl (lv_at hl 0 rfl) ?_
  refine k_get (C := RX7) (T := TX7) (N := 4) hx hb hts inX7 hown hK hP 0 rfl rfl 2 (by decide) rfl wl1 rfl dX7_mayMove_1 ?_
  refine lv_iload_n hx hb dX7_mayMove_4 rfl (lv_at hl 1 rfl) ?_
  obtain ⟨r1, hc1, hf⟩ := k_b1_some hf
  refine k_NiR (As := [.int v_h_out, .int a1]) (rest := []) S0 (c_X8_hasBit l D cI cZ cJ cS v_h_out a1 r1 hc1) ⟨va_cnB 2 hts gX7_mayMove_X8_hasBit_n22 rfl rfl rfl (hN _ (List.mem_of_getElem? (i := 4) rfl)) wl3 hdS_X8_hasBit ⟨Nat.le_of_ble_eq_true rfl, Nat.le_of_ble_eq_true rfl⟩, wl2, trivial⟩ hK hP hD hS hA hN [] rfl (by decide) rfl hl.1 rfl (Nat.le_of_ble_eq_true rfl) dX7_mayMove_5 (fun H locs hP hS => ?_)
  refine lv_if_eq (tgt := 21) hx hb dX7_mayMove_8 (by decide) (fun c2 => ?_) (fun c2 => ?_)
  · replace hf := k_pos hf c2
    refine lv_aload_n hx hb dX7_mayMove_21 rfl (lv_at hl 0 rfl) ?_
    refine lv_iload_n hx hb dX7_mayMove_22 rfl (lv_at hl 1 rfl) ?_
    obtain ⟨r3, hc3, hf⟩ := k_b1_some hf
    refine k_ViR (q0 := 0) (As := [.int a1]) (rest := []) S0 (c_X7_bearsAny l D cI cZ cJ cS h h_weight h_under v_h_out v_h_size f_h_under a1 r3 hc3) (cwV 1 hts gX7_mayMove_X7_bearsAny rfl rfl rfl hdV_X7_bearsAny ⟨Nat.le_of_ble_eq_true rfl, Nat.le_of_ble_eq_true rfl⟩) hK hP hD hS hA hN [0, 1] rfl (by decide) rfl rfl rfl rfl hl.1 rfl (Nat.le_of_ble_eq_true rfl) dX7_mayMove_23 (fun H locs hP hS => ?_)
    refine lv_if_ne (tgt := 33) hx hb dX7_mayMove_26 (by decide) (fun c4 => ?_) (fun c4 => ?_)
    · replace hf := k_neg hf c4
      refine lv_iconst (v := 0) hx hb dX7_mayMove_33 (by decide) ?_
      exact hRet _ hf _ _ _ _ hP hD hS rfl dX7_mayMove_34
    · replace hf := k_pos hf c4
      refine lv_iconst (v := 1) hx hb dX7_mayMove_29 (by decide) ?_
      refine lv_goto (tgt := 34) hx hb dX7_mayMove_30 (by decide) ?_
      exact hRet _ hf _ _ _ _ hP hD hS rfl dX7_mayMove_34
  · replace hf := k_neg hf c2
    refine lv_aload_n hx hb dX7_mayMove_11 rfl (lv_at hl 0 rfl) ?_
    refine lv_iconst (v := 1) hx hb dX7_mayMove_12 (by decide) ?_
    refine lv_iload_n hx hb dX7_mayMove_13 rfl (lv_at hl 1 rfl) ?_
    refine lv_ishl hx hb dX7_mayMove_14 ?_
    obtain ⟨r5, hc5, hf⟩ := k_b1_some hf
    refine k_ViR (q0 := 0) (As := [.int (1 <<< (a1 &&& 31))]) (rest := []) S0 (c_X7_mayComeIn l D cI cZ cJ cS h h_weight h_under v_h_out v_h_size f_h_under (1 <<< (a1 &&& 31)) r5 hc5) (cwV 1 hts gX7_mayMove_X7_mayComeIn rfl rfl rfl hdV_X7_mayComeIn ⟨Nat.le_of_ble_eq_true rfl, Nat.le_of_ble_eq_true rfl⟩) hK hP hD hS hA hN [0, 1] rfl (by decide) rfl rfl rfl rfl hl.1 rfl (Nat.le_of_ble_eq_true rfl) dX7_mayMove_15 (fun H locs hP hS => ?_)
    refine lv_goto (tgt := 34) hx hb dX7_mayMove_18 (by decide) ?_
    obtain ⟨hk6, hf⟩ := k_ck_some hf
    exact hRet _ hf _ _ _ _ hP hD hS (k_bool hk6).1 dX7_mayMove_34

