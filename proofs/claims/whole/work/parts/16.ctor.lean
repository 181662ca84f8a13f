abbrev rm_X7_init : Room := { frames := 1, cells := 2, slots := 24, locals := 32 }
theorem hdS_X7_init : yX7_init.cls ≠ "java/lang/invoke/MethodHandle" ∧ yX7_init.cls ≠ "java/lang/invoke/VarHandle" ∧ (parseMethodDescriptor yX7_init.desc).map (fun d => d.parameters.length) = some 0 := by decide +kernel
set_option maxHeartbeats 4000000 in
set_option maxRecDepth 100000 in
theorem c_X7_init (l : Launch) (D : va_G) (cI cZ cJ cS : ClassId) (h : Nat) : k_MC l yX7_init wsX7_init rm_X7_init D (k_tys cI cZ cJ cS) [.ref h] [(h, .inr (7, [.null, .null, .int 0, .int 0]))] (fun u => [(h, .inr (7, [.ref (u 0), .ref (u 1), .int 0, .int 0])), ((u 0), .inl (cI, 12, .inl (fun _ => 0))), ((u 1), .inl (cI, 12, .inl (fun _ => 0)))]) 2 24 := by
  refine k_enterZ (y := yX7_init) (wl := wsX7_init) (rm := rm_X7_init) (av := [.ref h]) (D := D) (tys := k_tys cI cZ cJ cS) (ws := [(h, .inr (7, [.null, .null, .int 0, .int 0]))]) (cc := cX7_init) (maxL := 1) (ret := none) (Qc := fun A => va_Qv (fun (_ : Nat → Nat) => True) (fun u t => k_B D (k_tys cI cZ cJ cS) ((fun u => [(h, .inr (7, [.ref (u 0), .ref (u 1), .int 0, .int 0])), ((u 0), .inl (cI, 12, .inl (fun _ => 0))), ((u 1), .inl (cI, 12, .inl (fun _ => 0)))]) u) A () t) A) (by decide) rfl (Nat.le_of_ble_eq_true rfl) [(0, .ref h)] rfl ?_
  intro p e s m below meth c A hx hb hml hr hlocks hnm hown hK hP hD hA hS hN hZ ls args Q hts hl hQ
  replace hown : s.vm.findClass RX7 = some m.cls := hown
  replace hnm : meth.name = "<init>" := hnm
  have inX7 : ∀ w ∈ u_ws RX7 TX7 4, w ∈ wsX7_init := fun w h => List.mem_cons_of_mem _ (List.mem_append_right _ h)
  have wl1 : (Cond.methodLink RX7 3 objectInit).before args s = true := hts _ (List.mem_of_getElem? (i := 1) rfl)
  have wl2 : (Cond.instanceMethod objectInit).before args s = true := hts _ (List.mem_of_getElem? (i := 2) rfl)
  have wl3 : (Cond.code objectInit ⟨#[0xb1]⟩ 1 none).before args s = true := hts _ (List.mem_of_getElem? (i := 3) rfl)
  have wl4 : (Cond.arrayClass .int).before args s = true := hts _ (List.mem_of_getElem? (i := 4) rfl)
  have wl5 : (Cond.fieldLink RX7 9 "BeachedShip$Things" "weight" "[I").before args s = true := hts _ (List.mem_of_getElem? (i := 5) rfl)
  have wl6 : (Cond.fieldLink RX7 15 "BeachedShip$Things" "under" "[I").before args s = true := hts _ (List.mem_of_getElem? (i := 6) rfl)
  have hRet : some () = some () → ∀ (H : Heap) (locs : List Loc) (ls : Array Slot) (pc : Nat) (u : Nat → Nat), va_P D vwCl [(h, .inr (7, [.ref (u 0), .ref (u 1), .int 0, .int 0])), ((u 0), .inl (cI, 12, .inl (fun _ => 0))), ((u 1), .inl (cI, 12, .inl (fun _ => 0)))] H → va_D A [(h, .inr (7, [.ref (u 0), .ref (u 1), .int 0, .int 0])), ((u 0), .inl (cI, 12, .inl (fun _ => 0))), ((u 1), .inl (cI, 12, .inl (fun _ => 0)))] → va_S A s.heap H locs → decode cX7_init pc = .ok (.return_, 1) → W p l e rm_X7_init s m args below meth c H locs 2 24 Q (F0 m pc ls []) := by
    intro  hz H locs ls pc u hP hD hS hd
    cases hz
    exact k_vretC (WS := (fun u => [(h, .inr (7, [.ref (u 0), .ref (u 1), .int 0, .int 0])), ((u 0), .inl (cI, 12, .inl (fun _ => 0))), ((u 1), .inl (cI, 12, .inl (fun _ => 0)))])) u hx hb hr hlocks hK hP hD hS hQ hd
  have hf : (some () : Option Unit) = some () := rfl
  refine lv_aload_n hx hb dX7_init_0 rfl (lv_at hl 0 rfl) ?_
  refine W.objInit hx hb hown wl1 wl2 wl3 rfl (by rw [hml]; exact hl.1) rfl dX7_init_1 (Nat.le_of_ble_eq_true rfl) (Nat.le_of_ble_eq_true rfl) ?_
  refine W.eq (g2 := F0 m 4 ls []) rfl ?_
  refine lv_aload_n hx hb dX7_init_4 rfl (lv_at hl 0 rfl) ?_
  refine lv_bipush (v := 12) hx hb dX7_init_5 (by decide) ?_
  refine k_newaG (atype := .int) (a0 := (12, .inl (fun _ => 0))) (ty := .int) (N' := 12) hx hb wl4 rfl (by intro C h; cases h) hK hP hD hS hA 0 rfl (fun _ => rfl) (by decide) (by decide) (by show 12 * 4 ≤ 536870912; omega) (Nat.le_of_ble_eq_true rfl) (Nat.le_of_ble_eq_true rfl) rfl rfl dX7_init_7 (fun q7_1 H hP hD hS => ?_)
  replace hP : va_P D vwCl [(h, .inr (7, [.null, .null, .int 0, .int 0])), (q7_1, .inl (cI, 12, .inl (fun _ => 0)))] H := hP
  replace hD : va_D A [(h, .inr (7, [.null, .null, .int 0, .int 0])), (q7_1, .inl (cI, 12, .inl (fun _ => 0)))] := hD
  refine k_putFG (ws2 := [(h, .inr (7, [.ref q7_1, .null, .int 0, .int 0])), (q7_1, .inl (cI, 12, .inl (fun _ => 0)))]) (C := RX7) (T := TX7) (N := 4) hx hb hts inX7 tyX7 tyX7_ok nmX7 hown hK hP hD hS 0 rfl rfl 0 (by decide) rfl wl5 rfl hnm rfl rfl rfl (Nat.le_of_ble_eq_true rfl) rfl dX7_init_9 (fun H locs hP hD hS => ?_)
  refine lv_aload_n hx hb dX7_init_12 rfl (lv_at hl 0 rfl) ?_
  refine lv_bipush (v := 12) hx hb dX7_init_13 (by decide) ?_
  refine k_newaG (atype := .int) (a0 := (12, .inl (fun _ => 0))) (ty := .int) (N' := 12) hx hb wl4 rfl (by intro C h; cases h) hK hP hD hS hA 0 rfl (fun _ => rfl) (by decide) (by decide) (by show 12 * 4 ≤ 536870912; omega) (Nat.le_of_ble_eq_true rfl) (Nat.le_of_ble_eq_true rfl) rfl rfl dX7_init_15 (fun q15_2 H hP hD hS => ?_)
  replace hP : va_P D vwCl [(h, .inr (7, [.ref q7_1, .null, .int 0, .int 0])), (q7_1, .inl (cI, 12, .inl (fun _ => 0))), (q15_2, .inl (cI, 12, .inl (fun _ => 0)))] H := hP
  replace hD : va_D A [(h, .inr (7, [.ref q7_1, .null, .int 0, .int 0])), (q7_1, .inl (cI, 12, .inl (fun _ => 0))), (q15_2, .inl (cI, 12, .inl (fun _ => 0)))] := hD
  refine k_putFG (ws2 := [(h, .inr (7, [.ref q7_1, .ref q15_2, .int 0, .int 0])), (q7_1, .inl (cI, 12, .inl (fun _ => 0))), (q15_2, .inl (cI, 12, .inl (fun _ => 0)))]) (C := RX7) (T := TX7) (N := 4) hx hb hts inX7 tyX7 tyX7_ok nmX7 hown hK hP hD hS 0 rfl rfl 1 (by decide) rfl wl6 rfl hnm rfl rfl rfl (Nat.le_of_ble_eq_true rfl) rfl dX7_init_17 (fun H locs hP hD hS => ?_)
  exact hRet  hf _ _ _ _ (k_sel [q7_1, q15_2]) (k_sub_P hP [0, 1, 2] rfl) (hD.sub [0, 1, 2] (by decide) rfl) hS dX7_init_20

abbrev rm_X6_init : Room := { frames := 1, cells := 3, slots := 18, locals := 32 }
theorem hdS_X6_init : yX6_init.cls ≠ "java/lang/invoke/MethodHandle" ∧ yX6_init.cls ≠ "java/lang/invoke/VarHandle" ∧ (parseMethodDescriptor yX6_init.desc).map (fun d => d.parameters.length) = some 0 := by decide +kernel
set_option maxHeartbeats 4000000 in
set_option maxRecDepth 100000 in
theorem c_X6_init (l : Launch) (D : va_G) (cI cZ cJ cS : ClassId) (h : Nat) : k_MC l yX6_init wsX6_init rm_X6_init D (k_tys cI cZ cJ cS) [.ref h] [(h, .inr (6, [.null, .null, .null, .int 0, .int 0]))] (fun u => [(h, .inr (6, [.ref (u 0), .ref (u 1), .ref (u 2), .int 0, .int 0])), ((u 0), .inl (cI, 6, .inl (fun _ => 0))), ((u 1), .inl (cI, 6, .inl (fun _ => 0))), ((u 2), .inl (cI, 6, .inl (fun _ => 0)))]) 3 18 := by
  refine k_enterZ (y := yX6_init) (wl := wsX6_init) (rm := rm_X6_init) (av := [.ref h]) (D := D) (tys := k_tys cI cZ cJ cS) (ws := [(h, .inr (6, [.null, .null, .null, .int 0, .int 0]))]) (cc := cX6_init) (maxL := 1) (ret := none) (Qc := fun A => va_Qv (fun (_ : Nat → Nat) => True) (fun u t => k_B D (k_tys cI cZ cJ cS) ((fun u => [(h, .inr (6, [.ref (u 0), .ref (u 1), .ref (u 2), .int 0, .int 0])), ((u 0), .inl (cI, 6, .inl (fun _ => 0))), ((u 1), .inl (cI, 6, .inl (fun _ => 0))), ((u 2), .inl (cI, 6, .inl (fun _ => 0)))]) u) A () t) A) (by decide) rfl (Nat.le_of_ble_eq_true rfl) [(0, .ref h)] rfl ?_
  intro p e s m below meth c A hx hb hml hr hlocks hnm hown hK hP hD hA hS hN hZ ls args Q hts hl hQ
  replace hown : s.vm.findClass RX6 = some m.cls := hown
  replace hnm : meth.name = "<init>" := hnm
  have inX6 : ∀ w ∈ u_ws RX6 TX6 5, w ∈ wsX6_init := fun w h => List.mem_cons_of_mem _ (List.mem_append_right _ h)
  have wl1 : (Cond.methodLink RX6 3 objectInit).before args s = true := hts _ (List.mem_of_getElem? (i := 1) rfl)
  have wl2 : (Cond.instanceMethod objectInit).before args s = true := hts _ (List.mem_of_getElem? (i := 2) rfl)
  have wl3 : (Cond.code objectInit ⟨#[0xb1]⟩ 1 none).before args s = true := hts _ (List.mem_of_getElem? (i := 3) rfl)
  have wl4 : (Cond.arrayClass .int).before args s = true := hts _ (List.mem_of_getElem? (i := 4) rfl)
  have wl5 : (Cond.fieldLink RX6 9 "BeachedShip$Tackles" "mast" "[I").before args s = true := hts _ (List.mem_of_getElem? (i := 5) rfl)
  have wl6 : (Cond.fieldLink RX6 15 "BeachedShip$Tackles" "parts" "[I").before args s = true := hts _ (List.mem_of_getElem? (i := 6) rfl)
  have wl7 : (Cond.fieldLink RX6 18 "BeachedShip$Tackles" "strength" "[I").before args s = true := hts _ (List.mem_of_getElem? (i := 7) rfl)
  have hRet : some () = some () → ∀ (H : Heap) (locs : List Loc) (ls : Array Slot) (pc : Nat) (u : Nat → Nat), va_P D vwCl [(h, .inr (6, [.ref (u 0), .ref (u 1), .ref (u 2), .int 0, .int 0])), ((u 0), .inl (cI, 6, .inl (fun _ => 0))), ((u 1), .inl (cI, 6, .inl (fun _ => 0))), ((u 2), .inl (cI, 6, .inl (fun _ => 0)))] H → va_D A [(h, .inr (6, [.ref (u 0), .ref (u 1), .ref (u 2), .int 0, .int 0])), ((u 0), .inl (cI, 6, .inl (fun _ => 0))), ((u 1), .inl (cI, 6, .inl (fun _ => 0))), ((u 2), .inl (cI, 6, .inl (fun _ => 0)))] → va_S A s.heap H locs → decode cX6_init pc = .ok (.return_, 1) → W p l e rm_X6_init s m args below meth c H locs 3 18 Q (F0 m pc ls []) := by
    intro  hz H locs ls pc u hP hD hS hd
    cases hz
    exact k_vretC (WS := (fun u => [(h, .inr (6, [.ref (u 0), .ref (u 1), .ref (u 2), .int 0, .int 0])), ((u 0), .inl (cI, 6, .inl (fun _ => 0))), ((u 1), .inl (cI, 6, .inl (fun _ => 0))), ((u 2), .inl (cI, 6, .inl (fun _ => 0)))])) u hx hb hr hlocks hK hP hD hS hQ hd
  have hf : (some () : Option Unit) = some () := rfl
  refine lv_aload_n hx hb dX6_init_0 rfl (lv_at hl 0 rfl) ?_
  refine W.objInit hx hb hown wl1 wl2 wl3 rfl (by rw [hml]; exact hl.1) rfl dX6_init_1 (Nat.le_of_ble_eq_true rfl) (Nat.le_of_ble_eq_true rfl) ?_
  refine W.eq (g2 := F0 m 4 ls []) rfl ?_
  refine lv_aload_n hx hb dX6_init_4 rfl (lv_at hl 0 rfl) ?_
  refine lv_bipush (v := 6) hx hb dX6_init_5 (by decide) ?_
  refine k_newaG (atype := .int) (a0 := (6, .inl (fun _ => 0))) (ty := .int) (N' := 6) hx hb wl4 rfl (by intro C h; cases h) hK hP hD hS hA 0 rfl (fun _ => rfl) (by decide) (by decide) (by show 6 * 4 ≤ 536870912; omega) (Nat.le_of_ble_eq_true rfl) (Nat.le_of_ble_eq_true rfl) rfl rfl dX6_init_7 (fun q7_1 H hP hD hS => ?_)
  replace hP : va_P D vwCl [(h, .inr (6, [.null, .null, .null, .int 0, .int 0])), (q7_1, .inl (cI, 6, .inl (fun _ => 0)))] H := hP
  replace hD : va_D A [(h, .inr (6, [.null, .null, .null, .int 0, .int 0])), (q7_1, .inl (cI, 6, .inl (fun _ => 0)))] := hD
  refine k_putFG (ws2 := [(h, .inr (6, [.ref q7_1, .null, .null, .int 0, .int 0])), (q7_1, .inl (cI, 6, .inl (fun _ => 0)))]) (C := RX6) (T := TX6) (N := 5) hx hb hts inX6 tyX6 tyX6_ok nmX6 hown hK hP hD hS 0 rfl rfl 0 (by decide) rfl wl5 rfl hnm rfl rfl rfl (Nat.le_of_ble_eq_true rfl) rfl dX6_init_9 (fun H locs hP hD hS => ?_)
  refine lv_aload_n hx hb dX6_init_12 rfl (lv_at hl 0 rfl) ?_
  refine lv_bipush (v := 6) hx hb dX6_init_13 (by decide) ?_
  refine k_newaG (atype := .int) (a0 := (6, .inl (fun _ => 0))) (ty := .int) (N' := 6) hx hb wl4 rfl (by intro C h; cases h) hK hP hD hS hA 0 rfl (fun _ => rfl) (by decide) (by decide) (by show 6 * 4 ≤ 536870912; omega) (Nat.le_of_ble_eq_true rfl) (Nat.le_of_ble_eq_true rfl) rfl rfl dX6_init_15 (fun q15_2 H hP hD hS => ?_)
  replace hP : va_P D vwCl [(h, .inr (6, [.ref q7_1, .null, .null, .int 0, .int 0])), (q7_1, .inl (cI, 6, .inl (fun _ => 0))), (q15_2, .inl (cI, 6, .inl (fun _ => 0)))] H := hP
  replace hD : va_D A [(h, .inr (6, [.ref q7_1, .null, .null, .int 0, .int 0])), (q7_1, .inl (cI, 6, .inl (fun _ => 0))), (q15_2, .inl (cI, 6, .inl (fun _ => 0)))] := hD
  refine k_putFG (ws2 := [(h, .inr (6, [.ref q7_1, .ref q15_2, .null, .int 0, .int 0])), (q7_1, .inl (cI, 6, .inl (fun _ => 0))), (q15_2, .inl (cI, 6, .inl (fun _ => 0)))]) (C := RX6) (T := TX6) (N := 5) hx hb hts inX6 tyX6 tyX6_ok nmX6 hown hK hP hD hS 0 rfl rfl 1 (by decide) rfl wl6 rfl hnm rfl rfl rfl (Nat.le_of_ble_eq_true rfl) rfl dX6_init_17 (fun H locs hP hD hS => ?_)
  refine lv_aload_n hx hb dX6_init_20 rfl (lv_at hl 0 rfl) ?_
  refine lv_bipush (v := 6) hx hb dX6_init_21 (by decide) ?_
  refine k_newaG (atype := .int) (a0 := (6, .inl (fun _ => 0))) (ty := .int) (N' := 6) hx hb wl4 rfl (by intro C h; cases h) hK hP hD hS hA 0 rfl (fun _ => rfl) (by decide) (by decide) (by show 6 * 4 ≤ 536870912; omega) (Nat.le_of_ble_eq_true rfl) (Nat.le_of_ble_eq_true rfl) rfl rfl dX6_init_23 (fun q23_3 H hP hD hS => ?_)
  replace hP : va_P D vwCl [(h, .inr (6, [.ref q7_1, .ref q15_2, .null, .int 0, .int 0])), (q7_1, .inl (cI, 6, .inl (fun _ => 0))), (q15_2, .inl (cI, 6, .inl (fun _ => 0))), (q23_3, .inl (cI, 6, .inl (fun _ => 0)))] H := hP
  replace hD : va_D A [(h, .inr (6, [.ref q7_1, .ref q15_2, .null, .int 0, .int 0])), (q7_1, .inl (cI, 6, .inl (fun _ => 0))), (q15_2, .inl (cI, 6, .inl (fun _ => 0))), (q23_3, .inl (cI, 6, .inl (fun _ => 0)))] := hD
  refine k_putFG (ws2 := [(h, .inr (6, [.ref q7_1, .ref q15_2, .ref q23_3, .int 0, .int 0])), (q7_1, .inl (cI, 6, .inl (fun _ => 0))), (q15_2, .inl (cI, 6, .inl (fun _ => 0))), (q23_3, .inl (cI, 6, .inl (fun _ => 0)))]) (C := RX6) (T := TX6) (N := 5) hx hb hts inX6 tyX6 tyX6_ok nmX6 hown hK hP hD hS 0 rfl rfl 2 (by decide) rfl wl7 rfl hnm rfl rfl rfl (Nat.le_of_ble_eq_true rfl) rfl dX6_init_25 (fun H locs hP hD hS => ?_)
  exact hRet  hf _ _ _ _ (k_sel [q7_1, q15_2, q23_3]) (k_sub_P hP [0, 1, 2, 3] rfl) (hD.sub [0, 1, 2, 3] (by decide) rfl) hS dX6_init_28

abbrev rm_X3_init : Room := { frames := 1, cells := 8, slots := 96, locals := 32 }
theorem hdS_X3_init : yX3_init.cls ≠ "java/lang/invoke/MethodHandle" ∧ yX3_init.cls ≠ "java/lang/invoke/VarHandle" ∧ (parseMethodDescriptor yX3_init.desc).map (fun d => d.parameters.length) = some 0 := by decide +kernel
set_option maxHeartbeats 4000000 in
set_option maxRecDepth 100000 in
theorem c_X3_init (l : Launch) (D : va_G) (cI cZ cJ cS : ClassId) (h : Nat) : k_MC l yX3_init wsX3_init rm_X3_init D (k_tys cI cZ cJ cS) [.ref h] [(h, .inr (3, [.null, .null, .null, .null, .null, .null, .null, .null, .int 0]))] (fun u => [(h, .inr (3, [.ref (u 0), .ref (u 1), .ref (u 2), .ref (u 3), .ref (u 4), .ref (u 5), .ref (u 6), .ref (u 7), .int 0])), ((u 0), .inl (cI, 12, .inl (fun _ => 0))), ((u 1), .inl (cI, 12, .inl (fun _ => 0))), ((u 2), .inl (cI, 12, .inl (fun _ => 0))), ((u 3), .inl (cI, 12, .inl (fun _ => 0))), ((u 4), .inl (cI, 12, .inl (fun _ => 0))), ((u 5), .inl (cI, 12, .inl (fun _ => 0))), ((u 6), .inl (cI, 12, .inl (fun _ => 0))), ((u 7), .inl (cI, 12, .inl (fun _ => 0)))]) 8 96 := by
  refine k_enterZ (y := yX3_init) (wl := wsX3_init) (rm := rm_X3_init) (av := [.ref h]) (D := D) (tys := k_tys cI cZ cJ cS) (ws := [(h, .inr (3, [.null, .null, .null, .null, .null, .null, .null, .null, .int 0]))]) (cc := cX3_init) (maxL := 1) (ret := none) (Qc := fun A => va_Qv (fun (_ : Nat → Nat) => True) (fun u t => k_B D (k_tys cI cZ cJ cS) ((fun u => [(h, .inr (3, [.ref (u 0), .ref (u 1), .ref (u 2), .ref (u 3), .ref (u 4), .ref (u 5), .ref (u 6), .ref (u 7), .int 0])), ((u 0), .inl (cI, 12, .inl (fun _ => 0))), ((u 1), .inl (cI, 12, .inl (fun _ => 0))), ((u 2), .inl (cI, 12, .inl (fun _ => 0))), ((u 3), .inl (cI, 12, .inl (fun _ => 0))), ((u 4), .inl (cI, 12, .inl (fun _ => 0))), ((u 5), .inl (cI, 12, .inl (fun _ => 0))), ((u 6), .inl (cI, 12, .inl (fun _ => 0))), ((u 7), .inl (cI, 12, .inl (fun _ => 0)))]) u) A () t) A) (by decide) rfl (Nat.le_of_ble_eq_true rfl) [(0, .ref h)] rfl ?_
  intro p e s m below meth c A hx hb hml hr hlocks hnm hown hK hP hD hA hS hN hZ ls args Q hts hl hQ
  replace hown : s.vm.findClass RX3 = some m.cls := hown
  replace hnm : meth.name = "<init>" := hnm
  have inX3 : ∀ w ∈ u_ws RX3 TX3 9, w ∈ wsX3_init := fun w h => List.mem_cons_of_mem _ (List.mem_append_right _ h)
  have wl1 : (Cond.methodLink RX3 3 objectInit).before args s = true := hts _ (List.mem_of_getElem? (i := 1) rfl)
  have wl2 : (Cond.instanceMethod objectInit).before args s = true := hts _ (List.mem_of_getElem? (i := 2) rfl)
  have wl3 : (Cond.code objectInit ⟨#[0xb1]⟩ 1 none).before args s = true := hts _ (List.mem_of_getElem? (i := 3) rfl)
  have wl4 : (Cond.arrayClass .int).before args s = true := hts _ (List.mem_of_getElem? (i := 4) rfl)
  have wl5 : (Cond.fieldLink RX3 9 "BeachedShip$Seams" "strake" "[I").before args s = true := hts _ (List.mem_of_getElem? (i := 5) rfl)
  have wl6 : (Cond.fieldLink RX3 15 "BeachedShip$Seams" "side" "[I").before args s = true := hts _ (List.mem_of_getElem? (i := 6) rfl)
  have wl7 : (Cond.fieldLink RX3 18 "BeachedShip$Seams" "hands" "[I").before args s = true := hts _ (List.mem_of_getElem? (i := 7) rfl)
  have wl8 : (Cond.fieldLink RX3 21 "BeachedShip$Seams" "hours" "[I").before args s = true := hts _ (List.mem_of_getElem? (i := 8) rfl)
  have wl9 : (Cond.fieldLink RX3 24 "BeachedShip$Seams" "pitch" "[I").before args s = true := hts _ (List.mem_of_getElem? (i := 9) rfl)
  have wl10 : (Cond.fieldLink RX3 27 "BeachedShip$Seams" "worth" "[I").before args s = true := hts _ (List.mem_of_getElem? (i := 10) rfl)
  have wl11 : (Cond.fieldLink RX3 30 "BeachedShip$Seams" "state" "[I").before args s = true := hts _ (List.mem_of_getElem? (i := 11) rfl)
  have wl12 : (Cond.fieldLink RX3 33 "BeachedShip$Seams" "done" "[I").before args s = true := hts _ (List.mem_of_getElem? (i := 12) rfl)
  have hRet : some () = some () → ∀ (H : Heap) (locs : List Loc) (ls : Array Slot) (pc : Nat) (u : Nat → Nat), va_P D vwCl [(h, .inr (3, [.ref (u 0), .ref (u 1), .ref (u 2), .ref (u 3), .ref (u 4), .ref (u 5), .ref (u 6), .ref (u 7), .int 0])), ((u 0), .inl (cI, 12, .inl (fun _ => 0))), ((u 1), .inl (cI, 12, .inl (fun _ => 0))), ((u 2), .inl (cI, 12, .inl (fun _ => 0))), ((u 3), .inl (cI, 12, .inl (fun _ => 0))), ((u 4), .inl (cI, 12, .inl (fun _ => 0))), ((u 5), .inl (cI, 12, .inl (fun _ => 0))), ((u 6), .inl (cI, 12, .inl (fun _ => 0))), ((u 7), .inl (cI, 12, .inl (fun _ => 0)))] H → va_D A [(h, .inr (3, [.ref (u 0), .ref (u 1), .ref (u 2), .ref (u 3), .ref (u 4), .ref (u 5), .ref (u 6), .ref (u 7), .int 0])), ((u 0), .inl (cI, 12, .inl (fun _ => 0))), ((u 1), .inl (cI, 12, .inl (fun _ => 0))), ((u 2), .inl (cI, 12, .inl (fun _ => 0))), ((u 3), .inl (cI, 12, .inl (fun _ => 0))), ((u 4), .inl (cI, 12, .inl (fun _ => 0))), ((u 5), .inl (cI, 12, .inl (fun _ => 0))), ((u 6), .inl (cI, 12, .inl (fun _ => 0))), ((u 7), .inl (cI, 12, .inl (fun _ => 0)))] → va_S A s.heap H locs → decode cX3_init pc = .ok (.return_, 1) → W p l e rm_X3_init s m args below meth c H locs 8 96 Q (F0 m pc ls []) := by
    intro  hz H locs ls pc u hP hD hS hd
    cases hz
    exact k_vretC (WS := (fun u => [(h, .inr (3, [.ref (u 0), .ref (u 1), .ref (u 2), .ref (u 3), .ref (u 4), .ref (u 5), .ref (u 6), .ref (u 7), .int 0])), ((u 0), .inl (cI, 12, .inl (fun _ => 0))), ((u 1), .inl (cI, 12, .inl (fun _ => 0))), ((u 2), .inl (cI, 12, .inl (fun _ => 0))), ((u 3), .inl (cI, 12, .inl (fun _ => 0))), ((u 4), .inl (cI, 12, .inl (fun _ => 0))), ((u 5), .inl (cI, 12, .inl (fun _ => 0))), ((u 6), .inl (cI, 12, .inl (fun _ => 0))), ((u 7), .inl (cI, 12, .inl (fun _ => 0)))])) u hx hb hr hlocks hK hP hD hS hQ hd
  have hf : (some () : Option Unit) = some () := rfl
  refine lv_aload_n hx hb dX3_init_0 rfl (lv_at hl 0 rfl) ?_
  refine W.objInit hx hb hown wl1 wl2 wl3 rfl (by rw [hml]; exact hl.1) rfl dX3_init_1 (Nat.le_of_ble_eq_true rfl) (Nat.le_of_ble_eq_true rfl) ?_
  refine W.eq (g2 := F0 m 4 ls []) rfl ?_
  refine lv_aload_n hx hb dX3_init_4 rfl (lv_at hl 0 rfl) ?_
  refine lv_bipush (v := 12) hx hb dX3_init_5 (by decide) ?_
  refine k_newaG (atype := .int) (a0 := (12, .inl (fun _ => 0))) (ty := .int) (N' := 12) hx hb wl4 rfl (by intro C h; cases h) hK hP hD hS hA 0 rfl (fun _ => rfl) (by decide) (by decide) (by show 12 * 4 ≤ 536870912; omega) (Nat.le_of_ble_eq_true rfl) (Nat.le_of_ble_eq_true rfl) rfl rfl dX3_init_7 (fun q7_1 H hP hD hS => ?_)
  replace hP : va_P D vwCl [(h, .inr (3, [.null, .null, .null, .null, .null, .null, .null, .null, .int 0])), (q7_1, .inl (cI, 12, .inl (fun _ => 0)))] H := hP
  replace hD : va_D A [(h, .inr (3, [.null, .null, .null, .null, .null, .null, .null, .null, .int 0])), (q7_1, .inl (cI, 12, .inl (fun _ => 0)))] := hD
  refine k_putFG (ws2 := [(h, .inr (3, [.ref q7_1, .null, .null, .null, .null, .null, .null, .null, .int 0])), (q7_1, .inl (cI, 12, .inl (fun _ => 0)))]) (C := RX3) (T := TX3) (N := 9) hx hb hts inX3 tyX3 tyX3_ok nmX3 hown hK hP hD hS 0 rfl rfl 0 (by decide) rfl wl5 rfl hnm rfl rfl rfl (Nat.le_of_ble_eq_true rfl) rfl dX3_init_9 (fun H locs hP hD hS => ?_)
  refine lv_aload_n hx hb dX3_init_12 rfl (lv_at hl 0 rfl) ?_
  refine lv_bipush (v := 12) hx hb dX3_init_13 (by decide) ?_
  refine k_newaG (atype := .int) (a0 := (12, .inl (fun _ => 0))) (ty := .int) (N' := 12) hx hb wl4 rfl (by intro C h; cases h) hK hP hD hS hA 0 rfl (fun _ => rfl) (by decide) (by decide) (by show 12 * 4 ≤ 536870912; omega) (Nat.le_of_ble_eq_true rfl) (Nat.le_of_ble_eq_true rfl) rfl rfl dX3_init_15 (fun q15_2 H hP hD hS => ?_)
  replace hP : va_P D vwCl [(h, .inr (3, [.ref q7_1, .null, .null, .null, .null, .null, .null, .null, .int 0])), (q7_1, .inl (cI, 12, .inl (fun _ => 0))), (q15_2, .inl (cI, 12, .inl (fun _ => 0)))] H := hP
  replace hD : va_D A [(h, .inr (3, [.ref q7_1, .null, .null, .null, .null, .null, .null, .null, .int 0])), (q7_1, .inl (cI, 12, .inl (fun _ => 0))), (q15_2, .inl (cI, 12, .inl (fun _ => 0)))] := hD
  refine k_putFG (ws2 := [(h, .inr (3, [.ref q7_1, .ref q15_2, .null, .null, .null, .null, .null, .null, .int 0])), (q7_1, .inl (cI, 12, .inl (fun _ => 0))), (q15_2, .inl (cI, 12, .inl (fun _ => 0)))]) (C := RX3) (T := TX3) (N := 9) hx hb hts inX3 tyX3 tyX3_ok nmX3 hown hK hP hD hS 0 rfl rfl 1 (by decide) rfl wl6 rfl hnm rfl rfl rfl (Nat.le_of_ble_eq_true rfl) rfl dX3_init_17 (fun H locs hP hD hS => ?_)
  refine lv_aload_n hx hb dX3_init_20 rfl (lv_at hl 0 rfl) ?_
  refine lv_bipush (v := 12) hx hb dX3_init_21 (by decide) ?_
  refine k_newaG (atype := .int) (a0 := (12, .inl (fun _ => 0))) (ty := .int) (N' := 12) hx hb wl4 rfl (by intro C h; cases h) hK hP hD hS hA 0 rfl (fun _ => rfl) (by decide) (by decide) (by show 12 * 4 ≤ 536870912; omega) (Nat.le_of_ble_eq_true rfl) (Nat.le_of_ble_eq_true rfl) rfl rfl dX3_init_23 (fun q23_3 H hP hD hS => ?_)
  replace hP : va_P D vwCl [(h, .inr (3, [.ref q7_1, .ref q15_2, .null, .null, .null, .null, .null, .null, .int 0])), (q7_1, .inl (cI, 12, .inl (fun _ => 0))), (q15_2, .inl (cI, 12, .inl (fun _ => 0))), (q23_3, .inl (cI, 12, .inl (fun _ => 0)))] H := hP
  replace hD : va_D A [(h, .inr (3, [.ref q7_1, .ref q15_2, .null, .null, .null, .null, .null, .null, .int 0])), (q7_1, .inl (cI, 12, .inl (fun _ => 0))), (q15_2, .inl (cI, 12, .inl (fun _ => 0))), (q23_3, .inl (cI, 12, .inl (fun _ => 0)))] := hD
  refine k_putFG (ws2 := [(h, .inr (3, [.ref q7_1, .ref q15_2, .ref q23_3, .null, .null, .null, .null, .null, .int 0])), (q7_1, .inl (cI, 12, .inl (fun _ => 0))), (q15_2, .inl (cI, 12, .inl (fun _ => 0))), (q23_3, .inl (cI, 12, .inl (fun _ => 0)))]) (C := RX3) (T := TX3) (N := 9) hx hb hts inX3 tyX3 tyX3_ok nmX3 hown hK hP hD hS 0 rfl rfl 2 (by decide) rfl wl7 rfl hnm rfl rfl rfl (Nat.le_of_ble_eq_true rfl) rfl dX3_init_25 (fun H locs hP hD hS => ?_)
  refine lv_aload_n hx hb dX3_init_28 rfl (lv_at hl 0 rfl) ?_
  refine lv_bipush (v := 12) hx hb dX3_init_29 (by decide) ?_
  refine k_newaG (atype := .int) (a0 := (12, .inl (fun _ => 0))) (ty := .int) (N' := 12) hx hb wl4 rfl (by intro C h; cases h) hK hP hD hS hA 0 rfl (fun _ => rfl) (by decide) (by decide) (by show 12 * 4 ≤ 536870912; omega) (Nat.le_of_ble_eq_true rfl) (Nat.le_of_ble_eq_true rfl) rfl rfl dX3_init_31 (fun q31_4 H hP hD hS => ?_)
  replace hP : va_P D vwCl [(h, .inr (3, [.ref q7_1, .ref q15_2, .ref q23_3, .null, .null, .null, .null, .null, .int 0])), (q7_1, .inl (cI, 12, .inl (fun _ => 0))), (q15_2, .inl (cI, 12, .inl (fun _ => 0))), (q23_3, .inl (cI, 12, .inl (fun _ => 0))), (q31_4, .inl (cI, 12, .inl (fun _ => 0)))] H := hP
  replace hD : va_D A [(h, .inr (3, [.ref q7_1, .ref q15_2, .ref q23_3, .null, .null, .null, .null, .null, .int 0])), (q7_1, .inl (cI, 12, .inl (fun _ => 0))), (q15_2, .inl (cI, 12, .inl (fun _ => 0))), (q23_3, .inl (cI, 12, .inl (fun _ => 0))), (q31_4, .inl (cI, 12, .inl (fun _ => 0)))] := hD
  refine k_putFG (ws2 := [(h, .inr (3, [.ref q7_1, .ref q15_2, .ref q23_3, .ref q31_4, .null, .null, .null, .null, .int 0])), (q7_1, .inl (cI, 12, .inl (fun _ => 0))), (q15_2, .inl (cI, 12, .inl (fun _ => 0))), (q23_3, .inl (cI, 12, .inl (fun _ => 0))), (q31_4, .inl (cI, 12, .inl (fun _ => 0)))]) (C := RX3) (T := TX3) (N := 9) hx hb hts inX3 tyX3 tyX3_ok nmX3 hown hK hP hD hS 0 rfl rfl 3 (by decide) rfl wl8 rfl hnm rfl rfl rfl (Nat.le_of_ble_eq_true rfl) rfl dX3_init_33 (fun H locs hP hD hS => ?_)
  refine lv_aload_n hx hb dX3_init_36 rfl (lv_at hl 0 rfl) ?_
  refine lv_bipush (v := 12) hx hb dX3_init_37 (by decide) ?_
  refine k_newaG (atype := .int) (a0 := (12, .inl (fun _ => 0))) (ty := .int) (N' := 12) hx hb wl4 rfl (by intro C h; cases h) hK hP hD hS hA 0 rfl (fun _ => rfl) (by decide) (by decide) (by show 12 * 4 ≤ 536870912; omega) (Nat.le_of_ble_eq_true rfl) (Nat.le_of_ble_eq_true rfl) rfl rfl dX3_init_39 (fun q39_5 H hP hD hS => ?_)
  replace hP : va_P D vwCl [(h, .inr (3, [.ref q7_1, .ref q15_2, .ref q23_3, .ref q31_4, .null, .null, .null, .null, .int 0])), (q7_1, .inl (cI, 12, .inl (fun _ => 0))), (q15_2, .inl (cI, 12, .inl (fun _ => 0))), (q23_3, .inl (cI, 12, .inl (fun _ => 0))), (q31_4, .inl (cI, 12, .inl (fun _ => 0))), (q39_5, .inl (cI, 12, .inl (fun _ => 0)))] H := hP
  replace hD : va_D A [(h, .inr (3, [.ref q7_1, .ref q15_2, .ref q23_3, .ref q31_4, .null, .null, .null, .null, .int 0])), (q7_1, .inl (cI, 12, .inl (fun _ => 0))), (q15_2, .inl (cI, 12, .inl (fun _ => 0))), (q23_3, .inl (cI, 12, .inl (fun _ => 0))), (q31_4, .inl (cI, 12, .inl (fun _ => 0))), (q39_5, .inl (cI, 12, .inl (fun _ => 0)))] := hD
  refine k_putFG (ws2 := [(h, .inr (3, [.ref q7_1, .ref q15_2, .ref q23_3, .ref q31_4, .ref q39_5, .null, .null, .null, .int 0])), (q7_1, .inl (cI, 12, .inl (fun _ => 0))), (q15_2, .inl (cI, 12, .inl (fun _ => 0))), (q23_3, .inl (cI, 12, .inl (fun _ => 0))), (q31_4, .inl (cI, 12, .inl (fun _ => 0))), (q39_5, .inl (cI, 12, .inl (fun _ => 0)))]) (C := RX3) (T := TX3) (N := 9) hx hb hts inX3 tyX3 tyX3_ok nmX3 hown hK hP hD hS 0 rfl rfl 4 (by decide) rfl wl9 rfl hnm rfl rfl rfl (Nat.le_of_ble_eq_true rfl) rfl dX3_init_41 (fun H locs hP hD hS => ?_)
  refine lv_aload_n hx hb dX3_init_44 rfl (lv_at hl 0 rfl) ?_
  refine lv_bipush (v := 12) hx hb dX3_init_45 (by decide) ?_
  refine k_newaG (atype := .int) (a0 := (12, .inl (fun _ => 0))) (ty := .int) (N' := 12) hx hb wl4 rfl (by intro C h; cases h) hK hP hD hS hA 0 rfl (fun _ => rfl) (by decide) (by decide) (by show 12 * 4 ≤ 536870912; omega) (Nat.le_of_ble_eq_true rfl) (Nat.le_of_ble_eq_true rfl) rfl rfl dX3_init_47 (fun q47_6 H hP hD hS => ?_)
  replace hP : va_P D vwCl [(h, .inr (3, [.ref q7_1, .ref q15_2, .ref q23_3, .ref q31_4, .ref q39_5, .null, .null, .null, .int 0])), (q7_1, .inl (cI, 12, .inl (fun _ => 0))), (q15_2, .inl (cI, 12, .inl (fun _ => 0))), (q23_3, .inl (cI, 12, .inl (fun _ => 0))), (q31_4, .inl (cI, 12, .inl (fun _ => 0))), (q39_5, .inl (cI, 12, .inl (fun _ => 0))), (q47_6, .inl (cI, 12, .inl (fun _ => 0)))] H := hP
  replace hD : va_D A [(h, .inr (3, [.ref q7_1, .ref q15_2, .ref q23_3, .ref q31_4, .ref q39_5, .null, .null, .null, .int 0])), (q7_1, .inl (cI, 12, .inl (fun _ => 0))), (q15_2, .inl (cI, 12, .inl (fun _ => 0))), (q23_3, .inl (cI, 12, .inl (fun _ => 0))), (q31_4, .inl (cI, 12, .inl (fun _ => 0))), (q39_5, .inl (cI, 12, .inl (fun _ => 0))), (q47_6, .inl (cI, 12, .inl (fun _ => 0)))] := hD
  refine k_putFG (ws2 := [(h, .inr (3, [.ref q7_1, .ref q15_2, .ref q23_3, .ref q31_4, .ref q39_5, .ref q47_6, .null, .null, .int 0])), (q7_1, .inl (cI, 12, .inl (fun _ => 0))), (q15_2, .inl (cI, 12, .inl (fun _ => 0))), (q23_3, .inl (cI, 12, .inl (fun _ => 0))), (q31_4, .inl (cI, 12, .inl (fun _ => 0))), (q39_5, .inl (cI, 12, .inl (fun _ => 0))), (q47_6, .inl (cI, 12, .inl (fun _ => 0)))]) (C := RX3) (T := TX3) (N := 9) hx hb hts inX3 tyX3 tyX3_ok nmX3 hown hK hP hD hS 0 rfl rfl 5 (by decide) rfl wl10 rfl hnm rfl rfl rfl (Nat.le_of_ble_eq_true rfl) rfl dX3_init_49 (fun H locs hP hD hS => ?_)
  refine lv_aload_n hx hb dX3_init_52 rfl (lv_at hl 0 rfl) ?_
  refine lv_bipush (v := 12) hx hb dX3_init_53 (by decide) ?_
  refine k_newaG (atype := .int) (a0 := (12, .inl (fun _ => 0))) (ty := .int) (N' := 12) hx hb wl4 rfl (by intro C h; cases h) hK hP hD hS hA 0 rfl (fun _ => rfl) (by decide) (by decide) (by show 12 * 4 ≤ 536870912; omega) (Nat.le_of_ble_eq_true rfl) (Nat.le_of_ble_eq_true rfl) rfl rfl dX3_init_55 (fun q55_7 H hP hD hS => ?_)
  replace hP : va_P D vwCl [(h, .inr (3, [.ref q7_1, .ref q15_2, .ref q23_3, .ref q31_4, .ref q39_5, .ref q47_6, .null, .null, .int 0])), (q7_1, .inl (cI, 12, .inl (fun _ => 0))), (q15_2, .inl (cI, 12, .inl (fun _ => 0))), (q23_3, .inl (cI, 12, .inl (fun _ => 0))), (q31_4, .inl (cI, 12, .inl (fun _ => 0))), (q39_5, .inl (cI, 12, .inl (fun _ => 0))), (q47_6, .inl (cI, 12, .inl (fun _ => 0))), (q55_7, .inl (cI, 12, .inl (fun _ => 0)))] H := hP
  replace hD : va_D A [(h, .inr (3, [.ref q7_1, .ref q15_2, .ref q23_3, .ref q31_4, .ref q39_5, .ref q47_6, .null, .null, .int 0])), (q7_1, .inl (cI, 12, .inl (fun _ => 0))), (q15_2, .inl (cI, 12, .inl (fun _ => 0))), (q23_3, .inl (cI, 12, .inl (fun _ => 0))), (q31_4, .inl (cI, 12, .inl (fun _ => 0))), (q39_5, .inl (cI, 12, .inl (fun _ => 0))), (q47_6, .inl (cI, 12, .inl (fun _ => 0))), (q55_7, .inl (cI, 12, .inl (fun _ => 0)))] := hD
  refine k_putFG (ws2 := [(h, .inr (3, [.ref q7_1, .ref q15_2, .ref q23_3, .ref q31_4, .ref q39_5, .ref q47_6, .ref q55_7, .null, .int 0])), (q7_1, .inl (cI, 12, .inl (fun _ => 0))), (q15_2, .inl (cI, 12, .inl (fun _ => 0))), (q23_3, .inl (cI, 12, .inl (fun _ => 0))), (q31_4, .inl (cI, 12, .inl (fun _ => 0))), (q39_5, .inl (cI, 12, .inl (fun _ => 0))), (q47_6, .inl (cI, 12, .inl (fun _ => 0))), (q55_7, .inl (cI, 12, .inl (fun _ => 0)))]) (C := RX3) (T := TX3) (N := 9) hx hb hts inX3 tyX3 tyX3_ok nmX3 hown hK hP hD hS 0 rfl rfl 6 (by decide) rfl wl11 rfl hnm rfl rfl rfl (Nat.le_of_ble_eq_true rfl) rfl dX3_init_57 (fun H locs hP hD hS => ?_)
  refine lv_aload_n hx hb dX3_init_60 rfl (lv_at hl 0 rfl) ?_
  refine lv_bipush (v := 12) hx hb dX3_init_61 (by decide) ?_
  refine k_newaG (atype := .int) (a0 := (12, .inl (fun _ => 0))) (ty := .int) (N' := 12) hx hb wl4 rfl (by intro C h; cases h) hK hP hD hS hA 0 rfl (fun _ => rfl) (by decide) (by decide) (by show 12 * 4 ≤ 536870912; omega) (Nat.le_of_ble_eq_true rfl) (Nat.le_of_ble_eq_true rfl) rfl rfl dX3_init_63 (fun q63_8 H hP hD hS => ?_)
  replace hP : va_P D vwCl [(h, .inr (3, [.ref q7_1, .ref q15_2, .ref q23_3, .ref q31_4, .ref q39_5, .ref q47_6, .ref q55_7, .null, .int 0])), (q7_1, .inl (cI, 12, .inl (fun _ => 0))), (q15_2, .inl (cI, 12, .inl (fun _ => 0))), (q23_3, .inl (cI, 12, .inl (fun _ => 0))), (q31_4, .inl (cI, 12, .inl (fun _ => 0))), (q39_5, .inl (cI, 12, .inl (fun _ => 0))), (q47_6, .inl (cI, 12, .inl (fun _ => 0))), (q55_7, .inl (cI, 12, .inl (fun _ => 0))), (q63_8, .inl (cI, 12, .inl (fun _ => 0)))] H := hP
  replace hD : va_D A [(h, .inr (3, [.ref q7_1, .ref q15_2, .ref q23_3, .ref q31_4, .ref q39_5, .ref q47_6, .ref q55_7, .null, .int 0])), (q7_1, .inl (cI, 12, .inl (fun _ => 0))), (q15_2, .inl (cI, 12, .inl (fun _ => 0))), (q23_3, .inl (cI, 12, .inl (fun _ => 0))), (q31_4, .inl (cI, 12, .inl (fun _ => 0))), (q39_5, .inl (cI, 12, .inl (fun _ => 0))), (q47_6, .inl (cI, 12, .inl (fun _ => 0))), (q55_7, .inl (cI, 12, .inl (fun _ => 0))), (q63_8, .inl (cI, 12, .inl (fun _ => 0)))] := hD
  refine k_putFG (ws2 := [(h, .inr (3, [.ref q7_1, .ref q15_2, .ref q23_3, .ref q31_4, .ref q39_5, .ref q47_6, .ref q55_7, .ref q63_8, .int 0])), (q7_1, .inl (cI, 12, .inl (fun _ => 0))), (q15_2, .inl (cI, 12, .inl (fun _ => 0))), (q23_3, .inl (cI, 12, .inl (fun _ => 0))), (q31_4, .inl (cI, 12, .inl (fun _ => 0))), (q39_5, .inl (cI, 12, .inl (fun _ => 0))), (q47_6, .inl (cI, 12, .inl (fun _ => 0))), (q55_7, .inl (cI, 12, .inl (fun _ => 0))), (q63_8, .inl (cI, 12, .inl (fun _ => 0)))]) (C := RX3) (T := TX3) (N := 9) hx hb hts inX3 tyX3 tyX3_ok nmX3 hown hK hP hD hS 0 rfl rfl 7 (by decide) rfl wl12 rfl hnm rfl rfl rfl (Nat.le_of_ble_eq_true rfl) rfl dX3_init_65 (fun H locs hP hD hS => ?_)
  exact hRet  hf _ _ _ _ (k_sel [q7_1, q15_2, q23_3, q31_4, q39_5, q47_6, q55_7, q63_8]) (k_sub_P hP [0, 1, 2, 3, 4, 5, 6, 7, 8] rfl) (hD.sub [0, 1, 2, 3, 4, 5, 6, 7, 8] (by decide) rfl) hS dX3_init_68

def lb_X5_init_54 (x1_17 : Int32) (c_q25_3_18 : Nat → Int32) : Option ((Int32 × (Nat → Int32)) ⊕ ((Nat → Int32))) :=
  if 8 ≤ x1_17 then
    some (.inr c_q25_3_18)
  else
    k_ix x1_17 8 (
      k_ix x1_17 8 (
        some (.inl (x1_17 + 1, upd c_q25_3_18 x1_17.toNatClampNeg (k_r0 x1_17.toNatClampNeg)))))
def lb_X5_init_32 (x1_22 : Int32) (c_q7_1_23 : Nat → Int32) : Option ((Int32 × (Nat → Int32)) ⊕ ((Nat → Int32))) :=
  if 96 ≤ x1_22 then
    some (.inr c_q7_1_23)
  else
    k_ix x1_22 96 (
      some (.inl (x1_22 + 1, upd c_q7_1_23 x1_22.toNatClampNeg 30)))
def p_X5_init : Option ((Nat → Int32) × (Nat → Int32)) :=
  k_b1 (k_lp (fun s => lb_X5_init_32 s.1 s.2) k_fuel (0, (fun _ => 0))) fun c_q7_1_9 =>
  k_b1 (k_lp (fun s => lb_X5_init_54 s.1 s.2) k_fuel (0, (fun _ => 0))) fun c_q25_3_16 =>
  some (c_q7_1_9, c_q25_3_16)
abbrev rm_X5_init : Room := { frames := 1, cells := 3, slots := 200, locals := 32 }
theorem hdS_X5_init : yX5_init.cls ≠ "java/lang/invoke/MethodHandle" ∧ yX5_init.cls ≠ "java/lang/invoke/VarHandle" ∧ (parseMethodDescriptor yX5_init.desc).map (fun d => d.parameters.length) = some 0 := by decide +kernel
set_option maxHeartbeats 4000000 in
set_option maxRecDepth 100000 in
theorem c_X5_init (l : Launch) (D : va_G) (cI cZ cJ cS : ClassId) (h : Nat) (w0 : Nat → Int32) (w1 : Nat → Int32) (hf : p_X5_init = some (w0, w1)) : k_MC l yX5_init wsX5_init rm_X5_init D (k_tys cI cZ cJ cS) [.ref h] [(h, .inr (5, [.null, .null, .null]))] (fun u => [(h, .inr (5, [.ref (u 0), .ref (u 1), .ref (u 2)])), ((u 0), .inl (cI, 96, .inl w0)), ((u 1), .inl (cZ, 96, .inl (fun _ => 0))), ((u 2), .inl (cI, 8, .inl w1))]) 3 200 := by
  refine k_enterZ (y := yX5_init) (wl := wsX5_init) (rm := rm_X5_init) (av := [.ref h]) (D := D) (tys := k_tys cI cZ cJ cS) (ws := [(h, .inr (5, [.null, .null, .null]))]) (cc := cX5_init) (maxL := 2) (ret := none) (Qc := fun A => va_Qv (fun (_ : Nat → Nat) => True) (fun u t => k_B D (k_tys cI cZ cJ cS) ((fun u => [(h, .inr (5, [.ref (u 0), .ref (u 1), .ref (u 2)])), ((u 0), .inl (cI, 96, .inl w0)), ((u 1), .inl (cZ, 96, .inl (fun _ => 0))), ((u 2), .inl (cI, 8, .inl w1))]) u) A () t) A) (by decide) rfl (Nat.le_of_ble_eq_true rfl) [(0, .ref h)] rfl ?_
  intro p e s m below meth c A hx hb hml hr hlocks hnm hown hK hP hD hA hS hN hZ ls args Q hts hl hQ
  replace hown : s.vm.findClass RX5 = some m.cls := hown
  replace hnm : meth.name = "<init>" := hnm
  obtain ⟨t0, hs01, hs02⟩ := hZ.1
  have inX5 : ∀ w ∈ u_ws RX5 TX5 3, w ∈ wsX5_init := fun w h => List.mem_cons_of_mem _ (List.mem_append_right _ h)
  have wl1 : (Cond.methodLink RX5 3 objectInit).before args s = true := hts _ (List.mem_of_getElem? (i := 1) rfl)
  have wl2 : (Cond.instanceMethod objectInit).before args s = true := hts _ (List.mem_of_getElem? (i := 2) rfl)
  have wl3 : (Cond.code objectInit ⟨#[0xb1]⟩ 1 none).before args s = true := hts _ (List.mem_of_getElem? (i := 3) rfl)
  have wl4 : (Cond.arrayClass .int).before args s = true := hts _ (List.mem_of_getElem? (i := 4) rfl)
  have wl5 : (Cond.fieldLink RX5 9 "BeachedShip$Shore" "tide" "[I").before args s = true := hts _ (List.mem_of_getElem? (i := 5) rfl)
  have wl6 : (Cond.arrayClass .boolean).before args s = true := hts _ (List.mem_of_getElem? (i := 6) rfl)
  have wl7 : (Cond.fieldLink RX5 15 "BeachedShip$Shore" "rain" "[Z").before args s = true := hts _ (List.mem_of_getElem? (i := 7) rfl)
  have wl8 : (Cond.fieldLink RX5 22 "BeachedShip$Shore" "rules" "[I").before args s = true := hts _ (List.mem_of_getElem? (i := 8) rfl)
  have hRet : ∀ (w_z0 : Nat → Int32) (w_z1 : Nat → Int32), some (w_z0, w_z1) = some (w0, w1) → ∀ (H : Heap) (locs : List Loc) (ls : Array Slot) (pc : Nat) (u : Nat → Nat), va_P D vwCl [(h, .inr (5, [.ref (u 0), .ref (u 1), .ref (u 2)])), ((u 0), .inl (cI, 96, .inl w_z0)), ((u 1), .inl (cZ, 96, .inl (fun _ => 0))), ((u 2), .inl (cI, 8, .inl w_z1))] H → va_D A [(h, .inr (5, [.ref (u 0), .ref (u 1), .ref (u 2)])), ((u 0), .inl (cI, 96, .inl w_z0)), ((u 1), .inl (cZ, 96, .inl (fun _ => 0))), ((u 2), .inl (cI, 8, .inl w_z1))] → va_S A s.heap H locs → decode cX5_init pc = .ok (.return_, 1) → W p l e rm_X5_init s m args below meth c H locs 3 200 Q (F0 m pc ls []) := by
    intro w_z0 w_z1 hz H locs ls pc u hP hD hS hd
    cases hz
    exact k_vretC (WS := (fun u => [(h, .inr (5, [.ref (u 0), .ref (u 1), .ref (u 2)])), ((u 0), .inl (cI, 96, .inl w0)), ((u 1), .inl (cZ, 96, .inl (fun _ => 0))), ((u 2), .inl (cI, 8, .inl w1))])) u hx hb hr hlocks hK hP hD hS hQ hd
  unfold p_X5_init at hf
  refine lv_aload_n hx hb dX5_init_0 rfl (lv_at hl 0 rfl) ?_
  refine W.objInit hx hb hown wl1 wl2 wl3 rfl (by rw [hml]; exact hl.1) rfl dX5_init_1 (Nat.le_of_ble_eq_true rfl) (Nat.le_of_ble_eq_true rfl) ?_
  refine W.eq (g2 := F0 m 4 ls []) rfl ?_
  refine lv_aload_n hx hb dX5_init_4 rfl (lv_at hl 0 rfl) ?_
  refine lv_bipush (v := 96) hx hb dX5_init_5 (by decide) ?_
  refine k_newaG (atype := .int) (a0 := (96, .inl (fun _ => 0))) (ty := .int) (N' := 96) hx hb wl4 rfl (by intro C h; cases h) hK hP hD hS hA 0 rfl (fun _ => rfl) (by decide) (by decide) (by show 96 * 4 ≤ 536870912; omega) (Nat.le_of_ble_eq_true rfl) (Nat.le_of_ble_eq_true rfl) rfl rfl dX5_init_7 (fun q7_1 H hP hD hS => ?_)
  replace hP : va_P D vwCl [(h, .inr (5, [.null, .null, .null])), (q7_1, .inl (cI, 96, .inl (fun _ => 0)))] H := hP
  replace hD : va_D A [(h, .inr (5, [.null, .null, .null])), (q7_1, .inl (cI, 96, .inl (fun _ => 0)))] := hD
  refine k_putFG (ws2 := [(h, .inr (5, [.ref q7_1, .null, .null])), (q7_1, .inl (cI, 96, .inl (fun _ => 0)))]) (C := RX5) (T := TX5) (N := 3) hx hb hts inX5 tyX5 tyX5_ok nmX5 hown hK hP hD hS 0 rfl rfl 0 (by decide) rfl wl5 rfl hnm rfl rfl rfl (Nat.le_of_ble_eq_true rfl) rfl dX5_init_9 (fun H locs hP hD hS => ?_)
  refine lv_aload_n hx hb dX5_init_12 rfl (lv_at hl 0 rfl) ?_
  refine lv_bipush (v := 96) hx hb dX5_init_13 (by decide) ?_
  refine k_newaG (atype := .boolean) (a0 := (96, .inl (fun _ => 0))) (ty := .boolean) (N' := 96) hx hb wl6 rfl (by intro C h; cases h) hK hP hD hS hA 1 rfl (fun _ => rfl) (by decide) (by decide) (by show 96 * 1 ≤ 536870912; omega) (Nat.le_of_ble_eq_true rfl) (Nat.le_of_ble_eq_true rfl) rfl rfl dX5_init_15 (fun q15_2 H hP hD hS => ?_)
  replace hP : va_P D vwCl [(h, .inr (5, [.ref q7_1, .null, .null])), (q7_1, .inl (cI, 96, .inl (fun _ => 0))), (q15_2, .inl (cZ, 96, .inl (fun _ => 0)))] H := hP
  replace hD : va_D A [(h, .inr (5, [.ref q7_1, .null, .null])), (q7_1, .inl (cI, 96, .inl (fun _ => 0))), (q15_2, .inl (cZ, 96, .inl (fun _ => 0)))] := hD
  refine k_putFG (ws2 := [(h, .inr (5, [.ref q7_1, .ref q15_2, .null])), (q7_1, .inl (cI, 96, .inl (fun _ => 0))), (q15_2, .inl (cZ, 96, .inl (fun _ => 0)))]) (C := RX5) (T := TX5) (N := 3) hx hb hts inX5 tyX5 tyX5_ok nmX5 hown hK hP hD hS 0 rfl rfl 1 (by decide) rfl wl7 rfl hnm rfl rfl rfl (Nat.le_of_ble_eq_true rfl) rfl dX5_init_17 (fun H locs hP hD hS => ?_)
  refine lv_aload_n hx hb dX5_init_20 rfl (lv_at hl 0 rfl) ?_
  refine k_getsNG hx hb hs01 hS hown hZ.2.2.2.2.1 dX5_init_21 ?_
  refine k_tlenG hx hb hs02 hS dX5_init_24 ?_
  refine k_newaG (atype := .int) (a0 := (8, .inl (fun _ => 0))) (ty := .int) (N' := 8) hx hb wl4 rfl (by intro C h; cases h) hK hP hD hS hA 0 rfl (fun _ => rfl) (by decide) (by decide) (by show 8 * 4 ≤ 536870912; omega) (Nat.le_of_ble_eq_true rfl) (Nat.le_of_ble_eq_true rfl) rfl rfl dX5_init_25 (fun q25_3 H hP hD hS => ?_)
  replace hP : va_P D vwCl [(h, .inr (5, [.ref q7_1, .ref q15_2, .null])), (q7_1, .inl (cI, 96, .inl (fun _ => 0))), (q15_2, .inl (cZ, 96, .inl (fun _ => 0))), (q25_3, .inl (cI, 8, .inl (fun _ => 0)))] H := hP
  replace hD : va_D A [(h, .inr (5, [.ref q7_1, .ref q15_2, .null])), (q7_1, .inl (cI, 96, .inl (fun _ => 0))), (q15_2, .inl (cZ, 96, .inl (fun _ => 0))), (q25_3, .inl (cI, 8, .inl (fun _ => 0)))] := hD
  refine k_putFG (ws2 := [(h, .inr (5, [.ref q7_1, .ref q15_2, .ref q25_3])), (q7_1, .inl (cI, 96, .inl (fun _ => 0))), (q15_2, .inl (cZ, 96, .inl (fun _ => 0))), (q25_3, .inl (cI, 8, .inl (fun _ => 0)))]) (C := RX5) (T := TX5) (N := 3) hx hb hts inX5 tyX5 tyX5_ok nmX5 hown hK hP hD hS 0 rfl rfl 2 (by decide) rfl wl8 rfl hnm rfl rfl rfl (Nat.le_of_ble_eq_true rfl) rfl dX5_init_27 (fun H locs hP hD hS => ?_)
  refine lv_iconst (v := 0) hx hb dX5_init_30 (by decide) ?_
  refine lv_istore_n (lv' := [(1, .int 0), (0, .ref h)]) hx hb dX5_init_31 rfl hl (by decide) rfl (fun ls hl => ?_)
  obtain ⟨ee8, hlp8, hfr8⟩ := k_b1_ee hf
  have hE8 : ∀ (c_q7_1_9 : Nat → Int32), ee8 = c_q7_1_9 → ∀ (H : Heap) (locs : List Loc) (ls : Array Slot), va_P D vwCl [(h, .inr (5, [.ref q7_1, .ref q15_2, .ref q25_3])), (q7_1, .inl (cI, 96, .inl c_q7_1_9)), (q15_2, .inl (cZ, 96, .inl (fun _ => 0))), (q25_3, .inl (cI, 8, .inl (fun _ => 0)))] H → va_D A [(h, .inr (5, [.ref q7_1, .ref q15_2, .ref q25_3])), (q7_1, .inl (cI, 96, .inl c_q7_1_9)), (q15_2, .inl (cZ, 96, .inl (fun _ => 0))), (q25_3, .inl (cI, 8, .inl (fun _ => 0)))] → va_S A s.heap H locs → lv_has ls 2 [(0, .ref h)] → W p l e rm_X5_init s m args below meth c H locs 3 200 Q (F0 m 52 ls []) := by
    intro c_q7_1_9 he H locs ls hP hD hS hl
    replace hf := hfr8 c_q7_1_9 he
    refine lv_iconst (v := 0) hx hb dX5_init_52 (by decide) ?_
    refine lv_istore_n (lv' := [(1, .int 0), (0, .ref h)]) hx hb dX5_init_53 rfl hl (by decide) rfl (fun ls hl => ?_)
    obtain ⟨ee15, hlp15, hfr15⟩ := k_b1_ee hf
    have hE15 : ∀ (c_q25_3_16 : Nat → Int32), ee15 = c_q25_3_16 → ∀ (H : Heap) (locs : List Loc) (ls : Array Slot), va_P D vwCl [(h, .inr (5, [.ref q7_1, .ref q15_2, .ref q25_3])), (q7_1, .inl (cI, 96, .inl c_q7_1_9)), (q15_2, .inl (cZ, 96, .inl (fun _ => 0))), (q25_3, .inl (cI, 8, .inl c_q25_3_16))] H → va_D A [(h, .inr (5, [.ref q7_1, .ref q15_2, .ref q25_3])), (q7_1, .inl (cI, 96, .inl c_q7_1_9)), (q15_2, .inl (cZ, 96, .inl (fun _ => 0))), (q25_3, .inl (cI, 8, .inl c_q25_3_16))] → va_S A s.heap H locs → lv_has ls 2 [] → W p l e rm_X5_init s m args below meth c H locs 3 200 Q (F0 m 80 ls []) := by
      intro c_q25_3_16 he H locs ls hP hD hS hl
      replace hf := hfr15 c_q25_3_16 he
      exact hRet _ _ hf _ _ _ _ (k_sel [q7_1, q15_2, q25_3]) (k_sub_P hP [0, 1, 2, 3] rfl) (hD.sub [0, 1, 2, 3] (by decide) rfl) hS dX5_init_80
    refine (k_lp_ind (fun sx15 => ∀ (H : Heap) (locs : List Loc) (ls : Array Slot), va_P D vwCl [(h, .inr (5, [.ref q7_1, .ref q15_2, .ref q25_3])), (q7_1, .inl (cI, 96, .inl c_q7_1_9)), (q15_2, .inl (cZ, 96, .inl (fun _ => 0))), (q25_3, .inl (cI, 8, .inl sx15.2))] H → va_D A [(h, .inr (5, [.ref q7_1, .ref q15_2, .ref q25_3])), (q7_1, .inl (cI, 96, .inl c_q7_1_9)), (q15_2, .inl (cZ, 96, .inl (fun _ => 0))), (q25_3, .inl (cI, 8, .inl sx15.2))] → va_S A s.heap H locs → lv_has ls 2 [(1, .int sx15.1), (0, .ref h)] → W p l e rm_X5_init s m args below meth c H locs 3 200 Q (F0 m 54 ls [])) (fun sx15 X15 hX15 hin15 hout15 => ?_) _ _ hlp15) _ _ _ hP hD hS (lv_sub hl [0, 1] rfl)
    obtain ⟨x1_17, c_q25_3_18⟩ := sx15
    intro H locs ls hP hD hS hl
    replace hP : va_P D vwCl [(h, .inr (5, [.ref q7_1, .ref q15_2, .ref q25_3])), (q7_1, .inl (cI, 96, .inl c_q7_1_9)), (q15_2, .inl (cZ, 96, .inl (fun _ => 0))), (q25_3, .inl (cI, 8, .inl c_q25_3_18))] H := hP
    replace hD : va_D A [(h, .inr (5, [.ref q7_1, .ref q15_2, .ref q25_3])), (q7_1, .inl (cI, 96, .inl c_q7_1_9)), (q15_2, .inl (cZ, 96, .inl (fun _ => 0))), (q25_3, .inl (cI, 8, .inl c_q25_3_18))] := hD
    replace hl : lv_has ls 2 [(1, .int x1_17), (0, .ref h)] := hl
    replace hX15 : lb_X5_init_54 x1_17 c_q25_3_18 = some X15 := hX15
    unfold lb_X5_init_54 at hX15
    refine lv_iload_n hx hb dX5_init_54 rfl (lv_at hl 0 rfl) ?_
    refine lv_aload_n hx hb dX5_init_55 rfl (lv_at hl 1 rfl) ?_
    refine k_getG (C := RX5) (T := TX5) (N := 3) hx hb hts inX5 hown hK hP 0 rfl rfl 2 (by decide) rfl wl8 rfl dX5_init_56 ?_
    refine va_alen (v := 8) hx hb hK hP 3 0 rfl rfl rfl dX5_init_59 ?_
    refine lv_icmp_ge (tgt := 80) hx hb dX5_init_60 (by decide) (fun c19 => ?_) (fun c19 => ?_)
    · replace hX15 := k_pos hX15 c19
      exact hE15 _ (hout15 _ (Option.some.inj hX15).symm).symm _ _ _ hP hD hS (lv_sub hl [] rfl)
    · replace hX15 := k_neg hX15 c19
      refine lv_aload_n hx hb dX5_init_63 rfl (lv_at hl 1 rfl) ?_
      refine k_getG (C := RX5) (T := TX5) (N := 3) hx hb hts inX5 hown hK hP 0 rfl rfl 2 (by decide) rfl wl8 rfl dX5_init_64 ?_
      refine lv_iload_n hx hb dX5_init_67 rfl (lv_at hl 0 rfl) ?_
      refine k_getsNG hx hb hs01 hS hown hZ.2.2.2.2.1 dX5_init_68 ?_
      refine lv_iload_n hx hb dX5_init_71 rfl (lv_at hl 0 rfl) ?_
      obtain ⟨hi20, hX15⟩ := k_ix_some hX15
      refine k_tiG (k := x1_17.toNatClampNeg) hx hb hs02 hS hi20 rfl dX5_init_72 ?_
      obtain ⟨hi21, hX15⟩ := k_ix_some hX15
      refine k_iastG (ws2 := [(h, .inr (5, [.ref q7_1, .ref q15_2, .ref q25_3])), (q7_1, .inl (cI, 96, .inl c_q7_1_9)), (q15_2, .inl (cZ, 96, .inl (fun _ => 0))), (q25_3, .inl (cI, 8, .inl (upd c_q25_3_18 x1_17.toNatClampNeg (k_r0 x1_17.toNatClampNeg))))]) (k := x1_17.toNatClampNeg) hx hb hK hP hD hS 3 0 rfl rfl hi21 rfl rfl dX5_init_73 (fun H locs hP hD hS => ?_)
      refine lv_iinc (v := x1_17 + 1) (lv' := [(1, .int (x1_17 + 1)), (0, .ref h)]) hx hb dX5_init_74 hl (k := 0) rfl rfl (by decide) rfl (fun ls hl => ?_)
      refine lv_goto (tgt := 54) hx hb dX5_init_77 (by decide) ?_
      exact hin15 (x1_17 + 1, upd c_q25_3_18 x1_17.toNatClampNeg (k_r0 x1_17.toNatClampNeg)) (Option.some.inj hX15).symm _ _ _ hP hD hS (lv_sub hl [0, 1] rfl)
  refine (k_lp_ind (fun sx8 => ∀ (H : Heap) (locs : List Loc) (ls : Array Slot), va_P D vwCl [(h, .inr (5, [.ref q7_1, .ref q15_2, .ref q25_3])), (q7_1, .inl (cI, 96, .inl sx8.2)), (q15_2, .inl (cZ, 96, .inl (fun _ => 0))), (q25_3, .inl (cI, 8, .inl (fun _ => 0)))] H → va_D A [(h, .inr (5, [.ref q7_1, .ref q15_2, .ref q25_3])), (q7_1, .inl (cI, 96, .inl sx8.2)), (q15_2, .inl (cZ, 96, .inl (fun _ => 0))), (q25_3, .inl (cI, 8, .inl (fun _ => 0)))] → va_S A s.heap H locs → lv_has ls 2 [(1, .int sx8.1), (0, .ref h)] → W p l e rm_X5_init s m args below meth c H locs 3 200 Q (F0 m 32 ls [])) (fun sx8 X8 hX8 hin8 hout8 => ?_) _ _ hlp8) _ _ _ hP hD hS (lv_sub hl [0, 1] rfl)
  obtain ⟨x1_22, c_q7_1_23⟩ := sx8
  intro H locs ls hP hD hS hl
  replace hP : va_P D vwCl [(h, .inr (5, [.ref q7_1, .ref q15_2, .ref q25_3])), (q7_1, .inl (cI, 96, .inl c_q7_1_23)), (q15_2, .inl (cZ, 96, .inl (fun _ => 0))), (q25_3, .inl (cI, 8, .inl (fun _ => 0)))] H := hP
  replace hD : va_D A [(h, .inr (5, [.ref q7_1, .ref q15_2, .ref q25_3])), (q7_1, .inl (cI, 96, .inl c_q7_1_23)), (q15_2, .inl (cZ, 96, .inl (fun _ => 0))), (q25_3, .inl (cI, 8, .inl (fun _ => 0)))] := hD
  replace hl : lv_has ls 2 [(1, .int x1_22), (0, .ref h)] := hl
  replace hX8 : lb_X5_init_32 x1_22 c_q7_1_23 = some X8 := hX8
  unfold lb_X5_init_32 at hX8
  refine lv_iload_n hx hb dX5_init_32 rfl (lv_at hl 0 rfl) ?_
  refine lv_bipush (v := 96) hx hb dX5_init_33 (by decide) ?_
  refine lv_icmp_ge (tgt := 52) hx hb dX5_init_35 (by decide) (fun c24 => ?_) (fun c24 => ?_)
  · replace hX8 := k_pos hX8 c24
    exact hE8 _ (hout8 _ (Option.some.inj hX8).symm).symm _ _ _ hP hD hS (lv_sub hl [1] rfl)
  · replace hX8 := k_neg hX8 c24
    refine lv_aload_n hx hb dX5_init_38 rfl (lv_at hl 1 rfl) ?_
    refine k_getG (C := RX5) (T := TX5) (N := 3) hx hb hts inX5 hown hK hP 0 rfl rfl 0 (by decide) rfl wl5 rfl dX5_init_39 ?_
    refine lv_iload_n hx hb dX5_init_42 rfl (lv_at hl 0 rfl) ?_
    refine lv_bipush (v := 30) hx hb dX5_init_43 (by decide) ?_
    obtain ⟨hi25, hX8⟩ := k_ix_some hX8
    refine k_iastG (ws2 := [(h, .inr (5, [.ref q7_1, .ref q15_2, .ref q25_3])), (q7_1, .inl (cI, 96, .inl (upd c_q7_1_23 x1_22.toNatClampNeg 30))), (q15_2, .inl (cZ, 96, .inl (fun _ => 0))), (q25_3, .inl (cI, 8, .inl (fun _ => 0)))]) (k := x1_22.toNatClampNeg) hx hb hK hP hD hS 1 0 rfl rfl hi25 rfl rfl dX5_init_45 (fun H locs hP hD hS => ?_)
    refine lv_iinc (v := x1_22 + 1) (lv' := [(1, .int (x1_22 + 1)), (0, .ref h)]) hx hb dX5_init_46 hl (k := 0) rfl rfl (by decide) rfl (fun ls hl => ?_)
    refine lv_goto (tgt := 32) hx hb dX5_init_49 (by decide) ?_
    exact hin8 (x1_22 + 1, upd c_q7_1_23 x1_22.toNatClampNeg 30) (Option.some.inj hX8).symm _ _ _ hP hD hS (lv_sub hl [0, 1] rfl)

abbrev rm_X4_init : Room := { frames := 2, cells := 16, slots := 156, locals := 52 }
theorem hdS_X4_init : yX4_init.cls ≠ "java/lang/invoke/MethodHandle" ∧ yX4_init.cls ≠ "java/lang/invoke/VarHandle" ∧ (parseMethodDescriptor yX4_init.desc).map (fun d => d.parameters.length) = some 1 := by decide +kernel
set_option maxHeartbeats 4000000 in
set_option maxRecDepth 100000 in
theorem c_X4_init (l : Launch) (D : va_G) (cI cZ cJ cS : ClassId) (h sr : Nat) : k_MC l yX4_init wsX4_init rm_X4_init D (k_tys cI cZ cJ cS) [.ref h, .ref sr] [(h, .inr (4, [.null, .null, .null, .null, .int 0, .int 0, .int 0, .int 0, .int 0, .int 0, .int 0, .int 0, .int 0, .int 0]))] (fun u => [(h, .inr (4, [.ref sr, .ref (u 0), .ref (u 3), .ref (u 7), .int 0, .int 0, .int 0, .int (k_r0 4), .int 0, .int 0, .int 0, .int 0, .int 0, .int 0])), ((u 0), .inr (7, [.ref (u 1), .ref (u 2), .int 0, .int 0])), ((u 1), .inl (cI, 12, .inl (fun _ => 0))), ((u 2), .inl (cI, 12, .inl (fun _ => 0))), ((u 3), .inr (6, [.ref (u 4), .ref (u 5), .ref (u 6), .int 0, .int 0])), ((u 4), .inl (cI, 6, .inl (fun _ => 0))), ((u 5), .inl (cI, 6, .inl (fun _ => 0))), ((u 6), .inl (cI, 6, .inl (fun _ => 0))), ((u 7), .inr (3, [.ref (u 8), .ref (u 9), .ref (u 10), .ref (u 11), .ref (u 12), .ref (u 13), .ref (u 14), .ref (u 15), .int 0])), ((u 8), .inl (cI, 12, .inl (fun _ => 0))), ((u 9), .inl (cI, 12, .inl (fun _ => 0))), ((u 10), .inl (cI, 12, .inl (fun _ => 0))), ((u 11), .inl (cI, 12, .inl (fun _ => 0))), ((u 12), .inl (cI, 12, .inl (fun _ => 0))), ((u 13), .inl (cI, 12, .inl (fun _ => 0))), ((u 14), .inl (cI, 12, .inl (fun _ => 0))), ((u 15), .inl (cI, 12, .inl (fun _ => 0)))]) 16 156 := by
  refine k_enterZ (y := yX4_init) (wl := wsX4_init) (rm := rm_X4_init) (av := [.ref h, .ref sr]) (D := D) (tys := k_tys cI cZ cJ cS) (ws := [(h, .inr (4, [.null, .null, .null, .null, .int 0, .int 0, .int 0, .int 0, .int 0, .int 0, .int 0, .int 0, .int 0, .int 0]))]) (cc := cX4_init) (maxL := 2) (ret := none) (Qc := fun A => va_Qv (fun (_ : Nat → Nat) => True) (fun u t => k_B D (k_tys cI cZ cJ cS) ((fun u => [(h, .inr (4, [.ref sr, .ref (u 0), .ref (u 3), .ref (u 7), .int 0, .int 0, .int 0, .int (k_r0 4), .int 0, .int 0, .int 0, .int 0, .int 0, .int 0])), ((u 0), .inr (7, [.ref (u 1), .ref (u 2), .int 0, .int 0])), ((u 1), .inl (cI, 12, .inl (fun _ => 0))), ((u 2), .inl (cI, 12, .inl (fun _ => 0))), ((u 3), .inr (6, [.ref (u 4), .ref (u 5), .ref (u 6), .int 0, .int 0])), ((u 4), .inl (cI, 6, .inl (fun _ => 0))), ((u 5), .inl (cI, 6, .inl (fun _ => 0))), ((u 6), .inl (cI, 6, .inl (fun _ => 0))), ((u 7), .inr (3, [.ref (u 8), .ref (u 9), .ref (u 10), .ref (u 11), .ref (u 12), .ref (u 13), .ref (u 14), .ref (u 15), .int 0])), ((u 8), .inl (cI, 12, .inl (fun _ => 0))), ((u 9), .inl (cI, 12, .inl (fun _ => 0))), ((u 10), .inl (cI, 12, .inl (fun _ => 0))), ((u 11), .inl (cI, 12, .inl (fun _ => 0))), ((u 12), .inl (cI, 12, .inl (fun _ => 0))), ((u 13), .inl (cI, 12, .inl (fun _ => 0))), ((u 14), .inl (cI, 12, .inl (fun _ => 0))), ((u 15), .inl (cI, 12, .inl (fun _ => 0)))]) u) A () t) A) (by decide) rfl (Nat.le_of_ble_eq_true rfl) [(0, .ref h), (1, .ref sr)] rfl ?_
  intro p e s m below meth c A hx hb hml hr hlocks hnm hown hK hP hD hA hS hN hZ ls args Q hts hl hQ
  replace hown : s.vm.findClass RX4 = some m.cls := hown
  replace hnm : meth.name = "<init>" := hnm
  obtain ⟨t0, hs01, hs02⟩ := hZ.1
  have S0 : CallFix p m c cX4_init 2 s args wsX4_init RX4 := ⟨hx, hb, hml, hown, hts⟩
  have inX7 : ∀ w ∈ u_ws RX7 TX7 4, w ∈ wsX4_init := fun w h => List.mem_cons_of_mem _ (List.mem_append_left _ (List.mem_append_left _ (List.mem_append_left _ (List.mem_append_right _ h))))
  have inX4 : ∀ w ∈ u_ws RX4 TX4 14, w ∈ wsX4_init := fun w h => List.mem_cons_of_mem _ (List.mem_append_left _ (List.mem_append_left _ (List.mem_append_right _ h)))
  have inX6 : ∀ w ∈ u_ws RX6 TX6 5, w ∈ wsX4_init := fun w h => List.mem_cons_of_mem _ (List.mem_append_left _ (List.mem_append_right _ h))
  have inX3 : ∀ w ∈ u_ws RX3 TX3 9, w ∈ wsX4_init := fun w h => List.mem_cons_of_mem _ (List.mem_append_right _ h)
  have wl1 : (Cond.methodLink RX4 3 objectInit).before args s = true := hts _ (List.mem_of_getElem? (i := 1) rfl)
  have wl2 : (Cond.instanceMethod objectInit).before args s = true := hts _ (List.mem_of_getElem? (i := 2) rfl)
  have wl3 : (Cond.code objectInit ⟨#[0xb1]⟩ 1 none).before args s = true := hts _ (List.mem_of_getElem? (i := 3) rfl)
  have wl4 : (Cond.classLink RX4 9 RX7).before args s = true := hts _ (List.mem_of_getElem? (i := 4) rfl)
  have wl5 : (Cond.instantiable RX7 4).before args s = true := hts _ (List.mem_of_getElem? (i := 5) rfl)
  have wl6 : (Cond.initialized RX7).before args s = true := hts _ (List.mem_of_getElem? (i := 6) rfl)
  have wl18 : (Cond.instanceMethod yX7_init).before args s = true := hts _ (List.mem_of_getElem? (i := 18) rfl)
  have wl7 : (Cond.fieldLink RX4 12 "BeachedShip$Ship" "things" "LBeachedShip$Things;").before args s = true := hts _ (List.mem_of_getElem? (i := 7) rfl)
  have wl8 : (Cond.classLink RX4 18 RX6).before args s = true := hts _ (List.mem_of_getElem? (i := 8) rfl)
  have wl9 : (Cond.instantiable RX6 5).before args s = true := hts _ (List.mem_of_getElem? (i := 9) rfl)
  have wl10 : (Cond.initialized RX6).before args s = true := hts _ (List.mem_of_getElem? (i := 10) rfl)
  have wl24 : (Cond.instanceMethod yX6_init).before args s = true := hts _ (List.mem_of_getElem? (i := 24) rfl)
  have wl11 : (Cond.fieldLink RX4 21 "BeachedShip$Ship" "tackles" "LBeachedShip$Tackles;").before args s = true := hts _ (List.mem_of_getElem? (i := 11) rfl)
  have wl12 : (Cond.classLink RX4 25 RX3).before args s = true := hts _ (List.mem_of_getElem? (i := 12) rfl)
  have wl13 : (Cond.instantiable RX3 9).before args s = true := hts _ (List.mem_of_getElem? (i := 13) rfl)
  have wl14 : (Cond.initialized RX3).before args s = true := hts _ (List.mem_of_getElem? (i := 14) rfl)
  have wl30 : (Cond.instanceMethod yX3_init).before args s = true := hts _ (List.mem_of_getElem? (i := 30) rfl)
  have wl15 : (Cond.fieldLink RX4 28 "BeachedShip$Ship" "seams" "LBeachedShip$Seams;").before args s = true := hts _ (List.mem_of_getElem? (i := 15) rfl)
  have wl16 : (Cond.fieldLink RX4 32 "BeachedShip$Ship" "shore" "LBeachedShip$Shore;").before args s = true := hts _ (List.mem_of_getElem? (i := 16) rfl)
  have wl17 : (Cond.fieldLink RX4 40 "BeachedShip$Ship" "pitch" "I").before args s = true := hts _ (List.mem_of_getElem? (i := 17) rfl)
  have hRet : some () = some () → ∀ (H : Heap) (locs : List Loc) (ls : Array Slot) (pc : Nat) (u : Nat → Nat), va_P D vwCl [(h, .inr (4, [.ref sr, .ref (u 0), .ref (u 3), .ref (u 7), .int 0, .int 0, .int 0, .int (k_r0 4), .int 0, .int 0, .int 0, .int 0, .int 0, .int 0])), ((u 0), .inr (7, [.ref (u 1), .ref (u 2), .int 0, .int 0])), ((u 1), .inl (cI, 12, .inl (fun _ => 0))), ((u 2), .inl (cI, 12, .inl (fun _ => 0))), ((u 3), .inr (6, [.ref (u 4), .ref (u 5), .ref (u 6), .int 0, .int 0])), ((u 4), .inl (cI, 6, .inl (fun _ => 0))), ((u 5), .inl (cI, 6, .inl (fun _ => 0))), ((u 6), .inl (cI, 6, .inl (fun _ => 0))), ((u 7), .inr (3, [.ref (u 8), .ref (u 9), .ref (u 10), .ref (u 11), .ref (u 12), .ref (u 13), .ref (u 14), .ref (u 15), .int 0])), ((u 8), .inl (cI, 12, .inl (fun _ => 0))), ((u 9), .inl (cI, 12, .inl (fun _ => 0))), ((u 10), .inl (cI, 12, .inl (fun _ => 0))), ((u 11), .inl (cI, 12, .inl (fun _ => 0))), ((u 12), .inl (cI, 12, .inl (fun _ => 0))), ((u 13), .inl (cI, 12, .inl (fun _ => 0))), ((u 14), .inl (cI, 12, .inl (fun _ => 0))), ((u 15), .inl (cI, 12, .inl (fun _ => 0)))] H → va_D A [(h, .inr (4, [.ref sr, .ref (u 0), .ref (u 3), .ref (u 7), .int 0, .int 0, .int 0, .int (k_r0 4), .int 0, .int 0, .int 0, .int 0, .int 0, .int 0])), ((u 0), .inr (7, [.ref (u 1), .ref (u 2), .int 0, .int 0])), ((u 1), .inl (cI, 12, .inl (fun _ => 0))), ((u 2), .inl (cI, 12, .inl (fun _ => 0))), ((u 3), .inr (6, [.ref (u 4), .ref (u 5), .ref (u 6), .int 0, .int 0])), ((u 4), .inl (cI, 6, .inl (fun _ => 0))), ((u 5), .inl (cI, 6, .inl (fun _ => 0))), ((u 6), .inl (cI, 6, .inl (fun _ => 0))), ((u 7), .inr (3, [.ref (u 8), .ref (u 9), .ref (u 10), .ref (u 11), .ref (u 12), .ref (u 13), .ref (u 14), .ref (u 15), .int 0])), ((u 8), .inl (cI, 12, .inl (fun _ => 0))), ((u 9), .inl (cI, 12, .inl (fun _ => 0))), ((u 10), .inl (cI, 12, .inl (fun _ => 0))), ((u 11), .inl (cI, 12, .inl (fun _ => 0))), ((u 12), .inl (cI, 12, .inl (fun _ => 0))), ((u 13), .inl (cI, 12, .inl (fun _ => 0))), ((u 14), .inl (cI, 12, .inl (fun _ => 0))), ((u 15), .inl (cI, 12, .inl (fun _ => 0)))] → va_S A s.heap H locs → decode cX4_init pc = .ok (.return_, 1) → W p l e rm_X4_init s m args below meth c H locs 16 156 Q (F0 m pc ls []) := by
    intro  hz H locs ls pc u hP hD hS hd
    cases hz
    exact k_vretC (WS := (fun u => [(h, .inr (4, [.ref sr, .ref (u 0), .ref (u 3), .ref (u 7), .int 0, .int 0, .int 0, .int (k_r0 4), .int 0, .int 0, .int 0, .int 0, .int 0, .int 0])), ((u 0), .inr (7, [.ref (u 1), .ref (u 2), .int 0, .int 0])), ((u 1), .inl (cI, 12, .inl (fun _ => 0))), ((u 2), .inl (cI, 12, .inl (fun _ => 0))), ((u 3), .inr (6, [.ref (u 4), .ref (u 5), .ref (u 6), .int 0, .int 0])), ((u 4), .inl (cI, 6, .inl (fun _ => 0))), ((u 5), .inl (cI, 6, .inl (fun _ => 0))), ((u 6), .inl (cI, 6, .inl (fun _ => 0))), ((u 7), .inr (3, [.ref (u 8), .ref (u 9), .ref (u 10), .ref (u 11), .ref (u 12), .ref (u 13), .ref (u 14), .ref (u 15), .int 0])), ((u 8), .inl (cI, 12, .inl (fun _ => 0))), ((u 9), .inl (cI, 12, .inl (fun _ => 0))), ((u 10), .inl (cI, 12, .inl (fun _ => 0))), ((u 11), .inl (cI, 12, .inl (fun _ => 0))), ((u 12), .inl (cI, 12, .inl (fun _ => 0))), ((u 13), .inl (cI, 12, .inl (fun _ => 0))), ((u 14), .inl (cI, 12, .inl (fun _ => 0))), ((u 15), .inl (cI, 12, .inl (fun _ => 0)))])) u hx hb hr hlocks hK hP hD hS hQ hd
  have hf : (some () : Option Unit) = some () := rfl
  refine lv_aload_n hx hb dX4_init_0 rfl (lv_at hl 0 rfl) ?_
  refine W.objInit hx hb hown wl1 wl2 wl3 rfl (by rw [hml]; exact hl.1) rfl dX4_init_1 (Nat.le_of_ble_eq_true rfl) (Nat.le_of_ble_eq_true rfl) ?_
  refine W.eq (g2 := F0 m 4 ls []) rfl ?_
  refine lv_aload_n hx hb dX4_init_4 rfl (lv_at hl 0 rfl) ?_
  refine k_newG (ci := 7) (fs := [.null, .null, .int 0, .int 0]) (C := RX7) (T := TX7) (N := 4) hx hb hts inX7 tyX7 tyX7_ok hown wl4 wl5 wl6 hK hP hD hS hA rfl (fun j hj => by rcases (show j = 0 ∨ j = 1 ∨ j = 2 ∨ j = 3 by omega) with rfl | rfl | rfl | rfl <;> rfl) (Nat.le_of_ble_eq_true rfl) (Nat.le_of_ble_eq_true rfl) rfl rfl dX4_init_5 (fun q5_1 H hP hD hS => ?_)
  replace hP : va_P D vwCl [(h, .inr (4, [.null, .null, .null, .null, .int 0, .int 0, .int 0, .int 0, .int 0, .int 0, .int 0, .int 0, .int 0, .int 0])), (q5_1, .inr (7, [.null, .null, .int 0, .int 0]))] H := hP
  replace hD : va_D A [(h, .inr (4, [.null, .null, .null, .null, .int 0, .int 0, .int 0, .int 0, .int 0, .int 0, .int 0, .int 0, .int 0, .int 0])), (q5_1, .inr (7, [.null, .null, .int 0, .int 0]))] := hD
  refine lv_dup hx hb dX4_init_8 rfl ?_
  refine k_CN (wr := [(h, .inr (4, [.null, .null, .null, .null, .int 0, .int 0, .int 0, .int 0, .int 0, .int 0, .int 0, .int 0, .int 0, .int 0]))]) (WS := fun u => [(q5_1, .inr (7, [.ref (u 0), .ref (u 1), .int 0, .int 0])), ((u 0), .inl (cI, 12, .inl (fun _ => 0))), ((u 1), .inl (cI, 12, .inl (fun _ => 0)))]) (As := []) (rest := [.ref q5_1, .ref h]) S0 (c_X7_init l D cI cZ cJ cS q5_1) ⟨va_cnB 0 hts gX4_init_X7_init_n11 rfl rfl rfl (hN _ (List.mem_of_getElem? (i := 0) rfl)) wl6 hdS_X7_init ⟨(Nat.le_of_ble_eq_true rfl), (Nat.le_of_ble_eq_true rfl)⟩, rfl, wl18⟩ hK hP hD hS hA hN hZ [1] [0] rfl (by decide) rfl (by decide) (by decide) rfl hl.1 rfl (Nat.le_of_ble_eq_true rfl) ⟨(Nat.le_of_ble_eq_true rfl), (Nat.le_of_ble_eq_true rfl)⟩ rfl rfl dX4_init_9 (fun u2 H locs hP hD hS => ?_)
  replace hP : va_P D vwCl [(h, .inr (4, [.null, .null, .null, .null, .int 0, .int 0, .int 0, .int 0, .int 0, .int 0, .int 0, .int 0, .int 0, .int 0])), (q5_1, .inr (7, [.ref (u2 0), .ref (u2 1), .int 0, .int 0])), ((u2 0), .inl (cI, 12, .inl (fun _ => 0))), ((u2 1), .inl (cI, 12, .inl (fun _ => 0)))] H := hP
  replace hD : va_D A [(h, .inr (4, [.null, .null, .null, .null, .int 0, .int 0, .int 0, .int 0, .int 0, .int 0, .int 0, .int 0, .int 0, .int 0])), (q5_1, .inr (7, [.ref (u2 0), .ref (u2 1), .int 0, .int 0])), ((u2 0), .inl (cI, 12, .inl (fun _ => 0))), ((u2 1), .inl (cI, 12, .inl (fun _ => 0)))] := hD
  refine k_putFG (ws2 := [(h, .inr (4, [.null, .ref q5_1, .null, .null, .int 0, .int 0, .int 0, .int 0, .int 0, .int 0, .int 0, .int 0, .int 0, .int 0])), (q5_1, .inr (7, [.ref (u2 0), .ref (u2 1), .int 0, .int 0])), ((u2 0), .inl (cI, 12, .inl (fun _ => 0))), ((u2 1), .inl (cI, 12, .inl (fun _ => 0)))]) (C := RX4) (T := TX4) (N := 14) hx hb hts inX4 tyX4 tyX4_ok nmX4 hown hK hP hD hS 0 rfl rfl 1 (by decide) rfl wl7 rfl hnm rfl rfl rfl (Nat.le_of_ble_eq_true rfl) rfl dX4_init_12 (fun H locs hP hD hS => ?_)
  refine lv_aload_n hx hb dX4_init_15 rfl (lv_at hl 0 rfl) ?_
  refine k_newG (ci := 6) (fs := [.null, .null, .null, .int 0, .int 0]) (C := RX6) (T := TX6) (N := 5) hx hb hts inX6 tyX6 tyX6_ok hown wl8 wl9 wl10 hK hP hD hS hA rfl (fun j hj => by rcases (show j = 0 ∨ j = 1 ∨ j = 2 ∨ j = 3 ∨ j = 4 by omega) with rfl | rfl | rfl | rfl | rfl <;> rfl) (Nat.le_of_ble_eq_true rfl) (Nat.le_of_ble_eq_true rfl) rfl rfl dX4_init_16 (fun q16_3 H hP hD hS => ?_)
  replace hP : va_P D vwCl [(h, .inr (4, [.null, .ref q5_1, .null, .null, .int 0, .int 0, .int 0, .int 0, .int 0, .int 0, .int 0, .int 0, .int 0, .int 0])), (q5_1, .inr (7, [.ref (u2 0), .ref (u2 1), .int 0, .int 0])), ((u2 0), .inl (cI, 12, .inl (fun _ => 0))), ((u2 1), .inl (cI, 12, .inl (fun _ => 0))), (q16_3, .inr (6, [.null, .null, .null, .int 0, .int 0]))] H := hP
  replace hD : va_D A [(h, .inr (4, [.null, .ref q5_1, .null, .null, .int 0, .int 0, .int 0, .int 0, .int 0, .int 0, .int 0, .int 0, .int 0, .int 0])), (q5_1, .inr (7, [.ref (u2 0), .ref (u2 1), .int 0, .int 0])), ((u2 0), .inl (cI, 12, .inl (fun _ => 0))), ((u2 1), .inl (cI, 12, .inl (fun _ => 0))), (q16_3, .inr (6, [.null, .null, .null, .int 0, .int 0]))] := hD
  refine lv_dup hx hb dX4_init_19 rfl ?_
  refine k_CN (wr := [(h, .inr (4, [.null, .ref q5_1, .null, .null, .int 0, .int 0, .int 0, .int 0, .int 0, .int 0, .int 0, .int 0, .int 0, .int 0])), (q5_1, .inr (7, [.ref (u2 0), .ref (u2 1), .int 0, .int 0])), ((u2 0), .inl (cI, 12, .inl (fun _ => 0))), ((u2 1), .inl (cI, 12, .inl (fun _ => 0)))]) (WS := fun u => [(q16_3, .inr (6, [.ref (u 0), .ref (u 1), .ref (u 2), .int 0, .int 0])), ((u 0), .inl (cI, 6, .inl (fun _ => 0))), ((u 1), .inl (cI, 6, .inl (fun _ => 0))), ((u 2), .inl (cI, 6, .inl (fun _ => 0)))]) (As := []) (rest := [.ref q16_3, .ref h]) S0 (c_X6_init l D cI cZ cJ cS q16_3) ⟨va_cnB 0 hts gX4_init_X6_init_n20 rfl rfl rfl (hN _ (List.mem_of_getElem? (i := 1) rfl)) wl10 hdS_X6_init ⟨(Nat.le_of_ble_eq_true rfl), (Nat.le_of_ble_eq_true rfl)⟩, rfl, wl24⟩ hK hP hD hS hA hN hZ [4] [0, 1, 2, 3] rfl (by decide) rfl (by decide) (by decide) rfl hl.1 rfl (Nat.le_of_ble_eq_true rfl) ⟨(Nat.le_of_ble_eq_true rfl), (Nat.le_of_ble_eq_true rfl)⟩ rfl rfl dX4_init_20 (fun u4 H locs hP hD hS => ?_)
  replace hP : va_P D vwCl [(h, .inr (4, [.null, .ref q5_1, .null, .null, .int 0, .int 0, .int 0, .int 0, .int 0, .int 0, .int 0, .int 0, .int 0, .int 0])), (q5_1, .inr (7, [.ref (u2 0), .ref (u2 1), .int 0, .int 0])), ((u2 0), .inl (cI, 12, .inl (fun _ => 0))), ((u2 1), .inl (cI, 12, .inl (fun _ => 0))), (q16_3, .inr (6, [.ref (u4 0), .ref (u4 1), .ref (u4 2), .int 0, .int 0])), ((u4 0), .inl (cI, 6, .inl (fun _ => 0))), ((u4 1), .inl (cI, 6, .inl (fun _ => 0))), ((u4 2), .inl (cI, 6, .inl (fun _ => 0)))] H := hP
  replace hD : va_D A [(h, .inr (4, [.null, .ref q5_1, .null, .null, .int 0, .int 0, .int 0, .int 0, .int 0, .int 0, .int 0, .int 0, .int 0, .int 0])), (q5_1, .inr (7, [.ref (u2 0), .ref (u2 1), .int 0, .int 0])), ((u2 0), .inl (cI, 12, .inl (fun _ => 0))), ((u2 1), .inl (cI, 12, .inl (fun _ => 0))), (q16_3, .inr (6, [.ref (u4 0), .ref (u4 1), .ref (u4 2), .int 0, .int 0])), ((u4 0), .inl (cI, 6, .inl (fun _ => 0))), ((u4 1), .inl (cI, 6, .inl (fun _ => 0))), ((u4 2), .inl (cI, 6, .inl (fun _ => 0)))] := hD
  refine k_putFG (ws2 := [(h, .inr (4, [.null, .ref q5_1, .ref q16_3, .null, .int 0, .int 0, .int 0, .int 0, .int 0, .int 0, .int 0, .int 0, .int 0, .int 0])), (q5_1, .inr (7, [.ref (u2 0), .ref (u2 1), .int 0, .int 0])), ((u2 0), .inl (cI, 12, .inl (fun _ => 0))), ((u2 1), .inl (cI, 12, .inl (fun _ => 0))), (q16_3, .inr (6, [.ref (u4 0), .ref (u4 1), .ref (u4 2), .int 0, .int 0])), ((u4 0), .inl (cI, 6, .inl (fun _ => 0))), ((u4 1), .inl (cI, 6, .inl (fun _ => 0))), ((u4 2), .inl (cI, 6, .inl (fun _ => 0)))]) (C := RX4) (T := TX4) (N := 14) hx hb hts inX4 tyX4 tyX4_ok nmX4 hown hK hP hD hS 0 rfl rfl 2 (by decide) rfl wl11 rfl hnm rfl rfl rfl (Nat.le_of_ble_eq_true rfl) rfl dX4_init_23 (fun H locs hP hD hS => ?_)
  refine lv_aload_n hx hb dX4_init_26 rfl (lv_at hl 0 rfl) ?_
  refine k_newG (ci := 3) (fs := [.null, .null, .null, .null, .null, .null, .null, .null, .int 0]) (C := RX3) (T := TX3) (N := 9) hx hb hts inX3 tyX3 tyX3_ok hown wl12 wl13 wl14 hK hP hD hS hA rfl (fun j hj => by rcases (show j = 0 ∨ j = 1 ∨ j = 2 ∨ j = 3 ∨ j = 4 ∨ j = 5 ∨ j = 6 ∨ j = 7 ∨ j = 8 by omega) with rfl | rfl | rfl | rfl | rfl | rfl | rfl | rfl | rfl <;> rfl) (Nat.le_of_ble_eq_true rfl) (Nat.le_of_ble_eq_true rfl) rfl rfl dX4_init_27 (fun q27_5 H hP hD hS => ?_)
  replace hP : va_P D vwCl [(h, .inr (4, [.null, .ref q5_1, .ref q16_3, .null, .int 0, .int 0, .int 0, .int 0, .int 0, .int 0, .int 0, .int 0, .int 0, .int 0])), (q5_1, .inr (7, [.ref (u2 0), .ref (u2 1), .int 0, .int 0])), ((u2 0), .inl (cI, 12, .inl (fun _ => 0))), ((u2 1), .inl (cI, 12, .inl (fun _ => 0))), (q16_3, .inr (6, [.ref (u4 0), .ref (u4 1), .ref (u4 2), .int 0, .int 0])), ((u4 0), .inl (cI, 6, .inl (fun _ => 0))), ((u4 1), .inl (cI, 6, .inl (fun _ => 0))), ((u4 2), .inl (cI, 6, .inl (fun _ => 0))), (q27_5, .inr (3, [.null, .null, .null, .null, .null, .null, .null, .null, .int 0]))] H := hP
  replace hD : va_D A [(h, .inr (4, [.null, .ref q5_1, .ref q16_3, .null, .int 0, .int 0, .int 0, .int 0, .int 0, .int 0, .int 0, .int 0, .int 0, .int 0])), (q5_1, .inr (7, [.ref (u2 0), .ref (u2 1), .int 0, .int 0])), ((u2 0), .inl (cI, 12, .inl (fun _ => 0))), ((u2 1), .inl (cI, 12, .inl (fun _ => 0))), (q16_3, .inr (6, [.ref (u4 0), .ref (u4 1), .ref (u4 2), .int 0, .int 0])), ((u4 0), .inl (cI, 6, .inl (fun _ => 0))), ((u4 1), .inl (cI, 6, .inl (fun _ => 0))), ((u4 2), .inl (cI, 6, .inl (fun _ => 0))), (q27_5, .inr (3, [.null, .null, .null, .null, .null, .null, .null, .null, .int 0]))] := hD
  refine lv_dup hx hb dX4_init_30 rfl ?_
  refine k_CN (wr := [(h, .inr (4, [.null, .ref q5_1, .ref q16_3, .null, .int 0, .int 0, .int 0, .int 0, .int 0, .int 0, .int 0, .int 0, .int 0, .int 0])), (q5_1, .inr (7, [.ref (u2 0), .ref (u2 1), .int 0, .int 0])), ((u2 0), .inl (cI, 12, .inl (fun _ => 0))), ((u2 1), .inl (cI, 12, .inl (fun _ => 0))), (q16_3, .inr (6, [.ref (u4 0), .ref (u4 1), .ref (u4 2), .int 0, .int 0])), ((u4 0), .inl (cI, 6, .inl (fun _ => 0))), ((u4 1), .inl (cI, 6, .inl (fun _ => 0))), ((u4 2), .inl (cI, 6, .inl (fun _ => 0)))]) (WS := fun u => [(q27_5, .inr (3, [.ref (u 0), .ref (u 1), .ref (u 2), .ref (u 3), .ref (u 4), .ref (u 5), .ref (u 6), .ref (u 7), .int 0])), ((u 0), .inl (cI, 12, .inl (fun _ => 0))), ((u 1), .inl (cI, 12, .inl (fun _ => 0))), ((u 2), .inl (cI, 12, .inl (fun _ => 0))), ((u 3), .inl (cI, 12, .inl (fun _ => 0))), ((u 4), .inl (cI, 12, .inl (fun _ => 0))), ((u 5), .inl (cI, 12, .inl (fun _ => 0))), ((u 6), .inl (cI, 12, .inl (fun _ => 0))), ((u 7), .inl (cI, 12, .inl (fun _ => 0)))]) (As := []) (rest := [.ref q27_5, .ref h]) S0 (c_X3_init l D cI cZ cJ cS q27_5) ⟨va_cnB 0 hts gX4_init_X3_init_n27 rfl rfl rfl (hN _ (List.mem_of_getElem? (i := 2) rfl)) wl14 hdS_X3_init ⟨(Nat.le_of_ble_eq_true rfl), (Nat.le_of_ble_eq_true rfl)⟩, rfl, wl30⟩ hK hP hD hS hA hN hZ [8] [0, 1, 2, 3, 4, 5, 6, 7] rfl (by decide) rfl (by decide) (by decide) rfl hl.1 rfl (Nat.le_of_ble_eq_true rfl) ⟨(Nat.le_of_ble_eq_true rfl), (Nat.le_of_ble_eq_true rfl)⟩ rfl rfl dX4_init_31 (fun u6 H locs hP hD hS => ?_)
  replace hP : va_P D vwCl [(h, .inr (4, [.null, .ref q5_1, .ref q16_3, .null, .int 0, .int 0, .int 0, .int 0, .int 0, .int 0, .int 0, .int 0, .int 0, .int 0])), (q5_1, .inr (7, [.ref (u2 0), .ref (u2 1), .int 0, .int 0])), ((u2 0), .inl (cI, 12, .inl (fun _ => 0))), ((u2 1), .inl (cI, 12, .inl (fun _ => 0))), (q16_3, .inr (6, [.ref (u4 0), .ref (u4 1), .ref (u4 2), .int 0, .int 0])), ((u4 0), .inl (cI, 6, .inl (fun _ => 0))), ((u4 1), .inl (cI, 6, .inl (fun _ => 0))), ((u4 2), .inl (cI, 6, .inl (fun _ => 0))), (q27_5, .inr (3, [.ref (u6 0), .ref (u6 1), .ref (u6 2), .ref (u6 3), .ref (u6 4), .ref (u6 5), .ref (u6 6), .ref (u6 7), .int 0])), ((u6 0), .inl (cI, 12, .inl (fun _ => 0))), ((u6 1), .inl (cI, 12, .inl (fun _ => 0))), ((u6 2), .inl (cI, 12, .inl (fun _ => 0))), ((u6 3), .inl (cI, 12, .inl (fun _ => 0))), ((u6 4), .inl (cI, 12, .inl (fun _ => 0))), ((u6 5), .inl (cI, 12, .inl (fun _ => 0))), ((u6 6), .inl (cI, 12, .inl (fun _ => 0))), ((u6 7), .inl (cI, 12, .inl (fun _ => 0)))] H := hP
  replace hD : va_D A [(h, .inr (4, [.null, .ref q5_1, .ref q16_3, .null, .int 0, .int 0, .int 0, .int 0, .int 0, .int 0, .int 0, .int 0, .int 0, .int 0])), (q5_1, .inr (7, [.ref (u2 0), .ref (u2 1), .int 0, .int 0])), ((u2 0), .inl (cI, 12, .inl (fun _ => 0))), ((u2 1), .inl (cI, 12, .inl (fun _ => 0))), (q16_3, .inr (6, [.ref (u4 0), .ref (u4 1), .ref (u4 2), .int 0, .int 0])), ((u4 0), .inl (cI, 6, .inl (fun _ => 0))), ((u4 1), .inl (cI, 6, .inl (fun _ => 0))), ((u4 2), .inl (cI, 6, .inl (fun _ => 0))), (q27_5, .inr (3, [.ref (u6 0), .ref (u6 1), .ref (u6 2), .ref (u6 3), .ref (u6 4), .ref (u6 5), .ref (u6 6), .ref (u6 7), .int 0])), ((u6 0), .inl (cI, 12, .inl (fun _ => 0))), ((u6 1), .inl (cI, 12, .inl (fun _ => 0))), ((u6 2), .inl (cI, 12, .inl (fun _ => 0))), ((u6 3), .inl (cI, 12, .inl (fun _ => 0))), ((u6 4), .inl (cI, 12, .inl (fun _ => 0))), ((u6 5), .inl (cI, 12, .inl (fun _ => 0))), ((u6 6), .inl (cI, 12, .inl (fun _ => 0))), ((u6 7), .inl (cI, 12, .inl (fun _ => 0)))] := hD
  refine k_putFG (ws2 := [(h, .inr (4, [.null, .ref q5_1, .ref q16_3, .ref q27_5, .int 0, .int 0, .int 0, .int 0, .int 0, .int 0, .int 0, .int 0, .int 0, .int 0])), (q5_1, .inr (7, [.ref (u2 0), .ref (u2 1), .int 0, .int 0])), ((u2 0), .inl (cI, 12, .inl (fun _ => 0))), ((u2 1), .inl (cI, 12, .inl (fun _ => 0))), (q16_3, .inr (6, [.ref (u4 0), .ref (u4 1), .ref (u4 2), .int 0, .int 0])), ((u4 0), .inl (cI, 6, .inl (fun _ => 0))), ((u4 1), .inl (cI, 6, .inl (fun _ => 0))), ((u4 2), .inl (cI, 6, .inl (fun _ => 0))), (q27_5, .inr (3, [.ref (u6 0), .ref (u6 1), .ref (u6 2), .ref (u6 3), .ref (u6 4), .ref (u6 5), .ref (u6 6), .ref (u6 7), .int 0])), ((u6 0), .inl (cI, 12, .inl (fun _ => 0))), ((u6 1), .inl (cI, 12, .inl (fun _ => 0))), ((u6 2), .inl (cI, 12, .inl (fun _ => 0))), ((u6 3), .inl (cI, 12, .inl (fun _ => 0))), ((u6 4), .inl (cI, 12, .inl (fun _ => 0))), ((u6 5), .inl (cI, 12, .inl (fun _ => 0))), ((u6 6), .inl (cI, 12, .inl (fun _ => 0))), ((u6 7), .inl (cI, 12, .inl (fun _ => 0)))]) (C := RX4) (T := TX4) (N := 14) hx hb hts inX4 tyX4 tyX4_ok nmX4 hown hK hP hD hS 0 rfl rfl 3 (by decide) rfl wl15 rfl hnm rfl rfl rfl (Nat.le_of_ble_eq_true rfl) rfl dX4_init_34 (fun H locs hP hD hS => ?_)
  refine lv_aload_n hx hb dX4_init_37 rfl (lv_at hl 0 rfl) ?_
  refine lv_aload_n hx hb dX4_init_38 rfl (lv_at hl 1 rfl) ?_
  refine k_putFG (ws2 := [(h, .inr (4, [.ref sr, .ref q5_1, .ref q16_3, .ref q27_5, .int 0, .int 0, .int 0, .int 0, .int 0, .int 0, .int 0, .int 0, .int 0, .int 0])), (q5_1, .inr (7, [.ref (u2 0), .ref (u2 1), .int 0, .int 0])), ((u2 0), .inl (cI, 12, .inl (fun _ => 0))), ((u2 1), .inl (cI, 12, .inl (fun _ => 0))), (q16_3, .inr (6, [.ref (u4 0), .ref (u4 1), .ref (u4 2), .int 0, .int 0])), ((u4 0), .inl (cI, 6, .inl (fun _ => 0))), ((u4 1), .inl (cI, 6, .inl (fun _ => 0))), ((u4 2), .inl (cI, 6, .inl (fun _ => 0))), (q27_5, .inr (3, [.ref (u6 0), .ref (u6 1), .ref (u6 2), .ref (u6 3), .ref (u6 4), .ref (u6 5), .ref (u6 6), .ref (u6 7), .int 0])), ((u6 0), .inl (cI, 12, .inl (fun _ => 0))), ((u6 1), .inl (cI, 12, .inl (fun _ => 0))), ((u6 2), .inl (cI, 12, .inl (fun _ => 0))), ((u6 3), .inl (cI, 12, .inl (fun _ => 0))), ((u6 4), .inl (cI, 12, .inl (fun _ => 0))), ((u6 5), .inl (cI, 12, .inl (fun _ => 0))), ((u6 6), .inl (cI, 12, .inl (fun _ => 0))), ((u6 7), .inl (cI, 12, .inl (fun _ => 0)))]) (C := RX4) (T := TX4) (N := 14) hx hb hts inX4 tyX4 tyX4_ok nmX4 hown hK hP hD hS 0 rfl rfl 0 (by decide) rfl wl16 rfl hnm rfl rfl rfl (Nat.le_of_ble_eq_true rfl) rfl dX4_init_39 (fun H locs hP hD hS => ?_)
  refine lv_aload_n hx hb dX4_init_42 rfl (lv_at hl 0 rfl) ?_
  refine k_getsNG hx hb hs01 hS hown hZ.2.2.2.2.2 dX4_init_43 ?_
  refine lv_iconst (v := 4) hx hb dX4_init_46 (by decide) ?_
  refine k_tiG (k := 4) hx hb hs02 hS (by unfold vp_in; decide) (by decide) dX4_init_47 ?_
  refine k_putG (ws2 := [(h, .inr (4, [.ref sr, .ref q5_1, .ref q16_3, .ref q27_5, .int 0, .int 0, .int 0, .int (k_r0 4), .int 0, .int 0, .int 0, .int 0, .int 0, .int 0])), (q5_1, .inr (7, [.ref (u2 0), .ref (u2 1), .int 0, .int 0])), ((u2 0), .inl (cI, 12, .inl (fun _ => 0))), ((u2 1), .inl (cI, 12, .inl (fun _ => 0))), (q16_3, .inr (6, [.ref (u4 0), .ref (u4 1), .ref (u4 2), .int 0, .int 0])), ((u4 0), .inl (cI, 6, .inl (fun _ => 0))), ((u4 1), .inl (cI, 6, .inl (fun _ => 0))), ((u4 2), .inl (cI, 6, .inl (fun _ => 0))), (q27_5, .inr (3, [.ref (u6 0), .ref (u6 1), .ref (u6 2), .ref (u6 3), .ref (u6 4), .ref (u6 5), .ref (u6 6), .ref (u6 7), .int 0])), ((u6 0), .inl (cI, 12, .inl (fun _ => 0))), ((u6 1), .inl (cI, 12, .inl (fun _ => 0))), ((u6 2), .inl (cI, 12, .inl (fun _ => 0))), ((u6 3), .inl (cI, 12, .inl (fun _ => 0))), ((u6 4), .inl (cI, 12, .inl (fun _ => 0))), ((u6 5), .inl (cI, 12, .inl (fun _ => 0))), ((u6 6), .inl (cI, 12, .inl (fun _ => 0))), ((u6 7), .inl (cI, 12, .inl (fun _ => 0)))]) (C := RX4) (T := TX4) (N := 14) hx hb hts inX4 tyX4 tyX4_ok nmX4 hown hK hP hD hS 0 rfl rfl 7 (by decide) rfl wl17 rfl rfl rfl (Nat.le_of_ble_eq_true rfl) rfl dX4_init_48 (fun H locs hP hD hS => ?_)
  exact hRet  hf _ _ _ _ (k_sel [q5_1, (u2 0), (u2 1), q16_3, (u4 0), (u4 1), (u4 2), q27_5, (u6 0), (u6 1), (u6 2), (u6 3), (u6 4), (u6 5), (u6 6), (u6 7)]) (k_sub_P hP [0, 1, 2, 3, 4, 5, 6, 7, 8, 9, 10, 11, 12, 13, 14, 15, 16] rfl) (hD.sub [0, 1, 2, 3, 4, 5, 6, 7, 8, 9, 10, 11, 12, 13, 14, 15, 16] (by decide) rfl) hS dX4_init_51

abbrev rm_X2_init : Room := { frames := 1, cells := 6, slots := 30, locals := 32 }
theorem hdS_X2_init : yX2_init.cls ≠ "java/lang/invoke/MethodHandle" ∧ yX2_init.cls ≠ "java/lang/invoke/VarHandle" ∧ (parseMethodDescriptor yX2_init.desc).map (fun d => d.parameters.length) = some 0 := by decide +kernel
set_option maxHeartbeats 4000000 in
set_option maxRecDepth 100000 in
theorem c_X2_init (l : Launch) (D : va_G) (cI cZ cJ cS : ClassId) (h : Nat) : k_MC l yX2_init wsX2_init rm_X2_init D (k_tys cI cZ cJ cS) [.ref h] [(h, .inr (2, [.null, .null, .null, .null, .null, .null, .long 0, .int 0, .int 0, .int 0, .int 0]))] (fun u => [(h, .inr (2, [.ref (u 0), .ref (u 1), .ref (u 2), .ref (u 3), .ref (u 4), .ref (u 5), .long 0, .int 0, .int 0, .int 0, .int 0])), ((u 0), .inl (cI, 5, .inl (fun _ => 0))), ((u 1), .inl (cI, 5, .inl (fun _ => 0))), ((u 2), .inl (cI, 5, .inl (fun _ => 0))), ((u 3), .inl (cI, 5, .inl (fun _ => 0))), ((u 4), .inl (cI, 5, .inl (fun _ => 0))), ((u 5), .inl (cJ, 5, .inr (.inl (fun _ => 0))))]) 6 30 := by
  refine k_enterZ (y := yX2_init) (wl := wsX2_init) (rm := rm_X2_init) (av := [.ref h]) (D := D) (tys := k_tys cI cZ cJ cS) (ws := [(h, .inr (2, [.null, .null, .null, .null, .null, .null, .long 0, .int 0, .int 0, .int 0, .int 0]))]) (cc := cX2_init) (maxL := 1) (ret := none) (Qc := fun A => va_Qv (fun (_ : Nat → Nat) => True) (fun u t => k_B D (k_tys cI cZ cJ cS) ((fun u => [(h, .inr (2, [.ref (u 0), .ref (u 1), .ref (u 2), .ref (u 3), .ref (u 4), .ref (u 5), .long 0, .int 0, .int 0, .int 0, .int 0])), ((u 0), .inl (cI, 5, .inl (fun _ => 0))), ((u 1), .inl (cI, 5, .inl (fun _ => 0))), ((u 2), .inl (cI, 5, .inl (fun _ => 0))), ((u 3), .inl (cI, 5, .inl (fun _ => 0))), ((u 4), .inl (cI, 5, .inl (fun _ => 0))), ((u 5), .inl (cJ, 5, .inr (.inl (fun _ => 0))))]) u) A () t) A) (by decide) rfl (Nat.le_of_ble_eq_true rfl) [(0, .ref h)] rfl ?_
  intro p e s m below meth c A hx hb hml hr hlocks hnm hown hK hP hD hA hS hN hZ ls args Q hts hl hQ
  replace hown : s.vm.findClass RX2 = some m.cls := hown
  replace hnm : meth.name = "<init>" := hnm
  have inX2 : ∀ w ∈ u_ws RX2 TX2 11, w ∈ wsX2_init := fun w h => List.mem_cons_of_mem _ (List.mem_append_right _ h)
  have wl1 : (Cond.methodLink RX2 3 objectInit).before args s = true := hts _ (List.mem_of_getElem? (i := 1) rfl)
  have wl2 : (Cond.instanceMethod objectInit).before args s = true := hts _ (List.mem_of_getElem? (i := 2) rfl)
  have wl3 : (Cond.code objectInit ⟨#[0xb1]⟩ 1 none).before args s = true := hts _ (List.mem_of_getElem? (i := 3) rfl)
  have wl4 : (Cond.arrayClass .int).before args s = true := hts _ (List.mem_of_getElem? (i := 4) rfl)
  have wl5 : (Cond.fieldLink RX2 9 "BeachedShip$Planner" "seam" "[I").before args s = true := hts _ (List.mem_of_getElem? (i := 5) rfl)
  have wl6 : (Cond.fieldLink RX2 15 "BeachedShip$Planner" "hours" "[I").before args s = true := hts _ (List.mem_of_getElem? (i := 6) rfl)
  have wl7 : (Cond.fieldLink RX2 18 "BeachedShip$Planner" "mayBegin" "[I").before args s = true := hts _ (List.mem_of_getElem? (i := 7) rfl)
  have wl8 : (Cond.fieldLink RX2 21 "BeachedShip$Planner" "tried" "[I").before args s = true := hts _ (List.mem_of_getElem? (i := 8) rfl)
  have wl9 : (Cond.fieldLink RX2 24 "BeachedShip$Planner" "begins" "[I").before args s = true := hts _ (List.mem_of_getElem? (i := 9) rfl)
  have wl10 : (Cond.arrayClass .long).before args s = true := hts _ (List.mem_of_getElem? (i := 10) rfl)
  have wl11 : (Cond.fieldLink RX2 27 "BeachedShip$Planner" "hands" "[J").before args s = true := hts _ (List.mem_of_getElem? (i := 11) rfl)
  have hRet : some () = some () → ∀ (H : Heap) (locs : List Loc) (ls : Array Slot) (pc : Nat) (u : Nat → Nat), va_P D vwCl [(h, .inr (2, [.ref (u 0), .ref (u 1), .ref (u 2), .ref (u 3), .ref (u 4), .ref (u 5), .long 0, .int 0, .int 0, .int 0, .int 0])), ((u 0), .inl (cI, 5, .inl (fun _ => 0))), ((u 1), .inl (cI, 5, .inl (fun _ => 0))), ((u 2), .inl (cI, 5, .inl (fun _ => 0))), ((u 3), .inl (cI, 5, .inl (fun _ => 0))), ((u 4), .inl (cI, 5, .inl (fun _ => 0))), ((u 5), .inl (cJ, 5, .inr (.inl (fun _ => 0))))] H → va_D A [(h, .inr (2, [.ref (u 0), .ref (u 1), .ref (u 2), .ref (u 3), .ref (u 4), .ref (u 5), .long 0, .int 0, .int 0, .int 0, .int 0])), ((u 0), .inl (cI, 5, .inl (fun _ => 0))), ((u 1), .inl (cI, 5, .inl (fun _ => 0))), ((u 2), .inl (cI, 5, .inl (fun _ => 0))), ((u 3), .inl (cI, 5, .inl (fun _ => 0))), ((u 4), .inl (cI, 5, .inl (fun _ => 0))), ((u 5), .inl (cJ, 5, .inr (.inl (fun _ => 0))))] → va_S A s.heap H locs → decode cX2_init pc = .ok (.return_, 1) → W p l e rm_X2_init s m args below meth c H locs 6 30 Q (F0 m pc ls []) := by
    intro  hz H locs ls pc u hP hD hS hd
    cases hz
    exact k_vretC (WS := (fun u => [(h, .inr (2, [.ref (u 0), .ref (u 1), .ref (u 2), .ref (u 3), .ref (u 4), .ref (u 5), .long 0, .int 0, .int 0, .int 0, .int 0])), ((u 0), .inl (cI, 5, .inl (fun _ => 0))), ((u 1), .inl (cI, 5, .inl (fun _ => 0))), ((u 2), .inl (cI, 5, .inl (fun _ => 0))), ((u 3), .inl (cI, 5, .inl (fun _ => 0))), ((u 4), .inl (cI, 5, .inl (fun _ => 0))), ((u 5), .inl (cJ, 5, .inr (.inl (fun _ => 0))))])) u hx hb hr hlocks hK hP hD hS hQ hd
  have hf : (some () : Option Unit) = some () := rfl
  refine lv_aload_n hx hb dX2_init_0 rfl (lv_at hl 0 rfl) ?_
  refine W.objInit hx hb hown wl1 wl2 wl3 rfl (by rw [hml]; exact hl.1) rfl dX2_init_1 (Nat.le_of_ble_eq_true rfl) (Nat.le_of_ble_eq_true rfl) ?_
  refine W.eq (g2 := F0 m 4 ls []) rfl ?_
  refine lv_aload_n hx hb dX2_init_4 rfl (lv_at hl 0 rfl) ?_
  refine lv_iconst (v := 5) hx hb dX2_init_5 (by decide) ?_
  refine k_newaG (atype := .int) (a0 := (5, .inl (fun _ => 0))) (ty := .int) (N' := 5) hx hb wl4 rfl (by intro C h; cases h) hK hP hD hS hA 0 rfl (fun _ => rfl) (by decide) (by decide) (by show 5 * 4 ≤ 536870912; omega) (Nat.le_of_ble_eq_true rfl) (Nat.le_of_ble_eq_true rfl) rfl rfl dX2_init_6 (fun q6_1 H hP hD hS => ?_)
  replace hP : va_P D vwCl [(h, .inr (2, [.null, .null, .null, .null, .null, .null, .long 0, .int 0, .int 0, .int 0, .int 0])), (q6_1, .inl (cI, 5, .inl (fun _ => 0)))] H := hP
  replace hD : va_D A [(h, .inr (2, [.null, .null, .null, .null, .null, .null, .long 0, .int 0, .int 0, .int 0, .int 0])), (q6_1, .inl (cI, 5, .inl (fun _ => 0)))] := hD
  refine k_putFG (ws2 := [(h, .inr (2, [.ref q6_1, .null, .null, .null, .null, .null, .long 0, .int 0, .int 0, .int 0, .int 0])), (q6_1, .inl (cI, 5, .inl (fun _ => 0)))]) (C := RX2) (T := TX2) (N := 11) hx hb hts inX2 tyX2 tyX2_ok nmX2 hown hK hP hD hS 0 rfl rfl 0 (by decide) rfl wl5 rfl hnm rfl rfl rfl (Nat.le_of_ble_eq_true rfl) rfl dX2_init_8 (fun H locs hP hD hS => ?_)
  refine lv_aload_n hx hb dX2_init_11 rfl (lv_at hl 0 rfl) ?_
  refine lv_iconst (v := 5) hx hb dX2_init_12 (by decide) ?_
  refine k_newaG (atype := .int) (a0 := (5, .inl (fun _ => 0))) (ty := .int) (N' := 5) hx hb wl4 rfl (by intro C h; cases h) hK hP hD hS hA 0 rfl (fun _ => rfl) (by decide) (by decide) (by show 5 * 4 ≤ 536870912; omega) (Nat.le_of_ble_eq_true rfl) (Nat.le_of_ble_eq_true rfl) rfl rfl dX2_init_13 (fun q13_2 H hP hD hS => ?_)
  replace hP : va_P D vwCl [(h, .inr (2, [.ref q6_1, .null, .null, .null, .null, .null, .long 0, .int 0, .int 0, .int 0, .int 0])), (q6_1, .inl (cI, 5, .inl (fun _ => 0))), (q13_2, .inl (cI, 5, .inl (fun _ => 0)))] H := hP
  replace hD : va_D A [(h, .inr (2, [.ref q6_1, .null, .null, .null, .null, .null, .long 0, .int 0, .int 0, .int 0, .int 0])), (q6_1, .inl (cI, 5, .inl (fun _ => 0))), (q13_2, .inl (cI, 5, .inl (fun _ => 0)))] := hD
  refine k_putFG (ws2 := [(h, .inr (2, [.ref q6_1, .ref q13_2, .null, .null, .null, .null, .long 0, .int 0, .int 0, .int 0, .int 0])), (q6_1, .inl (cI, 5, .inl (fun _ => 0))), (q13_2, .inl (cI, 5, .inl (fun _ => 0)))]) (C := RX2) (T := TX2) (N := 11) hx hb hts inX2 tyX2 tyX2_ok nmX2 hown hK hP hD hS 0 rfl rfl 1 (by decide) rfl wl6 rfl hnm rfl rfl rfl (Nat.le_of_ble_eq_true rfl) rfl dX2_init_15 (fun H locs hP hD hS => ?_)
  refine lv_aload_n hx hb dX2_init_18 rfl (lv_at hl 0 rfl) ?_
  refine lv_iconst (v := 5) hx hb dX2_init_19 (by decide) ?_
  refine k_newaG (atype := .int) (a0 := (5, .inl (fun _ => 0))) (ty := .int) (N' := 5) hx hb wl4 rfl (by intro C h; cases h) hK hP hD hS hA 0 rfl (fun _ => rfl) (by decide) (by decide) (by show 5 * 4 ≤ 536870912; omega) (Nat.le_of_ble_eq_true rfl) (Nat.le_of_ble_eq_true rfl) rfl rfl dX2_init_20 (fun q20_3 H hP hD hS => ?_)
  replace hP : va_P D vwCl [(h, .inr (2, [.ref q6_1, .ref q13_2, .null, .null, .null, .null, .long 0, .int 0, .int 0, .int 0, .int 0])), (q6_1, .inl (cI, 5, .inl (fun _ => 0))), (q13_2, .inl (cI, 5, .inl (fun _ => 0))), (q20_3, .inl (cI, 5, .inl (fun _ => 0)))] H := hP
  replace hD : va_D A [(h, .inr (2, [.ref q6_1, .ref q13_2, .null, .null, .null, .null, .long 0, .int 0, .int 0, .int 0, .int 0])), (q6_1, .inl (cI, 5, .inl (fun _ => 0))), (q13_2, .inl (cI, 5, .inl (fun _ => 0))), (q20_3, .inl (cI, 5, .inl (fun _ => 0)))] := hD
  refine k_putFG (ws2 := [(h, .inr (2, [.ref q6_1, .ref q13_2, .ref q20_3, .null, .null, .null, .long 0, .int 0, .int 0, .int 0, .int 0])), (q6_1, .inl (cI, 5, .inl (fun _ => 0))), (q13_2, .inl (cI, 5, .inl (fun _ => 0))), (q20_3, .inl (cI, 5, .inl (fun _ => 0)))]) (C := RX2) (T := TX2) (N := 11) hx hb hts inX2 tyX2 tyX2_ok nmX2 hown hK hP hD hS 0 rfl rfl 2 (by decide) rfl wl7 rfl hnm rfl rfl rfl (Nat.le_of_ble_eq_true rfl) rfl dX2_init_22 (fun H locs hP hD hS => ?_)
  refine lv_aload_n hx hb dX2_init_25 rfl (lv_at hl 0 rfl) ?_
  refine lv_iconst (v := 5) hx hb dX2_init_26 (by decide) ?_
  refine k_newaG (atype := .int) (a0 := (5, .inl (fun _ => 0))) (ty := .int) (N' := 5) hx hb wl4 rfl (by intro C h; cases h) hK hP hD hS hA 0 rfl (fun _ => rfl) (by decide) (by decide) (by show 5 * 4 ≤ 536870912; omega) (Nat.le_of_ble_eq_true rfl) (Nat.le_of_ble_eq_true rfl) rfl rfl dX2_init_27 (fun q27_4 H hP hD hS => ?_)
  replace hP : va_P D vwCl [(h, .inr (2, [.ref q6_1, .ref q13_2, .ref q20_3, .null, .null, .null, .long 0, .int 0, .int 0, .int 0, .int 0])), (q6_1, .inl (cI, 5, .inl (fun _ => 0))), (q13_2, .inl (cI, 5, .inl (fun _ => 0))), (q20_3, .inl (cI, 5, .inl (fun _ => 0))), (q27_4, .inl (cI, 5, .inl (fun _ => 0)))] H := hP
  replace hD : va_D A [(h, .inr (2, [.ref q6_1, .ref q13_2, .ref q20_3, .null, .null, .null, .long 0, .int 0, .int 0, .int 0, .int 0])), (q6_1, .inl (cI, 5, .inl (fun _ => 0))), (q13_2, .inl (cI, 5, .inl (fun _ => 0))), (q20_3, .inl (cI, 5, .inl (fun _ => 0))), (q27_4, .inl (cI, 5, .inl (fun _ => 0)))] := hD
  refine k_putFG (ws2 := [(h, .inr (2, [.ref q6_1, .ref q13_2, .ref q20_3, .ref q27_4, .null, .null, .long 0, .int 0, .int 0, .int 0, .int 0])), (q6_1, .inl (cI, 5, .inl (fun _ => 0))), (q13_2, .inl (cI, 5, .inl (fun _ => 0))), (q20_3, .inl (cI, 5, .inl (fun _ => 0))), (q27_4, .inl (cI, 5, .inl (fun _ => 0)))]) (C := RX2) (T := TX2) (N := 11) hx hb hts inX2 tyX2 tyX2_ok nmX2 hown hK hP hD hS 0 rfl rfl 3 (by decide) rfl wl8 rfl hnm rfl rfl rfl (Nat.le_of_ble_eq_true rfl) rfl dX2_init_29 (fun H locs hP hD hS => ?_)
  refine lv_aload_n hx hb dX2_init_32 rfl (lv_at hl 0 rfl) ?_
  refine lv_iconst (v := 5) hx hb dX2_init_33 (by decide) ?_
  refine k_newaG (atype := .int) (a0 := (5, .inl (fun _ => 0))) (ty := .int) (N' := 5) hx hb wl4 rfl (by intro C h; cases h) hK hP hD hS hA 0 rfl (fun _ => rfl) (by decide) (by decide) (by show 5 * 4 ≤ 536870912; omega) (Nat.le_of_ble_eq_true rfl) (Nat.le_of_ble_eq_true rfl) rfl rfl dX2_init_34 (fun q34_5 H hP hD hS => ?_)
  replace hP : va_P D vwCl [(h, .inr (2, [.ref q6_1, .ref q13_2, .ref q20_3, .ref q27_4, .null, .null, .long 0, .int 0, .int 0, .int 0, .int 0])), (q6_1, .inl (cI, 5, .inl (fun _ => 0))), (q13_2, .inl (cI, 5, .inl (fun _ => 0))), (q20_3, .inl (cI, 5, .inl (fun _ => 0))), (q27_4, .inl (cI, 5, .inl (fun _ => 0))), (q34_5, .inl (cI, 5, .inl (fun _ => 0)))] H := hP
  replace hD : va_D A [(h, .inr (2, [.ref q6_1, .ref q13_2, .ref q20_3, .ref q27_4, .null, .null, .long 0, .int 0, .int 0, .int 0, .int 0])), (q6_1, .inl (cI, 5, .inl (fun _ => 0))), (q13_2, .inl (cI, 5, .inl (fun _ => 0))), (q20_3, .inl (cI, 5, .inl (fun _ => 0))), (q27_4, .inl (cI, 5, .inl (fun _ => 0))), (q34_5, .inl (cI, 5, .inl (fun _ => 0)))] := hD
  refine k_putFG (ws2 := [(h, .inr (2, [.ref q6_1, .ref q13_2, .ref q20_3, .ref q27_4, .ref q34_5, .null, .long 0, .int 0, .int 0, .int 0, .int 0])), (q6_1, .inl (cI, 5, .inl (fun _ => 0))), (q13_2, .inl (cI, 5, .inl (fun _ => 0))), (q20_3, .inl (cI, 5, .inl (fun _ => 0))), (q27_4, .inl (cI, 5, .inl (fun _ => 0))), (q34_5, .inl (cI, 5, .inl (fun _ => 0)))]) (C := RX2) (T := TX2) (N := 11) hx hb hts inX2 tyX2 tyX2_ok nmX2 hown hK hP hD hS 0 rfl rfl 4 (by decide) rfl wl9 rfl hnm rfl rfl rfl (Nat.le_of_ble_eq_true rfl) rfl dX2_init_36 (fun H locs hP hD hS => ?_)
  refine lv_aload_n hx hb dX2_init_39 rfl (lv_at hl 0 rfl) ?_
  refine lv_iconst (v := 5) hx hb dX2_init_40 (by decide) ?_
  refine k_newaG (atype := .long) (a0 := (5, .inr (.inl (fun _ => 0)))) (ty := .long) (N' := 5) hx hb wl10 rfl (by intro C h; cases h) hK hP hD hS hA 2 rfl (fun _ => rfl) (by decide) (by decide) (by show 5 * 8 ≤ 536870912; omega) (Nat.le_of_ble_eq_true rfl) (Nat.le_of_ble_eq_true rfl) rfl rfl dX2_init_41 (fun q41_6 H hP hD hS => ?_)
  replace hP : va_P D vwCl [(h, .inr (2, [.ref q6_1, .ref q13_2, .ref q20_3, .ref q27_4, .ref q34_5, .null, .long 0, .int 0, .int 0, .int 0, .int 0])), (q6_1, .inl (cI, 5, .inl (fun _ => 0))), (q13_2, .inl (cI, 5, .inl (fun _ => 0))), (q20_3, .inl (cI, 5, .inl (fun _ => 0))), (q27_4, .inl (cI, 5, .inl (fun _ => 0))), (q34_5, .inl (cI, 5, .inl (fun _ => 0))), (q41_6, .inl (cJ, 5, .inr (.inl (fun _ => 0))))] H := hP
  replace hD : va_D A [(h, .inr (2, [.ref q6_1, .ref q13_2, .ref q20_3, .ref q27_4, .ref q34_5, .null, .long 0, .int 0, .int 0, .int 0, .int 0])), (q6_1, .inl (cI, 5, .inl (fun _ => 0))), (q13_2, .inl (cI, 5, .inl (fun _ => 0))), (q20_3, .inl (cI, 5, .inl (fun _ => 0))), (q27_4, .inl (cI, 5, .inl (fun _ => 0))), (q34_5, .inl (cI, 5, .inl (fun _ => 0))), (q41_6, .inl (cJ, 5, .inr (.inl (fun _ => 0))))] := hD
  refine k_putFG (ws2 := [(h, .inr (2, [.ref q6_1, .ref q13_2, .ref q20_3, .ref q27_4, .ref q34_5, .ref q41_6, .long 0, .int 0, .int 0, .int 0, .int 0])), (q6_1, .inl (cI, 5, .inl (fun _ => 0))), (q13_2, .inl (cI, 5, .inl (fun _ => 0))), (q20_3, .inl (cI, 5, .inl (fun _ => 0))), (q27_4, .inl (cI, 5, .inl (fun _ => 0))), (q34_5, .inl (cI, 5, .inl (fun _ => 0))), (q41_6, .inl (cJ, 5, .inr (.inl (fun _ => 0))))]) (C := RX2) (T := TX2) (N := 11) hx hb hts inX2 tyX2 tyX2_ok nmX2 hown hK hP hD hS 0 rfl rfl 5 (by decide) rfl wl11 rfl hnm rfl rfl rfl (Nat.le_of_ble_eq_true rfl) rfl dX2_init_43 (fun H locs hP hD hS => ?_)
  exact hRet  hf _ _ _ _ (k_sel [q6_1, q13_2, q20_3, q27_4, q34_5, q41_6]) (k_sub_P hP [0, 1, 2, 3, 4, 5, 6] rfl) (hD.sub [0, 1, 2, 3, 4, 5, 6] (by decide) rfl) hS dX2_init_46

abbrev rm_X0_init : Room := { frames := 1, cells := 0, slots := 0, locals := 32 }
theorem hdS_X0_init : yX0_init.cls ≠ "java/lang/invoke/MethodHandle" ∧ yX0_init.cls ≠ "java/lang/invoke/VarHandle" ∧ (parseMethodDescriptor yX0_init.desc).map (fun d => d.parameters.length) = some 1 := by decide +kernel
set_option maxHeartbeats 4000000 in
set_option maxRecDepth 100000 in
theorem c_X0_init (l : Launch) (D : va_G) (cI cZ cJ cS : ClassId) (h o1 : Nat) : k_MC l yX0_init wsX0_init rm_X0_init D (k_tys cI cZ cJ cS) [.ref h, .ref o1] [(h, .inr (0, [.null, .int 0, .int 0, .int 0]))] (fun u => [(h, .inr (0, [.ref o1, .int 0, .int 0, .int 0]))]) 0 0 := by
  refine k_enterZ (y := yX0_init) (wl := wsX0_init) (rm := rm_X0_init) (av := [.ref h, .ref o1]) (D := D) (tys := k_tys cI cZ cJ cS) (ws := [(h, .inr (0, [.null, .int 0, .int 0, .int 0]))]) (cc := cX0_init) (maxL := 2) (ret := none) (Qc := fun A => va_Qv (fun (_ : Nat → Nat) => True) (fun u t => k_B D (k_tys cI cZ cJ cS) ((fun u => [(h, .inr (0, [.ref o1, .int 0, .int 0, .int 0]))]) u) A () t) A) (by decide) rfl (Nat.le_of_ble_eq_true rfl) [(0, .ref h), (1, .ref o1)] rfl ?_
  intro p e s m below meth c A hx hb hml hr hlocks hnm hown hK hP hD hA hS hN hZ ls args Q hts hl hQ
  replace hown : s.vm.findClass RX0 = some m.cls := hown
  replace hnm : meth.name = "<init>" := hnm
  have inX0 : ∀ w ∈ u_ws RX0 TX0 4, w ∈ wsX0_init := fun w h => List.mem_cons_of_mem _ (List.mem_append_right _ h)
  have wl1 : (Cond.methodLink RX0 3 objectInit).before args s = true := hts _ (List.mem_of_getElem? (i := 1) rfl)
  have wl2 : (Cond.instanceMethod objectInit).before args s = true := hts _ (List.mem_of_getElem? (i := 2) rfl)
  have wl3 : (Cond.code objectInit ⟨#[0xb1]⟩ 1 none).before args s = true := hts _ (List.mem_of_getElem? (i := 3) rfl)
  have wl4 : (Cond.fieldLink RX0 9 "BeachedShip$Floating" "trial" "LBeachedShip$Ship;").before args s = true := hts _ (List.mem_of_getElem? (i := 4) rfl)
  have hRet : some () = some () → ∀ (H : Heap) (locs : List Loc) (ls : Array Slot) (pc : Nat) (u : Nat → Nat), va_P D vwCl [(h, .inr (0, [.ref o1, .int 0, .int 0, .int 0]))] H → va_D A [(h, .inr (0, [.ref o1, .int 0, .int 0, .int 0]))] → va_S A s.heap H locs → decode cX0_init pc = .ok (.return_, 1) → W p l e rm_X0_init s m args below meth c H locs 0 0 Q (F0 m pc ls []) := by
    intro  hz H locs ls pc u hP hD hS hd
    cases hz
    exact k_vretC (WS := (fun u => [(h, .inr (0, [.ref o1, .int 0, .int 0, .int 0]))])) u hx hb hr hlocks hK hP hD hS hQ hd
  have hf : (some () : Option Unit) = some () := rfl
  refine lv_aload_n hx hb dX0_init_0 rfl (lv_at hl 0 rfl) ?_
  refine W.objInit hx hb hown wl1 wl2 wl3 rfl (by rw [hml]; exact hl.1) rfl dX0_init_1 (Nat.le_of_ble_eq_true rfl) (Nat.le_of_ble_eq_true rfl) ?_
  refine W.eq (g2 := F0 m 4 ls []) rfl ?_
  refine lv_aload_n hx hb dX0_init_4 rfl (lv_at hl 0 rfl) ?_
  refine lv_aload_n hx hb dX0_init_5 rfl (lv_at hl 1 rfl) ?_
  refine k_putFG (ws2 := [(h, .inr (0, [.ref o1, .int 0, .int 0, .int 0]))]) (C := RX0) (T := TX0) (N := 4) hx hb hts inX0 tyX0 tyX0_ok nmX0 hown hK hP hD hS 0 rfl rfl 0 (by decide) rfl wl4 rfl hnm rfl rfl rfl (Nat.le_of_ble_eq_true rfl) rfl dX0_init_6 (fun H locs hP hD hS => ?_)
  exact hRet  hf _ _ _ _ (k_sel []) (k_sub_P hP [0] rfl) (hD.sub [0] (by decide) rfl) hS dX0_init_9

def lb_X1_init_14 (x1_8 : Int32) (c_q7_1_9 : Nat → Int32) : Option ((Int32 × (Nat → Int32)) ⊕ ((Nat → Int32))) :=
  if 30 ≤ x1_8 then
    some (.inr c_q7_1_9)
  else
    k_ix x1_8 30 (
      some (.inl (x1_8 + 1, upd c_q7_1_9 x1_8.toNatClampNeg (-1))))
def p_X1_init : Option ((Nat → Int32)) :=
  k_b1 (k_lp (fun s => lb_X1_init_14 s.1 s.2) k_fuel (0, (fun _ => 0))) fun c_q7_1_7 =>
  some c_q7_1_7
abbrev rm_X1_init : Room := { frames := 1, cells := 1, slots := 30, locals := 32 }
theorem hdS_X1_init : yX1_init.cls ≠ "java/lang/invoke/MethodHandle" ∧ yX1_init.cls ≠ "java/lang/invoke/VarHandle" ∧ (parseMethodDescriptor yX1_init.desc).map (fun d => d.parameters.length) = some 0 := by decide +kernel
set_option maxHeartbeats 4000000 in
set_option maxRecDepth 100000 in
theorem c_X1_init (l : Launch) (D : va_G) (cI cZ cJ cS : ClassId) (h : Nat) (w0 : Nat → Int32) (hf : p_X1_init = some w0) : k_MC l yX1_init wsX1_init rm_X1_init D (k_tys cI cZ cJ cS) [.ref h] [(h, .inr (1, [.null]))] (fun u => [(h, .inr (1, [.ref (u 0)])), ((u 0), .inl (cI, 30, .inl w0))]) 1 30 := by
  refine k_enterZ (y := yX1_init) (wl := wsX1_init) (rm := rm_X1_init) (av := [.ref h]) (D := D) (tys := k_tys cI cZ cJ cS) (ws := [(h, .inr (1, [.null]))]) (cc := cX1_init) (maxL := 2) (ret := none) (Qc := fun A => va_Qv (fun (_ : Nat → Nat) => True) (fun u t => k_B D (k_tys cI cZ cJ cS) ((fun u => [(h, .inr (1, [.ref (u 0)])), ((u 0), .inl (cI, 30, .inl w0))]) u) A () t) A) (by decide) rfl (Nat.le_of_ble_eq_true rfl) [(0, .ref h)] rfl ?_
  intro p e s m below meth c A hx hb hml hr hlocks hnm hown hK hP hD hA hS hN hZ ls args Q hts hl hQ
  replace hown : s.vm.findClass RX1 = some m.cls := hown
  replace hnm : meth.name = "<init>" := hnm
  have inX1 : ∀ w ∈ u_ws RX1 TX1 1, w ∈ wsX1_init := fun w h => List.mem_cons_of_mem _ (List.mem_append_right _ h)
  have wl1 : (Cond.methodLink RX1 3 objectInit).before args s = true := hts _ (List.mem_of_getElem? (i := 1) rfl)
  have wl2 : (Cond.instanceMethod objectInit).before args s = true := hts _ (List.mem_of_getElem? (i := 2) rfl)
  have wl3 : (Cond.code objectInit ⟨#[0xb1]⟩ 1 none).before args s = true := hts _ (List.mem_of_getElem? (i := 3) rfl)
  have wl4 : (Cond.arrayClass .int).before args s = true := hts _ (List.mem_of_getElem? (i := 4) rfl)
  have wl5 : (Cond.fieldLink RX1 9 "BeachedShip$Planks" "tapped" "[I").before args s = true := hts _ (List.mem_of_getElem? (i := 5) rfl)
  have hRet : ∀ (w_z0 : Nat → Int32), some w_z0 = some w0 → ∀ (H : Heap) (locs : List Loc) (ls : Array Slot) (pc : Nat) (u : Nat → Nat), va_P D vwCl [(h, .inr (1, [.ref (u 0)])), ((u 0), .inl (cI, 30, .inl w_z0))] H → va_D A [(h, .inr (1, [.ref (u 0)])), ((u 0), .inl (cI, 30, .inl w_z0))] → va_S A s.heap H locs → decode cX1_init pc = .ok (.return_, 1) → W p l e rm_X1_init s m args below meth c H locs 1 30 Q (F0 m pc ls []) := by
    intro w_z0 hz H locs ls pc u hP hD hS hd
    cases hz
    exact k_vretC (WS := (fun u => [(h, .inr (1, [.ref (u 0)])), ((u 0), .inl (cI, 30, .inl w0))])) u hx hb hr hlocks hK hP hD hS hQ hd
  unfold p_X1_init at hf
  refine lv_aload_n hx hb dX1_init_0 rfl (lv_at hl 0 rfl) ?_
  refine W.objInit hx hb hown wl1 wl2 wl3 rfl (by rw [hml]; exact hl.1) rfl dX1_init_1 (Nat.le_of_ble_eq_true rfl) (Nat.le_of_ble_eq_true rfl) ?_
  refine W.eq (g2 := F0 m 4 ls []) rfl ?_
  refine lv_aload_n hx hb dX1_init_4 rfl (lv_at hl 0 rfl) ?_
  refine lv_bipush (v := 30) hx hb dX1_init_5 (by decide) ?_
  refine k_newaG (atype := .int) (a0 := (30, .inl (fun _ => 0))) (ty := .int) (N' := 30) hx hb wl4 rfl (by intro C h; cases h) hK hP hD hS hA 0 rfl (fun _ => rfl) (by decide) (by decide) (by show 30 * 4 ≤ 536870912; omega) (Nat.le_of_ble_eq_true rfl) (Nat.le_of_ble_eq_true rfl) rfl rfl dX1_init_7 (fun q7_1 H hP hD hS => ?_)
  replace hP : va_P D vwCl [(h, .inr (1, [.null])), (q7_1, .inl (cI, 30, .inl (fun _ => 0)))] H := hP
  replace hD : va_D A [(h, .inr (1, [.null])), (q7_1, .inl (cI, 30, .inl (fun _ => 0)))] := hD
  refine k_putFG (ws2 := [(h, .inr (1, [.ref q7_1])), (q7_1, .inl (cI, 30, .inl (fun _ => 0)))]) (C := RX1) (T := TX1) (N := 1) hx hb hts inX1 tyX1 tyX1_ok nmX1 hown hK hP hD hS 0 rfl rfl 0 (by decide) rfl wl5 rfl hnm rfl rfl rfl (Nat.le_of_ble_eq_true rfl) rfl dX1_init_9 (fun H locs hP hD hS => ?_)
  refine lv_iconst (v := 0) hx hb dX1_init_12 (by decide) ?_
  refine lv_istore_n (lv' := [(1, .int 0), (0, .ref h)]) hx hb dX1_init_13 rfl hl (by decide) rfl (fun ls hl => ?_)
  obtain ⟨ee6, hlp6, hfr6⟩ := k_b1_ee hf
  have hE6 : ∀ (c_q7_1_7 : Nat → Int32), ee6 = c_q7_1_7 → ∀ (H : Heap) (locs : List Loc) (ls : Array Slot), va_P D vwCl [(h, .inr (1, [.ref q7_1])), (q7_1, .inl (cI, 30, .inl c_q7_1_7))] H → va_D A [(h, .inr (1, [.ref q7_1])), (q7_1, .inl (cI, 30, .inl c_q7_1_7))] → va_S A s.heap H locs → lv_has ls 2 [] → W p l e rm_X1_init s m args below meth c H locs 1 30 Q (F0 m 33 ls []) := by
    intro c_q7_1_7 he H locs ls hP hD hS hl
    replace hf := hfr6 c_q7_1_7 he
    exact hRet _ hf _ _ _ _ (k_sel [q7_1]) (k_sub_P hP [0, 1] rfl) (hD.sub [0, 1] (by decide) rfl) hS dX1_init_33
  refine (k_lp_ind (fun sx6 => ∀ (H : Heap) (locs : List Loc) (ls : Array Slot), va_P D vwCl [(h, .inr (1, [.ref q7_1])), (q7_1, .inl (cI, 30, .inl sx6.2))] H → va_D A [(h, .inr (1, [.ref q7_1])), (q7_1, .inl (cI, 30, .inl sx6.2))] → va_S A s.heap H locs → lv_has ls 2 [(1, .int sx6.1), (0, .ref h)] → W p l e rm_X1_init s m args below meth c H locs 1 30 Q (F0 m 14 ls [])) (fun sx6 X6 hX6 hin6 hout6 => ?_) _ _ hlp6) _ _ _ hP hD hS (lv_sub hl [0, 1] rfl)
  obtain ⟨x1_8, c_q7_1_9⟩ := sx6
  intro H locs ls hP hD hS hl
  replace hP : va_P D vwCl [(h, .inr (1, [.ref q7_1])), (q7_1, .inl (cI, 30, .inl c_q7_1_9))] H := hP
  replace hD : va_D A [(h, .inr (1, [.ref q7_1])), (q7_1, .inl (cI, 30, .inl c_q7_1_9))] := hD
  replace hl : lv_has ls 2 [(1, .int x1_8), (0, .ref h)] := hl
  replace hX6 : lb_X1_init_14 x1_8 c_q7_1_9 = some X6 := hX6
  unfold lb_X1_init_14 at hX6
  refine lv_iload_n hx hb dX1_init_14 rfl (lv_at hl 0 rfl) ?_
  refine lv_bipush (v := 30) hx hb dX1_init_15 (by decide) ?_
  refine lv_icmp_ge (tgt := 33) hx hb dX1_init_17 (by decide) (fun c10 => ?_) (fun c10 => ?_)
  · replace hX6 := k_pos hX6 c10
    exact hE6 _ (hout6 _ (Option.some.inj hX6).symm).symm _ _ _ hP hD hS (lv_sub hl [] rfl)
  · replace hX6 := k_neg hX6 c10
    refine lv_aload_n hx hb dX1_init_20 rfl (lv_at hl 1 rfl) ?_
    refine k_getG (C := RX1) (T := TX1) (N := 1) hx hb hts inX1 hown hK hP 0 rfl rfl 0 (by decide) rfl wl5 rfl dX1_init_21 ?_
    refine lv_iload_n hx hb dX1_init_24 rfl (lv_at hl 0 rfl) ?_
    refine lv_iconst (v := (-1)) hx hb dX1_init_25 (by decide) ?_
    obtain ⟨hi11, hX6⟩ := k_ix_some hX6
    refine k_iastG (ws2 := [(h, .inr (1, [.ref q7_1])), (q7_1, .inl (cI, 30, .inl (upd c_q7_1_9 x1_8.toNatClampNeg (-1))))]) (k := x1_8.toNatClampNeg) hx hb hK hP hD hS 1 0 rfl rfl hi11 rfl rfl dX1_init_26 (fun H locs hP hD hS => ?_)
    refine lv_iinc (v := x1_8 + 1) (lv' := [(1, .int (x1_8 + 1)), (0, .ref h)]) hx hb dX1_init_27 hl (k := 0) rfl rfl (by decide) rfl (fun ls hl => ?_)
    refine lv_goto (tgt := 14) hx hb dX1_init_30 (by decide) ?_
    exact hin6 (x1_8 + 1, upd c_q7_1_9 x1_8.toNatClampNeg (-1)) (Option.some.inj hX6).symm _ _ _ hP hD hS (lv_sub hl [0, 1] rfl)

