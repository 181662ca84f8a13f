def lb_X9_pass_434 (f_h_rule : Nat → Int32) (r1 : Int32) (c_h_now_163 : Nat → Int32) : Option (((Nat → Int32)) ⊕ ((Nat → Int32))) :=
  k_b1 (p_X9_holds c_h_now_163 f_h_rule (c_h_now_163 1) r1) fun r164 =>
  if r164 = 0 then
    k_b1 (p_X9_part c_h_now_163 f_h_rule r1) fun w_h_now_166 =>
    some (.inl w_h_now_166)
  else
    some (.inr c_h_now_163)
def lj_X9_pass_432 (f_h_rule : Nat → Int32) (r1 : Int32) (c_h_now_135 : Nat → Int32) (x3_134 : Int32) (t152 : Int32) : Option ((Nat → Int32)) :=
  k_b1 (k_lp (fun s => lb_X9_pass_434 f_h_rule r1 s) k_fuel (upd (upd c_h_now_135 7 ((c_h_now_135 7) + ((f_h_rule 3) - x3_134))) 2 (((upd c_h_now_135 7 ((c_h_now_135 7) + ((f_h_rule 3) - x3_134))) 2) + t152))) fun c_h_now_162 =>
  some (upd (upd (upd c_h_now_162 0 ((c_h_now_162 0) + 1)) 3 0) 4 0)
def lb_X9_pass_334 (c_h_now_135 : Nat → Int32) (f_h_rule : Nat → Int32) (x3_134 : Int32) (f_h_tide : Nat → Int32) (x4_169 : Int32) (x5_170 : Int32) : Option ((Int32 × Int32) ⊕ (Int32)) :=
  if ((upd c_h_now_135 7 ((c_h_now_135 7) + ((f_h_rule 3) - x3_134))) 12) ≤ x5_170 then
    some (.inr x4_169)
  else
    k_ix (145 + x5_170) 169 (
      if ((upd c_h_now_135 7 ((c_h_now_135 7) + ((f_h_rule 3) - x3_134))) (145 + x5_170).toNatClampNeg) = 1 then
        k_b1 (p_X9_isBare (upd c_h_now_135 7 ((c_h_now_135 7) + ((f_h_rule 3) - x3_134))) f_h_tide x5_170 ((upd c_h_now_135 7 ((c_h_now_135 7) + ((f_h_rule 3) - x3_134))) 0)) fun r174 =>
        if r174 = 0 then
          some (.inl (x4_169 + 10, x5_170 + 1))
        else
          some (.inl (x4_169 + 0, x5_170 + 1))
      else
        some (.inl (x4_169 + 0, x5_170 + 1)))
def lj_X9_pass_290 (x4_177 : Int32) (x3_176 : Int32) (c_h_now_196 : Nat → Int32) (t203 : Int32) : Option ((Int32 × Int32 × (Nat → Int32)) ⊕ (Int32 × (Nat → Int32))) :=
  k_ix (145 + x4_177) 169 (
    k_ix (97 + x4_177) 169 (
      k_lt (x3_176 - ((upd (upd c_h_now_196 (157 + x4_177).toNatClampNeg ((c_h_now_196 (157 + x4_177).toNatClampNeg) + 1)) (145 + x4_177).toNatClampNeg t203) (97 + x4_177).toNatClampNeg)) fun y207 =>
      some (.inl (y207, x4_177 + 1, upd (upd c_h_now_196 (157 + x4_177).toNatClampNeg ((c_h_now_196 (157 + x4_177).toNatClampNeg) + 1)) (145 + x4_177).toNatClampNeg t203))))
def lj_X9_pass_236 (x4_177 : Int32) (x3_176 : Int32) (c_h_now_196 : Nat → Int32) : Option ((Int32 × Int32 × (Nat → Int32)) ⊕ (Int32 × (Nat → Int32))) :=
  k_ix (157 + x4_177) 169 (
    k_ix (157 + x4_177) 169 (
      k_ix (157 + x4_177) 169 (
        k_ix (109 + x4_177) 169 (
          if ((upd c_h_now_196 (157 + x4_177).toNatClampNeg ((c_h_now_196 (157 + x4_177).toNatClampNeg) + 1)) (157 + x4_177).toNatClampNeg) = ((upd c_h_now_196 (157 + x4_177).toNatClampNeg ((c_h_now_196 (157 + x4_177).toNatClampNeg) + 1)) (109 + x4_177).toNatClampNeg) then
            lj_X9_pass_290 x4_177 x3_176 c_h_now_196 2
          else
            lj_X9_pass_290 x4_177 x3_176 c_h_now_196 1))))
def lj_X9_pass_290_1 (x4_177 : Int32) (x3_176 : Int32) (c_h_now_221 : Nat → Int32) (t228 : Int32) : Option ((Int32 × Int32 × (Nat → Int32)) ⊕ (Int32 × (Nat → Int32))) :=
  k_ix (145 + x4_177) 169 (
    k_ix (97 + x4_177) 169 (
      k_lt (x3_176 - ((upd (upd c_h_now_221 (157 + x4_177).toNatClampNeg ((c_h_now_221 (157 + x4_177).toNatClampNeg) + 1)) (145 + x4_177).toNatClampNeg t228) (97 + x4_177).toNatClampNeg)) fun y232 =>
      some (.inl (y232, x4_177 + 1, upd (upd c_h_now_221 (157 + x4_177).toNatClampNeg ((c_h_now_221 (157 + x4_177).toNatClampNeg) + 1)) (145 + x4_177).toNatClampNeg t228))))
def lj_X9_pass_236_1 (x4_177 : Int32) (x3_176 : Int32) (c_h_now_221 : Nat → Int32) : Option ((Int32 × Int32 × (Nat → Int32)) ⊕ (Int32 × (Nat → Int32))) :=
  k_ix (157 + x4_177) 169 (
    k_ix (157 + x4_177) 169 (
      k_ix (157 + x4_177) 169 (
        k_ix (109 + x4_177) 169 (
          if ((upd c_h_now_221 (157 + x4_177).toNatClampNeg ((c_h_now_221 (157 + x4_177).toNatClampNeg) + 1)) (157 + x4_177).toNatClampNeg) = ((upd c_h_now_221 (157 + x4_177).toNatClampNeg ((c_h_now_221 (157 + x4_177).toNatClampNeg) + 1)) (109 + x4_177).toNatClampNeg) then
            lj_X9_pass_290_1 x4_177 x3_176 c_h_now_221 2
          else
            lj_X9_pass_290_1 x4_177 x3_176 c_h_now_221 1))))
def lb_X9_pass_21 (a1 : Int32) (r1 : Int32) (f_h_tide : Nat → Int32) (x3_176 : Int32) (x4_177 : Int32) (c_h_now_178 : Nat → Int32) : Option ((Int32 × Int32 × (Nat → Int32)) ⊕ (Int32 × (Nat → Int32))) :=
  if (c_h_now_178 12) ≤ x4_177 then
    some (.inr (x3_176, c_h_now_178))
  else
    if ((a1 >>> (x4_177 &&& 31)) &&& 1) = 1 then
      if r1 = 0 then
        k_b1 (p_X9_isBare c_h_now_178 f_h_tide x4_177 (c_h_now_178 0)) fun r182 =>
        if r182 = 0 then
          some (.inl (x3_176, x4_177 + 1, c_h_now_178))
        else
          k_ix (97 + x4_177) 169 (
            if x3_176 < (c_h_now_178 (97 + x4_177).toNatClampNeg) then
              some (.inl (x3_176, x4_177 + 1, c_h_now_178))
            else
              k_ix (145 + x4_177) 169 (
                if (c_h_now_178 (145 + x4_177).toNatClampNeg) = 2 then
                  some (.inl (x3_176, x4_177 + 1, c_h_now_178))
                else
                  k_ix (145 + x4_177) 169 (
                    if (c_h_now_178 (145 + x4_177).toNatClampNeg) = 0 then
                      k_ix (145 + x4_177) 169 (
                        k_ix (97 + x4_177) 169 (
                          k_lt (x3_176 - ((upd c_h_now_178 (145 + x4_177).toNatClampNeg 1) (97 + x4_177).toNatClampNeg)) fun y242 =>
                          some (.inl (y242, x4_177 + 1, upd c_h_now_178 (145 + x4_177).toNatClampNeg 1))))
                    else
                      k_ix (157 + x4_177) 169 (
                        if 0 < (c_h_now_178 (157 + x4_177).toNatClampNeg) then
                          k_ix (157 + x4_177) 169 (
                            if (c_h_now_178 (157 + x4_177).toNatClampNeg) = 0 then
                              k_ix (121 + x4_177) 169 (
                                k_ix (121 + x4_177) 169 (
                                  lj_X9_pass_236 x4_177 x3_176 (upd (upd c_h_now_178 5 ((c_h_now_178 5) - (c_h_now_178 (121 + x4_177).toNatClampNeg))) 6 (((upd c_h_now_178 5 ((c_h_now_178 5) - (c_h_now_178 (121 + x4_177).toNatClampNeg))) 6) + ((upd c_h_now_178 5 ((c_h_now_178 5) - (c_h_now_178 (121 + x4_177).toNatClampNeg))) (121 + x4_177).toNatClampNeg)))))
                            else
                              lj_X9_pass_236 x4_177 x3_176 c_h_now_178)
                        else
                          k_ix (121 + x4_177) 169 (
                            if (c_h_now_178 5) < (c_h_now_178 (121 + x4_177).toNatClampNeg) then
                              some (.inl (x3_176, x4_177 + 1, c_h_now_178))
                            else
                              k_ix (157 + x4_177) 169 (
                                if (c_h_now_178 (157 + x4_177).toNatClampNeg) = 0 then
                                  k_ix (121 + x4_177) 169 (
                                    k_ix (121 + x4_177) 169 (
                                      lj_X9_pass_236_1 x4_177 x3_176 (upd (upd c_h_now_178 5 ((c_h_now_178 5) - (c_h_now_178 (121 + x4_177).toNatClampNeg))) 6 (((upd c_h_now_178 5 ((c_h_now_178 5) - (c_h_now_178 (121 + x4_177).toNatClampNeg))) 6) + ((upd c_h_now_178 5 ((c_h_now_178 5) - (c_h_now_178 (121 + x4_177).toNatClampNeg))) (121 + x4_177).toNatClampNeg)))))
                                else
                                  lj_X9_pass_236_1 x4_177 x3_176 c_h_now_178))))))
      else
        some (.inl (x3_176, x4_177 + 1, c_h_now_178))
    else
      some (.inl (x3_176, x4_177 + 1, c_h_now_178))
def p_X9_pass (f_h_now : Nat → Int32) (f_h_rain : Nat → Int32) (f_h_rule : Nat → Int32) (f_h_tide : Nat → Int32) (a1 : Int32) : Option ((Nat → Int32)) :=
  k_b1 (p_X9_rains f_h_rain (f_h_now 0)) fun r1 =>
  k_b2 (k_lp (fun s => lb_X9_pass_21 a1 r1 f_h_tide s.1 s.2.1 s.2.2) k_fuel (f_h_rule 3, 0, f_h_now)) fun x3_134 c_h_now_135 =>
  k_b1 (k_lp (fun s => lb_X9_pass_334 c_h_now_135 f_h_rule x3_134 f_h_tide s.1 s.2) k_fuel (0, 0)) fun x4_149 =>
  if x4_149 ≤ 0 then
    if 5 ≤ ((upd c_h_now_135 7 ((c_h_now_135 7) + ((f_h_rule 3) - x3_134))) 2) then
      lj_X9_pass_432 f_h_rule r1 c_h_now_135 x3_134 (-5)
    else
      lj_X9_pass_432 f_h_rule r1 c_h_now_135 x3_134 (-((upd c_h_now_135 7 ((c_h_now_135 7) + ((f_h_rule 3) - x3_134))) 2))
  else
    lj_X9_pass_432 f_h_rule r1 c_h_now_135 x3_134 x4_149
abbrev rm_X9_pass : Room := { frames := 5, cells := 0, slots := 0, locals := 114 }
theorem hdS_X9_pass : yX9_pass.cls ≠ "java/lang/invoke/MethodHandle" ∧ yX9_pass.cls ≠ "java/lang/invoke/VarHandle" ∧ (parseMethodDescriptor yX9_pass.desc).map (fun d => d.parameters.length) = some 1 := by decide +kernel
theorem hdV_X9_pass : yX9_pass.cls = RX9 ∧ yX9_pass.cls ≠ "java/lang/invoke/MethodHandle" ∧ yX9_pass.cls ≠ "java/lang/invoke/VarHandle" ∧ (parseMethodDescriptor yX9_pass.desc).map (fun d => d.parameters.length) = some 1 := by decide +kernel
set_option maxHeartbeats 4000000 in
set_option maxRecDepth 100000 in
theorem c_X9_pass (l : Launch) (D : va_G) (cI cZ cJ cS : ClassId) (h h_now h_aside h_books h_tide h_rain h_rule h_counts h_begins h_best h_planks : Nat) (v_h_thrown : Int32) (v_h_kept : Int32) (v_h_counted : Int32) (v_h_bestWorth : Int32) (v_h_bestPitch : Int32) (v_h_bestBits : Int32) (v_h_leastHour : Int32) (v_h_leastSet : Int32) (v_h_shut : Int32) (f_h_now : Nat → Int32) (f_h_rain : Nat → Int32) (f_h_rule : Nat → Int32) (f_h_tide : Nat → Int32) (a1 : Int32) (f_h_now' : Nat → Int32) (hf : p_X9_pass f_h_now f_h_rain f_h_rule f_h_tide a1 = some f_h_now') : k_MV l yX9_pass wsX9_pass rm_X9_pass D (k_tys cI cZ cJ cS) [.ref h, .int a1] [(h, .inr (9, [.int v_h_thrown, .ref h_now, .ref h_aside, .int v_h_kept, .ref h_books, .ref h_tide, .ref h_rain, .ref h_rule, .int v_h_counted, .ref h_counts, .ref h_begins, .ref h_best, .int v_h_bestWorth, .int v_h_bestPitch, .int v_h_bestBits, .int v_h_leastHour, .int v_h_leastSet, .int v_h_shut, .ref h_planks])), (h_now, .inl (cI, 169, .inl f_h_now)), (h_rain, .inl (cI, 96, .inl f_h_rain)), (h_rule, .inl (cI, 8, .inl f_h_rule)), (h_tide, .inl (cI, 96, .inl f_h_tide))] [(h, .inr (9, [.int v_h_thrown, .ref h_now, .ref h_aside, .int v_h_kept, .ref h_books, .ref h_tide, .ref h_rain, .ref h_rule, .int v_h_counted, .ref h_counts, .ref h_begins, .ref h_best, .int v_h_bestWorth, .int v_h_bestPitch, .int v_h_bestBits, .int v_h_leastHour, .int v_h_leastSet, .int v_h_shut, .ref h_planks])), (h_now, .inl (cI, 169, .inl f_h_now')), (h_rain, .inl (cI, 96, .inl f_h_rain)), (h_rule, .inl (cI, 8, .inl f_h_rule)), (h_tide, .inl (cI, 96, .inl f_h_tide))] := by
  refine k_enter (y := yX9_pass) (wl := wsX9_pass) (rm := rm_X9_pass) (av := [.ref h, .int a1]) (D := D) (tys := k_tys cI cZ cJ cS) (ws := [(h, .inr (9, [.int v_h_thrown, .ref h_now, .ref h_aside, .int v_h_kept, .ref h_books, .ref h_tide, .ref h_rain, .ref h_rule, .int v_h_counted, .ref h_counts, .ref h_begins, .ref h_best, .int v_h_bestWorth, .int v_h_bestPitch, .int v_h_bestBits, .int v_h_leastHour, .int v_h_leastSet, .int v_h_shut, .ref h_planks])), (h_now, .inl (cI, 169, .inl f_h_now)), (h_rain, .inl (cI, 96, .inl f_h_rain)), (h_rule, .inl (cI, 8, .inl f_h_rule)), (h_tide, .inl (cI, 96, .inl f_h_tide))]) (cc := cX9_pass) (maxL := 6) (ret := none) (Qc := fun A => k_Qv D (k_tys cI cZ cJ cS) [(h, .inr (9, [.int v_h_thrown, .ref h_now, .ref h_aside, .int v_h_kept, .ref h_books, .ref h_tide, .ref h_rain, .ref h_rule, .int v_h_counted, .ref h_counts, .ref h_begins, .ref h_best, .int v_h_bestWorth, .int v_h_bestPitch, .int v_h_bestBits, .int v_h_leastHour, .int v_h_leastSet, .int v_h_shut, .ref h_planks])), (h_now, .inl (cI, 169, .inl f_h_now')), (h_rain, .inl (cI, 96, .inl f_h_rain)), (h_rule, .inl (cI, 8, .inl f_h_rule)), (h_tide, .inl (cI, 96, .inl f_h_tide))] A) (by decide) rfl (Nat.le_of_ble_eq_true rfl) [(0, .ref h), (1, .int a1)] rfl ?_
  intro p e s m below meth c A hx hb hml hr hlocks hnm hown hK hP hD hA hS hN ls args Q hts hl hQ
  replace hown : s.vm.findClass RX9 = some m.cls := hown
  have S0 : CallFix p m c cX9_pass 6 s args wsX9_pass RX9 := ⟨hx, hb, hml, hown, hts⟩
  have inX9 : ∀ w ∈ u_ws RX9 TX9 19, w ∈ wsX9_pass := fun w h => List.mem_cons_of_mem _ (List.mem_append_right _ h)
  have wl1 : (Cond.fieldLink RX9 13 "BeachedShipModel" "now" "[I").before args s = true := hts _ (List.mem_of_getElem? (i := 1) rfl)
  have wl2 : (Cond.fieldLink RX9 29 "BeachedShipModel" "rule" "[I").before args s = true := hts _ (List.mem_of_getElem? (i := 2) rfl)
  have hRet : ∀ (f_h_now_z : Nat → Int32), some f_h_now_z = some f_h_now' → ∀ (H : Heap) (locs : List Loc) (ls : Array Slot) (pc : Nat), va_P D vwCl [(h, .inr (9, [.int v_h_thrown, .ref h_now, .ref h_aside, .int v_h_kept, .ref h_books, .ref h_tide, .ref h_rain, .ref h_rule, .int v_h_counted, .ref h_counts, .ref h_begins, .ref h_best, .int v_h_bestWorth, .int v_h_bestPitch, .int v_h_bestBits, .int v_h_leastHour, .int v_h_leastSet, .int v_h_shut, .ref h_planks])), (h_now, .inl (cI, 169, .inl f_h_now_z)), (h_rain, .inl (cI, 96, .inl f_h_rain)), (h_rule, .inl (cI, 8, .inl f_h_rule)), (h_tide, .inl (cI, 96, .inl f_h_tide))] H → va_D A [(h, .inr (9, [.int v_h_thrown, .ref h_now, .ref h_aside, .int v_h_kept, .ref h_books, .ref h_tide, .ref h_rain, .ref h_rule, .int v_h_counted, .ref h_counts, .ref h_begins, .ref h_best, .int v_h_bestWorth, .int v_h_bestPitch, .int v_h_bestBits, .int v_h_leastHour, .int v_h_leastSet, .int v_h_shut, .ref h_planks])), (h_now, .inl (cI, 169, .inl f_h_now_z)), (h_rain, .inl (cI, 96, .inl f_h_rain)), (h_rule, .inl (cI, 8, .inl f_h_rule)), (h_tide, .inl (cI, 96, .inl f_h_tide))] → va_S A s.heap H locs → decode cX9_pass pc = .ok (.return_, 1) → W p l e rm_X9_pass s m args below meth c H locs 0 0 Q (F0 m pc ls []) := by
    intro f_h_now_z hz H locs ls pc hP hD hS hd
    cases hz
    exact k_vret hx hb hr hlocks hK hP hD hS hQ hd
  unfold p_X9_pass at hf
  refine lv_aload_n hx hb dX9_pass_0 rfl (lv_at hl 0 rfl) ?_
  refine lv_aload_n hx hb dX9_pass_1 rfl (lv_at hl 0 rfl) ?_
  refine k_get (C := RX9) (T := TX9) (N := 19) hx hb hts inX9 hown hK hP 0 rfl rfl 1 (by decide) rfl wl1 rfl dX9_pass_2 ?_
  refine lv_iconst (v := 0) hx hb dX9_pass_5 (by decide) ?_
  refine k_iald (k := 0) hx hb hK hP 1 0 rfl rfl (by unfold vp_in; decide) (by decide) dX9_pass_6 ?_
  obtain ⟨r1, hc1, hf⟩ := k_b1_some hf
  refine k_ViR (q0 := 0) (As := [.int (f_h_now 0)]) (rest := []) S0 (c_X9_rains l D cI cZ cJ cS h h_now h_aside h_books h_tide h_rain h_rule h_counts h_begins h_best h_planks v_h_thrown v_h_kept v_h_counted v_h_bestWorth v_h_bestPitch v_h_bestBits v_h_leastHour v_h_leastSet v_h_shut f_h_rain (f_h_now 0) r1 hc1) (cwV 1 hts gX9_pass_X9_rains rfl rfl rfl hdV_X9_rains ⟨Nat.le_of_ble_eq_true rfl, Nat.le_of_ble_eq_true rfl⟩) hK hP hD hS hA hN [0, 2] rfl (by decide) rfl rfl rfl rfl hl.1 rfl (Nat.le_of_ble_eq_true rfl) dX9_pass_7 (fun H locs hP hS => ?_)
  refine lv_istore_n (lv' := [(2, .int r1), (0, .ref h), (1, .int a1)]) hx hb dX9_pass_10 rfl hl (by decide) rfl (fun ls hl => ?_)
  refine lv_aload_n hx hb dX9_pass_11 rfl (lv_at hl 1 rfl) ?_
  refine k_get (C := RX9) (T := TX9) (N := 19) hx hb hts inX9 hown hK hP 0 rfl rfl 7 (by decide) rfl wl2 rfl dX9_pass_12 ?_
  refine lv_iconst (v := 3) hx hb dX9_pass_15 (by decide) ?_
  refine k_iald (k := 3) hx hb hK hP 3 0 rfl rfl (by unfold vp_in; decide) (by decide) dX9_pass_16 ?_
  refine lv_istore_n (lv' := [(3, .int (f_h_rule 3)), (2, .int r1), (0, .ref h), (1, .int a1)]) hx hb dX9_pass_17 rfl hl (by decide) rfl (fun ls hl => ?_)
  refine lv_iconst (v := 0) hx hb dX9_pass_18 (by decide) ?_
  refine lv_istore (lv' := [(4, .int 0), (3, .int (f_h_rule 3)), (2, .int r1), (0, .ref h), (1, .int a1)]) hx hb dX9_pass_19 hl (by decide) rfl (fun ls hl => ?_)
  obtain ⟨ee133, hlp133, hfr133⟩ := k_b2_ee hf
  have hE133 : ∀ (x3_134 : Int32) (c_h_now_135 : Nat → Int32), ee133 = (x3_134, c_h_now_135) → ∀ (H : Heap) (locs : List Loc) (ls : Array Slot), va_P D vwCl [(h, .inr (9, [.int v_h_thrown, .ref h_now, .ref h_aside, .int v_h_kept, .ref h_books, .ref h_tide, .ref h_rain, .ref h_rule, .int v_h_counted, .ref h_counts, .ref h_begins, .ref h_best, .int v_h_bestWorth, .int v_h_bestPitch, .int v_h_bestBits, .int v_h_leastHour, .int v_h_leastSet, .int v_h_shut, .ref h_planks])), (h_now, .inl (cI, 169, .inl c_h_now_135)), (h_rain, .inl (cI, 96, .inl f_h_rain)), (h_rule, .inl (cI, 8, .inl f_h_rule)), (h_tide, .inl (cI, 96, .inl f_h_tide))] H → va_D A [(h, .inr (9, [.int v_h_thrown, .ref h_now, .ref h_aside, .int v_h_kept, .ref h_books, .ref h_tide, .ref h_rain, .ref h_rule, .int v_h_counted, .ref h_counts, .ref h_begins, .ref h_best, .int v_h_bestWorth, .int v_h_bestPitch, .int v_h_bestBits, .int v_h_leastHour, .int v_h_leastSet, .int v_h_shut, .ref h_planks])), (h_now, .inl (cI, 169, .inl c_h_now_135)), (h_rain, .inl (cI, 96, .inl f_h_rain)), (h_rule, .inl (cI, 8, .inl f_h_rule)), (h_tide, .inl (cI, 96, .inl f_h_tide))] → va_S A s.heap H locs → lv_has ls 6 [(3, .int x3_134), (2, .int r1), (0, .ref h)] → W p l e rm_X9_pass s m args below meth c H locs 0 0 Q (F0 m 310 ls []) := by
    intro x3_134 c_h_now_135 he H locs ls hP hD hS hl
    replace hf := hfr133 x3_134 c_h_now_135 he
    refine lv_aload_n hx hb dX9_pass_310 rfl (lv_at hl 2 rfl) ?_
    refine k_get (C := RX9) (T := TX9) (N := 19) hx hb hts inX9 hown hK hP 0 rfl rfl 1 (by decide) rfl wl1 rfl dX9_pass_311 ?_
    refine lv_bipush (v := 7) hx hb dX9_pass_314 (by decide) ?_
    refine lv_dup2_11 hx hb dX9_pass_316 rfl rfl ?_
    refine k_iald (k := 7) hx hb hK hP 1 0 rfl rfl (by unfold vp_in; decide) (by decide) dX9_pass_317 ?_
    refine lv_aload_n hx hb dX9_pass_318 rfl (lv_at hl 2 rfl) ?_
    refine k_get (C := RX9) (T := TX9) (N := 19) hx hb hts inX9 hown hK hP 0 rfl rfl 7 (by decide) rfl wl2 rfl dX9_pass_319 ?_
    refine lv_iconst (v := 3) hx hb dX9_pass_322 (by decide) ?_
    refine k_iald (k := 3) hx hb hK hP 3 0 rfl rfl (by unfold vp_in; decide) (by decide) dX9_pass_323 ?_
    refine lv_iload_n hx hb dX9_pass_324 rfl (lv_at hl 0 rfl) ?_
    refine lv_isub hx hb dX9_pass_325 ?_
    refine lv_iadd hx hb dX9_pass_326 ?_
    refine k_iast (ws2 := [(h, .inr (9, [.int v_h_thrown, .ref h_now, .ref h_aside, .int v_h_kept, .ref h_books, .ref h_tide, .ref h_rain, .ref h_rule, .int v_h_counted, .ref h_counts, .ref h_begins, .ref h_best, .int v_h_bestWorth, .int v_h_bestPitch, .int v_h_bestBits, .int v_h_leastHour, .int v_h_leastSet, .int v_h_shut, .ref h_planks])), (h_now, .inl (cI, 169, .inl (upd c_h_now_135 7 ((c_h_now_135 7) + ((f_h_rule 3) - x3_134))))), (h_rain, .inl (cI, 96, .inl f_h_rain)), (h_rule, .inl (cI, 8, .inl f_h_rule)), (h_tide, .inl (cI, 96, .inl f_h_tide))]) (k := 7) hx hb hK hP hD hS 1 0 rfl rfl (by unfold vp_in; decide) (by decide) rfl dX9_pass_327 (fun H locs hP hD hS => ?_)
    refine lv_iconst (v := 0) hx hb dX9_pass_328 (by decide) ?_
    refine lv_istore (lv' := [(4, .int 0), (3, .int x3_134), (2, .int r1), (0, .ref h)]) hx hb dX9_pass_329 hl (by decide) rfl (fun ls hl => ?_)
    refine lv_iconst (v := 0) hx hb dX9_pass_331 (by decide) ?_
    refine lv_istore (lv' := [(5, .int 0), (4, .int 0), (3, .int x3_134), (2, .int r1), (0, .ref h)]) hx hb dX9_pass_332 hl (by decide) rfl (fun ls hl => ?_)
    obtain ⟨ee148, hlp148, hfr148⟩ := k_b1_ee hf
    have hE148 : ∀ (x4_149 : Int32), ee148 = x4_149 → ∀ (H : Heap) (locs : List Loc) (ls : Array Slot), va_P D vwCl [(h, .inr (9, [.int v_h_thrown, .ref h_now, .ref h_aside, .int v_h_kept, .ref h_books, .ref h_tide, .ref h_rain, .ref h_rule, .int v_h_counted, .ref h_counts, .ref h_begins, .ref h_best, .int v_h_bestWorth, .int v_h_bestPitch, .int v_h_bestBits, .int v_h_leastHour, .int v_h_leastSet, .int v_h_shut, .ref h_planks])), (h_now, .inl (cI, 169, .inl (upd c_h_now_135 7 ((c_h_now_135 7) + ((f_h_rule 3) - x3_134))))), (h_rain, .inl (cI, 96, .inl f_h_rain)), (h_rule, .inl (cI, 8, .inl f_h_rule)), (h_tide, .inl (cI, 96, .inl f_h_tide))] H → va_D A [(h, .inr (9, [.int v_h_thrown, .ref h_now, .ref h_aside, .int v_h_kept, .ref h_books, .ref h_tide, .ref h_rain, .ref h_rule, .int v_h_counted, .ref h_counts, .ref h_begins, .ref h_best, .int v_h_bestWorth, .int v_h_bestPitch, .int v_h_bestBits, .int v_h_leastHour, .int v_h_leastSet, .int v_h_shut, .ref h_planks])), (h_now, .inl (cI, 169, .inl (upd c_h_now_135 7 ((c_h_now_135 7) + ((f_h_rule 3) - x3_134))))), (h_rain, .inl (cI, 96, .inl f_h_rain)), (h_rule, .inl (cI, 8, .inl f_h_rule)), (h_tide, .inl (cI, 96, .inl f_h_tide))] → va_S A s.heap H locs → lv_has ls 6 [(4, .int x4_149), (2, .int r1), (0, .ref h)] → W p l e rm_X9_pass s m args below meth c H locs 0 0 Q (F0 m 393 ls []) := by
      intro x4_149 he H locs ls hP hD hS hl
      replace hf := hfr148 x4_149 he
      have hJ153 : ∀ (t152 : Int32), lj_X9_pass_432 f_h_rule r1 c_h_now_135 x3_134 t152 = some f_h_now' → ∀ (H : Heap) (locs : List Loc) (ls : Array Slot), va_P D vwCl [(h, .inr (9, [.int v_h_thrown, .ref h_now, .ref h_aside, .int v_h_kept, .ref h_books, .ref h_tide, .ref h_rain, .ref h_rule, .int v_h_counted, .ref h_counts, .ref h_begins, .ref h_best, .int v_h_bestWorth, .int v_h_bestPitch, .int v_h_bestBits, .int v_h_leastHour, .int v_h_leastSet, .int v_h_shut, .ref h_planks])), (h_now, .inl (cI, 169, .inl (upd c_h_now_135 7 ((c_h_now_135 7) + ((f_h_rule 3) - x3_134))))), (h_rain, .inl (cI, 96, .inl f_h_rain)), (h_rule, .inl (cI, 8, .inl f_h_rule)), (h_tide, .inl (cI, 96, .inl f_h_tide))] H → va_D A [(h, .inr (9, [.int v_h_thrown, .ref h_now, .ref h_aside, .int v_h_kept, .ref h_books, .ref h_tide, .ref h_rain, .ref h_rule, .int v_h_counted, .ref h_counts, .ref h_begins, .ref h_best, .int v_h_bestWorth, .int v_h_bestPitch, .int v_h_bestBits, .int v_h_leastHour, .int v_h_leastSet, .int v_h_shut, .ref h_planks])), (h_now, .inl (cI, 169, .inl (upd c_h_now_135 7 ((c_h_now_135 7) + ((f_h_rule 3) - x3_134))))), (h_rain, .inl (cI, 96, .inl f_h_rain)), (h_rule, .inl (cI, 8, .inl f_h_rule)), (h_tide, .inl (cI, 96, .inl f_h_tide))] → va_S A s.heap H locs → lv_has ls 6 [(2, .int r1), (0, .ref h)] → W p l e rm_X9_pass s m args below meth c H locs 0 0 Q (F0 m 432 ls [.int t152, .int ((upd c_h_now_135 7 ((c_h_now_135 7) + ((f_h_rule 3) - x3_134))) 2), .int 2, .ref h_now]) := by
        intro t152 hf_j H locs ls hP hD hS hl
        replace hf := hf_j
        unfold lj_X9_pass_432 at hf
        refine lv_iadd hx hb dX9_pass_432 ?_
        refine k_iast (ws2 := [(h, .inr (9, [.int v_h_thrown, .ref h_now, .ref h_aside, .int v_h_kept, .ref h_books, .ref h_tide, .ref h_rain, .ref h_rule, .int v_h_counted, .ref h_counts, .ref h_begins, .ref h_best, .int v_h_bestWorth, .int v_h_bestPitch, .int v_h_bestBits, .int v_h_leastHour, .int v_h_leastSet, .int v_h_shut, .ref h_planks])), (h_now, .inl (cI, 169, .inl (upd (upd c_h_now_135 7 ((c_h_now_135 7) + ((f_h_rule 3) - x3_134))) 2 (((upd c_h_now_135 7 ((c_h_now_135 7) + ((f_h_rule 3) - x3_134))) 2) + t152)))), (h_rain, .inl (cI, 96, .inl f_h_rain)), (h_rule, .inl (cI, 8, .inl f_h_rule)), (h_tide, .inl (cI, 96, .inl f_h_tide))]) (k := 2) hx hb hK hP hD hS 1 0 rfl rfl (by unfold vp_in; decide) (by decide) rfl dX9_pass_433 (fun H locs hP hD hS => ?_)
        obtain ⟨ee161, hlp161, hfr161⟩ := k_b1_ee hf
        have hE161 : ∀ (c_h_now_162 : Nat → Int32), ee161 = c_h_now_162 → ∀ (H : Heap) (locs : List Loc) (ls : Array Slot), va_P D vwCl [(h, .inr (9, [.int v_h_thrown, .ref h_now, .ref h_aside, .int v_h_kept, .ref h_books, .ref h_tide, .ref h_rain, .ref h_rule, .int v_h_counted, .ref h_counts, .ref h_begins, .ref h_best, .int v_h_bestWorth, .int v_h_bestPitch, .int v_h_bestBits, .int v_h_leastHour, .int v_h_leastSet, .int v_h_shut, .ref h_planks])), (h_now, .inl (cI, 169, .inl c_h_now_162)), (h_rain, .inl (cI, 96, .inl f_h_rain)), (h_rule, .inl (cI, 8, .inl f_h_rule)), (h_tide, .inl (cI, 96, .inl f_h_tide))] H → va_D A [(h, .inr (9, [.int v_h_thrown, .ref h_now, .ref h_aside, .int v_h_kept, .ref h_books, .ref h_tide, .ref h_rain, .ref h_rule, .int v_h_counted, .ref h_counts, .ref h_begins, .ref h_best, .int v_h_bestWorth, .int v_h_bestPitch, .int v_h_bestBits, .int v_h_leastHour, .int v_h_leastSet, .int v_h_shut, .ref h_planks])), (h_now, .inl (cI, 169, .inl c_h_now_162)), (h_rain, .inl (cI, 96, .inl f_h_rain)), (h_rule, .inl (cI, 8, .inl f_h_rule)), (h_tide, .inl (cI, 96, .inl f_h_tide))] → va_S A s.heap H locs → lv_has ls 6 [(0, .ref h)] → W p l e rm_X9_pass s m args below meth c H locs 0 0 Q (F0 m 456 ls []) := by
          intro c_h_now_162 he H locs ls hP hD hS hl
          replace hf := hfr161 c_h_now_162 he
          refine lv_aload_n hx hb dX9_pass_456 rfl (lv_at hl 0 rfl) ?_
          refine k_get (C := RX9) (T := TX9) (N := 19) hx hb hts inX9 hown hK hP 0 rfl rfl 1 (by decide) rfl wl1 rfl dX9_pass_457 ?_
          refine lv_iconst (v := 0) hx hb dX9_pass_460 (by decide) ?_
          refine lv_dup2_11 hx hb dX9_pass_461 rfl rfl ?_
          refine k_iald (k := 0) hx hb hK hP 1 0 rfl rfl (by unfold vp_in; decide) (by decide) dX9_pass_462 ?_
          refine lv_iconst (v := 1) hx hb dX9_pass_463 (by decide) ?_
          refine lv_iadd hx hb dX9_pass_464 ?_
          refine k_iast (ws2 := [(h, .inr (9, [.int v_h_thrown, .ref h_now, .ref h_aside, .int v_h_kept, .ref h_books, .ref h_tide, .ref h_rain, .ref h_rule, .int v_h_counted, .ref h_counts, .ref h_begins, .ref h_best, .int v_h_bestWorth, .int v_h_bestPitch, .int v_h_bestBits, .int v_h_leastHour, .int v_h_leastSet, .int v_h_shut, .ref h_planks])), (h_now, .inl (cI, 169, .inl (upd c_h_now_162 0 ((c_h_now_162 0) + 1)))), (h_rain, .inl (cI, 96, .inl f_h_rain)), (h_rule, .inl (cI, 8, .inl f_h_rule)), (h_tide, .inl (cI, 96, .inl f_h_tide))]) (k := 0) hx hb hK hP hD hS 1 0 rfl rfl (by unfold vp_in; decide) (by decide) rfl dX9_pass_465 (fun H locs hP hD hS => ?_)
          refine lv_aload_n hx hb dX9_pass_466 rfl (lv_at hl 0 rfl) ?_
          refine k_get (C := RX9) (T := TX9) (N := 19) hx hb hts inX9 hown hK hP 0 rfl rfl 1 (by decide) rfl wl1 rfl dX9_pass_467 ?_
          refine lv_iconst (v := 3) hx hb dX9_pass_470 (by decide) ?_
          refine lv_iconst (v := 0) hx hb dX9_pass_471 (by decide) ?_
          refine k_iast (ws2 := [(h, .inr (9, [.int v_h_thrown, .ref h_now, .ref h_aside, .int v_h_kept, .ref h_books, .ref h_tide, .ref h_rain, .ref h_rule, .int v_h_counted, .ref h_counts, .ref h_begins, .ref h_best, .int v_h_bestWorth, .int v_h_bestPitch, .int v_h_bestBits, .int v_h_leastHour, .int v_h_leastSet, .int v_h_shut, .ref h_planks])), (h_now, .inl (cI, 169, .inl (upd (upd c_h_now_162 0 ((c_h_now_162 0) + 1)) 3 0))), (h_rain, .inl (cI, 96, .inl f_h_rain)), (h_rule, .inl (cI, 8, .inl f_h_rule)), (h_tide, .inl (cI, 96, .inl f_h_tide))]) (k := 3) hx hb hK hP hD hS 1 0 rfl rfl (by unfold vp_in; decide) (by decide) rfl dX9_pass_472 (fun H locs hP hD hS => ?_)
          refine lv_aload_n hx hb dX9_pass_473 rfl (lv_at hl 0 rfl) ?_
          refine k_get (C := RX9) (T := TX9) (N := 19) hx hb hts inX9 hown hK hP 0 rfl rfl 1 (by decide) rfl wl1 rfl dX9_pass_474 ?_
          refine lv_iconst (v := 4) hx hb dX9_pass_477 (by decide) ?_
          refine lv_iconst (v := 0) hx hb dX9_pass_478 (by decide) ?_
          refine k_iast (ws2 := [(h, .inr (9, [.int v_h_thrown, .ref h_now, .ref h_aside, .int v_h_kept, .ref h_books, .ref h_tide, .ref h_rain, .ref h_rule, .int v_h_counted, .ref h_counts, .ref h_begins, .ref h_best, .int v_h_bestWorth, .int v_h_bestPitch, .int v_h_bestBits, .int v_h_leastHour, .int v_h_leastSet, .int v_h_shut, .ref h_planks])), (h_now, .inl (cI, 169, .inl (upd (upd (upd c_h_now_162 0 ((c_h_now_162 0) + 1)) 3 0) 4 0))), (h_rain, .inl (cI, 96, .inl f_h_rain)), (h_rule, .inl (cI, 8, .inl f_h_rule)), (h_tide, .inl (cI, 96, .inl f_h_tide))]) (k := 4) hx hb hK hP hD hS 1 0 rfl rfl (by unfold vp_in; decide) (by decide) rfl dX9_pass_479 (fun H locs hP hD hS => ?_)
          exact hRet _ hf _ _ _ _ hP hD hS dX9_pass_480
        refine (k_lp_ind (fun sx161 => ∀ (H : Heap) (locs : List Loc) (ls : Array Slot), va_P D vwCl [(h, .inr (9, [.int v_h_thrown, .ref h_now, .ref h_aside, .int v_h_kept, .ref h_books, .ref h_tide, .ref h_rain, .ref h_rule, .int v_h_counted, .ref h_counts, .ref h_begins, .ref h_best, .int v_h_bestWorth, .int v_h_bestPitch, .int v_h_bestBits, .int v_h_leastHour, .int v_h_leastSet, .int v_h_shut, .ref h_planks])), (h_now, .inl (cI, 169, .inl sx161)), (h_rain, .inl (cI, 96, .inl f_h_rain)), (h_rule, .inl (cI, 8, .inl f_h_rule)), (h_tide, .inl (cI, 96, .inl f_h_tide))] H → va_D A [(h, .inr (9, [.int v_h_thrown, .ref h_now, .ref h_aside, .int v_h_kept, .ref h_books, .ref h_tide, .ref h_rain, .ref h_rule, .int v_h_counted, .ref h_counts, .ref h_begins, .ref h_best, .int v_h_bestWorth, .int v_h_bestPitch, .int v_h_bestBits, .int v_h_leastHour, .int v_h_leastSet, .int v_h_shut, .ref h_planks])), (h_now, .inl (cI, 169, .inl sx161)), (h_rain, .inl (cI, 96, .inl f_h_rain)), (h_rule, .inl (cI, 8, .inl f_h_rule)), (h_tide, .inl (cI, 96, .inl f_h_tide))] → va_S A s.heap H locs → lv_has ls 6 [(2, .int r1), (0, .ref h)] → W p l e rm_X9_pass s m args below meth c H locs 0 0 Q (F0 m 434 ls [])) (fun sx161 X161 hX161 hin161 hout161 => ?_) _ _ hlp161) _ _ _ hP hD hS (lv_sub hl [0, 1] rfl)
        obtain ⟨c_h_now_163, rfl⟩ : ∃ z, z = sx161 := ⟨_, rfl⟩
        intro H locs ls hP hD hS hl
        replace hP : va_P D vwCl [(h, .inr (9, [.int v_h_thrown, .ref h_now, .ref h_aside, .int v_h_kept, .ref h_books, .ref h_tide, .ref h_rain, .ref h_rule, .int v_h_counted, .ref h_counts, .ref h_begins, .ref h_best, .int v_h_bestWorth, .int v_h_bestPitch, .int v_h_bestBits, .int v_h_leastHour, .int v_h_leastSet, .int v_h_shut, .ref h_planks])), (h_now, .inl (cI, 169, .inl c_h_now_163)), (h_rain, .inl (cI, 96, .inl f_h_rain)), (h_rule, .inl (cI, 8, .inl f_h_rule)), (h_tide, .inl (cI, 96, .inl f_h_tide))] H := hP
        replace hD : va_D A [(h, .inr (9, [.int v_h_thrown, .ref h_now, .ref h_aside, .int v_h_kept, .ref h_books, .ref h_tide, .ref h_rain, .ref h_rule, .int v_h_counted, .ref h_counts, .ref h_begins, .ref h_best, .int v_h_bestWorth, .int v_h_bestPitch, .int v_h_bestBits, .int v_h_leastHour, .int v_h_leastSet, .int v_h_shut, .ref h_planks])), (h_now, .inl (cI, 169, .inl c_h_now_163)), (h_rain, .inl (cI, 96, .inl f_h_rain)), (h_rule, .inl (cI, 8, .inl f_h_rule)), (h_tide, .inl (cI, 96, .inl f_h_tide))] := hD
        replace hl : lv_has ls 6 [(2, .int r1), (0, .ref h)] := hl
        replace hX161 : lb_X9_pass_434 f_h_rule r1 c_h_now_163 = some X161 := hX161
        unfold lb_X9_pass_434 at hX161
        refine lv_aload_n hx hb dX9_pass_434 rfl (lv_at hl 1 rfl) ?_
        refine lv_aload_n hx hb dX9_pass_435 rfl (lv_at hl 1 rfl) ?_
        refine k_get (C := RX9) (T := TX9) (N := 19) hx hb hts inX9 hown hK hP 0 rfl rfl 1 (by decide) rfl wl1 rfl dX9_pass_436 ?_
        refine lv_iconst (v := 1) hx hb dX9_pass_439 (by decide) ?_
        refine k_iald (k := 1) hx hb hK hP 1 0 rfl rfl (by unfold vp_in; decide) (by decide) dX9_pass_440 ?_
        refine lv_iload_n hx hb dX9_pass_441 rfl (lv_at hl 0 rfl) ?_
        obtain ⟨r164, hc164, hX161⟩ := k_b1_some hX161
        refine k_ViR (q0 := 0) (As := [.int (c_h_now_163 1), .int r1]) (rest := []) S0 (c_X9_holds l D cI cZ cJ cS h h_now h_aside h_books h_tide h_rain h_rule h_counts h_begins h_best h_planks v_h_thrown v_h_kept v_h_counted v_h_bestWorth v_h_bestPitch v_h_bestBits v_h_leastHour v_h_leastSet v_h_shut c_h_now_163 f_h_rule (c_h_now_163 1) r1 r164 hc164) (cwV 2 hts gX9_pass_X9_holds rfl rfl rfl hdV_X9_holds ⟨Nat.le_of_ble_eq_true rfl, Nat.le_of_ble_eq_true rfl⟩) hK hP hD hS hA hN [0, 1, 3] rfl (by decide) rfl rfl rfl rfl hl.1 rfl (Nat.le_of_ble_eq_true rfl) dX9_pass_442 (fun H locs hP hS => ?_)
        refine lv_if_ne (tgt := 456) hx hb dX9_pass_445 (by decide) (fun c165 => ?_) (fun c165 => ?_)
        · replace hX161 := k_neg hX161 c165
          exact hE161 _ (hout161 _ (Option.some.inj hX161).symm).symm _ _ _ hP hD hS (lv_sub hl [1] rfl)
        · replace hX161 := k_pos hX161 c165
          refine lv_aload_n hx hb dX9_pass_448 rfl (lv_at hl 1 rfl) ?_
          refine lv_iload_n hx hb dX9_pass_449 rfl (lv_at hl 0 rfl) ?_
          obtain ⟨w_h_now_166, hc166, hX161⟩ := k_b1_some hX161
          refine k_Vv (ws2 := [(h, .inr (9, [.int v_h_thrown, .ref h_now, .ref h_aside, .int v_h_kept, .ref h_books, .ref h_tide, .ref h_rain, .ref h_rule, .int v_h_counted, .ref h_counts, .ref h_begins, .ref h_best, .int v_h_bestWorth, .int v_h_bestPitch, .int v_h_bestBits, .int v_h_leastHour, .int v_h_leastSet, .int v_h_shut, .ref h_planks])), (h_now, .inl (cI, 169, .inl w_h_now_166)), (h_rain, .inl (cI, 96, .inl f_h_rain)), (h_rule, .inl (cI, 8, .inl f_h_rule)), (h_tide, .inl (cI, 96, .inl f_h_tide))]) (q0 := 0) (As := [.int r1]) (rest := []) S0 (c_X9_part l D cI cZ cJ cS h h_now h_aside h_books h_tide h_rain h_rule h_counts h_begins h_best h_planks v_h_thrown v_h_kept v_h_counted v_h_bestWorth v_h_bestPitch v_h_bestBits v_h_leastHour v_h_leastSet v_h_shut c_h_now_163 f_h_rule r1 w_h_now_166 hc166) (cwV 1 hts gX9_pass_X9_part rfl rfl rfl hdV_X9_part ⟨Nat.le_of_ble_eq_true rfl, Nat.le_of_ble_eq_true rfl⟩) hK hP hD hS hA hN [0, 1, 3] rfl (by decide) rfl rfl rfl rfl hl.1 rfl (Nat.le_of_ble_eq_true rfl) rfl rfl rfl dX9_pass_450 (fun H locs hP hD hS => ?_)
          refine lv_goto (tgt := 434) hx hb dX9_pass_453 (by decide) ?_
          exact hin161 w_h_now_166 (Option.some.inj hX161).symm _ _ _ hP hD hS (lv_sub hl [0, 1] rfl)
      refine lv_aload_n hx hb dX9_pass_393 rfl (lv_at hl 2 rfl) ?_
      refine k_get (C := RX9) (T := TX9) (N := 19) hx hb hts inX9 hown hK hP 0 rfl rfl 1 (by decide) rfl wl1 rfl dX9_pass_394 ?_
      refine lv_iconst (v := 2) hx hb dX9_pass_397 (by decide) ?_
      refine lv_dup2_11 hx hb dX9_pass_398 rfl rfl ?_
      refine k_iald (k := 2) hx hb hK hP 1 0 rfl rfl (by unfold vp_in; decide) (by decide) dX9_pass_399 ?_
      refine lv_iload hx hb dX9_pass_400 (lv_at hl 0 rfl) ?_
      refine lv_if_le (tgt := 410) hx hb dX9_pass_402 (by decide) (fun c167 => ?_) (fun c167 => ?_)
      · replace hf := k_pos hf c167
        refine lv_aload_n hx hb dX9_pass_410 rfl (lv_at hl 2 rfl) ?_
        refine k_get (C := RX9) (T := TX9) (N := 19) hx hb hts inX9 hown hK hP 0 rfl rfl 1 (by decide) rfl wl1 rfl dX9_pass_411 ?_
        refine lv_iconst (v := 2) hx hb dX9_pass_414 (by decide) ?_
        refine k_iald (k := 2) hx hb hK hP 1 0 rfl rfl (by unfold vp_in; decide) (by decide) dX9_pass_415 ?_
        refine lv_iconst (v := 5) hx hb dX9_pass_416 (by decide) ?_
        refine lv_icmp_ge (tgt := 430) hx hb dX9_pass_417 (by decide) (fun c168 => ?_) (fun c168 => ?_)
        · replace hf := k_pos hf c168
          refine lv_bipush (v := (-5)) hx hb dX9_pass_430 (by decide) ?_
          exact hJ153 _ hf _ _ _ hP hD hS (lv_sub hl [1, 2] rfl)
        · replace hf := k_neg hf c168
          refine lv_aload_n hx hb dX9_pass_420 rfl (lv_at hl 2 rfl) ?_
          refine k_get (C := RX9) (T := TX9) (N := 19) hx hb hts inX9 hown hK hP 0 rfl rfl 1 (by decide) rfl wl1 rfl dX9_pass_421 ?_
          refine lv_iconst (v := 2) hx hb dX9_pass_424 (by decide) ?_
          refine k_iald (k := 2) hx hb hK hP 1 0 rfl rfl (by unfold vp_in; decide) (by decide) dX9_pass_425 ?_
          refine lv_ineg hx hb dX9_pass_426 ?_
          refine lv_goto (tgt := 432) hx hb dX9_pass_427 (by decide) ?_
          exact hJ153 _ hf _ _ _ hP hD hS (lv_sub hl [1, 2] rfl)
      · replace hf := k_neg hf c167
        refine lv_iload hx hb dX9_pass_405 (lv_at hl 0 rfl) ?_
        refine lv_goto (tgt := 432) hx hb dX9_pass_407 (by decide) ?_
        exact hJ153 _ hf _ _ _ hP hD hS (lv_sub hl [1, 2] rfl)
    refine (k_lp_ind (fun sx148 => ∀ (H : Heap) (locs : List Loc) (ls : Array Slot), va_P D vwCl [(h, .inr (9, [.int v_h_thrown, .ref h_now, .ref h_aside, .int v_h_kept, .ref h_books, .ref h_tide, .ref h_rain, .ref h_rule, .int v_h_counted, .ref h_counts, .ref h_begins, .ref h_best, .int v_h_bestWorth, .int v_h_bestPitch, .int v_h_bestBits, .int v_h_leastHour, .int v_h_leastSet, .int v_h_shut, .ref h_planks])), (h_now, .inl (cI, 169, .inl (upd c_h_now_135 7 ((c_h_now_135 7) + ((f_h_rule 3) - x3_134))))), (h_rain, .inl (cI, 96, .inl f_h_rain)), (h_rule, .inl (cI, 8, .inl f_h_rule)), (h_tide, .inl (cI, 96, .inl f_h_tide))] H → va_D A [(h, .inr (9, [.int v_h_thrown, .ref h_now, .ref h_aside, .int v_h_kept, .ref h_books, .ref h_tide, .ref h_rain, .ref h_rule, .int v_h_counted, .ref h_counts, .ref h_begins, .ref h_best, .int v_h_bestWorth, .int v_h_bestPitch, .int v_h_bestBits, .int v_h_leastHour, .int v_h_leastSet, .int v_h_shut, .ref h_planks])), (h_now, .inl (cI, 169, .inl (upd c_h_now_135 7 ((c_h_now_135 7) + ((f_h_rule 3) - x3_134))))), (h_rain, .inl (cI, 96, .inl f_h_rain)), (h_rule, .inl (cI, 8, .inl f_h_rule)), (h_tide, .inl (cI, 96, .inl f_h_tide))] → va_S A s.heap H locs → lv_has ls 6 [(5, .int sx148.2), (4, .int sx148.1), (2, .int r1), (0, .ref h)] → W p l e rm_X9_pass s m args below meth c H locs 0 0 Q (F0 m 334 ls [])) (fun sx148 X148 hX148 hin148 hout148 => ?_) _ _ hlp148) _ _ _ hP hD hS (lv_sub hl [0, 1, 3, 4] rfl)
    obtain ⟨x4_169, x5_170⟩ := sx148
    intro H locs ls hP hD hS hl
    replace hP : va_P D vwCl [(h, .inr (9, [.int v_h_thrown, .ref h_now, .ref h_aside, .int v_h_kept, .ref h_books, .ref h_tide, .ref h_rain, .ref h_rule, .int v_h_counted, .ref h_counts, .ref h_begins, .ref h_best, .int v_h_bestWorth, .int v_h_bestPitch, .int v_h_bestBits, .int v_h_leastHour, .int v_h_leastSet, .int v_h_shut, .ref h_planks])), (h_now, .inl (cI, 169, .inl (upd c_h_now_135 7 ((c_h_now_135 7) + ((f_h_rule 3) - x3_134))))), (h_rain, .inl (cI, 96, .inl f_h_rain)), (h_rule, .inl (cI, 8, .inl f_h_rule)), (h_tide, .inl (cI, 96, .inl f_h_tide))] H := hP
    replace hD : va_D A [(h, .inr (9, [.int v_h_thrown, .ref h_now, .ref h_aside, .int v_h_kept, .ref h_books, .ref h_tide, .ref h_rain, .ref h_rule, .int v_h_counted, .ref h_counts, .ref h_begins, .ref h_best, .int v_h_bestWorth, .int v_h_bestPitch, .int v_h_bestBits, .int v_h_leastHour, .int v_h_leastSet, .int v_h_shut, .ref h_planks])), (h_now, .inl (cI, 169, .inl (upd c_h_now_135 7 ((c_h_now_135 7) + ((f_h_rule 3) - x3_134))))), (h_rain, .inl (cI, 96, .inl f_h_rain)), (h_rule, .inl (cI, 8, .inl f_h_rule)), (h_tide, .inl (cI, 96, .inl f_h_tide))] := hD
    replace hl : lv_has ls 6 [(5, .int x5_170), (4, .int x4_169), (2, .int r1), (0, .ref h)] := hl
    replace hX148 : lb_X9_pass_334 c_h_now_135 f_h_rule x3_134 f_h_tide x4_169 x5_170 = some X148 := hX148
    unfold lb_X9_pass_334 at hX148
    refine lv_iload hx hb dX9_pass_334 (lv_at hl 0 rfl) ?_
    refine lv_aload_n hx hb dX9_pass_336 rfl (lv_at hl 3 rfl) ?_
    refine k_get (C := RX9) (T := TX9) (N := 19) hx hb hts inX9 hown hK hP 0 rfl rfl 1 (by decide) rfl wl1 rfl dX9_pass_337 ?_
    refine lv_bipush (v := 12) hx hb dX9_pass_340 (by decide) ?_
    refine k_iald (k := 12) hx hb hK hP 1 0 rfl rfl (by unfold vp_in; decide) (by decide) dX9_pass_342 ?_
    refine lv_icmp_ge (tgt := 393) hx hb dX9_pass_343 (by decide) (fun c171 => ?_) (fun c171 => ?_)
    · replace hX148 := k_pos hX148 c171
      exact hE148 _ (hout148 _ (Option.some.inj hX148).symm).symm _ _ _ hP hD hS (lv_sub hl [1, 2, 3] rfl)
    · replace hX148 := k_neg hX148 c171
      refine lv_iload hx hb dX9_pass_346 (lv_at hl 1 rfl) ?_
      refine lv_aload_n hx hb dX9_pass_348 rfl (lv_at hl 3 rfl) ?_
      refine k_get (C := RX9) (T := TX9) (N := 19) hx hb hts inX9 hown hK hP 0 rfl rfl 1 (by decide) rfl wl1 rfl dX9_pass_349 ?_
      refine lv_sipush (v := 145) hx hb dX9_pass_352 (by decide) ?_
      refine lv_iload hx hb dX9_pass_355 (lv_at hl 0 rfl) ?_
      refine lv_iadd hx hb dX9_pass_357 ?_
      obtain ⟨hi172, hX148⟩ := k_ix_some hX148
      refine k_iald (k := (145 + x5_170).toNatClampNeg) hx hb hK hP 1 0 rfl rfl hi172 rfl dX9_pass_358 ?_
      refine lv_iconst (v := 1) hx hb dX9_pass_359 (by decide) ?_
      refine lv_icmp_ne (tgt := 383) hx hb dX9_pass_360 (by decide) (fun c173 => ?_) (fun c173 => ?_)
      · replace hX148 := k_neg hX148 c173
        refine lv_iconst (v := 0) hx hb dX9_pass_383 (by decide) ?_
        refine lv_iadd hx hb dX9_pass_384 ?_
        refine lv_istore (lv' := [(4, .int (x4_169 + 0)), (5, .int x5_170), (2, .int r1), (0, .ref h)]) hx hb dX9_pass_385 hl (by decide) rfl (fun ls hl => ?_)
        refine lv_iinc (v := x5_170 + 1) (lv' := [(5, .int (x5_170 + 1)), (4, .int (x4_169 + 0)), (2, .int r1), (0, .ref h)]) hx hb dX9_pass_387 hl (k := 1) rfl rfl (by decide) rfl (fun ls hl => ?_)
        refine lv_goto (tgt := 334) hx hb dX9_pass_390 (by decide) ?_
        exact hin148 (x4_169 + 0, x5_170 + 1) (Option.some.inj hX148).symm _ _ _ hP hD hS (lv_sub hl [0, 1, 2, 3] rfl)
      · replace hX148 := k_pos hX148 c173
        refine lv_aload_n hx hb dX9_pass_363 rfl (lv_at hl 3 rfl) ?_
        refine lv_iload hx hb dX9_pass_364 (lv_at hl 0 rfl) ?_
        refine lv_aload_n hx hb dX9_pass_366 rfl (lv_at hl 3 rfl) ?_
        refine k_get (C := RX9) (T := TX9) (N := 19) hx hb hts inX9 hown hK hP 0 rfl rfl 1 (by decide) rfl wl1 rfl dX9_pass_367 ?_
        refine lv_iconst (v := 0) hx hb dX9_pass_370 (by decide) ?_
        refine k_iald (k := 0) hx hb hK hP 1 0 rfl rfl (by unfold vp_in; decide) (by decide) dX9_pass_371 ?_
        obtain ⟨r174, hc174, hX148⟩ := k_b1_some hX148
        refine k_ViR (q0 := 0) (As := [.int x5_170, .int ((upd c_h_now_135 7 ((c_h_now_135 7) + ((f_h_rule 3) - x3_134))) 0)]) (rest := [.int x4_169]) S0 (c_X9_isBare l D cI cZ cJ cS h h_now h_aside h_books h_tide h_rain h_rule h_counts h_begins h_best h_planks v_h_thrown v_h_kept v_h_counted v_h_bestWorth v_h_bestPitch v_h_bestBits v_h_leastHour v_h_leastSet v_h_shut (upd c_h_now_135 7 ((c_h_now_135 7) + ((f_h_rule 3) - x3_134))) f_h_tide x5_170 ((upd c_h_now_135 7 ((c_h_now_135 7) + ((f_h_rule 3) - x3_134))) 0) r174 hc174) (cwV 2 hts gX9_pass_X9_isBare rfl rfl rfl hdV_X9_isBare ⟨Nat.le_of_ble_eq_true rfl, Nat.le_of_ble_eq_true rfl⟩) hK hP hD hS hA hN [0, 1, 4] rfl (by decide) rfl rfl rfl rfl hl.1 rfl (Nat.le_of_ble_eq_true rfl) dX9_pass_372 (fun H locs hP hS => ?_)
        refine lv_if_ne (tgt := 383) hx hb dX9_pass_375 (by decide) (fun c175 => ?_) (fun c175 => ?_)
        · replace hX148 := k_neg hX148 c175
          refine lv_iconst (v := 0) hx hb dX9_pass_383 (by decide) ?_
          refine lv_iadd hx hb dX9_pass_384 ?_
          refine lv_istore (lv' := [(4, .int (x4_169 + 0)), (5, .int x5_170), (2, .int r1), (0, .ref h)]) hx hb dX9_pass_385 hl (by decide) rfl (fun ls hl => ?_)
          refine lv_iinc (v := x5_170 + 1) (lv' := [(5, .int (x5_170 + 1)), (4, .int (x4_169 + 0)), (2, .int r1), (0, .ref h)]) hx hb dX9_pass_387 hl (k := 1) rfl rfl (by decide) rfl (fun ls hl => ?_)
          refine lv_goto (tgt := 334) hx hb dX9_pass_390 (by decide) ?_
          exact hin148 (x4_169 + 0, x5_170 + 1) (Option.some.inj hX148).symm _ _ _ hP hD hS (lv_sub hl [0, 1, 2, 3] rfl)
        · replace hX148 := k_pos hX148 c175
          refine lv_bipush (v := 10) hx hb dX9_pass_378 (by decide) ?_
          refine lv_goto (tgt := 384) hx hb dX9_pass_380 (by decide) ?_
          refine lv_iadd hx hb dX9_pass_384 ?_
          refine lv_istore (lv' := [(4, .int (x4_169 + 10)), (5, .int x5_170), (2, .int r1), (0, .ref h)]) hx hb dX9_pass_385 hl (by decide) rfl (fun ls hl => ?_)
          refine lv_iinc (v := x5_170 + 1) (lv' := [(5, .int (x5_170 + 1)), (4, .int (x4_169 + 10)), (2, .int r1), (0, .ref h)]) hx hb dX9_pass_387 hl (k := 1) rfl rfl (by decide) rfl (fun ls hl => ?_)
          refine lv_goto (tgt := 334) hx hb dX9_pass_390 (by decide) ?_
          exact hin148 (x4_169 + 10, x5_170 + 1) (Option.some.inj hX148).symm _ _ _ hP hD hS (lv_sub hl [0, 1, 2, 3] rfl)
  refine (k_lp_ind (fun sx133 => ∀ (H : Heap) (locs : List Loc) (ls : Array Slot), va_P D vwCl [(h, .inr (9, [.int v_h_thrown, .ref h_now, .ref h_aside, .int v_h_kept, .ref h_books, .ref h_tide, .ref h_rain, .ref h_rule, .int v_h_counted, .ref h_counts, .ref h_begins, .ref h_best, .int v_h_bestWorth, .int v_h_bestPitch, .int v_h_bestBits, .int v_h_leastHour, .int v_h_leastSet, .int v_h_shut, .ref h_planks])), (h_now, .inl (cI, 169, .inl sx133.2.2)), (h_rain, .inl (cI, 96, .inl f_h_rain)), (h_rule, .inl (cI, 8, .inl f_h_rule)), (h_tide, .inl (cI, 96, .inl f_h_tide))] H → va_D A [(h, .inr (9, [.int v_h_thrown, .ref h_now, .ref h_aside, .int v_h_kept, .ref h_books, .ref h_tide, .ref h_rain, .ref h_rule, .int v_h_counted, .ref h_counts, .ref h_begins, .ref h_best, .int v_h_bestWorth, .int v_h_bestPitch, .int v_h_bestBits, .int v_h_leastHour, .int v_h_leastSet, .int v_h_shut, .ref h_planks])), (h_now, .inl (cI, 169, .inl sx133.2.2)), (h_rain, .inl (cI, 96, .inl f_h_rain)), (h_rule, .inl (cI, 8, .inl f_h_rule)), (h_tide, .inl (cI, 96, .inl f_h_tide))] → va_S A s.heap H locs → lv_has ls 6 [(4, .int sx133.2.1), (3, .int sx133.1), (2, .int r1), (0, .ref h), (1, .int a1)] → W p l e rm_X9_pass s m args below meth c H locs 0 0 Q (F0 m 21 ls [])) (fun sx133 X133 hX133 hin133 hout133 => ?_) _ _ hlp133) _ _ _ hP hD hS (lv_sub hl [0, 1, 2, 3, 4] rfl)
  obtain ⟨x3_176, x4_177, c_h_now_178⟩ := sx133
  intro H locs ls hP hD hS hl
  replace hP : va_P D vwCl [(h, .inr (9, [.int v_h_thrown, .ref h_now, .ref h_aside, .int v_h_kept, .ref h_books, .ref h_tide, .ref h_rain, .ref h_rule, .int v_h_counted, .ref h_counts, .ref h_begins, .ref h_best, .int v_h_bestWorth, .int v_h_bestPitch, .int v_h_bestBits, .int v_h_leastHour, .int v_h_leastSet, .int v_h_shut, .ref h_planks])), (h_now, .inl (cI, 169, .inl c_h_now_178)), (h_rain, .inl (cI, 96, .inl f_h_rain)), (h_rule, .inl (cI, 8, .inl f_h_rule)), (h_tide, .inl (cI, 96, .inl f_h_tide))] H := hP
  replace hD : va_D A [(h, .inr (9, [.int v_h_thrown, .ref h_now, .ref h_aside, .int v_h_kept, .ref h_books, .ref h_tide, .ref h_rain, .ref h_rule, .int v_h_counted, .ref h_counts, .ref h_begins, .ref h_best, .int v_h_bestWorth, .int v_h_bestPitch, .int v_h_bestBits, .int v_h_leastHour, .int v_h_leastSet, .int v_h_shut, .ref h_planks])), (h_now, .inl (cI, 169, .inl c_h_now_178)), (h_rain, .inl (cI, 96, .inl f_h_rain)), (h_rule, .inl (cI, 8, .inl f_h_rule)), (h_tide, .inl (cI, 96, .inl f_h_tide))] := hD
  replace hl : lv_has ls 6 [(4, .int x4_177), (3, .int x3_176), (2, .int r1), (0, .ref h), (1, .int a1)] := hl
  replace hX133 : lb_X9_pass_21 a1 r1 f_h_tide x3_176 x4_177 c_h_now_178 = some X133 := hX133
  unfold lb_X9_pass_21 at hX133
  refine lv_iload hx hb dX9_pass_21 (lv_at hl 0 rfl) ?_
  refine lv_aload_n hx hb dX9_pass_23 rfl (lv_at hl 3 rfl) ?_
  refine k_get (C := RX9) (T := TX9) (N := 19) hx hb hts inX9 hown hK hP 0 rfl rfl 1 (by decide) rfl wl1 rfl dX9_pass_24 ?_
  refine lv_bipush (v := 12) hx hb dX9_pass_27 (by decide) ?_
  refine k_iald (k := 12) hx hb hK hP 1 0 rfl rfl (by unfold vp_in; decide) (by decide) dX9_pass_29 ?_
  refine lv_icmp_ge (tgt := 310) hx hb dX9_pass_30 (by decide) (fun c179 => ?_) (fun c179 => ?_)
  · replace hX133 := k_pos hX133 c179
    exact hE133 _ _ (hout133 _ (Option.some.inj hX133).symm).symm _ _ _ hP hD hS (lv_sub hl [1, 2, 3] rfl)
  · replace hX133 := k_neg hX133 c179
    refine lv_iload_n hx hb dX9_pass_33 rfl (lv_at hl 4 rfl) ?_
    refine lv_iload hx hb dX9_pass_34 (lv_at hl 0 rfl) ?_
    refine lv_ishr hx hb dX9_pass_36 ?_
    refine lv_iconst (v := 1) hx hb dX9_pass_37 (by decide) ?_
    refine lv_iand hx hb dX9_pass_38 ?_
    refine lv_iconst (v := 1) hx hb dX9_pass_39 (by decide) ?_
    refine lv_icmp_ne (tgt := 95) hx hb dX9_pass_40 (by decide) (fun c180 => ?_) (fun c180 => ?_)
    · replace hX133 := k_neg hX133 c180
      refine lv_iconst (v := 0) hx hb dX9_pass_95 (by decide) ?_
      refine lv_istore (lv' := [(5, .int 0), (4, .int x4_177), (3, .int x3_176), (2, .int r1), (0, .ref h), (1, .int a1)]) hx hb dX9_pass_96 hl (by decide) rfl (fun ls hl => ?_)
      refine lv_iload hx hb dX9_pass_98 (lv_at hl 0 rfl) ?_
      refine lv_if_eq (tgt := 145) hx hb dX9_pass_100 (by decide) (fun _ => ?_) (fun c => absurd (by decide) c)
      refine lv_iload hx hb dX9_pass_145 (lv_at hl 0 rfl) ?_
      refine lv_if_eq (tgt := 304) hx hb dX9_pass_147 (by decide) (fun _ => ?_) (fun c => absurd (by decide) c)
      refine lv_iinc (v := x4_177 + 1) (lv' := [(4, .int (x4_177 + 1)), (5, .int 0), (3, .int x3_176), (2, .int r1), (0, .ref h), (1, .int a1)]) hx hb dX9_pass_304 hl (k := 1) rfl rfl (by decide) rfl (fun ls hl => ?_)
      refine lv_goto (tgt := 21) hx hb dX9_pass_307 (by decide) ?_
      exact hin133 (x3_176, x4_177 + 1, c_h_now_178) (Option.some.inj hX133).symm _ _ _ hP hD hS (lv_sub hl [0, 2, 3, 4, 5] rfl)
    · replace hX133 := k_pos hX133 c180
      refine lv_iload_n hx hb dX9_pass_43 rfl (lv_at hl 2 rfl) ?_
      refine lv_if_ne (tgt := 95) hx hb dX9_pass_44 (by decide) (fun c181 => ?_) (fun c181 => ?_)
      · replace hX133 := k_neg hX133 c181
        refine lv_iconst (v := 0) hx hb dX9_pass_95 (by decide) ?_
        refine lv_istore (lv' := [(5, .int 0), (4, .int x4_177), (3, .int x3_176), (2, .int r1), (0, .ref h), (1, .int a1)]) hx hb dX9_pass_96 hl (by decide) rfl (fun ls hl => ?_)
        refine lv_iload hx hb dX9_pass_98 (lv_at hl 0 rfl) ?_
        refine lv_if_eq (tgt := 145) hx hb dX9_pass_100 (by decide) (fun _ => ?_) (fun c => absurd (by decide) c)
        refine lv_iload hx hb dX9_pass_145 (lv_at hl 0 rfl) ?_
        refine lv_if_eq (tgt := 304) hx hb dX9_pass_147 (by decide) (fun _ => ?_) (fun c => absurd (by decide) c)
        refine lv_iinc (v := x4_177 + 1) (lv' := [(4, .int (x4_177 + 1)), (5, .int 0), (3, .int x3_176), (2, .int r1), (0, .ref h), (1, .int a1)]) hx hb dX9_pass_304 hl (k := 1) rfl rfl (by decide) rfl (fun ls hl => ?_)
        refine lv_goto (tgt := 21) hx hb dX9_pass_307 (by decide) ?_
        exact hin133 (x3_176, x4_177 + 1, c_h_now_178) (Option.some.inj hX133).symm _ _ _ hP hD hS (lv_sub hl [0, 2, 3, 4, 5] rfl)
      · replace hX133 := k_pos hX133 c181
        refine lv_aload_n hx hb dX9_pass_47 rfl (lv_at hl 3 rfl) ?_
        refine lv_iload hx hb dX9_pass_48 (lv_at hl 0 rfl) ?_
        refine lv_aload_n hx hb dX9_pass_50 rfl (lv_at hl 3 rfl) ?_
        refine k_get (C := RX9) (T := TX9) (N := 19) hx hb hts inX9 hown hK hP 0 rfl rfl 1 (by decide) rfl wl1 rfl dX9_pass_51 ?_
        refine lv_iconst (v := 0) hx hb dX9_pass_54 (by decide) ?_
        refine k_iald (k := 0) hx hb hK hP 1 0 rfl rfl (by unfold vp_in; decide) (by decide) dX9_pass_55 ?_
        obtain ⟨r182, hc182, hX133⟩ := k_b1_some hX133
        refine k_ViR (q0 := 0) (As := [.int x4_177, .int (c_h_now_178 0)]) (rest := []) S0 (c_X9_isBare l D cI cZ cJ cS h h_now h_aside h_books h_tide h_rain h_rule h_counts h_begins h_best h_planks v_h_thrown v_h_kept v_h_counted v_h_bestWorth v_h_bestPitch v_h_bestBits v_h_leastHour v_h_leastSet v_h_shut c_h_now_178 f_h_tide x4_177 (c_h_now_178 0) r182 hc182) (cwV 2 hts gX9_pass_X9_isBare rfl rfl rfl hdV_X9_isBare ⟨Nat.le_of_ble_eq_true rfl, Nat.le_of_ble_eq_true rfl⟩) hK hP hD hS hA hN [0, 1, 4] rfl (by decide) rfl rfl rfl rfl hl.1 rfl (Nat.le_of_ble_eq_true rfl) dX9_pass_56 (fun H locs hP hS => ?_)
        refine lv_if_eq (tgt := 95) hx hb dX9_pass_59 (by decide) (fun c183 => ?_) (fun c183 => ?_)
        · replace hX133 := k_pos hX133 c183
          refine lv_iconst (v := 0) hx hb dX9_pass_95 (by decide) ?_
          refine lv_istore (lv' := [(5, .int 0), (4, .int x4_177), (3, .int x3_176), (2, .int r1), (0, .ref h), (1, .int a1)]) hx hb dX9_pass_96 hl (by decide) rfl (fun ls hl => ?_)
          refine lv_iload hx hb dX9_pass_98 (lv_at hl 0 rfl) ?_
          refine lv_if_eq (tgt := 145) hx hb dX9_pass_100 (by decide) (fun _ => ?_) (fun c => absurd (by decide) c)
          refine lv_iload hx hb dX9_pass_145 (lv_at hl 0 rfl) ?_
          refine lv_if_eq (tgt := 304) hx hb dX9_pass_147 (by decide) (fun _ => ?_) (fun c => absurd (by decide) c)
          refine lv_iinc (v := x4_177 + 1) (lv' := [(4, .int (x4_177 + 1)), (5, .int 0), (3, .int x3_176), (2, .int r1), (0, .ref h), (1, .int a1)]) hx hb dX9_pass_304 hl (k := 1) rfl rfl (by decide) rfl (fun ls hl => ?_)
          refine lv_goto (tgt := 21) hx hb dX9_pass_307 (by decide) ?_
          exact hin133 (x3_176, x4_177 + 1, c_h_now_178) (Option.some.inj hX133).symm _ _ _ hP hD hS (lv_sub hl [0, 2, 3, 4, 5] rfl)
        · replace hX133 := k_neg hX133 c183
          refine lv_aload_n hx hb dX9_pass_62 rfl (lv_at hl 3 rfl) ?_
          refine k_get (C := RX9) (T := TX9) (N := 19) hx hb hts inX9 hown hK hP 0 rfl rfl 1 (by decide) rfl wl1 rfl dX9_pass_63 ?_
          refine lv_bipush (v := 97) hx hb dX9_pass_66 (by decide) ?_
          refine lv_iload hx hb dX9_pass_68 (lv_at hl 0 rfl) ?_
          refine lv_iadd hx hb dX9_pass_70 ?_
          obtain ⟨hi184, hX133⟩ := k_ix_some hX133
          refine k_iald (k := (97 + x4_177).toNatClampNeg) hx hb hK hP 1 0 rfl rfl hi184 rfl dX9_pass_71 ?_
          refine lv_iload_n hx hb dX9_pass_72 rfl (lv_at hl 1 rfl) ?_
          refine lv_icmp_gt (tgt := 95) hx hb dX9_pass_73 (by decide) (fun c185 => ?_) (fun c185 => ?_)
          · replace hX133 := k_pos hX133 c185
            refine lv_iconst (v := 0) hx hb dX9_pass_95 (by decide) ?_
            refine lv_istore (lv' := [(5, .int 0), (4, .int x4_177), (3, .int x3_176), (2, .int r1), (0, .ref h), (1, .int a1)]) hx hb dX9_pass_96 hl (by decide) rfl (fun ls hl => ?_)
            refine lv_iload hx hb dX9_pass_98 (lv_at hl 0 rfl) ?_
            refine lv_if_eq (tgt := 145) hx hb dX9_pass_100 (by decide) (fun _ => ?_) (fun c => absurd (by decide) c)
            refine lv_iload hx hb dX9_pass_145 (lv_at hl 0 rfl) ?_
            refine lv_if_eq (tgt := 304) hx hb dX9_pass_147 (by decide) (fun _ => ?_) (fun c => absurd (by decide) c)
            refine lv_iinc (v := x4_177 + 1) (lv' := [(4, .int (x4_177 + 1)), (5, .int 0), (3, .int x3_176), (2, .int r1), (0, .ref h), (1, .int a1)]) hx hb dX9_pass_304 hl (k := 1) rfl rfl (by decide) rfl (fun ls hl => ?_)
            refine lv_goto (tgt := 21) hx hb dX9_pass_307 (by decide) ?_
            exact hin133 (x3_176, x4_177 + 1, c_h_now_178) (Option.some.inj hX133).symm _ _ _ hP hD hS (lv_sub hl [0, 2, 3, 4, 5] rfl)
          · replace hX133 := k_neg hX133 c185
            refine lv_aload_n hx hb dX9_pass_76 rfl (lv_at hl 3 rfl) ?_
            refine k_get (C := RX9) (T := TX9) (N := 19) hx hb hts inX9 hown hK hP 0 rfl rfl 1 (by decide) rfl wl1 rfl dX9_pass_77 ?_
            refine lv_sipush (v := 145) hx hb dX9_pass_80 (by decide) ?_
            refine lv_iload hx hb dX9_pass_83 (lv_at hl 0 rfl) ?_
            refine lv_iadd hx hb dX9_pass_85 ?_
            obtain ⟨hi186, hX133⟩ := k_ix_some hX133
            refine k_iald (k := (145 + x4_177).toNatClampNeg) hx hb hK hP 1 0 rfl rfl hi186 rfl dX9_pass_86 ?_
            refine lv_iconst (v := 2) hx hb dX9_pass_87 (by decide) ?_
            refine lv_icmp_eq (tgt := 95) hx hb dX9_pass_88 (by decide) (fun c187 => ?_) (fun c187 => ?_)
            · replace hX133 := k_pos hX133 c187
              refine lv_iconst (v := 0) hx hb dX9_pass_95 (by decide) ?_
              refine lv_istore (lv' := [(5, .int 0), (4, .int x4_177), (3, .int x3_176), (2, .int r1), (0, .ref h), (1, .int a1)]) hx hb dX9_pass_96 hl (by decide) rfl (fun ls hl => ?_)
              refine lv_iload hx hb dX9_pass_98 (lv_at hl 0 rfl) ?_
              refine lv_if_eq (tgt := 145) hx hb dX9_pass_100 (by decide) (fun _ => ?_) (fun c => absurd (by decide) c)
              refine lv_iload hx hb dX9_pass_145 (lv_at hl 0 rfl) ?_
              refine lv_if_eq (tgt := 304) hx hb dX9_pass_147 (by decide) (fun _ => ?_) (fun c => absurd (by decide) c)
              refine lv_iinc (v := x4_177 + 1) (lv' := [(4, .int (x4_177 + 1)), (5, .int 0), (3, .int x3_176), (2, .int r1), (0, .ref h), (1, .int a1)]) hx hb dX9_pass_304 hl (k := 1) rfl rfl (by decide) rfl (fun ls hl => ?_)
              refine lv_goto (tgt := 21) hx hb dX9_pass_307 (by decide) ?_
              exact hin133 (x3_176, x4_177 + 1, c_h_now_178) (Option.some.inj hX133).symm _ _ _ hP hD hS (lv_sub hl [0, 2, 3, 4, 5] rfl)
            · replace hX133 := k_neg hX133 c187
              refine lv_iconst (v := 1) hx hb dX9_pass_91 (by decide) ?_
              refine lv_goto (tgt := 96) hx hb dX9_pass_92 (by decide) ?_
              refine lv_istore (lv' := [(5, .int 1), (4, .int x4_177), (3, .int x3_176), (2, .int r1), (0, .ref h), (1, .int a1)]) hx hb dX9_pass_96 hl (by decide) rfl (fun ls hl => ?_)
              refine lv_iload hx hb dX9_pass_98 (lv_at hl 0 rfl) ?_
              refine lv_if_eq (tgt := 145) hx hb dX9_pass_100 (by decide) (fun c => absurd c (by decide)) (fun _ => ?_)
              refine lv_aload_n hx hb dX9_pass_103 rfl (lv_at hl 4 rfl) ?_
              refine k_get (C := RX9) (T := TX9) (N := 19) hx hb hts inX9 hown hK hP 0 rfl rfl 1 (by decide) rfl wl1 rfl dX9_pass_104 ?_
              refine lv_sipush (v := 145) hx hb dX9_pass_107 (by decide) ?_
              refine lv_iload hx hb dX9_pass_110 (lv_at hl 1 rfl) ?_
              refine lv_iadd hx hb dX9_pass_112 ?_
              obtain ⟨hi188, hX133⟩ := k_ix_some hX133
              refine k_iald (k := (145 + x4_177).toNatClampNeg) hx hb hK hP 1 0 rfl rfl hi188 rfl dX9_pass_113 ?_
              refine lv_if_ne (tgt := 145) hx hb dX9_pass_114 (by decide) (fun c189 => ?_) (fun c189 => ?_)
              · replace hX133 := k_neg hX133 c189
                refine lv_iload hx hb dX9_pass_145 (lv_at hl 0 rfl) ?_
                refine lv_if_eq (tgt := 304) hx hb dX9_pass_147 (by decide) (fun c => absurd c (by decide)) (fun _ => ?_)
                refine lv_aload_n hx hb dX9_pass_150 rfl (lv_at hl 4 rfl) ?_
                refine k_get (C := RX9) (T := TX9) (N := 19) hx hb hts inX9 hown hK hP 0 rfl rfl 1 (by decide) rfl wl1 rfl dX9_pass_151 ?_
                refine lv_sipush (v := 157) hx hb dX9_pass_154 (by decide) ?_
                refine lv_iload hx hb dX9_pass_157 (lv_at hl 1 rfl) ?_
                refine lv_iadd hx hb dX9_pass_159 ?_
                obtain ⟨hi190, hX133⟩ := k_ix_some hX133
                refine k_iald (k := (157 + x4_177).toNatClampNeg) hx hb hK hP 1 0 rfl rfl hi190 rfl dX9_pass_160 ?_
                refine lv_if_gt (tgt := 183) hx hb dX9_pass_161 (by decide) (fun c191 => ?_) (fun c191 => ?_)
                · replace hX133 := k_pos hX133 c191
                  have hJ197 : ∀ (c_h_now_196 : Nat → Int32), lj_X9_pass_236 x4_177 x3_176 c_h_now_196 = some X133 → ∀ (H : Heap) (locs : List Loc) (ls : Array Slot), va_P D vwCl [(h, .inr (9, [.int v_h_thrown, .ref h_now, .ref h_aside, .int v_h_kept, .ref h_books, .ref h_tide, .ref h_rain, .ref h_rule, .int v_h_counted, .ref h_counts, .ref h_begins, .ref h_best, .int v_h_bestWorth, .int v_h_bestPitch, .int v_h_bestBits, .int v_h_leastHour, .int v_h_leastSet, .int v_h_shut, .ref h_planks])), (h_now, .inl (cI, 169, .inl c_h_now_196)), (h_rain, .inl (cI, 96, .inl f_h_rain)), (h_rule, .inl (cI, 8, .inl f_h_rule)), (h_tide, .inl (cI, 96, .inl f_h_tide))] H → va_D A [(h, .inr (9, [.int v_h_thrown, .ref h_now, .ref h_aside, .int v_h_kept, .ref h_books, .ref h_tide, .ref h_rain, .ref h_rule, .int v_h_counted, .ref h_counts, .ref h_begins, .ref h_best, .int v_h_bestWorth, .int v_h_bestPitch, .int v_h_bestBits, .int v_h_leastHour, .int v_h_leastSet, .int v_h_shut, .ref h_planks])), (h_now, .inl (cI, 169, .inl c_h_now_196)), (h_rain, .inl (cI, 96, .inl f_h_rain)), (h_rule, .inl (cI, 8, .inl f_h_rule)), (h_tide, .inl (cI, 96, .inl f_h_tide))] → va_S A s.heap H locs → lv_has ls 6 [(4, .int x4_177), (3, .int x3_176), (2, .int r1), (0, .ref h), (1, .int a1)] → W p l e rm_X9_pass s m args below meth c H locs 0 0 Q (F0 m 236 ls []) := by
                    intro c_h_now_196 hX133_j H locs ls hP hD hS hl
                    replace hX133 := hX133_j
                    unfold lj_X9_pass_236 at hX133
                    refine lv_aload_n hx hb dX9_pass_236 rfl (lv_at hl 3 rfl) ?_
                    refine k_get (C := RX9) (T := TX9) (N := 19) hx hb hts inX9 hown hK hP 0 rfl rfl 1 (by decide) rfl wl1 rfl dX9_pass_237 ?_
                    refine lv_sipush (v := 157) hx hb dX9_pass_240 (by decide) ?_
                    refine lv_iload hx hb dX9_pass_243 (lv_at hl 0 rfl) ?_
                    refine lv_iadd hx hb dX9_pass_245 ?_
                    refine lv_dup2_11 hx hb dX9_pass_246 rfl rfl ?_
                    obtain ⟨hi198, hX133⟩ := k_ix_some hX133
                    refine k_iald (k := (157 + x4_177).toNatClampNeg) hx hb hK hP 1 0 rfl rfl hi198 rfl dX9_pass_247 ?_
                    refine lv_iconst (v := 1) hx hb dX9_pass_248 (by decide) ?_
                    refine lv_iadd hx hb dX9_pass_249 ?_
                    obtain ⟨hi199, hX133⟩ := k_ix_some hX133
                    refine k_iast (ws2 := [(h, .inr (9, [.int v_h_thrown, .ref h_now, .ref h_aside, .int v_h_kept, .ref h_books, .ref h_tide, .ref h_rain, .ref h_rule, .int v_h_counted, .ref h_counts, .ref h_begins, .ref h_best, .int v_h_bestWorth, .int v_h_bestPitch, .int v_h_bestBits, .int v_h_leastHour, .int v_h_leastSet, .int v_h_shut, .ref h_planks])), (h_now, .inl (cI, 169, .inl (upd c_h_now_196 (157 + x4_177).toNatClampNeg ((c_h_now_196 (157 + x4_177).toNatClampNeg) + 1)))), (h_rain, .inl (cI, 96, .inl f_h_rain)), (h_rule, .inl (cI, 8, .inl f_h_rule)), (h_tide, .inl (cI, 96, .inl f_h_tide))]) (k := (157 + x4_177).toNatClampNeg) hx hb hK hP hD hS 1 0 rfl rfl hi199 rfl rfl dX9_pass_250 (fun H locs hP hD hS => ?_)
                    have hJ204 : ∀ (t203 : Int32), lj_X9_pass_290 x4_177 x3_176 c_h_now_196 t203 = some X133 → ∀ (H : Heap) (locs : List Loc) (ls : Array Slot), va_P D vwCl [(h, .inr (9, [.int v_h_thrown, .ref h_now, .ref h_aside, .int v_h_kept, .ref h_books, .ref h_tide, .ref h_rain, .ref h_rule, .int v_h_counted, .ref h_counts, .ref h_begins, .ref h_best, .int v_h_bestWorth, .int v_h_bestPitch, .int v_h_bestBits, .int v_h_leastHour, .int v_h_leastSet, .int v_h_shut, .ref h_planks])), (h_now, .inl (cI, 169, .inl (upd c_h_now_196 (157 + x4_177).toNatClampNeg ((c_h_now_196 (157 + x4_177).toNatClampNeg) + 1)))), (h_rain, .inl (cI, 96, .inl f_h_rain)), (h_rule, .inl (cI, 8, .inl f_h_rule)), (h_tide, .inl (cI, 96, .inl f_h_tide))] H → va_D A [(h, .inr (9, [.int v_h_thrown, .ref h_now, .ref h_aside, .int v_h_kept, .ref h_books, .ref h_tide, .ref h_rain, .ref h_rule, .int v_h_counted, .ref h_counts, .ref h_begins, .ref h_best, .int v_h_bestWorth, .int v_h_bestPitch, .int v_h_bestBits, .int v_h_leastHour, .int v_h_leastSet, .int v_h_shut, .ref h_planks])), (h_now, .inl (cI, 169, .inl (upd c_h_now_196 (157 + x4_177).toNatClampNeg ((c_h_now_196 (157 + x4_177).toNatClampNeg) + 1)))), (h_rain, .inl (cI, 96, .inl f_h_rain)), (h_rule, .inl (cI, 8, .inl f_h_rule)), (h_tide, .inl (cI, 96, .inl f_h_tide))] → va_S A s.heap H locs → lv_has ls 6 [(4, .int x4_177), (3, .int x3_176), (2, .int r1), (0, .ref h), (1, .int a1)] → W p l e rm_X9_pass s m args below meth c H locs 0 0 Q (F0 m 290 ls [.int t203, .int (145 + x4_177), .ref h_now]) := by
                      intro t203 hX133_j H locs ls hP hD hS hl
                      replace hX133 := hX133_j
                      unfold lj_X9_pass_290 at hX133
                      obtain ⟨hi205, hX133⟩ := k_ix_some hX133
                      refine k_iast (ws2 := [(h, .inr (9, [.int v_h_thrown, .ref h_now, .ref h_aside, .int v_h_kept, .ref h_books, .ref h_tide, .ref h_rain, .ref h_rule, .int v_h_counted, .ref h_counts, .ref h_begins, .ref h_best, .int v_h_bestWorth, .int v_h_bestPitch, .int v_h_bestBits, .int v_h_leastHour, .int v_h_leastSet, .int v_h_shut, .ref h_planks])), (h_now, .inl (cI, 169, .inl (upd (upd c_h_now_196 (157 + x4_177).toNatClampNeg ((c_h_now_196 (157 + x4_177).toNatClampNeg) + 1)) (145 + x4_177).toNatClampNeg t203))), (h_rain, .inl (cI, 96, .inl f_h_rain)), (h_rule, .inl (cI, 8, .inl f_h_rule)), (h_tide, .inl (cI, 96, .inl f_h_tide))]) (k := (145 + x4_177).toNatClampNeg) hx hb hK hP hD hS 1 0 rfl rfl hi205 rfl rfl dX9_pass_290 (fun H locs hP hD hS => ?_)
                      refine lv_iload_n hx hb dX9_pass_291 rfl (lv_at hl 1 rfl) ?_
                      refine lv_aload_n hx hb dX9_pass_292 rfl (lv_at hl 3 rfl) ?_
                      refine k_get (C := RX9) (T := TX9) (N := 19) hx hb hts inX9 hown hK hP 0 rfl rfl 1 (by decide) rfl wl1 rfl dX9_pass_293 ?_
                      refine lv_bipush (v := 97) hx hb dX9_pass_296 (by decide) ?_
                      refine lv_iload hx hb dX9_pass_298 (lv_at hl 0 rfl) ?_
                      refine lv_iadd hx hb dX9_pass_300 ?_
                      obtain ⟨hi206, hX133⟩ := k_ix_some hX133
                      refine k_iald (k := (97 + x4_177).toNatClampNeg) hx hb hK hP 1 0 rfl rfl hi206 rfl dX9_pass_301 ?_
                      refine lv_isub hx hb dX9_pass_302 ?_
                      obtain ⟨y207, ey207, hX133⟩ := k_lt_some hX133
                      refine k_topi ey207 ?_
                      refine lv_istore_n (lv' := [(3, .int y207), (4, .int x4_177), (2, .int r1), (0, .ref h), (1, .int a1)]) hx hb dX9_pass_303 rfl hl (by decide) rfl (fun ls hl => ?_)
                      refine lv_iinc (v := x4_177 + 1) (lv' := [(4, .int (x4_177 + 1)), (3, .int y207), (2, .int r1), (0, .ref h), (1, .int a1)]) hx hb dX9_pass_304 hl (k := 1) rfl rfl (by decide) rfl (fun ls hl => ?_)
                      refine lv_goto (tgt := 21) hx hb dX9_pass_307 (by decide) ?_
                      exact hin133 (y207, x4_177 + 1, upd (upd c_h_now_196 (157 + x4_177).toNatClampNeg ((c_h_now_196 (157 + x4_177).toNatClampNeg) + 1)) (145 + x4_177).toNatClampNeg t203) (Option.some.inj hX133).symm _ _ _ hP hD hS (lv_sub hl [0, 1, 2, 3, 4] rfl)
                    refine lv_aload_n hx hb dX9_pass_251 rfl (lv_at hl 3 rfl) ?_
                    refine k_get (C := RX9) (T := TX9) (N := 19) hx hb hts inX9 hown hK hP 0 rfl rfl 1 (by decide) rfl wl1 rfl dX9_pass_252 ?_
                    refine lv_sipush (v := 145) hx hb dX9_pass_255 (by decide) ?_
                    refine lv_iload hx hb dX9_pass_258 (lv_at hl 0 rfl) ?_
                    refine lv_iadd hx hb dX9_pass_260 ?_
                    refine lv_aload_n hx hb dX9_pass_261 rfl (lv_at hl 3 rfl) ?_
                    refine k_get (C := RX9) (T := TX9) (N := 19) hx hb hts inX9 hown hK hP 0 rfl rfl 1 (by decide) rfl wl1 rfl dX9_pass_262 ?_
                    refine lv_sipush (v := 157) hx hb dX9_pass_265 (by decide) ?_
                    refine lv_iload hx hb dX9_pass_268 (lv_at hl 0 rfl) ?_
                    refine lv_iadd hx hb dX9_pass_270 ?_
                    obtain ⟨hi208, hX133⟩ := k_ix_some hX133
                    refine k_iald (k := (157 + x4_177).toNatClampNeg) hx hb hK hP 1 0 rfl rfl hi208 rfl dX9_pass_271 ?_
                    refine lv_aload_n hx hb dX9_pass_272 rfl (lv_at hl 3 rfl) ?_
                    refine k_get (C := RX9) (T := TX9) (N := 19) hx hb hts inX9 hown hK hP 0 rfl rfl 1 (by decide) rfl wl1 rfl dX9_pass_273 ?_
                    refine lv_bipush (v := 109) hx hb dX9_pass_276 (by decide) ?_
                    refine lv_iload hx hb dX9_pass_278 (lv_at hl 0 rfl) ?_
                    refine lv_iadd hx hb dX9_pass_280 ?_
                    obtain ⟨hi209, hX133⟩ := k_ix_some hX133
                    refine k_iald (k := (109 + x4_177).toNatClampNeg) hx hb hK hP 1 0 rfl rfl hi209 rfl dX9_pass_281 ?_
                    refine lv_icmp_ne (tgt := 289) hx hb dX9_pass_282 (by decide) (fun c210 => ?_) (fun c210 => ?_)
                    · replace hX133 := k_neg hX133 c210
                      refine lv_iconst (v := 1) hx hb dX9_pass_289 (by decide) ?_
                      exact hJ204 _ hX133 _ _ _ hP hD hS (lv_sub hl [0, 1, 2, 3, 4] rfl)
                    · replace hX133 := k_pos hX133 c210
                      refine lv_iconst (v := 2) hx hb dX9_pass_285 (by decide) ?_
                      refine lv_goto (tgt := 290) hx hb dX9_pass_286 (by decide) ?_
                      exact hJ204 _ hX133 _ _ _ hP hD hS (lv_sub hl [0, 1, 2, 3, 4] rfl)
                  refine lv_aload_n hx hb dX9_pass_183 rfl (lv_at hl 4 rfl) ?_
                  refine k_get (C := RX9) (T := TX9) (N := 19) hx hb hts inX9 hown hK hP 0 rfl rfl 1 (by decide) rfl wl1 rfl dX9_pass_184 ?_
                  refine lv_sipush (v := 157) hx hb dX9_pass_187 (by decide) ?_
                  refine lv_iload hx hb dX9_pass_190 (lv_at hl 1 rfl) ?_
                  refine lv_iadd hx hb dX9_pass_192 ?_
                  obtain ⟨hi211, hX133⟩ := k_ix_some hX133
                  refine k_iald (k := (157 + x4_177).toNatClampNeg) hx hb hK hP 1 0 rfl rfl hi211 rfl dX9_pass_193 ?_
                  refine lv_if_ne (tgt := 236) hx hb dX9_pass_194 (by decide) (fun c212 => ?_) (fun c212 => ?_)
                  · replace hX133 := k_neg hX133 c212
                    exact hJ197 _ hX133 _ _ _ hP hD hS (lv_sub hl [1, 2, 3, 4, 5] rfl)
                  · replace hX133 := k_pos hX133 c212
                    refine lv_aload_n hx hb dX9_pass_197 rfl (lv_at hl 4 rfl) ?_
                    refine k_get (C := RX9) (T := TX9) (N := 19) hx hb hts inX9 hown hK hP 0 rfl rfl 1 (by decide) rfl wl1 rfl dX9_pass_198 ?_
                    refine lv_iconst (v := 5) hx hb dX9_pass_201 (by decide) ?_
                    refine lv_dup2_11 hx hb dX9_pass_202 rfl rfl ?_
                    refine k_iald (k := 5) hx hb hK hP 1 0 rfl rfl (by unfold vp_in; decide) (by decide) dX9_pass_203 ?_
                    refine lv_aload_n hx hb dX9_pass_204 rfl (lv_at hl 4 rfl) ?_
                    refine k_get (C := RX9) (T := TX9) (N := 19) hx hb hts inX9 hown hK hP 0 rfl rfl 1 (by decide) rfl wl1 rfl dX9_pass_205 ?_
                    refine lv_bipush (v := 121) hx hb dX9_pass_208 (by decide) ?_
                    refine lv_iload hx hb dX9_pass_210 (lv_at hl 1 rfl) ?_
                    refine lv_iadd hx hb dX9_pass_212 ?_
                    obtain ⟨hi213, hX133⟩ := k_ix_some hX133
                    refine k_iald (k := (121 + x4_177).toNatClampNeg) hx hb hK hP 1 0 rfl rfl hi213 rfl dX9_pass_213 ?_
                    refine lv_isub hx hb dX9_pass_214 ?_
                    refine k_iast (ws2 := [(h, .inr (9, [.int v_h_thrown, .ref h_now, .ref h_aside, .int v_h_kept, .ref h_books, .ref h_tide, .ref h_rain, .ref h_rule, .int v_h_counted, .ref h_counts, .ref h_begins, .ref h_best, .int v_h_bestWorth, .int v_h_bestPitch, .int v_h_bestBits, .int v_h_leastHour, .int v_h_leastSet, .int v_h_shut, .ref h_planks])), (h_now, .inl (cI, 169, .inl (upd c_h_now_178 5 ((c_h_now_178 5) - (c_h_now_178 (121 + x4_177).toNatClampNeg))))), (h_rain, .inl (cI, 96, .inl f_h_rain)), (h_rule, .inl (cI, 8, .inl f_h_rule)), (h_tide, .inl (cI, 96, .inl f_h_tide))]) (k := 5) hx hb hK hP hD hS 1 0 rfl rfl (by unfold vp_in; decide) (by decide) rfl dX9_pass_215 (fun H locs hP hD hS => ?_)
                    refine lv_aload_n hx hb dX9_pass_216 rfl (lv_at hl 4 rfl) ?_
                    refine k_get (C := RX9) (T := TX9) (N := 19) hx hb hts inX9 hown hK hP 0 rfl rfl 1 (by decide) rfl wl1 rfl dX9_pass_217 ?_
                    refine lv_bipush (v := 6) hx hb dX9_pass_220 (by decide) ?_
                    refine lv_dup2_11 hx hb dX9_pass_222 rfl rfl ?_
                    refine k_iald (k := 6) hx hb hK hP 1 0 rfl rfl (by unfold vp_in; decide) (by decide) dX9_pass_223 ?_
                    refine lv_aload_n hx hb dX9_pass_224 rfl (lv_at hl 4 rfl) ?_
                    refine k_get (C := RX9) (T := TX9) (N := 19) hx hb hts inX9 hown hK hP 0 rfl rfl 1 (by decide) rfl wl1 rfl dX9_pass_225 ?_
                    refine lv_bipush (v := 121) hx hb dX9_pass_228 (by decide) ?_
                    refine lv_iload hx hb dX9_pass_230 (lv_at hl 1 rfl) ?_
                    refine lv_iadd hx hb dX9_pass_232 ?_
                    obtain ⟨hi214, hX133⟩ := k_ix_some hX133
                    refine k_iald (k := (121 + x4_177).toNatClampNeg) hx hb hK hP 1 0 rfl rfl hi214 rfl dX9_pass_233 ?_
                    refine lv_iadd hx hb dX9_pass_234 ?_
                    refine k_iast (ws2 := [(h, .inr (9, [.int v_h_thrown, .ref h_now, .ref h_aside, .int v_h_kept, .ref h_books, .ref h_tide, .ref h_rain, .ref h_rule, .int v_h_counted, .ref h_counts, .ref h_begins, .ref h_best, .int v_h_bestWorth, .int v_h_bestPitch, .int v_h_bestBits, .int v_h_leastHour, .int v_h_leastSet, .int v_h_shut, .ref h_planks])), (h_now, .inl (cI, 169, .inl (upd (upd c_h_now_178 5 ((c_h_now_178 5) - (c_h_now_178 (121 + x4_177).toNatClampNeg))) 6 (((upd c_h_now_178 5 ((c_h_now_178 5) - (c_h_now_178 (121 + x4_177).toNatClampNeg))) 6) + ((upd c_h_now_178 5 ((c_h_now_178 5) - (c_h_now_178 (121 + x4_177).toNatClampNeg))) (121 + x4_177).toNatClampNeg))))), (h_rain, .inl (cI, 96, .inl f_h_rain)), (h_rule, .inl (cI, 8, .inl f_h_rule)), (h_tide, .inl (cI, 96, .inl f_h_tide))]) (k := 6) hx hb hK hP hD hS 1 0 rfl rfl (by unfold vp_in; decide) (by decide) rfl dX9_pass_235 (fun H locs hP hD hS => ?_)
                    exact hJ197 _ hX133 _ _ _ hP hD hS (lv_sub hl [1, 2, 3, 4, 5] rfl)
                · replace hX133 := k_neg hX133 c191
                  refine lv_aload_n hx hb dX9_pass_164 rfl (lv_at hl 4 rfl) ?_
                  refine k_get (C := RX9) (T := TX9) (N := 19) hx hb hts inX9 hown hK hP 0 rfl rfl 1 (by decide) rfl wl1 rfl dX9_pass_165 ?_
                  refine lv_bipush (v := 121) hx hb dX9_pass_168 (by decide) ?_
                  refine lv_iload hx hb dX9_pass_170 (lv_at hl 1 rfl) ?_
                  refine lv_iadd hx hb dX9_pass_172 ?_
                  obtain ⟨hi215, hX133⟩ := k_ix_some hX133
                  refine k_iald (k := (121 + x4_177).toNatClampNeg) hx hb hK hP 1 0 rfl rfl hi215 rfl dX9_pass_173 ?_
                  refine lv_aload_n hx hb dX9_pass_174 rfl (lv_at hl 4 rfl) ?_
                  refine k_get (C := RX9) (T := TX9) (N := 19) hx hb hts inX9 hown hK hP 0 rfl rfl 1 (by decide) rfl wl1 rfl dX9_pass_175 ?_
                  refine lv_iconst (v := 5) hx hb dX9_pass_178 (by decide) ?_
                  refine k_iald (k := 5) hx hb hK hP 1 0 rfl rfl (by unfold vp_in; decide) (by decide) dX9_pass_179 ?_
                  refine lv_icmp_gt (tgt := 304) hx hb dX9_pass_180 (by decide) (fun c216 => ?_) (fun c216 => ?_)
                  · replace hX133 := k_pos hX133 c216
                    refine lv_iinc (v := x4_177 + 1) (lv' := [(4, .int (x4_177 + 1)), (5, .int 1), (3, .int x3_176), (2, .int r1), (0, .ref h), (1, .int a1)]) hx hb dX9_pass_304 hl (k := 1) rfl rfl (by decide) rfl (fun ls hl => ?_)
                    refine lv_goto (tgt := 21) hx hb dX9_pass_307 (by decide) ?_
                    exact hin133 (x3_176, x4_177 + 1, c_h_now_178) (Option.some.inj hX133).symm _ _ _ hP hD hS (lv_sub hl [0, 2, 3, 4, 5] rfl)
                  · replace hX133 := k_neg hX133 c216
                    have hJ222 : ∀ (c_h_now_221 : Nat → Int32), lj_X9_pass_236_1 x4_177 x3_176 c_h_now_221 = some X133 → ∀ (H : Heap) (locs : List Loc) (ls : Array Slot), va_P D vwCl [(h, .inr (9, [.int v_h_thrown, .ref h_now, .ref h_aside, .int v_h_kept, .ref h_books, .ref h_tide, .ref h_rain, .ref h_rule, .int v_h_counted, .ref h_counts, .ref h_begins, .ref h_best, .int v_h_bestWorth, .int v_h_bestPitch, .int v_h_bestBits, .int v_h_leastHour, .int v_h_leastSet, .int v_h_shut, .ref h_planks])), (h_now, .inl (cI, 169, .inl c_h_now_221)), (h_rain, .inl (cI, 96, .inl f_h_rain)), (h_rule, .inl (cI, 8, .inl f_h_rule)), (h_tide, .inl (cI, 96, .inl f_h_tide))] H → va_D A [(h, .inr (9, [.int v_h_thrown, .ref h_now, .ref h_aside, .int v_h_kept, .ref h_books, .ref h_tide, .ref h_rain, .ref h_rule, .int v_h_counted, .ref h_counts, .ref h_begins, .ref h_best, .int v_h_bestWorth, .int v_h_bestPitch, .int v_h_bestBits, .int v_h_leastHour, .int v_h_leastSet, .int v_h_shut, .ref h_planks])), (h_now, .inl (cI, 169, .inl c_h_now_221)), (h_rain, .inl (cI, 96, .inl f_h_rain)), (h_rule, .inl (cI, 8, .inl f_h_rule)), (h_tide, .inl (cI, 96, .inl f_h_tide))] → va_S A s.heap H locs → lv_has ls 6 [(4, .int x4_177), (3, .int x3_176), (2, .int r1), (0, .ref h), (1, .int a1)] → W p l e rm_X9_pass s m args below meth c H locs 0 0 Q (F0 m 236 ls []) := by
                      intro c_h_now_221 hX133_j H locs ls hP hD hS hl
                      replace hX133 := hX133_j
                      unfold lj_X9_pass_236_1 at hX133
                      refine lv_aload_n hx hb dX9_pass_236 rfl (lv_at hl 3 rfl) ?_
                      refine k_get (C := RX9) (T := TX9) (N := 19) hx hb hts inX9 hown hK hP 0 rfl rfl 1 (by decide) rfl wl1 rfl dX9_pass_237 ?_
                      refine lv_sipush (v := 157) hx hb dX9_pass_240 (by decide) ?_
                      refine lv_iload hx hb dX9_pass_243 (lv_at hl 0 rfl) ?_
                      refine lv_iadd hx hb dX9_pass_245 ?_
                      refine lv_dup2_11 hx hb dX9_pass_246 rfl rfl ?_
                      obtain ⟨hi223, hX133⟩ := k_ix_some hX133
                      refine k_iald (k := (157 + x4_177).toNatClampNeg) hx hb hK hP 1 0 rfl rfl hi223 rfl dX9_pass_247 ?_
                      refine lv_iconst (v := 1) hx hb dX9_pass_248 (by decide) ?_
                      refine lv_iadd hx hb dX9_pass_249 ?_
                      obtain ⟨hi224, hX133⟩ := k_ix_some hX133
                      refine k_iast (ws2 := [(h, .inr (9, [.int v_h_thrown, .ref h_now, .ref h_aside, .int v_h_kept, .ref h_books, .ref h_tide, .ref h_rain, .ref h_rule, .int v_h_counted, .ref h_counts, .ref h_begins, .ref h_best, .int v_h_bestWorth, .int v_h_bestPitch, .int v_h_bestBits, .int v_h_leastHour, .int v_h_leastSet, .int v_h_shut, .ref h_planks])), (h_now, .inl (cI, 169, .inl (upd c_h_now_221 (157 + x4_177).toNatClampNeg ((c_h_now_221 (157 + x4_177).toNatClampNeg) + 1)))), (h_rain, .inl (cI, 96, .inl f_h_rain)), (h_rule, .inl (cI, 8, .inl f_h_rule)), (h_tide, .inl (cI, 96, .inl f_h_tide))]) (k := (157 + x4_177).toNatClampNeg) hx hb hK hP hD hS 1 0 rfl rfl hi224 rfl rfl dX9_pass_250 (fun H locs hP hD hS => ?_)
                      have hJ229 : ∀ (t228 : Int32), lj_X9_pass_290_1 x4_177 x3_176 c_h_now_221 t228 = some X133 → ∀ (H : Heap) (locs : List Loc) (ls : Array Slot), va_P D vwCl [(h, .inr (9, [.int v_h_thrown, .ref h_now, .ref h_aside, .int v_h_kept, .ref h_books, .ref h_tide, .ref h_rain, .ref h_rule, .int v_h_counted, .ref h_counts, .ref h_begins, .ref h_best, .int v_h_bestWorth, .int v_h_bestPitch, .int v_h_bestBits, .int v_h_leastHour, .int v_h_leastSet, .int v_h_shut, .ref h_planks])), (h_now, .inl (cI, 169, .inl (upd c_h_now_221 (157 + x4_177).toNatClampNeg ((c_h_now_221 (157 + x4_177).toNatClampNeg) + 1)))), (h_rain, .inl (cI, 96, .inl f_h_rain)), (h_rule, .inl (cI, 8, .inl f_h_rule)), (h_tide, .inl (cI, 96, .inl f_h_tide))] H → va_D A [(h, .inr (9, [.int v_h_thrown, .ref h_now, .ref h_aside, .int v_h_kept, .ref h_books, .ref h_tide, .ref h_rain, .ref h_rule, .int v_h_counted, .ref h_counts, .ref h_begins, .ref h_best, .int v_h_bestWorth, .int v_h_bestPitch, .int v_h_bestBits, .int v_h_leastHour, .int v_h_leastSet, .int v_h_shut, .ref h_planks])), (h_now, .inl (cI, 169, .inl (upd c_h_now_221 (157 + x4_177).toNatClampNeg ((c_h_now_221 (157 + x4_177).toNatClampNeg) + 1)))), (h_rain, .inl (cI, 96, .inl f_h_rain)), (h_rule, .inl (cI, 8, .inl f_h_rule)), (h_tide, .inl (cI, 96, .inl f_h_tide))] → va_S A s.heap H locs → lv_has ls 6 [(4, .int x4_177), (3, .int x3_176), (2, .int r1), (0, .ref h), (1, .int a1)] → W p l e rm_X9_pass s m args below meth c H locs 0 0 Q (F0 m 290 ls [.int t228, .int (145 + x4_177), .ref h_now]) := by
                        intro t228 hX133_j H locs ls hP hD hS hl
                        replace hX133 := hX133_j
                        unfold lj_X9_pass_290_1 at hX133
                        obtain ⟨hi230, hX133⟩ := k_ix_some hX133
                        refine k_iast (ws2 := [(h, .inr (9, [.int v_h_thrown, .ref h_now, .ref h_aside, .int v_h_kept, .ref h_books, .ref h_tide, .ref h_rain, .ref h_rule, .int v_h_counted, .ref h_counts, .ref h_begins, .ref h_best, .int v_h_bestWorth, .int v_h_bestPitch, .int v_h_bestBits, .int v_h_leastHour, .int v_h_leastSet, .int v_h_shut, .ref h_planks])), (h_now, .inl (cI, 169, .inl (upd (upd c_h_now_221 (157 + x4_177).toNatClampNeg ((c_h_now_221 (157 + x4_177).toNatClampNeg) + 1)) (145 + x4_177).toNatClampNeg t228))), (h_rain, .inl (cI, 96, .inl f_h_rain)), (h_rule, .inl (cI, 8, .inl f_h_rule)), (h_tide, .inl (cI, 96, .inl f_h_tide))]) (k := (145 + x4_177).toNatClampNeg) hx hb hK hP hD hS 1 0 rfl rfl hi230 rfl rfl dX9_pass_290 (fun H locs hP hD hS => ?_)
                        refine lv_iload_n hx hb dX9_pass_291 rfl (lv_at hl 1 rfl) ?_
                        refine lv_aload_n hx hb dX9_pass_292 rfl (lv_at hl 3 rfl) ?_
                        refine k_get (C := RX9) (T := TX9) (N := 19) hx hb hts inX9 hown hK hP 0 rfl rfl 1 (by decide) rfl wl1 rfl dX9_pass_293 ?_
                        refine lv_bipush (v := 97) hx hb dX9_pass_296 (by decide) ?_
                        refine lv_iload hx hb dX9_pass_298 (lv_at hl 0 rfl) ?_
                        refine lv_iadd hx hb dX9_pass_300 ?_
                        obtain ⟨hi231, hX133⟩ := k_ix_some hX133
                        refine k_iald (k := (97 + x4_177).toNatClampNeg) hx hb hK hP 1 0 rfl rfl hi231 rfl dX9_pass_301 ?_
                        refine lv_isub hx hb dX9_pass_302 ?_
                        obtain ⟨y232, ey232, hX133⟩ := k_lt_some hX133
                        refine k_topi ey232 ?_
                        refine lv_istore_n (lv' := [(3, .int y232), (4, .int x4_177), (2, .int r1), (0, .ref h), (1, .int a1)]) hx hb dX9_pass_303 rfl hl (by decide) rfl (fun ls hl => ?_)
                        refine lv_iinc (v := x4_177 + 1) (lv' := [(4, .int (x4_177 + 1)), (3, .int y232), (2, .int r1), (0, .ref h), (1, .int a1)]) hx hb dX9_pass_304 hl (k := 1) rfl rfl (by decide) rfl (fun ls hl => ?_)
                        refine lv_goto (tgt := 21) hx hb dX9_pass_307 (by decide) ?_
                        exact hin133 (y232, x4_177 + 1, upd (upd c_h_now_221 (157 + x4_177).toNatClampNeg ((c_h_now_221 (157 + x4_177).toNatClampNeg) + 1)) (145 + x4_177).toNatClampNeg t228) (Option.some.inj hX133).symm _ _ _ hP hD hS (lv_sub hl [0, 1, 2, 3, 4] rfl)
                      refine lv_aload_n hx hb dX9_pass_251 rfl (lv_at hl 3 rfl) ?_
                      refine k_get (C := RX9) (T := TX9) (N := 19) hx hb hts inX9 hown hK hP 0 rfl rfl 1 (by decide) rfl wl1 rfl dX9_pass_252 ?_
                      refine lv_sipush (v := 145) hx hb dX9_pass_255 (by decide) ?_
                      refine lv_iload hx hb dX9_pass_258 (lv_at hl 0 rfl) ?_
                      refine lv_iadd hx hb dX9_pass_260 ?_
                      refine lv_aload_n hx hb dX9_pass_261 rfl (lv_at hl 3 rfl) ?_
                      refine k_get (C := RX9) (T := TX9) (N := 19) hx hb hts inX9 hown hK hP 0 rfl rfl 1 (by decide) rfl wl1 rfl dX9_pass_262 ?_
                      refine lv_sipush (v := 157) hx hb dX9_pass_265 (by decide) ?_
                      refine lv_iload hx hb dX9_pass_268 (lv_at hl 0 rfl) ?_
                      refine lv_iadd hx hb dX9_pass_270 ?_
                      obtain ⟨hi233, hX133⟩ := k_ix_some hX133
                      refine k_iald (k := (157 + x4_177).toNatClampNeg) hx hb hK hP 1 0 rfl rfl hi233 rfl dX9_pass_271 ?_
                      refine lv_aload_n hx hb dX9_pass_272 rfl (lv_at hl 3 rfl) ?_
                      refine k_get (C := RX9) (T := TX9) (N := 19) hx hb hts inX9 hown hK hP 0 rfl rfl 1 (by decide) rfl wl1 rfl dX9_pass_273 ?_
                      refine lv_bipush (v := 109) hx hb dX9_pass_276 (by decide) ?_
                      refine lv_iload hx hb dX9_pass_278 (lv_at hl 0 rfl) ?_
                      refine lv_iadd hx hb dX9_pass_280 ?_
                      obtain ⟨hi234, hX133⟩ := k_ix_some hX133
                      refine k_iald (k := (109 + x4_177).toNatClampNeg) hx hb hK hP 1 0 rfl rfl hi234 rfl dX9_pass_281 ?_
                      refine lv_icmp_ne (tgt := 289) hx hb dX9_pass_282 (by decide) (fun c235 => ?_) (fun c235 => ?_)
                      · replace hX133 := k_neg hX133 c235
                        refine lv_iconst (v := 1) hx hb dX9_pass_289 (by decide) ?_
                        exact hJ229 _ hX133 _ _ _ hP hD hS (lv_sub hl [0, 1, 2, 3, 4] rfl)
                      · replace hX133 := k_pos hX133 c235
                        refine lv_iconst (v := 2) hx hb dX9_pass_285 (by decide) ?_
                        refine lv_goto (tgt := 290) hx hb dX9_pass_286 (by decide) ?_
                        exact hJ229 _ hX133 _ _ _ hP hD hS (lv_sub hl [0, 1, 2, 3, 4] rfl)
                    refine lv_aload_n hx hb dX9_pass_183 rfl (lv_at hl 4 rfl) ?_
                    refine k_get (C := RX9) (T := TX9) (N := 19) hx hb hts inX9 hown hK hP 0 rfl rfl 1 (by decide) rfl wl1 rfl dX9_pass_184 ?_
                    refine lv_sipush (v := 157) hx hb dX9_pass_187 (by decide) ?_
                    refine lv_iload hx hb dX9_pass_190 (lv_at hl 1 rfl) ?_
                    refine lv_iadd hx hb dX9_pass_192 ?_
                    obtain ⟨hi236, hX133⟩ := k_ix_some hX133
                    refine k_iald (k := (157 + x4_177).toNatClampNeg) hx hb hK hP 1 0 rfl rfl hi236 rfl dX9_pass_193 ?_
                    refine lv_if_ne (tgt := 236) hx hb dX9_pass_194 (by decide) (fun c237 => ?_) (fun c237 => ?_)
                    · replace hX133 := k_neg hX133 c237
                      exact hJ222 _ hX133 _ _ _ hP hD hS (lv_sub hl [1, 2, 3, 4, 5] rfl)
                    · replace hX133 := k_pos hX133 c237
                      refine lv_aload_n hx hb dX9_pass_197 rfl (lv_at hl 4 rfl) ?_
                      refine k_get (C := RX9) (T := TX9) (N := 19) hx hb hts inX9 hown hK hP 0 rfl rfl 1 (by decide) rfl wl1 rfl dX9_pass_198 ?_
                      refine lv_iconst (v := 5) hx hb dX9_pass_201 (by decide) ?_
                      refine lv_dup2_11 hx hb dX9_pass_202 rfl rfl ?_
                      refine k_iald (k := 5) hx hb hK hP 1 0 rfl rfl (by unfold vp_in; decide) (by decide) dX9_pass_203 ?_
                      refine lv_aload_n hx hb dX9_pass_204 rfl (lv_at hl 4 rfl) ?_
                      refine k_get (C := RX9) (T := TX9) (N := 19) hx hb hts inX9 hown hK hP 0 rfl rfl 1 (by decide) rfl wl1 rfl dX9_pass_205 ?_
                      refine lv_bipush (v := 121) hx hb dX9_pass_208 (by decide) ?_
                      refine lv_iload hx hb dX9_pass_210 (lv_at hl 1 rfl) ?_
                      refine lv_iadd hx hb dX9_pass_212 ?_
                      obtain ⟨hi238, hX133⟩ := k_ix_some hX133
                      refine k_iald (k := (121 + x4_177).toNatClampNeg) hx hb hK hP 1 0 rfl rfl hi238 rfl dX9_pass_213 ?_
                      refine lv_isub hx hb dX9_pass_214 ?_
                      refine k_iast (ws2 := [(h, .inr (9, [.int v_h_thrown, .ref h_now, .ref h_aside, .int v_h_kept, .ref h_books, .ref h_tide, .ref h_rain, .ref h_rule, .int v_h_counted, .ref h_counts, .ref h_begins, .ref h_best, .int v_h_bestWorth, .int v_h_bestPitch, .int v_h_bestBits, .int v_h_leastHour, .int v_h_leastSet, .int v_h_shut, .ref h_planks])), (h_now, .inl (cI, 169, .inl (upd c_h_now_178 5 ((c_h_now_178 5) - (c_h_now_178 (121 + x4_177).toNatClampNeg))))), (h_rain, .inl (cI, 96, .inl f_h_rain)), (h_rule, .inl (cI, 8, .inl f_h_rule)), (h_tide, .inl (cI, 96, .inl f_h_tide))]) (k := 5) hx hb hK hP hD hS 1 0 rfl rfl (by unfold vp_in; decide) (by decide) rfl dX9_pass_215 (fun H locs hP hD hS => ?_)
                      refine lv_aload_n hx hb dX9_pass_216 rfl (lv_at hl 4 rfl) ?_
                      refine k_get (C := RX9) (T := TX9) (N := 19) hx hb hts inX9 hown hK hP 0 rfl rfl 1 (by decide) rfl wl1 rfl dX9_pass_217 ?_
                      refine lv_bipush (v := 6) hx hb dX9_pass_220 (by decide) ?_
                      refine lv_dup2_11 hx hb dX9_pass_222 rfl rfl ?_
                      refine k_iald (k := 6) hx hb hK hP 1 0 rfl rfl (by unfold vp_in; decide) (by decide) dX9_pass_223 ?_
                      refine lv_aload_n hx hb dX9_pass_224 rfl (lv_at hl 4 rfl) ?_
                      refine k_get (C := RX9) (T := TX9) (N := 19) hx hb hts inX9 hown hK hP 0 rfl rfl 1 (by decide) rfl wl1 rfl dX9_pass_225 ?_
                      refine lv_bipush (v := 121) hx hb dX9_pass_228 (by decide) ?_
                      refine lv_iload hx hb dX9_pass_230 (lv_at hl 1 rfl) ?_
                      refine lv_iadd hx hb dX9_pass_232 ?_
                      obtain ⟨hi239, hX133⟩ := k_ix_some hX133
                      refine k_iald (k := (121 + x4_177).toNatClampNeg) hx hb hK hP 1 0 rfl rfl hi239 rfl dX9_pass_233 ?_
                      refine lv_iadd hx hb dX9_pass_234 ?_
                      refine k_iast (ws2 := [(h, .inr (9, [.int v_h_thrown, .ref h_now, .ref h_aside, .int v_h_kept, .ref h_books, .ref h_tide, .ref h_rain, .ref h_rule, .int v_h_counted, .ref h_counts, .ref h_begins, .ref h_best, .int v_h_bestWorth, .int v_h_bestPitch, .int v_h_bestBits, .int v_h_leastHour, .int v_h_leastSet, .int v_h_shut, .ref h_planks])), (h_now, .inl (cI, 169, .inl (upd (upd c_h_now_178 5 ((c_h_now_178 5) - (c_h_now_178 (121 + x4_177).toNatClampNeg))) 6 (((upd c_h_now_178 5 ((c_h_now_178 5) - (c_h_now_178 (121 + x4_177).toNatClampNeg))) 6) + ((upd c_h_now_178 5 ((c_h_now_178 5) - (c_h_now_178 (121 + x4_177).toNatClampNeg))) (121 + x4_177).toNatClampNeg))))), (h_rain, .inl (cI, 96, .inl f_h_rain)), (h_rule, .inl (cI, 8, .inl f_h_rule)), (h_tide, .inl (cI, 96, .inl f_h_tide))]) (k := 6) hx hb hK hP hD hS 1 0 rfl rfl (by unfold vp_in; decide) (by decide) rfl dX9_pass_235 (fun H locs hP hD hS => ?_)
                      exact hJ222 _ hX133 _ _ _ hP hD hS (lv_sub hl [1, 2, 3, 4, 5] rfl)
              · replace hX133 := k_pos hX133 c189
                refine lv_aload_n hx hb dX9_pass_117 rfl (lv_at hl 4 rfl) ?_
                refine k_get (C := RX9) (T := TX9) (N := 19) hx hb hts inX9 hown hK hP 0 rfl rfl 1 (by decide) rfl wl1 rfl dX9_pass_118 ?_
                refine lv_sipush (v := 145) hx hb dX9_pass_121 (by decide) ?_
                refine lv_iload hx hb dX9_pass_124 (lv_at hl 1 rfl) ?_
                refine lv_iadd hx hb dX9_pass_126 ?_
                refine lv_iconst (v := 1) hx hb dX9_pass_127 (by decide) ?_
                obtain ⟨hi240, hX133⟩ := k_ix_some hX133
                refine k_iast (ws2 := [(h, .inr (9, [.int v_h_thrown, .ref h_now, .ref h_aside, .int v_h_kept, .ref h_books, .ref h_tide, .ref h_rain, .ref h_rule, .int v_h_counted, .ref h_counts, .ref h_begins, .ref h_best, .int v_h_bestWorth, .int v_h_bestPitch, .int v_h_bestBits, .int v_h_leastHour, .int v_h_leastSet, .int v_h_shut, .ref h_planks])), (h_now, .inl (cI, 169, .inl (upd c_h_now_178 (145 + x4_177).toNatClampNeg 1))), (h_rain, .inl (cI, 96, .inl f_h_rain)), (h_rule, .inl (cI, 8, .inl f_h_rule)), (h_tide, .inl (cI, 96, .inl f_h_tide))]) (k := (145 + x4_177).toNatClampNeg) hx hb hK hP hD hS 1 0 rfl rfl hi240 rfl rfl dX9_pass_128 (fun H locs hP hD hS => ?_)
                refine lv_iload_n hx hb dX9_pass_129 rfl (lv_at hl 2 rfl) ?_
                refine lv_aload_n hx hb dX9_pass_130 rfl (lv_at hl 4 rfl) ?_
                refine k_get (C := RX9) (T := TX9) (N := 19) hx hb hts inX9 hown hK hP 0 rfl rfl 1 (by decide) rfl wl1 rfl dX9_pass_131 ?_
                refine lv_bipush (v := 97) hx hb dX9_pass_134 (by decide) ?_
                refine lv_iload hx hb dX9_pass_136 (lv_at hl 1 rfl) ?_
                refine lv_iadd hx hb dX9_pass_138 ?_
                obtain ⟨hi241, hX133⟩ := k_ix_some hX133
                refine k_iald (k := (97 + x4_177).toNatClampNeg) hx hb hK hP 1 0 rfl rfl hi241 rfl dX9_pass_139 ?_
                refine lv_isub hx hb dX9_pass_140 ?_
                obtain ⟨y242, ey242, hX133⟩ := k_lt_some hX133
                refine k_topi ey242 ?_
                refine lv_istore_n (lv' := [(3, .int y242), (5, .int 1), (4, .int x4_177), (2, .int r1), (0, .ref h), (1, .int a1)]) hx hb dX9_pass_141 rfl hl (by decide) rfl (fun ls hl => ?_)
                refine lv_goto (tgt := 304) hx hb dX9_pass_142 (by decide) ?_
                refine lv_iinc (v := x4_177 + 1) (lv' := [(4, .int (x4_177 + 1)), (3, .int y242), (5, .int 1), (2, .int r1), (0, .ref h), (1, .int a1)]) hx hb dX9_pass_304 hl (k := 2) rfl rfl (by decide) rfl (fun ls hl => ?_)
                refine lv_goto (tgt := 21) hx hb dX9_pass_307 (by decide) ?_
                exact hin133 (y242, x4_177 + 1, upd c_h_now_178 (145 + x4_177).toNatClampNeg 1) (Option.some.inj hX133).symm _ _ _ hP hD hS (lv_sub hl [0, 1, 3, 4, 5] rfl)

def p_X9_hour (f_h_now : Nat → Int32) (f_h_rain : Nat → Int32) (f_h_rule : Nat → Int32) (f_h_tide : Nat → Int32) (a1 : Int32) : Option (Int32 × Int32 × (Nat → Int32)) :=
  k_b1 (p_X9_in ((a1).toInt64) 0 (((1 <<< ((f_h_now 12) &&& 31)) - 1).toInt64)) fun r1 =>
  if r1 = 0 then
    some ((-1), 0, f_h_now)
  else
    k_b1 (p_X9_isLost f_h_now) fun r3 =>
    if r3 = 0 then
      if (f_h_now 0) ≤ 95 then
        k_b1 (p_X9_pass f_h_now f_h_rain f_h_rule f_h_tide a1) fun w_h_now_6 =>
        some (w_h_now_6 2, 0, w_h_now_6)
      else
        some ((-2), 0, f_h_now)
    else
      some ((-2), 0, f_h_now)
abbrev rm_X9_hour : Room := { frames := 6, cells := 0, slots := 0, locals := 139 }
theorem hdS_X9_hour : yX9_hour.cls ≠ "java/lang/invoke/MethodHandle" ∧ yX9_hour.cls ≠ "java/lang/invoke/VarHandle" ∧ (parseMethodDescriptor yX9_hour.desc).map (fun d => d.parameters.length) = some 1 := by decide +kernel
theorem hdV_X9_hour : yX9_hour.cls = RX9 ∧ yX9_hour.cls ≠ "java/lang/invoke/MethodHandle" ∧ yX9_hour.cls ≠ "java/lang/invoke/VarHandle" ∧ (parseMethodDescriptor yX9_hour.desc).map (fun d => d.parameters.length) = some 1 := by decide +kernel
set_option maxHeartbeats 4000000 in
set_option maxRecDepth 100000 in
theorem c_X9_hour (l : Launch) (D : va_G) (cI cZ cJ cS : ClassId) (h h_now h_aside h_books h_tide h_rain h_rule h_counts h_begins h_best h_planks : Nat) (v_h_thrown : Int32) (v_h_kept : Int32) (v_h_counted : Int32) (v_h_bestWorth : Int32) (v_h_bestPitch : Int32) (v_h_bestBits : Int32) (v_h_leastHour : Int32) (v_h_leastSet : Int32) (v_h_shut : Int32) (f_h_now : Nat → Int32) (f_h_rain : Nat → Int32) (f_h_rule : Nat → Int32) (f_h_tide : Nat → Int32) (a1 : Int32) (r : Int32) (v_h_thrown' : Int32) (f_h_now' : Nat → Int32) (hf : p_X9_hour f_h_now f_h_rain f_h_rule f_h_tide a1 = some (r, v_h_thrown', f_h_now')) : k_MI l yX9_hour wsX9_hour rm_X9_hour D (k_tys cI cZ cJ cS) [.ref h, .int a1] [(h, .inr (9, [.int v_h_thrown, .ref h_now, .ref h_aside, .int v_h_kept, .ref h_books, .ref h_tide, .ref h_rain, .ref h_rule, .int v_h_counted, .ref h_counts, .ref h_begins, .ref h_best, .int v_h_bestWorth, .int v_h_bestPitch, .int v_h_bestBits, .int v_h_leastHour, .int v_h_leastSet, .int v_h_shut, .ref h_planks])), (h_now, .inl (cI, 169, .inl f_h_now)), (h_rain, .inl (cI, 96, .inl f_h_rain)), (h_rule, .inl (cI, 8, .inl f_h_rule)), (h_tide, .inl (cI, 96, .inl f_h_tide))] [(h, .inr (9, [.int v_h_thrown', .ref h_now, .ref h_aside, .int v_h_kept, .ref h_books, .ref h_tide, .ref h_rain, .ref h_rule, .int v_h_counted, .ref h_counts, .ref h_begins, .ref h_best, .int v_h_bestWorth, .int v_h_bestPitch, .int v_h_bestBits, .int v_h_leastHour, .int v_h_leastSet, .int v_h_shut, .ref h_planks])), (h_now, .inl (cI, 169, .inl f_h_now')), (h_rain, .inl (cI, 96, .inl f_h_rain)), (h_rule, .inl (cI, 8, .inl f_h_rule)), (h_tide, .inl (cI, 96, .inl f_h_tide))] r := by
  refine k_enter (y := yX9_hour) (wl := wsX9_hour) (rm := rm_X9_hour) (av := [.ref h, .int a1]) (D := D) (tys := k_tys cI cZ cJ cS) (ws := [(h, .inr (9, [.int v_h_thrown, .ref h_now, .ref h_aside, .int v_h_kept, .ref h_books, .ref h_tide, .ref h_rain, .ref h_rule, .int v_h_counted, .ref h_counts, .ref h_begins, .ref h_best, .int v_h_bestWorth, .int v_h_bestPitch, .int v_h_bestBits, .int v_h_leastHour, .int v_h_leastSet, .int v_h_shut, .ref h_planks])), (h_now, .inl (cI, 169, .inl f_h_now)), (h_rain, .inl (cI, 96, .inl f_h_rain)), (h_rule, .inl (cI, 8, .inl f_h_rule)), (h_tide, .inl (cI, 96, .inl f_h_tide))]) (cc := cX9_hour) (maxL := 2) (ret := (some .int)) (Qc := fun A => k_Qi D (k_tys cI cZ cJ cS) [(h, .inr (9, [.int v_h_thrown', .ref h_now, .ref h_aside, .int v_h_kept, .ref h_books, .ref h_tide, .ref h_rain, .ref h_rule, .int v_h_counted, .ref h_counts, .ref h_begins, .ref h_best, .int v_h_bestWorth, .int v_h_bestPitch, .int v_h_bestBits, .int v_h_leastHour, .int v_h_leastSet, .int v_h_shut, .ref h_planks])), (h_now, .inl (cI, 169, .inl f_h_now')), (h_rain, .inl (cI, 96, .inl f_h_rain)), (h_rule, .inl (cI, 8, .inl f_h_rule)), (h_tide, .inl (cI, 96, .inl f_h_tide))] A r) (by decide) rfl (Nat.le_of_ble_eq_true rfl) [(0, .ref h), (1, .int a1)] rfl ?_
  intro p e s m below meth c A hx hb hml hr hlocks hnm hown hK hP hD hA hS hN ls args Q hts hl hQ
  replace hown : s.vm.findClass RX9 = some m.cls := hown
  have S0 : CallFix p m c cX9_hour 2 s args wsX9_hour RX9 := ⟨hx, hb, hml, hown, hts⟩
  have inX9 : ∀ w ∈ u_ws RX9 TX9 19, w ∈ wsX9_hour := fun w h => List.mem_cons_of_mem _ (List.mem_append_right _ h)
  have wl1 : (Cond.fieldLink RX9 1 "BeachedShipModel" "thrown" "I").before args s = true := hts _ (List.mem_of_getElem? (i := 1) rfl)
  have wl2 : (Cond.fieldLink RX9 13 "BeachedShipModel" "now" "[I").before args s = true := hts _ (List.mem_of_getElem? (i := 2) rfl)
  have hRet : ∀ (r_z : Int32) (v_h_thrown_z : Int32) (f_h_now_z : Nat → Int32), some (r_z, v_h_thrown_z, f_h_now_z) = some (r, v_h_thrown', f_h_now') → ∀ (H : Heap) (locs : List Loc) (ls : Array Slot) (pc : Nat), va_P D vwCl [(h, .inr (9, [.int v_h_thrown_z, .ref h_now, .ref h_aside, .int v_h_kept, .ref h_books, .ref h_tide, .ref h_rain, .ref h_rule, .int v_h_counted, .ref h_counts, .ref h_begins, .ref h_best, .int v_h_bestWorth, .int v_h_bestPitch, .int v_h_bestBits, .int v_h_leastHour, .int v_h_leastSet, .int v_h_shut, .ref h_planks])), (h_now, .inl (cI, 169, .inl f_h_now_z)), (h_rain, .inl (cI, 96, .inl f_h_rain)), (h_rule, .inl (cI, 8, .inl f_h_rule)), (h_tide, .inl (cI, 96, .inl f_h_tide))] H → va_D A [(h, .inr (9, [.int v_h_thrown_z, .ref h_now, .ref h_aside, .int v_h_kept, .ref h_books, .ref h_tide, .ref h_rain, .ref h_rule, .int v_h_counted, .ref h_counts, .ref h_begins, .ref h_best, .int v_h_bestWorth, .int v_h_bestPitch, .int v_h_bestBits, .int v_h_leastHour, .int v_h_leastSet, .int v_h_shut, .ref h_planks])), (h_now, .inl (cI, 169, .inl f_h_now_z)), (h_rain, .inl (cI, 96, .inl f_h_rain)), (h_rule, .inl (cI, 8, .inl f_h_rule)), (h_tide, .inl (cI, 96, .inl f_h_tide))] → va_S A s.heap H locs → narrow .int (.int r_z) = .int r_z → decode cX9_hour pc = .ok (.ireturn, 1) → W p l e rm_X9_hour s m args below meth c H locs 0 0 Q (F0 m pc ls [.int r_z]) := by
    intro r_z v_h_thrown_z f_h_now_z hz H locs ls pc hP hD hS hn hd
    cases hz
    exact k_iret hx hb hr hlocks hn hK hP hD hS hQ rfl hd
  unfold p_X9_hour at hf
  refine lv_aload_n hx hb dX9_hour_0 rfl (lv_at hl 0 rfl) ?_
  refine lv_iconst (v := 0) hx hb dX9_hour_1 (by decide) ?_
  refine k_putf (ws2 := [(h, .inr (9, [.int 0, .ref h_now, .ref h_aside, .int v_h_kept, .ref h_books, .ref h_tide, .ref h_rain, .ref h_rule, .int v_h_counted, .ref h_counts, .ref h_begins, .ref h_best, .int v_h_bestWorth, .int v_h_bestPitch, .int v_h_bestBits, .int v_h_leastHour, .int v_h_leastSet, .int v_h_shut, .ref h_planks])), (h_now, .inl (cI, 169, .inl f_h_now)), (h_rain, .inl (cI, 96, .inl f_h_rain)), (h_rule, .inl (cI, 8, .inl f_h_rule)), (h_tide, .inl (cI, 96, .inl f_h_tide))]) (C := RX9) (T := TX9) (N := 19) hx hb hts inX9 tyX9 tyX9_ok nmX9 hown hK hP hD hS 0 rfl rfl 0 (by decide) rfl wl1 rfl rfl rfl (Nat.le_of_ble_eq_true rfl) rfl dX9_hour_2 (fun H locs hP hD hS => ?_)
  refine lv_iload_n hx hb dX9_hour_5 rfl (lv_at hl 1 rfl) ?_
  refine lv_i2l (v := (a1).toInt64) hx hb dX9_hour_6 rfl ?_
  refine lv_lconst (v := 0) hx hb dX9_hour_7 (by decide) ?_
  refine lv_iconst (v := 1) hx hb dX9_hour_8 (by decide) ?_
  refine lv_aload_n hx hb dX9_hour_9 rfl (lv_at hl 0 rfl) ?_
  refine k_get (C := RX9) (T := TX9) (N := 19) hx hb hts inX9 hown hK hP 0 rfl rfl 1 (by decide) rfl wl2 rfl dX9_hour_10 ?_
  refine lv_bipush (v := 12) hx hb dX9_hour_13 (by decide) ?_
  refine k_iald (k := 12) hx hb hK hP 1 0 rfl rfl (by unfold vp_in; decide) (by decide) dX9_hour_15 ?_
  refine lv_ishl hx hb dX9_hour_16 ?_
  refine lv_iconst (v := 1) hx hb dX9_hour_17 (by decide) ?_
  refine lv_isub hx hb dX9_hour_18 ?_
  refine lv_i2l (v := ((1 <<< ((f_h_now 12) &&& 31)) - 1).toInt64) hx hb dX9_hour_19 rfl ?_
  obtain ⟨r1, hc1, hf⟩ := k_b1_some hf
  refine k_SiR (As := [.long ((a1).toInt64), .long 0, .long (((1 <<< ((f_h_now 12) &&& 31)) - 1).toInt64)]) (rest := []) S0 (c_X9_in l D cI cZ cJ cS ((a1).toInt64) 0 (((1 <<< ((f_h_now 12) &&& 31)) - 1).toInt64) r1 hc1) (va_cwS 3 hts gX9_hour_X9_in rfl rfl rfl hdS_X9_in ⟨Nat.le_of_ble_eq_true rfl, Nat.le_of_ble_eq_true rfl⟩) hK hP hD hS hA hN [] rfl (by decide) rfl hl.1 rfl (Nat.le_of_ble_eq_true rfl) dX9_hour_20 (fun H locs hP hS => ?_)
  refine lv_if_ne (tgt := 28) hx hb dX9_hour_23 (by decide) (fun c2 => ?_) (fun c2 => ?_)
  · replace hf := k_neg hf c2
    refine lv_aload_n hx hb dX9_hour_28 rfl (lv_at hl 0 rfl) ?_
    obtain ⟨r3, hc3, hf⟩ := k_b1_some hf
    refine k_ViR (q0 := 0) (As := []) (rest := []) S0 (c_X9_isLost l D cI cZ cJ cS h h_now h_aside h_books h_tide h_rain h_rule h_counts h_begins h_best h_planks 0 v_h_kept v_h_counted v_h_bestWorth v_h_bestPitch v_h_bestBits v_h_leastHour v_h_leastSet v_h_shut f_h_now r3 hc3) (cwV 0 hts gX9_hour_X9_isLost rfl rfl rfl hdV_X9_isLost ⟨Nat.le_of_ble_eq_true rfl, Nat.le_of_ble_eq_true rfl⟩) hK hP hD hS hA hN [0, 1] rfl (by decide) rfl rfl rfl rfl hl.1 rfl (Nat.le_of_ble_eq_true rfl) dX9_hour_29 (fun H locs hP hS => ?_)
    refine lv_if_ne (tgt := 46) hx hb dX9_hour_32 (by decide) (fun c4 => ?_) (fun c4 => ?_)
    · replace hf := k_neg hf c4
      refine lv_bipush (v := (-2)) hx hb dX9_hour_46 (by decide) ?_
      exact hRet _ _ _ hf _ _ _ _ hP hD hS rfl dX9_hour_48
    · replace hf := k_pos hf c4
      refine lv_aload_n hx hb dX9_hour_35 rfl (lv_at hl 0 rfl) ?_
      refine k_get (C := RX9) (T := TX9) (N := 19) hx hb hts inX9 hown hK hP 0 rfl rfl 1 (by decide) rfl wl2 rfl dX9_hour_36 ?_
      refine lv_iconst (v := 0) hx hb dX9_hour_39 (by decide) ?_
      refine k_iald (k := 0) hx hb hK hP 1 0 rfl rfl (by unfold vp_in; decide) (by decide) dX9_hour_40 ?_
      refine lv_bipush (v := 95) hx hb dX9_hour_41 (by decide) ?_
      refine lv_icmp_le (tgt := 49) hx hb dX9_hour_43 (by decide) (fun c5 => ?_) (fun c5 => ?_)
      · replace hf := k_pos hf c5
        refine lv_aload_n hx hb dX9_hour_49 rfl (lv_at hl 0 rfl) ?_
        refine lv_iload_n hx hb dX9_hour_50 rfl (lv_at hl 1 rfl) ?_
        obtain ⟨w_h_now_6, hc6, hf⟩ := k_b1_some hf
        refine k_Vv (ws2 := [(h, .inr (9, [.int 0, .ref h_now, .ref h_aside, .int v_h_kept, .ref h_books, .ref h_tide, .ref h_rain, .ref h_rule, .int v_h_counted, .ref h_counts, .ref h_begins, .ref h_best, .int v_h_bestWorth, .int v_h_bestPitch, .int v_h_bestBits, .int v_h_leastHour, .int v_h_leastSet, .int v_h_shut, .ref h_planks])), (h_now, .inl (cI, 169, .inl w_h_now_6)), (h_rain, .inl (cI, 96, .inl f_h_rain)), (h_rule, .inl (cI, 8, .inl f_h_rule)), (h_tide, .inl (cI, 96, .inl f_h_tide))]) (q0 := 0) (As := [.int a1]) (rest := []) S0 (c_X9_pass l D cI cZ cJ cS h h_now h_aside h_books h_tide h_rain h_rule h_counts h_begins h_best h_planks 0 v_h_kept v_h_counted v_h_bestWorth v_h_bestPitch v_h_bestBits v_h_leastHour v_h_leastSet v_h_shut f_h_now f_h_rain f_h_rule f_h_tide a1 w_h_now_6 hc6) (cwV 1 hts gX9_hour_X9_pass rfl rfl rfl hdV_X9_pass ⟨Nat.le_of_ble_eq_true rfl, Nat.le_of_ble_eq_true rfl⟩) hK hP hD hS hA hN [0, 1, 2, 3, 4] rfl (by decide) rfl rfl rfl rfl hl.1 rfl (Nat.le_of_ble_eq_true rfl) rfl rfl rfl dX9_hour_51 (fun H locs hP hD hS => ?_)
        refine lv_aload_n hx hb dX9_hour_54 rfl (lv_at hl 0 rfl) ?_
        refine k_get (C := RX9) (T := TX9) (N := 19) hx hb hts inX9 hown hK hP 0 rfl rfl 1 (by decide) rfl wl2 rfl dX9_hour_55 ?_
        refine lv_iconst (v := 2) hx hb dX9_hour_58 (by decide) ?_
        refine k_iald (k := 2) hx hb hK hP 1 0 rfl rfl (by unfold vp_in; decide) (by decide) dX9_hour_59 ?_
        exact hRet _ _ _ hf _ _ _ _ hP hD hS rfl dX9_hour_60
      · replace hf := k_neg hf c5
        refine lv_bipush (v := (-2)) hx hb dX9_hour_46 (by decide) ?_
        exact hRet _ _ _ hf _ _ _ _ hP hD hS rfl dX9_hour_48
  · replace hf := k_pos hf c2
    refine lv_iconst (v := (-1)) hx hb dX9_hour_26 (by decide) ?_
    exact hRet _ _ _ hf _ _ _ _ hP hD hS rfl dX9_hour_27

def p_X9_rig (f_h_now : Nat → Int32) (f_h_rain : Nat → Int32) (f_h_rule : Nat → Int32) (a1 : Int32) (a2 : Int32) : Option (Int32 × Int32 × (Nat → Int32)) :=
  k_b1 (p_X9_in ((a1).toInt64) 0 (((f_h_now 11) - 1).toInt64)) fun r1 =>
  if r1 = 0 then
    some ((-1), 0, f_h_now)
  else
    k_ix (67 + a1) 169 (
      if a2 = 0 then
        k_ix (67 + a1) 169 (
          k_b1 (p_X9_rains f_h_rain ((upd f_h_now (67 + a1).toNatClampNeg 0) 0)) fun r6 =>
          k_b1 (p_X9_holds (upd f_h_now (67 + a1).toNatClampNeg 0) f_h_rule ((upd f_h_now (67 + a1).toNatClampNeg 0) 1) r6) fun r7 =>
          if r7 = 0 then
            k_ix (67 + a1) 169 (
              some ((-2), 0, upd (upd f_h_now (67 + a1).toNatClampNeg 0) (67 + a1).toNatClampNeg (f_h_now (67 + a1).toNatClampNeg)))
          else
            some (f_h_now (67 + a1).toNatClampNeg, 0, upd f_h_now (67 + a1).toNatClampNeg 0))
      else
        k_ix (67 + a1) 169 (
          k_b1 (p_X9_rains f_h_rain ((upd f_h_now (67 + a1).toNatClampNeg 1) 0)) fun r11 =>
          k_b1 (p_X9_holds (upd f_h_now (67 + a1).toNatClampNeg 1) f_h_rule ((upd f_h_now (67 + a1).toNatClampNeg 1) 1) r11) fun r12 =>
          if r12 = 0 then
            k_ix (67 + a1) 169 (
              some ((-2), 0, upd (upd f_h_now (67 + a1).toNatClampNeg 1) (67 + a1).toNatClampNeg (f_h_now (67 + a1).toNatClampNeg)))
          else
            some (f_h_now (67 + a1).toNatClampNeg, 0, upd f_h_now (67 + a1).toNatClampNeg 1)))
abbrev rm_X9_rig : Room := { frames := 5, cells := 0, slots := 0, locals := 113 }
theorem hdS_X9_rig : yX9_rig.cls ≠ "java/lang/invoke/MethodHandle" ∧ yX9_rig.cls ≠ "java/lang/invoke/VarHandle" ∧ (parseMethodDescriptor yX9_rig.desc).map (fun d => d.parameters.length) = some 2 := by decide +kernel
theorem hdV_X9_rig : yX9_rig.cls = RX9 ∧ yX9_rig.cls ≠ "java/lang/invoke/MethodHandle" ∧ yX9_rig.cls ≠ "java/lang/invoke/VarHandle" ∧ (parseMethodDescriptor yX9_rig.desc).map (fun d => d.parameters.length) = some 2 := by decide +kernel
set_option maxHeartbeats 4000000 in
set_option maxRecDepth 100000 in
theorem c_X9_rig (l : Launch) (D : va_G) (cI cZ cJ cS : ClassId) (h h_now h_aside h_books h_tide h_rain h_rule h_counts h_begins h_best h_planks : Nat) (v_h_thrown : Int32) (v_h_kept : Int32) (v_h_counted : Int32) (v_h_bestWorth : Int32) (v_h_bestPitch : Int32) (v_h_bestBits : Int32) (v_h_leastHour : Int32) (v_h_leastSet : Int32) (v_h_shut : Int32) (f_h_now : Nat → Int32) (f_h_rain : Nat → Int32) (f_h_rule : Nat → Int32) (a1 : Int32) (a2 : Int32) (r : Int32) (v_h_thrown' : Int32) (f_h_now' : Nat → Int32) (hf : p_X9_rig f_h_now f_h_rain f_h_rule a1 a2 = some (r, v_h_thrown', f_h_now')) : k_MI l yX9_rig wsX9_rig rm_X9_rig D (k_tys cI cZ cJ cS) [.ref h, .int a1, .int a2] [(h, .inr (9, [.int v_h_thrown, .ref h_now, .ref h_aside, .int v_h_kept, .ref h_books, .ref h_tide, .ref h_rain, .ref h_rule, .int v_h_counted, .ref h_counts, .ref h_begins, .ref h_best, .int v_h_bestWorth, .int v_h_bestPitch, .int v_h_bestBits, .int v_h_leastHour, .int v_h_leastSet, .int v_h_shut, .ref h_planks])), (h_now, .inl (cI, 169, .inl f_h_now)), (h_rain, .inl (cI, 96, .inl f_h_rain)), (h_rule, .inl (cI, 8, .inl f_h_rule))] [(h, .inr (9, [.int v_h_thrown', .ref h_now, .ref h_aside, .int v_h_kept, .ref h_books, .ref h_tide, .ref h_rain, .ref h_rule, .int v_h_counted, .ref h_counts, .ref h_begins, .ref h_best, .int v_h_bestWorth, .int v_h_bestPitch, .int v_h_bestBits, .int v_h_leastHour, .int v_h_leastSet, .int v_h_shut, .ref h_planks])), (h_now, .inl (cI, 169, .inl f_h_now')), (h_rain, .inl (cI, 96, .inl f_h_rain)), (h_rule, .inl (cI, 8, .inl f_h_rule))] r := by
  refine k_enter (y := yX9_rig) (wl := wsX9_rig) (rm := rm_X9_rig) (av := [.ref h, .int a1, .int a2]) (D := D) (tys := k_tys cI cZ cJ cS) (ws := [(h, .inr (9, [.int v_h_thrown, .ref h_now, .ref h_aside, .int v_h_kept, .ref h_books, .ref h_tide, .ref h_rain, .ref h_rule, .int v_h_counted, .ref h_counts, .ref h_begins, .ref h_best, .int v_h_bestWorth, .int v_h_bestPitch, .int v_h_bestBits, .int v_h_leastHour, .int v_h_leastSet, .int v_h_shut, .ref h_planks])), (h_now, .inl (cI, 169, .inl f_h_now)), (h_rain, .inl (cI, 96, .inl f_h_rain)), (h_rule, .inl (cI, 8, .inl f_h_rule))]) (cc := cX9_rig) (maxL := 4) (ret := (some .int)) (Qc := fun A => k_Qi D (k_tys cI cZ cJ cS) [(h, .inr (9, [.int v_h_thrown', .ref h_now, .ref h_aside, .int v_h_kept, .ref h_books, .ref h_tide, .ref h_rain, .ref h_rule, .int v_h_counted, .ref h_counts, .ref h_begins, .ref h_best, .int v_h_bestWorth, .int v_h_bestPitch, .int v_h_bestBits, .int v_h_leastHour, .int v_h_leastSet, .int v_h_shut, .ref h_planks])), (h_now, .inl (cI, 169, .inl f_h_now')), (h_rain, .inl (cI, 96, .inl f_h_rain)), (h_rule, .inl (cI, 8, .inl f_h_rule))] A r) (by decide) rfl (Nat.le_of_ble_eq_true rfl) [(0, .ref h), (1, .int a1), (2, .int a2)] rfl ?_
  intro p e s m below meth c A hx hb hml hr hlocks hnm hown hK hP hD hA hS hN ls args Q hts hl hQ
  replace hown : s.vm.findClass RX9 = some m.cls := hown
  have S0 : CallFix p m c cX9_rig 4 s args wsX9_rig RX9 := ⟨hx, hb, hml, hown, hts⟩
  have inX9 : ∀ w ∈ u_ws RX9 TX9 19, w ∈ wsX9_rig := fun w h => List.mem_cons_of_mem _ (List.mem_append_right _ h)
  have wl1 : (Cond.fieldLink RX9 1 "BeachedShipModel" "thrown" "I").before args s = true := hts _ (List.mem_of_getElem? (i := 1) rfl)
  have wl2 : (Cond.fieldLink RX9 13 "BeachedShipModel" "now" "[I").before args s = true := hts _ (List.mem_of_getElem? (i := 2) rfl)
  have hRet : ∀ (r_z : Int32) (v_h_thrown_z : Int32) (f_h_now_z : Nat → Int32), some (r_z, v_h_thrown_z, f_h_now_z) = some (r, v_h_thrown', f_h_now') → ∀ (H : Heap) (locs : List Loc) (ls : Array Slot) (pc : Nat), va_P D vwCl [(h, .inr (9, [.int v_h_thrown_z, .ref h_now, .ref h_aside, .int v_h_kept, .ref h_books, .ref h_tide, .ref h_rain, .ref h_rule, .int v_h_counted, .ref h_counts, .ref h_begins, .ref h_best, .int v_h_bestWorth, .int v_h_bestPitch, .int v_h_bestBits, .int v_h_leastHour, .int v_h_leastSet, .int v_h_shut, .ref h_planks])), (h_now, .inl (cI, 169, .inl f_h_now_z)), (h_rain, .inl (cI, 96, .inl f_h_rain)), (h_rule, .inl (cI, 8, .inl f_h_rule))] H → va_D A [(h, .inr (9, [.int v_h_thrown_z, .ref h_now, .ref h_aside, .int v_h_kept, .ref h_books, .ref h_tide, .ref h_rain, .ref h_rule, .int v_h_counted, .ref h_counts, .ref h_begins, .ref h_best, .int v_h_bestWorth, .int v_h_bestPitch, .int v_h_bestBits, .int v_h_leastHour, .int v_h_leastSet, .int v_h_shut, .ref h_planks])), (h_now, .inl (cI, 169, .inl f_h_now_z)), (h_rain, .inl (cI, 96, .inl f_h_rain)), (h_rule, .inl (cI, 8, .inl f_h_rule))] → va_S A s.heap H locs → narrow .int (.int r_z) = .int r_z → decode cX9_rig pc = .ok (.ireturn, 1) → W p l e rm_X9_rig s m args below meth c H locs 0 0 Q (F0 m pc ls [.int r_z]) := by
    intro r_z v_h_thrown_z f_h_now_z hz H locs ls pc hP hD hS hn hd
    cases hz
    exact k_iret hx hb hr hlocks hn hK hP hD hS hQ rfl hd
  unfold p_X9_rig at hf
  refine lv_aload_n hx hb dX9_rig_0 rfl (lv_at hl 0 rfl) ?_
  refine lv_iconst (v := 0) hx hb dX9_rig_1 (by decide) ?_
  refine k_putf (ws2 := [(h, .inr (9, [.int 0, .ref h_now, .ref h_aside, .int v_h_kept, .ref h_books, .ref h_tide, .ref h_rain, .ref h_rule, .int v_h_counted, .ref h_counts, .ref h_begins, .ref h_best, .int v_h_bestWorth, .int v_h_bestPitch, .int v_h_bestBits, .int v_h_leastHour, .int v_h_leastSet, .int v_h_shut, .ref h_planks])), (h_now, .inl (cI, 169, .inl f_h_now)), (h_rain, .inl (cI, 96, .inl f_h_rain)), (h_rule, .inl (cI, 8, .inl f_h_rule))]) (C := RX9) (T := TX9) (N := 19) hx hb hts inX9 tyX9 tyX9_ok nmX9 hown hK hP hD hS 0 rfl rfl 0 (by decide) rfl wl1 rfl rfl rfl (Nat.le_of_ble_eq_true rfl) rfl dX9_rig_2 (fun H locs hP hD hS => ?_)
  refine lv_iload_n hx hb dX9_rig_5 rfl (lv_at hl 1 rfl) ?_
  refine lv_i2l (v := (a1).toInt64) hx hb dX9_rig_6 rfl ?_
  refine lv_lconst (v := 0) hx hb dX9_rig_7 (by decide) ?_
  refine lv_aload_n hx hb dX9_rig_8 rfl (lv_at hl 0 rfl) ?_
  refine k_get (C := RX9) (T := TX9) (N := 19) hx hb hts inX9 hown hK hP 0 rfl rfl 1 (by decide) rfl wl2 rfl dX9_rig_9 ?_
  refine lv_bipush (v := 11) hx hb dX9_rig_12 (by decide) ?_
  refine k_iald (k := 11) hx hb hK hP 1 0 rfl rfl (by unfold vp_in; decide) (by decide) dX9_rig_14 ?_
  refine lv_iconst (v := 1) hx hb dX9_rig_15 (by decide) ?_
  refine lv_isub hx hb dX9_rig_16 ?_
  refine lv_i2l (v := ((f_h_now 11) - 1).toInt64) hx hb dX9_rig_17 rfl ?_
  obtain ⟨r1, hc1, hf⟩ := k_b1_some hf
  refine k_SiR (As := [.long ((a1).toInt64), .long 0, .long (((f_h_now 11) - 1).toInt64)]) (rest := []) S0 (c_X9_in l D cI cZ cJ cS ((a1).toInt64) 0 (((f_h_now 11) - 1).toInt64) r1 hc1) (va_cwS 3 hts gX9_rig_X9_in rfl rfl rfl hdS_X9_in ⟨Nat.le_of_ble_eq_true rfl, Nat.le_of_ble_eq_true rfl⟩) hK hP hD hS hA hN [] rfl (by decide) rfl hl.1 rfl (Nat.le_of_ble_eq_true rfl) dX9_rig_18 (fun H locs hP hS => ?_)
  refine lv_if_ne (tgt := 26) hx hb dX9_rig_21 (by decide) (fun c2 => ?_) (fun c2 => ?_)
  · replace hf := k_neg hf c2
    refine lv_aload_n hx hb dX9_rig_26 rfl (lv_at hl 0 rfl) ?_
    refine k_get (C := RX9) (T := TX9) (N := 19) hx hb hts inX9 hown hK hP 0 rfl rfl 1 (by decide) rfl wl2 rfl dX9_rig_27 ?_
    refine lv_bipush (v := 67) hx hb dX9_rig_30 (by decide) ?_
    refine lv_iload_n hx hb dX9_rig_32 rfl (lv_at hl 1 rfl) ?_
    refine lv_iadd hx hb dX9_rig_33 ?_
    obtain ⟨hi3, hf⟩ := k_ix_some hf
    refine k_iald (k := (67 + a1).toNatClampNeg) hx hb hK hP 1 0 rfl rfl hi3 rfl dX9_rig_34 ?_
    refine lv_istore_n (lv' := [(3, .int (f_h_now (67 + a1).toNatClampNeg)), (0, .ref h), (1, .int a1), (2, .int a2)]) hx hb dX9_rig_35 rfl hl (by decide) rfl (fun ls hl => ?_)
    refine lv_aload_n hx hb dX9_rig_36 rfl (lv_at hl 1 rfl) ?_
    refine k_get (C := RX9) (T := TX9) (N := 19) hx hb hts inX9 hown hK hP 0 rfl rfl 1 (by decide) rfl wl2 rfl dX9_rig_37 ?_
    refine lv_bipush (v := 67) hx hb dX9_rig_40 (by decide) ?_
    refine lv_iload_n hx hb dX9_rig_42 rfl (lv_at hl 2 rfl) ?_
    refine lv_iadd hx hb dX9_rig_43 ?_
    refine lv_iload_n hx hb dX9_rig_44 rfl (lv_at hl 3 rfl) ?_
    refine lv_if_eq (tgt := 52) hx hb dX9_rig_45 (by decide) (fun c4 => ?_) (fun c4 => ?_)
    · replace hf := k_pos hf c4
      refine lv_iconst (v := 0) hx hb dX9_rig_52 (by decide) ?_
      obtain ⟨hi5, hf⟩ := k_ix_some hf
      refine k_iast (ws2 := [(h, .inr (9, [.int 0, .ref h_now, .ref h_aside, .int v_h_kept, .ref h_books, .ref h_tide, .ref h_rain, .ref h_rule, .int v_h_counted, .ref h_counts, .ref h_begins, .ref h_best, .int v_h_bestWorth, .int v_h_bestPitch, .int v_h_bestBits, .int v_h_leastHour, .int v_h_leastSet, .int v_h_shut, .ref h_planks])), (h_now, .inl (cI, 169, .inl (upd f_h_now (67 + a1).toNatClampNeg 0))), (h_rain, .inl (cI, 96, .inl f_h_rain)), (h_rule, .inl (cI, 8, .inl f_h_rule))]) (k := (67 + a1).toNatClampNeg) hx hb hK hP hD hS 1 0 rfl rfl hi5 rfl rfl dX9_rig_53 (fun H locs hP hD hS => ?_)
      refine lv_aload_n hx hb dX9_rig_54 rfl (lv_at hl 1 rfl) ?_
      refine lv_aload_n hx hb dX9_rig_55 rfl (lv_at hl 1 rfl) ?_
      refine k_get (C := RX9) (T := TX9) (N := 19) hx hb hts inX9 hown hK hP 0 rfl rfl 1 (by decide) rfl wl2 rfl dX9_rig_56 ?_
      refine lv_iconst (v := 1) hx hb dX9_rig_59 (by decide) ?_
      refine k_iald (k := 1) hx hb hK hP 1 0 rfl rfl (by unfold vp_in; decide) (by decide) dX9_rig_60 ?_
      refine lv_aload_n hx hb dX9_rig_61 rfl (lv_at hl 1 rfl) ?_
      refine lv_aload_n hx hb dX9_rig_62 rfl (lv_at hl 1 rfl) ?_
      refine k_get (C := RX9) (T := TX9) (N := 19) hx hb hts inX9 hown hK hP 0 rfl rfl 1 (by decide) rfl wl2 rfl dX9_rig_63 ?_
      refine lv_iconst (v := 0) hx hb dX9_rig_66 (by decide) ?_
      refine k_iald (k := 0) hx hb hK hP 1 0 rfl rfl (by unfold vp_in; decide) (by decide) dX9_rig_67 ?_
      obtain ⟨r6, hc6, hf⟩ := k_b1_some hf
      refine k_ViR (q0 := 0) (As := [.int ((upd f_h_now (67 + a1).toNatClampNeg 0) 0)]) (rest := [.int ((upd f_h_now (67 + a1).toNatClampNeg 0) 1), .ref h]) S0 (c_X9_rains l D cI cZ cJ cS h h_now h_aside h_books h_tide h_rain h_rule h_counts h_begins h_best h_planks 0 v_h_kept v_h_counted v_h_bestWorth v_h_bestPitch v_h_bestBits v_h_leastHour v_h_leastSet v_h_shut f_h_rain ((upd f_h_now (67 + a1).toNatClampNeg 0) 0) r6 hc6) (cwV 1 hts gX9_rig_X9_rains rfl rfl rfl hdV_X9_rains ⟨Nat.le_of_ble_eq_true rfl, Nat.le_of_ble_eq_true rfl⟩) hK hP hD hS hA hN [0, 2] rfl (by decide) rfl rfl rfl rfl hl.1 rfl (Nat.le_of_ble_eq_true rfl) dX9_rig_68 (fun H locs hP hS => ?_)
      obtain ⟨r7, hc7, hf⟩ := k_b1_some hf
      refine k_ViR (q0 := 0) (As := [.int ((upd f_h_now (67 + a1).toNatClampNeg 0) 1), .int r6]) (rest := []) S0 (c_X9_holds l D cI cZ cJ cS h h_now h_aside h_books h_tide h_rain h_rule h_counts h_begins h_best h_planks 0 v_h_kept v_h_counted v_h_bestWorth v_h_bestPitch v_h_bestBits v_h_leastHour v_h_leastSet v_h_shut (upd f_h_now (67 + a1).toNatClampNeg 0) f_h_rule ((upd f_h_now (67 + a1).toNatClampNeg 0) 1) r6 r7 hc7) (cwV 2 hts gX9_rig_X9_holds rfl rfl rfl hdV_X9_holds ⟨Nat.le_of_ble_eq_true rfl, Nat.le_of_ble_eq_true rfl⟩) hK hP hD hS hA hN [0, 1, 3] rfl (by decide) rfl rfl rfl rfl hl.1 rfl (Nat.le_of_ble_eq_true rfl) dX9_rig_71 (fun H locs hP hS => ?_)
      refine lv_if_ne (tgt := 90) hx hb dX9_rig_74 (by decide) (fun c8 => ?_) (fun c8 => ?_)
      · replace hf := k_neg hf c8
        refine lv_iload_n hx hb dX9_rig_90 rfl (lv_at hl 0 rfl) ?_
        exact hRet _ _ _ hf _ _ _ _ hP hD hS rfl dX9_rig_91
      · replace hf := k_pos hf c8
        refine lv_aload_n hx hb dX9_rig_77 rfl (lv_at hl 1 rfl) ?_
        refine k_get (C := RX9) (T := TX9) (N := 19) hx hb hts inX9 hown hK hP 0 rfl rfl 1 (by decide) rfl wl2 rfl dX9_rig_78 ?_
        refine lv_bipush (v := 67) hx hb dX9_rig_81 (by decide) ?_
        refine lv_iload_n hx hb dX9_rig_83 rfl (lv_at hl 2 rfl) ?_
        refine lv_iadd hx hb dX9_rig_84 ?_
        refine lv_iload_n hx hb dX9_rig_85 rfl (lv_at hl 0 rfl) ?_
        obtain ⟨hi9, hf⟩ := k_ix_some hf
        refine k_iast (ws2 := [(h, .inr (9, [.int 0, .ref h_now, .ref h_aside, .int v_h_kept, .ref h_books, .ref h_tide, .ref h_rain, .ref h_rule, .int v_h_counted, .ref h_counts, .ref h_begins, .ref h_best, .int v_h_bestWorth, .int v_h_bestPitch, .int v_h_bestBits, .int v_h_leastHour, .int v_h_leastSet, .int v_h_shut, .ref h_planks])), (h_now, .inl (cI, 169, .inl (upd (upd f_h_now (67 + a1).toNatClampNeg 0) (67 + a1).toNatClampNeg (f_h_now (67 + a1).toNatClampNeg)))), (h_rain, .inl (cI, 96, .inl f_h_rain)), (h_rule, .inl (cI, 8, .inl f_h_rule))]) (k := (67 + a1).toNatClampNeg) hx hb hK hP hD hS 1 0 rfl rfl hi9 rfl rfl dX9_rig_86 (fun H locs hP hD hS => ?_)
        refine lv_bipush (v := (-2)) hx hb dX9_rig_87 (by decide) ?_
        exact hRet _ _ _ hf _ _ _ _ hP hD hS rfl dX9_rig_89
    · replace hf := k_neg hf c4
      refine lv_iconst (v := 1) hx hb dX9_rig_48 (by decide) ?_
      refine lv_goto (tgt := 53) hx hb dX9_rig_49 (by decide) ?_
      obtain ⟨hi10, hf⟩ := k_ix_some hf
      refine k_iast (ws2 := [(h, .inr (9, [.int 0, .ref h_now, .ref h_aside, .int v_h_kept, .ref h_books, .ref h_tide, .ref h_rain, .ref h_rule, .int v_h_counted, .ref h_counts, .ref h_begins, .ref h_best, .int v_h_bestWorth, .int v_h_bestPitch, .int v_h_bestBits, .int v_h_leastHour, .int v_h_leastSet, .int v_h_shut, .ref h_planks])), (h_now, .inl (cI, 169, .inl (upd f_h_now (67 + a1).toNatClampNeg 1))), (h_rain, .inl (cI, 96, .inl f_h_rain)), (h_rule, .inl (cI, 8, .inl f_h_rule))]) (k := (67 + a1).toNatClampNeg) hx hb hK hP hD hS 1 0 rfl rfl hi10 rfl rfl dX9_rig_53 (fun H locs hP hD hS => ?_)
      refine lv_aload_n hx hb dX9_rig_54 rfl (lv_at hl 1 rfl) ?_
      refine lv_aload_n hx hb dX9_rig_55 rfl (lv_at hl 1 rfl) ?_
      refine k_get (C := RX9) (T := TX9) (N := 19) hx hb hts inX9 hown hK hP 0 rfl rfl 1 (by decide) rfl wl2 rfl dX9_rig_56 ?_
      refine lv_iconst (v := 1) hx hb dX9_rig_59 (by decide) ?_
      refine k_iald (k := 1) hx hb hK hP 1 0 rfl rfl (by unfold vp_in; decide) (by decide) dX9_rig_60 ?_
      refine lv_aload_n hx hb dX9_rig_61 rfl (lv_at hl 1 rfl) ?_
      refine lv_aload_n hx hb dX9_rig_62 rfl (lv_at hl 1 rfl) ?_
      refine k_get (C := RX9) (T := TX9) (N := 19) hx hb hts inX9 hown hK hP 0 rfl rfl 1 (by decide) rfl wl2 rfl dX9_rig_63 ?_
      refine lv_iconst (v := 0) hx hb dX9_rig_66 (by decide) ?_
      refine k_iald (k := 0) hx hb hK hP 1 0 rfl rfl (by unfold vp_in; decide) (by decide) dX9_rig_67 ?_
      obtain ⟨r11, hc11, hf⟩ := k_b1_some hf
      refine k_ViR (q0 := 0) (As := [.int ((upd f_h_now (67 + a1).toNatClampNeg 1) 0)]) (rest := [.int ((upd f_h_now (67 + a1).toNatClampNeg 1) 1), .ref h]) S0 (c_X9_rains l D cI cZ cJ cS h h_now h_aside h_books h_tide h_rain h_rule h_counts h_begins h_best h_planks 0 v_h_kept v_h_counted v_h_bestWorth v_h_bestPitch v_h_bestBits v_h_leastHour v_h_leastSet v_h_shut f_h_rain ((upd f_h_now (67 + a1).toNatClampNeg 1) 0) r11 hc11) (cwV 1 hts gX9_rig_X9_rains rfl rfl rfl hdV_X9_rains ⟨Nat.le_of_ble_eq_true rfl, Nat.le_of_ble_eq_true rfl⟩) hK hP hD hS hA hN [0, 2] rfl (by decide) rfl rfl rfl rfl hl.1 rfl (Nat.le_of_ble_eq_true rfl) dX9_rig_68 (fun H locs hP hS => ?_)
      obtain ⟨r12, hc12, hf⟩ := k_b1_some hf
      refine k_ViR (q0 := 0) (As := [.int ((upd f_h_now (67 + a1).toNatClampNeg 1) 1), .int r11]) (rest := []) S0 (c_X9_holds l D cI cZ cJ cS h h_now h_aside h_books h_tide h_rain h_rule h_counts h_begins h_best h_planks 0 v_h_kept v_h_counted v_h_bestWorth v_h_bestPitch v_h_bestBits v_h_leastHour v_h_leastSet v_h_shut (upd f_h_now (67 + a1).toNatClampNeg 1) f_h_rule ((upd f_h_now (67 + a1).toNatClampNeg 1) 1) r11 r12 hc12) (cwV 2 hts gX9_rig_X9_holds rfl rfl rfl hdV_X9_holds ⟨Nat.le_of_ble_eq_true rfl, Nat.le_of_ble_eq_true rfl⟩) hK hP hD hS hA hN [0, 1, 3] rfl (by decide) rfl rfl rfl rfl hl.1 rfl (Nat.le_of_ble_eq_true rfl) dX9_rig_71 (fun H locs hP hS => ?_)
      refine lv_if_ne (tgt := 90) hx hb dX9_rig_74 (by decide) (fun c13 => ?_) (fun c13 => ?_)
      · replace hf := k_neg hf c13
        refine lv_iload_n hx hb dX9_rig_90 rfl (lv_at hl 0 rfl) ?_
        exact hRet _ _ _ hf _ _ _ _ hP hD hS rfl dX9_rig_91
      · replace hf := k_pos hf c13
        refine lv_aload_n hx hb dX9_rig_77 rfl (lv_at hl 1 rfl) ?_
        refine k_get (C := RX9) (T := TX9) (N := 19) hx hb hts inX9 hown hK hP 0 rfl rfl 1 (by decide) rfl wl2 rfl dX9_rig_78 ?_
        refine lv_bipush (v := 67) hx hb dX9_rig_81 (by decide) ?_
        refine lv_iload_n hx hb dX9_rig_83 rfl (lv_at hl 2 rfl) ?_
        refine lv_iadd hx hb dX9_rig_84 ?_
        refine lv_iload_n hx hb dX9_rig_85 rfl (lv_at hl 0 rfl) ?_
        obtain ⟨hi14, hf⟩ := k_ix_some hf
        refine k_iast (ws2 := [(h, .inr (9, [.int 0, .ref h_now, .ref h_aside, .int v_h_kept, .ref h_books, .ref h_tide, .ref h_rain, .ref h_rule, .int v_h_counted, .ref h_counts, .ref h_begins, .ref h_best, .int v_h_bestWorth, .int v_h_bestPitch, .int v_h_bestBits, .int v_h_leastHour, .int v_h_leastSet, .int v_h_shut, .ref h_planks])), (h_now, .inl (cI, 169, .inl (upd (upd f_h_now (67 + a1).toNatClampNeg 1) (67 + a1).toNatClampNeg (f_h_now (67 + a1).toNatClampNeg)))), (h_rain, .inl (cI, 96, .inl f_h_rain)), (h_rule, .inl (cI, 8, .inl f_h_rule))]) (k := (67 + a1).toNatClampNeg) hx hb hK hP hD hS 1 0 rfl rfl hi14 rfl rfl dX9_rig_86 (fun H locs hP hD hS => ?_)
        refine lv_bipush (v := (-2)) hx hb dX9_rig_87 (by decide) ?_
        exact hRet _ _ _ hf _ _ _ _ hP hD hS rfl dX9_rig_89
  · replace hf := k_pos hf c2
    refine lv_iconst (v := (-1)) hx hb dX9_rig_24 (by decide) ?_
    exact hRet _ _ _ hf _ _ _ _ hP hD hS rfl dX9_rig_25

def p_X9_hoursFor (f_h_now : Nat → Int32) (a1 : Int32) : Option (Int32) :=
  k_ix (145 + a1) 169 (
    if (f_h_now (145 + a1).toNatClampNeg) = 0 then
      k_ix (109 + a1) 169 (
        k_ix (157 + a1) 169 (
          some ((1 + (f_h_now (109 + a1).toNatClampNeg)) - (f_h_now (157 + a1).toNatClampNeg))))
    else
      k_ix (109 + a1) 169 (
        k_ix (157 + a1) 169 (
          some ((0 + (f_h_now (109 + a1).toNatClampNeg)) - (f_h_now (157 + a1).toNatClampNeg)))))
abbrev rm_X9_hoursFor : Room := { frames := 0, cells := 0, slots := 0, locals := 0 }
theorem hdS_X9_hoursFor : yX9_hoursFor.cls ≠ "java/lang/invoke/MethodHandle" ∧ yX9_hoursFor.cls ≠ "java/lang/invoke/VarHandle" ∧ (parseMethodDescriptor yX9_hoursFor.desc).map (fun d => d.parameters.length) = some 1 := by decide +kernel
theorem hdV_X9_hoursFor : yX9_hoursFor.cls = RX9 ∧ yX9_hoursFor.cls ≠ "java/lang/invoke/MethodHandle" ∧ yX9_hoursFor.cls ≠ "java/lang/invoke/VarHandle" ∧ (parseMethodDescriptor yX9_hoursFor.desc).map (fun d => d.parameters.length) = some 1 := by decide +kernel
set_option maxHeartbeats 4000000 in
set_option maxRecDepth 100000 in
theorem c_X9_hoursFor (l : Launch) (D : va_G) (cI cZ cJ cS : ClassId) (h h_now h_aside h_books h_tide h_rain h_rule h_counts h_begins h_best h_planks : Nat) (v_h_thrown : Int32) (v_h_kept : Int32) (v_h_counted : Int32) (v_h_bestWorth : Int32) (v_h_bestPitch : Int32) (v_h_bestBits : Int32) (v_h_leastHour : Int32) (v_h_leastSet : Int32) (v_h_shut : Int32) (f_h_now : Nat → Int32) (a1 : Int32) (r : Int32) (hf : p_X9_hoursFor f_h_now a1 = some r) : k_MI l yX9_hoursFor wsX9_hoursFor rm_X9_hoursFor D (k_tys cI cZ cJ cS) [.ref h, .int a1] [(h, .inr (9, [.int v_h_thrown, .ref h_now, .ref h_aside, .int v_h_kept, .ref h_books, .ref h_tide, .ref h_rain, .ref h_rule, .int v_h_counted, .ref h_counts, .ref h_begins, .ref h_best, .int v_h_bestWorth, .int v_h_bestPitch, .int v_h_bestBits, .int v_h_leastHour, .int v_h_leastSet, .int v_h_shut, .ref h_planks])), (h_now, .inl (cI, 169, .inl f_h_now))] [(h, .inr (9, [.int v_h_thrown, .ref h_now, .ref h_aside, .int v_h_kept, .ref h_books, .ref h_tide, .ref h_rain, .ref h_rule, .int v_h_counted, .ref h_counts, .ref h_begins, .ref h_best, .int v_h_bestWorth, .int v_h_bestPitch, .int v_h_bestBits, .int v_h_leastHour, .int v_h_leastSet, .int v_h_shut, .ref h_planks])), (h_now, .inl (cI, 169, .inl f_h_now))] r := by
  refine k_enter (y := yX9_hoursFor) (wl := wsX9_hoursFor) (rm := rm_X9_hoursFor) (av := [.ref h, .int a1]) (D := D) (tys := k_tys cI cZ cJ cS) (ws := [(h, .inr (9, [.int v_h_thrown, .ref h_now, .ref h_aside, .int v_h_kept, .ref h_books, .ref h_tide, .ref h_rain, .ref h_rule, .int v_h_counted, .ref h_counts, .ref h_begins, .ref h_best, .int v_h_bestWorth, .int v_h_bestPitch, .int v_h_bestBits, .int v_h_leastHour, .int v_h_leastSet, .int v_h_shut, .ref h_planks])), (h_now, .inl (cI, 169, .inl f_h_now))]) (cc := cX9_hoursFor) (maxL := 2) (ret := (some .int)) (Qc := fun A => k_Qi D (k_tys cI cZ cJ cS) [(h, .inr (9, [.int v_h_thrown, .ref h_now, .ref h_aside, .int v_h_kept, .ref h_books, .ref h_tide, .ref h_rain, .ref h_rule, .int v_h_counted, .ref h_counts, .ref h_begins, .ref h_best, .int v_h_bestWorth, .int v_h_bestPitch, .int v_h_bestBits, .int v_h_leastHour, .int v_h_leastSet, .int v_h_shut, .ref h_planks])), (h_now, .inl (cI, 169, .inl f_h_now))] A r) (by decide) rfl (Nat.le_of_ble_eq_true rfl) [(0, .ref h), (1, .int a1)] rfl ?_
  intro p e s m below meth c A hx hb hml hr hlocks hnm hown hK hP hD hA hS hN ls args Q hts hl hQ
  replace hown : s.vm.findClass RX9 = some m.cls := hown
  have inX9 : ∀ w ∈ u_ws RX9 TX9 19, w ∈ wsX9_hoursFor := fun w h => List.mem_cons_of_mem _ (List.mem_append_right _ h)
  have wl1 : (Cond.fieldLink RX9 13 "BeachedShipModel" "now" "[I").before args s = true := hts _ (List.mem_of_getElem? (i := 1) rfl)
  have hRet : ∀ (r_z : Int32), some r_z = some r → ∀ (H : Heap) (locs : List Loc) (ls : Array Slot) (pc : Nat), va_P D vwCl [(h, .inr (9, [.int v_h_thrown, .ref h_now, .ref h_aside, .int v_h_kept, .ref h_books, .ref h_tide, .ref h_rain, .ref h_rule, .int v_h_counted, .ref h_counts, .ref h_begins, .ref h_best, .int v_h_bestWorth, .int v_h_bestPitch, .int v_h_bestBits, .int v_h_leastHour, .int v_h_leastSet, .int v_h_shut, .ref h_planks])), (h_now, .inl (cI, 169, .inl f_h_now))] H → va_D A [(h, .inr (9, [.int v_h_thrown, .ref h_now, .ref h_aside, .int v_h_kept, .ref h_books, .ref h_tide, .ref h_rain, .ref h_rule, .int v_h_counted, .ref h_counts, .ref h_begins, .ref h_best, .int v_h_bestWorth, .int v_h_bestPitch, .int v_h_bestBits, .int v_h_leastHour, .int v_h_leastSet, .int v_h_shut, .ref h_planks])), (h_now, .inl (cI, 169, .inl f_h_now))] → va_S A s.heap H locs → narrow .int (.int r_z) = .int r_z → decode cX9_hoursFor pc = .ok (.ireturn, 1) → W p l e rm_X9_hoursFor s m args below meth c H locs 0 0 Q (F0 m pc ls [.int r_z]) := by
    intro r_z hz H locs ls pc hP hD hS hn hd
    cases hz
    exact k_iret hx hb hr hlocks hn hK hP hD hS hQ rfl hd
  unfold p_X9_hoursFor at hf
  refine lv_aload_n hx hb dX9_hoursFor_0 rfl (lv_at hl 0 rfl) ?_
  refine k_get (C := RX9) (T := TX9) (N := 19) hx hb hts inX9 hown hK hP 0 rfl rfl 1 (by decide) rfl wl1 rfl dX9_hoursFor_1 ?_
  refine lv_sipush (v := 145) hx hb dX9_hoursFor_4 (by decide) ?_
  refine lv_iload_n hx hb dX9_hoursFor_7 rfl (lv_at hl 1 rfl) ?_
  refine lv_iadd hx hb dX9_hoursFor_8 ?_
  obtain ⟨hi1, hf⟩ := k_ix_some hf
  refine k_iald (k := (145 + a1).toNatClampNeg) hx hb hK hP 1 0 rfl rfl hi1 rfl dX9_hoursFor_9 ?_
  refine lv_if_ne (tgt := 17) hx hb dX9_hoursFor_10 (by decide) (fun c2 => ?_) (fun c2 => ?_)
  · replace hf := k_neg hf c2
    refine lv_iconst (v := 0) hx hb dX9_hoursFor_17 (by decide) ?_
    refine lv_aload_n hx hb dX9_hoursFor_18 rfl (lv_at hl 0 rfl) ?_
    refine k_get (C := RX9) (T := TX9) (N := 19) hx hb hts inX9 hown hK hP 0 rfl rfl 1 (by decide) rfl wl1 rfl dX9_hoursFor_19 ?_
    refine lv_bipush (v := 109) hx hb dX9_hoursFor_22 (by decide) ?_
    refine lv_iload_n hx hb dX9_hoursFor_24 rfl (lv_at hl 1 rfl) ?_
    refine lv_iadd hx hb dX9_hoursFor_25 ?_
    obtain ⟨hi3, hf⟩ := k_ix_some hf
    refine k_iald (k := (109 + a1).toNatClampNeg) hx hb hK hP 1 0 rfl rfl hi3 rfl dX9_hoursFor_26 ?_
    refine lv_iadd hx hb dX9_hoursFor_27 ?_
    refine lv_aload_n hx hb dX9_hoursFor_28 rfl (lv_at hl 0 rfl) ?_
    refine k_get (C := RX9) (T := TX9) (N := 19) hx hb hts inX9 hown hK hP 0 rfl rfl 1 (by decide) rfl wl1 rfl dX9_hoursFor_29 ?_
    refine lv_sipush (v := 157) hx hb dX9_hoursFor_32 (by decide) ?_
    refine lv_iload_n hx hb dX9_hoursFor_35 rfl (lv_at hl 1 rfl) ?_
    refine lv_iadd hx hb dX9_hoursFor_36 ?_
    obtain ⟨hi4, hf⟩ := k_ix_some hf
    refine k_iald (k := (157 + a1).toNatClampNeg) hx hb hK hP 1 0 rfl rfl hi4 rfl dX9_hoursFor_37 ?_
    refine lv_isub hx hb dX9_hoursFor_38 ?_
    exact hRet _ hf _ _ _ _ hP hD hS rfl dX9_hoursFor_39
  · replace hf := k_pos hf c2
    refine lv_iconst (v := 1) hx hb dX9_hoursFor_13 (by decide) ?_
    refine lv_goto (tgt := 18) hx hb dX9_hoursFor_14 (by decide) ?_
    refine lv_aload_n hx hb dX9_hoursFor_18 rfl (lv_at hl 0 rfl) ?_
    refine k_get (C := RX9) (T := TX9) (N := 19) hx hb hts inX9 hown hK hP 0 rfl rfl 1 (by decide) rfl wl1 rfl dX9_hoursFor_19 ?_
    refine lv_bipush (v := 109) hx hb dX9_hoursFor_22 (by decide) ?_
    refine lv_iload_n hx hb dX9_hoursFor_24 rfl (lv_at hl 1 rfl) ?_
    refine lv_iadd hx hb dX9_hoursFor_25 ?_
    obtain ⟨hi5, hf⟩ := k_ix_some hf
    refine k_iald (k := (109 + a1).toNatClampNeg) hx hb hK hP 1 0 rfl rfl hi5 rfl dX9_hoursFor_26 ?_
    refine lv_iadd hx hb dX9_hoursFor_27 ?_
    refine lv_aload_n hx hb dX9_hoursFor_28 rfl (lv_at hl 0 rfl) ?_
    refine k_get (C := RX9) (T := TX9) (N := 19) hx hb hts inX9 hown hK hP 0 rfl rfl 1 (by decide) rfl wl1 rfl dX9_hoursFor_29 ?_
    refine lv_sipush (v := 157) hx hb dX9_hoursFor_32 (by decide) ?_
    refine lv_iload_n hx hb dX9_hoursFor_35 rfl (lv_at hl 1 rfl) ?_
    refine lv_iadd hx hb dX9_hoursFor_36 ?_
    obtain ⟨hi6, hf⟩ := k_ix_some hf
    refine k_iald (k := (157 + a1).toNatClampNeg) hx hb hK hP 1 0 rfl rfl hi6 rfl dX9_hoursFor_37 ?_
    refine lv_isub hx hb dX9_hoursFor_38 ?_
    exact hRet _ hf _ _ _ _ hP hD hS rfl dX9_hoursFor_39

def lb_X9_isPlan_158 (v_h_counted : Int32) (f_h_begins : Nat → Int32) (x3_197 : Int32) (f_h_now : Nat → Int32) (f_h_counts : Nat → Int32) (x4_222 : Int32) (x5_223 : Int32) : Option ((Int32 × Int32) ⊕ (Int32)) :=
  if v_h_counted ≤ x5_223 then
    some (.inr x4_222)
  else
    k_ix x5_223 5 (
      if (f_h_begins x5_223.toNatClampNeg) < 0 then
        some (.inl (x4_222 + 0, x5_223 + 1))
      else
        k_ix x5_223 5 (
          if x3_197 < (f_h_begins x5_223.toNatClampNeg) then
            some (.inl (x4_222 + 0, x5_223 + 1))
          else
            k_ix x5_223 5 (
              k_ix x5_223 5 (
                k_b1 (p_X9_hoursFor f_h_now (f_h_counts x5_223.toNatClampNeg)) fun r231 =>
                if ((f_h_begins x5_223.toNatClampNeg) + r231) ≤ x3_197 then
                  some (.inl (x4_222 + 0, x5_223 + 1))
                else
                  k_ix x5_223 5 (
                    k_ix (97 + (f_h_counts x5_223.toNatClampNeg)) 169 (
                      k_lt (x4_222 + (f_h_now (97 + (f_h_counts x5_223.toNatClampNeg)).toNatClampNeg)) fun y235 =>
                      some (.inl (y235, x5_223 + 1))))))))
def lb_X9_isPlan_147 (a1 : Int32) (v_h_counted : Int32) (f_h_begins : Nat → Int32) (f_h_now : Nat → Int32) (f_h_counts : Nat → Int32) (f_h_rule : Nat → Int32) (x3_197 : Int32) : Option ((Int32) ⊕ ((Int32) ⊕ (Unit))) :=
  if a1 ≤ x3_197 then
    some (.inr (.inr ()))
  else
    k_b1 (k_lp (fun s => lb_X9_isPlan_158 v_h_counted f_h_begins x3_197 f_h_now f_h_counts s.1 s.2) k_fuel (0, 0)) fun x4_220 =>
    if x4_220 ≤ (f_h_rule 3) then
      some (.inl (x3_197 + 1))
    else
      some (.inr (.inl 0))
def lb_X9_isPlan_82 (f_h_now : Nat → Int32) (f_h_counts : Nat → Int32) (x3_237 : Int32) (f_h_rain : Nat → Int32) (f_h_begins : Nat → Int32) (f_h_tide : Nat → Int32) (x5_263 : Int32) : Option ((Int32) ⊕ ((Int32) ⊕ (Unit))) :=
  k_b1 (p_X9_hoursFor f_h_now (f_h_counts x3_237.toNatClampNeg)) fun r264 =>
  if r264 ≤ x5_263 then
    some (.inr (.inr ()))
  else
    k_ix x3_237 5 (
      k_b1 (p_X9_rains f_h_rain (((f_h_now 0) + (f_h_begins x3_237.toNatClampNeg)) + x5_263)) fun r267 =>
      if r267 = 0 then
        k_b1 (p_X9_isBare f_h_now f_h_tide (f_h_counts x3_237.toNatClampNeg) (((f_h_now 0) + (f_h_begins x3_237.toNatClampNeg)) + x5_263)) fun r269 =>
        if r269 = 0 then
          some (.inr (.inl 0))
        else
          some (.inl (x5_263 + 1))
      else
        some (.inr (.inl 0)))
def lb_X9_isPlan_82_1 (f_h_now : Nat → Int32) (f_h_counts : Nat → Int32) (x3_237 : Int32) (f_h_rain : Nat → Int32) (f_h_begins : Nat → Int32) (f_h_tide : Nat → Int32) (x5_292 : Int32) : Option ((Int32) ⊕ ((Int32) ⊕ (Unit))) :=
  k_b1 (p_X9_hoursFor f_h_now (f_h_counts x3_237.toNatClampNeg)) fun r293 =>
  if r293 ≤ x5_292 then
    some (.inr (.inr ()))
  else
    k_ix x3_237 5 (
      k_b1 (p_X9_rains f_h_rain (((f_h_now 0) + (f_h_begins x3_237.toNatClampNeg)) + x5_292)) fun r296 =>
      if r296 = 0 then
        k_b1 (p_X9_isBare f_h_now f_h_tide (f_h_counts x3_237.toNatClampNeg) (((f_h_now 0) + (f_h_begins x3_237.toNatClampNeg)) + x5_292)) fun r298 =>
        if r298 = 0 then
          some (.inr (.inl 0))
        else
          some (.inl (x5_292 + 1))
      else
        some (.inr (.inl 0)))
def lb_X9_isPlan_4 (v_h_counted : Int32) (f_h_begins : Nat → Int32) (f_h_counts : Nat → Int32) (f_h_now : Nat → Int32) (a1 : Int32) (f_h_rain : Nat → Int32) (f_h_tide : Nat → Int32) (x2_236 : Int32) (x3_237 : Int32) : Option ((Int32 × Int32) ⊕ ((Int32) ⊕ (Int32))) :=
  if v_h_counted ≤ x3_237 then
    some (.inr (.inr x2_236))
  else
    k_ix x3_237 5 (
      k_ix x3_237 5 (
        if (f_h_begins x3_237.toNatClampNeg) < 0 then
          some (.inl (x2_236, x3_237 + 1))
        else
          k_ix (157 + (f_h_counts x3_237.toNatClampNeg)) 169 (
            if (f_h_now (157 + (f_h_counts x3_237.toNatClampNeg)).toNatClampNeg) = 0 then
              k_ix (121 + (f_h_counts x3_237.toNatClampNeg)) 169 (
                k_lt (x2_236 + (f_h_now (121 + (f_h_counts x3_237.toNatClampNeg)).toNatClampNeg)) fun y272 =>
                k_ix x3_237 5 (
                  k_b1 (p_X9_hoursFor f_h_now (f_h_counts x3_237.toNatClampNeg)) fun r274 =>
                  if ((f_h_begins x3_237.toNatClampNeg) + r274) ≤ a1 then
                    k_bx0 (k_lp (fun s => lb_X9_isPlan_82_1 f_h_now f_h_counts x3_237 f_h_rain f_h_begins f_h_tide s) k_fuel 0) (fun q => some (.inr (.inl q))) (
                      some (.inl (y272, x3_237 + 1)))
                  else
                    some (.inr (.inl 0))))
            else
              k_ix x3_237 5 (
                k_b1 (p_X9_hoursFor f_h_now (f_h_counts x3_237.toNatClampNeg)) fun r245 =>
                if ((f_h_begins x3_237.toNatClampNeg) + r245) ≤ a1 then
                  k_bx0 (k_lp (fun s => lb_X9_isPlan_82 f_h_now f_h_counts x3_237 f_h_rain f_h_begins f_h_tide s) k_fuel 0) (fun q => some (.inr (.inl q))) (
                    some (.inl (x2_236 + 0, x3_237 + 1)))
                else
                  some (.inr (.inl 0))))))
def p_X9_isPlan (v_h_counted : Int32) (f_h_counts : Nat → Int32) (f_h_begins : Nat → Int32) (f_h_now : Nat → Int32) (f_h_rain : Nat → Int32) (f_h_tide : Nat → Int32) (f_h_rule : Nat → Int32) (a1 : Int32) : Option (Int32) :=
  k_bx1 (k_lp (fun s => lb_X9_isPlan_4 v_h_counted f_h_begins f_h_counts f_h_now a1 f_h_rain f_h_tide s.1 s.2) k_fuel (0, 0)) (fun q => some q) fun x2_117 =>
  k_bx0 (k_lp (fun s => lb_X9_isPlan_147 a1 v_h_counted f_h_begins f_h_now f_h_counts f_h_rule s) k_fuel 0) (fun q => some q) (
    if (f_h_now 5) < x2_117 then
      some 0
    else
      some 1)
abbrev rm_X9_isPlan : Room := { frames := 2, cells := 0, slots := 0, locals := 44 }
theorem hdS_X9_isPlan : yX9_isPlan.cls ≠ "java/lang/invoke/MethodHandle" ∧ yX9_isPlan.cls ≠ "java/lang/invoke/VarHandle" ∧ (parseMethodDescriptor yX9_isPlan.desc).map (fun d => d.parameters.length) = some 1 := by decide +kernel
theorem hdV_X9_isPlan : yX9_isPlan.cls = RX9 ∧ yX9_isPlan.cls ≠ "java/lang/invoke/MethodHandle" ∧ yX9_isPlan.cls ≠ "java/lang/invoke/VarHandle" ∧ (parseMethodDescriptor yX9_isPlan.desc).map (fun d => d.parameters.length) = some 1 := by decide +kernel
set_option maxHeartbeats 4000000 in
set_option maxRecDepth 100000 in
theorem c_X9_isPlan (l : Launch) (D : va_G) (cI cZ cJ cS : ClassId) (h h_now h_aside h_books h_tide h_rain h_rule h_counts h_begins h_best h_planks : Nat) (v_h_thrown : Int32) (v_h_kept : Int32) (v_h_counted : Int32) (v_h_bestWorth : Int32) (v_h_bestPitch : Int32) (v_h_bestBits : Int32) (v_h_leastHour : Int32) (v_h_leastSet : Int32) (v_h_shut : Int32) (f_h_counts : Nat → Int32) (f_h_begins : Nat → Int32) (f_h_now : Nat → Int32) (f_h_rain : Nat → Int32) (f_h_tide : Nat → Int32) (f_h_rule : Nat → Int32) (a1 : Int32) (r : Int32) (hf : p_X9_isPlan v_h_counted f_h_counts f_h_begins f_h_now f_h_rain f_h_tide f_h_rule a1 = some r) : k_MI l yX9_isPlan wsX9_isPlan rm_X9_isPlan D (k_tys cI cZ cJ cS) [.ref h, .int a1] [(h, .inr (9, [.int v_h_thrown, .ref h_now, .ref h_aside, .int v_h_kept, .ref h_books, .ref h_tide, .ref h_rain, .ref h_rule, .int v_h_counted, .ref h_counts, .ref h_begins, .ref h_best, .int v_h_bestWorth, .int v_h_bestPitch, .int v_h_bestBits, .int v_h_leastHour, .int v_h_leastSet, .int v_h_shut, .ref h_planks])), (h_counts, .inl (cI, 5, .inl f_h_counts)), (h_begins, .inl (cI, 5, .inl f_h_begins)), (h_now, .inl (cI, 169, .inl f_h_now)), (h_rain, .inl (cI, 96, .inl f_h_rain)), (h_tide, .inl (cI, 96, .inl f_h_tide)), (h_rule, .inl (cI, 8, .inl f_h_rule))] [(h, .inr (9, [.int v_h_thrown, .ref h_now, .ref h_aside, .int v_h_kept, .ref h_books, .ref h_tide, .ref h_rain, .ref h_rule, .int v_h_counted, .ref h_counts, .ref h_begins, .ref h_best, .int v_h_bestWorth, .int v_h_bestPitch, .int v_h_bestBits, .int v_h_leastHour, .int v_h_leastSet, .int v_h_shut, .ref h_planks])), (h_counts, .inl (cI, 5, .inl f_h_counts)), (h_begins, .inl (cI, 5, .inl f_h_begins)), (h_now, .inl (cI, 169, .inl f_h_now)), (h_rain, .inl (cI, 96, .inl f_h_rain)), (h_tide, .inl (cI, 96, .inl f_h_tide)), (h_rule, .inl (cI, 8, .inl f_h_rule))] r := by
  refine k_enter (y := yX9_isPlan) (wl := wsX9_isPlan) (rm := rm_X9_isPlan) (av := [.ref h, .int a1]) (D := D) (tys := k_tys cI cZ cJ cS) (ws := [(h, .inr (9, [.int v_h_thrown, .ref h_now, .ref h_aside, .int v_h_kept, .ref h_books, .ref h_tide, .ref h_rain, .ref h_rule, .int v_h_counted, .ref h_counts, .ref h_begins, .ref h_best, .int v_h_bestWorth, .int v_h_bestPitch, .int v_h_bestBits, .int v_h_leastHour, .int v_h_leastSet, .int v_h_shut, .ref h_planks])), (h_counts, .inl (cI, 5, .inl f_h_counts)), (h_begins, .inl (cI, 5, .inl f_h_begins)), (h_now, .inl (cI, 169, .inl f_h_now)), (h_rain, .inl (cI, 96, .inl f_h_rain)), (h_tide, .inl (cI, 96, .inl f_h_tide)), (h_rule, .inl (cI, 8, .inl f_h_rule))]) (cc := cX9_isPlan) (maxL := 7) (ret := (some .boolean)) (Qc := fun A => k_Qi D (k_tys cI cZ cJ cS) [(h, .inr (9, [.int v_h_thrown, .ref h_now, .ref h_aside, .int v_h_kept, .ref h_books, .ref h_tide, .ref h_rain, .ref h_rule, .int v_h_counted, .ref h_counts, .ref h_begins, .ref h_best, .int v_h_bestWorth, .int v_h_bestPitch, .int v_h_bestBits, .int v_h_leastHour, .int v_h_leastSet, .int v_h_shut, .ref h_planks])), (h_counts, .inl (cI, 5, .inl f_h_counts)), (h_begins, .inl (cI, 5, .inl f_h_begins)), (h_now, .inl (cI, 169, .inl f_h_now)), (h_rain, .inl (cI, 96, .inl f_h_rain)), (h_tide, .inl (cI, 96, .inl f_h_tide)), (h_rule, .inl (cI, 8, .inl f_h_rule))] A r) (by decide) rfl (Nat.le_of_ble_eq_true rfl) [(0, .ref h), (1, .int a1)] rfl ?_
  intro p e s m below meth c A hx hb hml hr hlocks hnm hown hK hP hD hA hS hN ls args Q hts hl hQ
  replace hown : s.vm.findClass RX9 = some m.cls := hown
  have S0 : CallFix p m c cX9_isPlan 7 s args wsX9_isPlan RX9 := ⟨hx, hb, hml, hown, hts⟩
  have inX9 : ∀ w ∈ u_ws RX9 TX9 19, w ∈ wsX9_isPlan := fun w h => List.mem_cons_of_mem _ (List.mem_append_right _ h)
  have wl1 : (Cond.fieldLink RX9 144 "BeachedShipModel" "counted" "I").before args s = true := hts _ (List.mem_of_getElem? (i := 1) rfl)
  have wl2 : (Cond.fieldLink RX9 32 "BeachedShipModel" "counts" "[I").before args s = true := hts _ (List.mem_of_getElem? (i := 2) rfl)
  have wl3 : (Cond.fieldLink RX9 35 "BeachedShipModel" "begins" "[I").before args s = true := hts _ (List.mem_of_getElem? (i := 3) rfl)
  have wl4 : (Cond.fieldLink RX9 13 "BeachedShipModel" "now" "[I").before args s = true := hts _ (List.mem_of_getElem? (i := 4) rfl)
  have wl5 : (Cond.fieldLink RX9 29 "BeachedShipModel" "rule" "[I").before args s = true := hts _ (List.mem_of_getElem? (i := 5) rfl)
  have hRet : ∀ (r_z : Int32), some r_z = some r → ∀ (H : Heap) (locs : List Loc) (ls : Array Slot) (pc : Nat), va_P D vwCl [(h, .inr (9, [.int v_h_thrown, .ref h_now, .ref h_aside, .int v_h_kept, .ref h_books, .ref h_tide, .ref h_rain, .ref h_rule, .int v_h_counted, .ref h_counts, .ref h_begins, .ref h_best, .int v_h_bestWorth, .int v_h_bestPitch, .int v_h_bestBits, .int v_h_leastHour, .int v_h_leastSet, .int v_h_shut, .ref h_planks])), (h_counts, .inl (cI, 5, .inl f_h_counts)), (h_begins, .inl (cI, 5, .inl f_h_begins)), (h_now, .inl (cI, 169, .inl f_h_now)), (h_rain, .inl (cI, 96, .inl f_h_rain)), (h_tide, .inl (cI, 96, .inl f_h_tide)), (h_rule, .inl (cI, 8, .inl f_h_rule))] H → va_D A [(h, .inr (9, [.int v_h_thrown, .ref h_now, .ref h_aside, .int v_h_kept, .ref h_books, .ref h_tide, .ref h_rain, .ref h_rule, .int v_h_counted, .ref h_counts, .ref h_begins, .ref h_best, .int v_h_bestWorth, .int v_h_bestPitch, .int v_h_bestBits, .int v_h_leastHour, .int v_h_leastSet, .int v_h_shut, .ref h_planks])), (h_counts, .inl (cI, 5, .inl f_h_counts)), (h_begins, .inl (cI, 5, .inl f_h_begins)), (h_now, .inl (cI, 169, .inl f_h_now)), (h_rain, .inl (cI, 96, .inl f_h_rain)), (h_tide, .inl (cI, 96, .inl f_h_tide)), (h_rule, .inl (cI, 8, .inl f_h_rule))] → va_S A s.heap H locs → narrow .boolean (.int r_z) = .int r_z → decode cX9_isPlan pc = .ok (.ireturn, 1) → W p l e rm_X9_isPlan s m args below meth c H locs 0 0 Q (F0 m pc ls [.int r_z]) := by
    intro r_z hz H locs ls pc hP hD hS hn hd
    cases hz
    exact k_iret hx hb hr hlocks hn hK hP hD hS hQ rfl hd
  unfold p_X9_isPlan at hf
  refine lv_iconst (v := 0) hx hb dX9_isPlan_0 (by decide) ?_
  refine lv_istore_n (lv' := [(2, .int 0), (0, .ref h), (1, .int a1)]) hx hb dX9_isPlan_1 rfl hl (by decide) rfl (fun ls hl => ?_)
  refine lv_iconst (v := 0) hx hb dX9_isPlan_2 (by decide) ?_
  refine lv_istore_n (lv' := [(3, .int 0), (2, .int 0), (0, .ref h), (1, .int a1)]) hx hb dX9_isPlan_3 rfl hl (by decide) rfl (fun ls hl => ?_)
  obtain ⟨ee116, hlp116, hfl116, hfr116⟩ := k_bx1_some hf
  have hE116 : ∀ (x2_117 : Int32), ee116 = .inr x2_117 → ∀ (H : Heap) (locs : List Loc) (ls : Array Slot), va_P D vwCl [(h, .inr (9, [.int v_h_thrown, .ref h_now, .ref h_aside, .int v_h_kept, .ref h_books, .ref h_tide, .ref h_rain, .ref h_rule, .int v_h_counted, .ref h_counts, .ref h_begins, .ref h_best, .int v_h_bestWorth, .int v_h_bestPitch, .int v_h_bestBits, .int v_h_leastHour, .int v_h_leastSet, .int v_h_shut, .ref h_planks])), (h_counts, .inl (cI, 5, .inl f_h_counts)), (h_begins, .inl (cI, 5, .inl f_h_begins)), (h_now, .inl (cI, 169, .inl f_h_now)), (h_rain, .inl (cI, 96, .inl f_h_rain)), (h_tide, .inl (cI, 96, .inl f_h_tide)), (h_rule, .inl (cI, 8, .inl f_h_rule))] H → va_D A [(h, .inr (9, [.int v_h_thrown, .ref h_now, .ref h_aside, .int v_h_kept, .ref h_books, .ref h_tide, .ref h_rain, .ref h_rule, .int v_h_counted, .ref h_counts, .ref h_begins, .ref h_best, .int v_h_bestWorth, .int v_h_bestPitch, .int v_h_bestBits, .int v_h_leastHour, .int v_h_leastSet, .int v_h_shut, .ref h_planks])), (h_counts, .inl (cI, 5, .inl f_h_counts)), (h_begins, .inl (cI, 5, .inl f_h_begins)), (h_now, .inl (cI, 169, .inl f_h_now)), (h_rain, .inl (cI, 96, .inl f_h_rain)), (h_tide, .inl (cI, 96, .inl f_h_tide)), (h_rule, .inl (cI, 8, .inl f_h_rule))] → va_S A s.heap H locs → lv_has ls 7 [(2, .int x2_117), (0, .ref h), (1, .int a1)] → W p l e rm_X9_isPlan s m args below meth c H locs 0 0 Q (F0 m 145 ls []) := by
    intro x2_117 he H locs ls hP hD hS hl
    replace hf := hfr116 x2_117 he
    refine lv_iconst (v := 0) hx hb dX9_isPlan_145 (by decide) ?_
    refine lv_istore_n (lv' := [(3, .int 0), (2, .int x2_117), (0, .ref h), (1, .int a1)]) hx hb dX9_isPlan_146 rfl hl (by decide) rfl (fun ls hl => ?_)
    obtain ⟨ee195, hlp195, hfl195, hfr195⟩ := k_bx0_some hf
    have hE195 : ee195 = .inr () → ∀ (H : Heap) (locs : List Loc) (ls : Array Slot), va_P D vwCl [(h, .inr (9, [.int v_h_thrown, .ref h_now, .ref h_aside, .int v_h_kept, .ref h_books, .ref h_tide, .ref h_rain, .ref h_rule, .int v_h_counted, .ref h_counts, .ref h_begins, .ref h_best, .int v_h_bestWorth, .int v_h_bestPitch, .int v_h_bestBits, .int v_h_leastHour, .int v_h_leastSet, .int v_h_shut, .ref h_planks])), (h_counts, .inl (cI, 5, .inl f_h_counts)), (h_begins, .inl (cI, 5, .inl f_h_begins)), (h_now, .inl (cI, 169, .inl f_h_now)), (h_rain, .inl (cI, 96, .inl f_h_rain)), (h_tide, .inl (cI, 96, .inl f_h_tide)), (h_rule, .inl (cI, 8, .inl f_h_rule))] H → va_D A [(h, .inr (9, [.int v_h_thrown, .ref h_now, .ref h_aside, .int v_h_kept, .ref h_books, .ref h_tide, .ref h_rain, .ref h_rule, .int v_h_counted, .ref h_counts, .ref h_begins, .ref h_best, .int v_h_bestWorth, .int v_h_bestPitch, .int v_h_bestBits, .int v_h_leastHour, .int v_h_leastSet, .int v_h_shut, .ref h_planks])), (h_counts, .inl (cI, 5, .inl f_h_counts)), (h_begins, .inl (cI, 5, .inl f_h_begins)), (h_now, .inl (cI, 169, .inl f_h_now)), (h_rain, .inl (cI, 96, .inl f_h_rain)), (h_tide, .inl (cI, 96, .inl f_h_tide)), (h_rule, .inl (cI, 8, .inl f_h_rule))] → va_S A s.heap H locs → lv_has ls 7 [(2, .int x2_117), (0, .ref h)] → W p l e rm_X9_isPlan s m args below meth c H locs 0 0 Q (F0 m 260 ls []) := by
      intro  he H locs ls hP hD hS hl
      replace hf := hfr195  he
      refine lv_iload_n hx hb dX9_isPlan_260 rfl (lv_at hl 0 rfl) ?_
      refine lv_aload_n hx hb dX9_isPlan_261 rfl (lv_at hl 1 rfl) ?_
      refine k_get (C := RX9) (T := TX9) (N := 19) hx hb hts inX9 hown hK hP 0 rfl rfl 1 (by decide) rfl wl4 rfl dX9_isPlan_262 ?_
      refine lv_iconst (v := 5) hx hb dX9_isPlan_265 (by decide) ?_
      refine k_iald (k := 5) hx hb hK hP 3 0 rfl rfl (by unfold vp_in; decide) (by decide) dX9_isPlan_266 ?_
      refine lv_icmp_gt (tgt := 274) hx hb dX9_isPlan_267 (by decide) (fun c196 => ?_) (fun c196 => ?_)
      · replace hf := k_pos hf c196
        refine lv_iconst (v := 0) hx hb dX9_isPlan_274 (by decide) ?_
        exact hRet _ hf _ _ _ _ hP hD hS rfl dX9_isPlan_275
      · replace hf := k_neg hf c196
        refine lv_iconst (v := 1) hx hb dX9_isPlan_270 (by decide) ?_
        refine lv_goto (tgt := 275) hx hb dX9_isPlan_271 (by decide) ?_
        exact hRet _ hf _ _ _ _ hP hD hS rfl dX9_isPlan_275
    refine (k_lp_ind (fun sx195 => ∀ (H : Heap) (locs : List Loc) (ls : Array Slot), va_P D vwCl [(h, .inr (9, [.int v_h_thrown, .ref h_now, .ref h_aside, .int v_h_kept, .ref h_books, .ref h_tide, .ref h_rain, .ref h_rule, .int v_h_counted, .ref h_counts, .ref h_begins, .ref h_best, .int v_h_bestWorth, .int v_h_bestPitch, .int v_h_bestBits, .int v_h_leastHour, .int v_h_leastSet, .int v_h_shut, .ref h_planks])), (h_counts, .inl (cI, 5, .inl f_h_counts)), (h_begins, .inl (cI, 5, .inl f_h_begins)), (h_now, .inl (cI, 169, .inl f_h_now)), (h_rain, .inl (cI, 96, .inl f_h_rain)), (h_tide, .inl (cI, 96, .inl f_h_tide)), (h_rule, .inl (cI, 8, .inl f_h_rule))] H → va_D A [(h, .inr (9, [.int v_h_thrown, .ref h_now, .ref h_aside, .int v_h_kept, .ref h_books, .ref h_tide, .ref h_rain, .ref h_rule, .int v_h_counted, .ref h_counts, .ref h_begins, .ref h_best, .int v_h_bestWorth, .int v_h_bestPitch, .int v_h_bestBits, .int v_h_leastHour, .int v_h_leastSet, .int v_h_shut, .ref h_planks])), (h_counts, .inl (cI, 5, .inl f_h_counts)), (h_begins, .inl (cI, 5, .inl f_h_begins)), (h_now, .inl (cI, 169, .inl f_h_now)), (h_rain, .inl (cI, 96, .inl f_h_rain)), (h_tide, .inl (cI, 96, .inl f_h_tide)), (h_rule, .inl (cI, 8, .inl f_h_rule))] → va_S A s.heap H locs → lv_has ls 7 [(3, .int sx195), (2, .int x2_117), (0, .ref h), (1, .int a1)] → W p l e rm_X9_isPlan s m args below meth c H locs 0 0 Q (F0 m 147 ls [])) (fun sx195 X195 hX195 hin195 hout195 => ?_) _ _ hlp195) _ _ _ hP hD hS (lv_sub hl [0, 1, 2, 3] rfl)
    obtain ⟨x3_197, rfl⟩ : ∃ z, z = sx195 := ⟨_, rfl⟩
    intro H locs ls hP hD hS hl
    replace hP : va_P D vwCl [(h, .inr (9, [.int v_h_thrown, .ref h_now, .ref h_aside, .int v_h_kept, .ref h_books, .ref h_tide, .ref h_rain, .ref h_rule, .int v_h_counted, .ref h_counts, .ref h_begins, .ref h_best, .int v_h_bestWorth, .int v_h_bestPitch, .int v_h_bestBits, .int v_h_leastHour, .int v_h_leastSet, .int v_h_shut, .ref h_planks])), (h_counts, .inl (cI, 5, .inl f_h_counts)), (h_begins, .inl (cI, 5, .inl f_h_begins)), (h_now, .inl (cI, 169, .inl f_h_now)), (h_rain, .inl (cI, 96, .inl f_h_rain)), (h_tide, .inl (cI, 96, .inl f_h_tide)), (h_rule, .inl (cI, 8, .inl f_h_rule))] H := hP
    replace hD : va_D A [(h, .inr (9, [.int v_h_thrown, .ref h_now, .ref h_aside, .int v_h_kept, .ref h_books, .ref h_tide, .ref h_rain, .ref h_rule, .int v_h_counted, .ref h_counts, .ref h_begins, .ref h_best, .int v_h_bestWorth, .int v_h_bestPitch, .int v_h_bestBits, .int v_h_leastHour, .int v_h_leastSet, .int v_h_shut, .ref h_planks])), (h_counts, .inl (cI, 5, .inl f_h_counts)), (h_begins, .inl (cI, 5, .inl f_h_begins)), (h_now, .inl (cI, 169, .inl f_h_now)), (h_rain, .inl (cI, 96, .inl f_h_rain)), (h_tide, .inl (cI, 96, .inl f_h_tide)), (h_rule, .inl (cI, 8, .inl f_h_rule))] := hD
    replace hl : lv_has ls 7 [(3, .int x3_197), (2, .int x2_117), (0, .ref h), (1, .int a1)] := hl
    replace hX195 : lb_X9_isPlan_147 a1 v_h_counted f_h_begins f_h_now f_h_counts f_h_rule x3_197 = some X195 := hX195
    unfold lb_X9_isPlan_147 at hX195
    refine lv_iload_n hx hb dX9_isPlan_147 rfl (lv_at hl 0 rfl) ?_
    refine lv_iload_n hx hb dX9_isPlan_148 rfl (lv_at hl 3 rfl) ?_
    refine lv_icmp_ge (tgt := 260) hx hb dX9_isPlan_149 (by decide) (fun c198 => ?_) (fun c198 => ?_)
    · replace hX195 := k_pos hX195 c198
      exact hE195  (hout195 _ (Option.some.inj hX195).symm).symm _ _ _ hP hD hS (lv_sub hl [1, 2] rfl)
    · replace hX195 := k_neg hX195 c198
      refine lv_iconst (v := 0) hx hb dX9_isPlan_152 (by decide) ?_
      refine lv_istore (lv' := [(4, .int 0), (3, .int x3_197), (2, .int x2_117), (0, .ref h), (1, .int a1)]) hx hb dX9_isPlan_153 hl (by decide) rfl (fun ls hl => ?_)
      refine lv_iconst (v := 0) hx hb dX9_isPlan_155 (by decide) ?_
      refine lv_istore (lv' := [(5, .int 0), (4, .int 0), (3, .int x3_197), (2, .int x2_117), (0, .ref h), (1, .int a1)]) hx hb dX9_isPlan_156 hl (by decide) rfl (fun ls hl => ?_)
      obtain ⟨ee219, hlp219, hfr219⟩ := k_b1_ee hX195
      have hE219 : ∀ (x4_220 : Int32), ee219 = x4_220 → ∀ (H : Heap) (locs : List Loc) (ls : Array Slot), va_P D vwCl [(h, .inr (9, [.int v_h_thrown, .ref h_now, .ref h_aside, .int v_h_kept, .ref h_books, .ref h_tide, .ref h_rain, .ref h_rule, .int v_h_counted, .ref h_counts, .ref h_begins, .ref h_best, .int v_h_bestWorth, .int v_h_bestPitch, .int v_h_bestBits, .int v_h_leastHour, .int v_h_leastSet, .int v_h_shut, .ref h_planks])), (h_counts, .inl (cI, 5, .inl f_h_counts)), (h_begins, .inl (cI, 5, .inl f_h_begins)), (h_now, .inl (cI, 169, .inl f_h_now)), (h_rain, .inl (cI, 96, .inl f_h_rain)), (h_tide, .inl (cI, 96, .inl f_h_tide)), (h_rule, .inl (cI, 8, .inl f_h_rule))] H → va_D A [(h, .inr (9, [.int v_h_thrown, .ref h_now, .ref h_aside, .int v_h_kept, .ref h_books, .ref h_tide, .ref h_rain, .ref h_rule, .int v_h_counted, .ref h_counts, .ref h_begins, .ref h_best, .int v_h_bestWorth, .int v_h_bestPitch, .int v_h_bestBits, .int v_h_leastHour, .int v_h_leastSet, .int v_h_shut, .ref h_planks])), (h_counts, .inl (cI, 5, .inl f_h_counts)), (h_begins, .inl (cI, 5, .inl f_h_begins)), (h_now, .inl (cI, 169, .inl f_h_now)), (h_rain, .inl (cI, 96, .inl f_h_rain)), (h_tide, .inl (cI, 96, .inl f_h_tide)), (h_rule, .inl (cI, 8, .inl f_h_rule))] → va_S A s.heap H locs → lv_has ls 7 [(4, .int x4_220), (3, .int x3_197), (2, .int x2_117), (0, .ref h), (1, .int a1)] → W p l e rm_X9_isPlan s m args below meth c H locs 0 0 Q (F0 m 241 ls []) := by
        intro x4_220 he H locs ls hP hD hS hl
        replace hX195 := hfr219 x4_220 he
        refine lv_iload hx hb dX9_isPlan_241 (lv_at hl 0 rfl) ?_
        refine lv_aload_n hx hb dX9_isPlan_243 rfl (lv_at hl 3 rfl) ?_
        refine k_get (C := RX9) (T := TX9) (N := 19) hx hb hts inX9 hown hK hP 0 rfl rfl 7 (by decide) rfl wl5 rfl dX9_isPlan_244 ?_
        refine lv_iconst (v := 3) hx hb dX9_isPlan_247 (by decide) ?_
        refine k_iald (k := 3) hx hb hK hP 6 0 rfl rfl (by unfold vp_in; decide) (by decide) dX9_isPlan_248 ?_
        refine lv_icmp_le (tgt := 254) hx hb dX9_isPlan_249 (by decide) (fun c221 => ?_) (fun c221 => ?_)
        · replace hX195 := k_pos hX195 c221
          refine lv_iinc (v := x3_197 + 1) (lv' := [(3, .int (x3_197 + 1)), (4, .int x4_220), (2, .int x2_117), (0, .ref h), (1, .int a1)]) hx hb dX9_isPlan_254 hl (k := 1) rfl rfl (by decide) rfl (fun ls hl => ?_)
          refine lv_goto (tgt := 147) hx hb dX9_isPlan_257 (by decide) ?_
          exact hin195 (x3_197 + 1) (Option.some.inj hX195).symm _ _ _ hP hD hS (lv_sub hl [0, 2, 3, 4] rfl)
        · replace hX195 := k_neg hX195 c221
          refine lv_iconst (v := 0) hx hb dX9_isPlan_252 (by decide) ?_
          have he := hout195 _ (Option.some.inj hX195).symm
          replace hf := hfl195 _ he.symm
          exact hRet _ hf _ _ _ _ hP hD hS rfl dX9_isPlan_253
      refine (k_lp_ind (fun sx219 => ∀ (H : Heap) (locs : List Loc) (ls : Array Slot), va_P D vwCl [(h, .inr (9, [.int v_h_thrown, .ref h_now, .ref h_aside, .int v_h_kept, .ref h_books, .ref h_tide, .ref h_rain, .ref h_rule, .int v_h_counted, .ref h_counts, .ref h_begins, .ref h_best, .int v_h_bestWorth, .int v_h_bestPitch, .int v_h_bestBits, .int v_h_leastHour, .int v_h_leastSet, .int v_h_shut, .ref h_planks])), (h_counts, .inl (cI, 5, .inl f_h_counts)), (h_begins, .inl (cI, 5, .inl f_h_begins)), (h_now, .inl (cI, 169, .inl f_h_now)), (h_rain, .inl (cI, 96, .inl f_h_rain)), (h_tide, .inl (cI, 96, .inl f_h_tide)), (h_rule, .inl (cI, 8, .inl f_h_rule))] H → va_D A [(h, .inr (9, [.int v_h_thrown, .ref h_now, .ref h_aside, .int v_h_kept, .ref h_books, .ref h_tide, .ref h_rain, .ref h_rule, .int v_h_counted, .ref h_counts, .ref h_begins, .ref h_best, .int v_h_bestWorth, .int v_h_bestPitch, .int v_h_bestBits, .int v_h_leastHour, .int v_h_leastSet, .int v_h_shut, .ref h_planks])), (h_counts, .inl (cI, 5, .inl f_h_counts)), (h_begins, .inl (cI, 5, .inl f_h_begins)), (h_now, .inl (cI, 169, .inl f_h_now)), (h_rain, .inl (cI, 96, .inl f_h_rain)), (h_tide, .inl (cI, 96, .inl f_h_tide)), (h_rule, .inl (cI, 8, .inl f_h_rule))] → va_S A s.heap H locs → lv_has ls 7 [(5, .int sx219.2), (4, .int sx219.1), (3, .int x3_197), (2, .int x2_117), (0, .ref h), (1, .int a1)] → W p l e rm_X9_isPlan s m args below meth c H locs 0 0 Q (F0 m 158 ls [])) (fun sx219 X219 hX219 hin219 hout219 => ?_) _ _ hlp219) _ _ _ hP hD hS (lv_sub hl [0, 1, 2, 3, 4, 5] rfl)
      obtain ⟨x4_222, x5_223⟩ := sx219
      intro H locs ls hP hD hS hl
      replace hP : va_P D vwCl [(h, .inr (9, [.int v_h_thrown, .ref h_now, .ref h_aside, .int v_h_kept, .ref h_books, .ref h_tide, .ref h_rain, .ref h_rule, .int v_h_counted, .ref h_counts, .ref h_begins, .ref h_best, .int v_h_bestWorth, .int v_h_bestPitch, .int v_h_bestBits, .int v_h_leastHour, .int v_h_leastSet, .int v_h_shut, .ref h_planks])), (h_counts, .inl (cI, 5, .inl f_h_counts)), (h_begins, .inl (cI, 5, .inl f_h_begins)), (h_now, .inl (cI, 169, .inl f_h_now)), (h_rain, .inl (cI, 96, .inl f_h_rain)), (h_tide, .inl (cI, 96, .inl f_h_tide)), (h_rule, .inl (cI, 8, .inl f_h_rule))] H := hP
      replace hD : va_D A [(h, .inr (9, [.int v_h_thrown, .ref h_now, .ref h_aside, .int v_h_kept, .ref h_books, .ref h_tide, .ref h_rain, .ref h_rule, .int v_h_counted, .ref h_counts, .ref h_begins, .ref h_best, .int v_h_bestWorth, .int v_h_bestPitch, .int v_h_bestBits, .int v_h_leastHour, .int v_h_leastSet, .int v_h_shut, .ref h_planks])), (h_counts, .inl (cI, 5, .inl f_h_counts)), (h_begins, .inl (cI, 5, .inl f_h_begins)), (h_now, .inl (cI, 169, .inl f_h_now)), (h_rain, .inl (cI, 96, .inl f_h_rain)), (h_tide, .inl (cI, 96, .inl f_h_tide)), (h_rule, .inl (cI, 8, .inl f_h_rule))] := hD
      replace hl : lv_has ls 7 [(5, .int x5_223), (4, .int x4_222), (3, .int x3_197), (2, .int x2_117), (0, .ref h), (1, .int a1)] := hl
      replace hX219 : lb_X9_isPlan_158 v_h_counted f_h_begins x3_197 f_h_now f_h_counts x4_222 x5_223 = some X219 := hX219
      unfold lb_X9_isPlan_158 at hX219
      refine lv_iload hx hb dX9_isPlan_158 (lv_at hl 0 rfl) ?_
      refine lv_aload_n hx hb dX9_isPlan_160 rfl (lv_at hl 4 rfl) ?_
      refine k_get (C := RX9) (T := TX9) (N := 19) hx hb hts inX9 hown hK hP 0 rfl rfl 8 (by decide) rfl wl1 rfl dX9_isPlan_161 ?_
      refine lv_icmp_ge (tgt := 241) hx hb dX9_isPlan_164 (by decide) (fun c224 => ?_) (fun c224 => ?_)
      · replace hX219 := k_pos hX219 c224
        exact hE219 _ (hout219 _ (Option.some.inj hX219).symm).symm _ _ _ hP hD hS (lv_sub hl [1, 2, 3, 4, 5] rfl)
      · replace hX219 := k_neg hX219 c224
        refine lv_iload hx hb dX9_isPlan_167 (lv_at hl 1 rfl) ?_
        refine lv_aload_n hx hb dX9_isPlan_169 rfl (lv_at hl 4 rfl) ?_
        refine k_get (C := RX9) (T := TX9) (N := 19) hx hb hts inX9 hown hK hP 0 rfl rfl 10 (by decide) rfl wl3 rfl dX9_isPlan_170 ?_
        refine lv_iload hx hb dX9_isPlan_173 (lv_at hl 0 rfl) ?_
        obtain ⟨hi225, hX219⟩ := k_ix_some hX219
        refine k_iald (k := x5_223.toNatClampNeg) hx hb hK hP 2 0 rfl rfl hi225 rfl dX9_isPlan_175 ?_
        refine lv_if_lt (tgt := 231) hx hb dX9_isPlan_176 (by decide) (fun c226 => ?_) (fun c226 => ?_)
        · replace hX219 := k_pos hX219 c226
          refine lv_iconst (v := 0) hx hb dX9_isPlan_231 (by decide) ?_
          refine lv_iadd hx hb dX9_isPlan_232 ?_
          refine lv_istore (lv' := [(4, .int (x4_222 + 0)), (5, .int x5_223), (3, .int x3_197), (2, .int x2_117), (0, .ref h), (1, .int a1)]) hx hb dX9_isPlan_233 hl (by decide) rfl (fun ls hl => ?_)
          refine lv_iinc (v := x5_223 + 1) (lv' := [(5, .int (x5_223 + 1)), (4, .int (x4_222 + 0)), (3, .int x3_197), (2, .int x2_117), (0, .ref h), (1, .int a1)]) hx hb dX9_isPlan_235 hl (k := 1) rfl rfl (by decide) rfl (fun ls hl => ?_)
          refine lv_goto (tgt := 158) hx hb dX9_isPlan_238 (by decide) ?_
          exact hin219 (x4_222 + 0, x5_223 + 1) (Option.some.inj hX219).symm _ _ _ hP hD hS (lv_sub hl [0, 1, 2, 3, 4, 5] rfl)
        · replace hX219 := k_neg hX219 c226
          refine lv_iload_n hx hb dX9_isPlan_179 rfl (lv_at hl 2 rfl) ?_
          refine lv_aload_n hx hb dX9_isPlan_180 rfl (lv_at hl 4 rfl) ?_
          refine k_get (C := RX9) (T := TX9) (N := 19) hx hb hts inX9 hown hK hP 0 rfl rfl 10 (by decide) rfl wl3 rfl dX9_isPlan_181 ?_
          refine lv_iload hx hb dX9_isPlan_184 (lv_at hl 0 rfl) ?_
          obtain ⟨hi227, hX219⟩ := k_ix_some hX219
          refine k_iald (k := x5_223.toNatClampNeg) hx hb hK hP 2 0 rfl rfl hi227 rfl dX9_isPlan_186 ?_
          refine lv_icmp_lt (tgt := 231) hx hb dX9_isPlan_187 (by decide) (fun c228 => ?_) (fun c228 => ?_)
          · replace hX219 := k_pos hX219 c228
            refine lv_iconst (v := 0) hx hb dX9_isPlan_231 (by decide) ?_
            refine lv_iadd hx hb dX9_isPlan_232 ?_
            refine lv_istore (lv' := [(4, .int (x4_222 + 0)), (5, .int x5_223), (3, .int x3_197), (2, .int x2_117), (0, .ref h), (1, .int a1)]) hx hb dX9_isPlan_233 hl (by decide) rfl (fun ls hl => ?_)
            refine lv_iinc (v := x5_223 + 1) (lv' := [(5, .int (x5_223 + 1)), (4, .int (x4_222 + 0)), (3, .int x3_197), (2, .int x2_117), (0, .ref h), (1, .int a1)]) hx hb dX9_isPlan_235 hl (k := 1) rfl rfl (by decide) rfl (fun ls hl => ?_)
            refine lv_goto (tgt := 158) hx hb dX9_isPlan_238 (by decide) ?_
            exact hin219 (x4_222 + 0, x5_223 + 1) (Option.some.inj hX219).symm _ _ _ hP hD hS (lv_sub hl [0, 1, 2, 3, 4, 5] rfl)
          · replace hX219 := k_neg hX219 c228
            refine lv_iload_n hx hb dX9_isPlan_190 rfl (lv_at hl 2 rfl) ?_
            refine lv_aload_n hx hb dX9_isPlan_191 rfl (lv_at hl 4 rfl) ?_
            refine k_get (C := RX9) (T := TX9) (N := 19) hx hb hts inX9 hown hK hP 0 rfl rfl 10 (by decide) rfl wl3 rfl dX9_isPlan_192 ?_
            refine lv_iload hx hb dX9_isPlan_195 (lv_at hl 0 rfl) ?_
            obtain ⟨hi229, hX219⟩ := k_ix_some hX219
            refine k_iald (k := x5_223.toNatClampNeg) hx hb hK hP 2 0 rfl rfl hi229 rfl dX9_isPlan_197 ?_
            refine lv_aload_n hx hb dX9_isPlan_198 rfl (lv_at hl 4 rfl) ?_
            refine lv_aload_n hx hb dX9_isPlan_199 rfl (lv_at hl 4 rfl) ?_
            refine k_get (C := RX9) (T := TX9) (N := 19) hx hb hts inX9 hown hK hP 0 rfl rfl 9 (by decide) rfl wl2 rfl dX9_isPlan_200 ?_
            refine lv_iload hx hb dX9_isPlan_203 (lv_at hl 0 rfl) ?_
            obtain ⟨hi230, hX219⟩ := k_ix_some hX219
            refine k_iald (k := x5_223.toNatClampNeg) hx hb hK hP 1 0 rfl rfl hi230 rfl dX9_isPlan_205 ?_
            obtain ⟨r231, hc231, hX219⟩ := k_b1_some hX219
            refine k_ViR (q0 := 0) (As := [.int (f_h_counts x5_223.toNatClampNeg)]) (rest := [.int (f_h_begins x5_223.toNatClampNeg), .int x3_197, .int x4_222]) S0 (c_X9_hoursFor l D cI cZ cJ cS h h_now h_aside h_books h_tide h_rain h_rule h_counts h_begins h_best h_planks v_h_thrown v_h_kept v_h_counted v_h_bestWorth v_h_bestPitch v_h_bestBits v_h_leastHour v_h_leastSet v_h_shut f_h_now (f_h_counts x5_223.toNatClampNeg) r231 hc231) (cwV 1 hts gX9_isPlan_X9_hoursFor rfl rfl rfl hdV_X9_hoursFor ⟨Nat.le_of_ble_eq_true rfl, Nat.le_of_ble_eq_true rfl⟩) hK hP hD hS hA hN [0, 3] rfl (by decide) rfl rfl rfl rfl hl.1 rfl (Nat.le_of_ble_eq_true rfl) dX9_isPlan_206 (fun H locs hP hS => ?_)
            refine lv_iadd hx hb dX9_isPlan_209 ?_
            refine lv_icmp_ge (tgt := 231) hx hb dX9_isPlan_210 (by decide) (fun c232 => ?_) (fun c232 => ?_)
            · replace hX219 := k_pos hX219 c232
              refine lv_iconst (v := 0) hx hb dX9_isPlan_231 (by decide) ?_
              refine lv_iadd hx hb dX9_isPlan_232 ?_
              refine lv_istore (lv' := [(4, .int (x4_222 + 0)), (5, .int x5_223), (3, .int x3_197), (2, .int x2_117), (0, .ref h), (1, .int a1)]) hx hb dX9_isPlan_233 hl (by decide) rfl (fun ls hl => ?_)
              refine lv_iinc (v := x5_223 + 1) (lv' := [(5, .int (x5_223 + 1)), (4, .int (x4_222 + 0)), (3, .int x3_197), (2, .int x2_117), (0, .ref h), (1, .int a1)]) hx hb dX9_isPlan_235 hl (k := 1) rfl rfl (by decide) rfl (fun ls hl => ?_)
              refine lv_goto (tgt := 158) hx hb dX9_isPlan_238 (by decide) ?_
              exact hin219 (x4_222 + 0, x5_223 + 1) (Option.some.inj hX219).symm _ _ _ hP hD hS (lv_sub hl [0, 1, 2, 3, 4, 5] rfl)
            · replace hX219 := k_neg hX219 c232
              refine lv_aload_n hx hb dX9_isPlan_213 rfl (lv_at hl 4 rfl) ?_
              refine k_get (C := RX9) (T := TX9) (N := 19) hx hb hts inX9 hown hK hP 0 rfl rfl 1 (by decide) rfl wl4 rfl dX9_isPlan_214 ?_
              refine lv_bipush (v := 97) hx hb dX9_isPlan_217 (by decide) ?_
              refine lv_aload_n hx hb dX9_isPlan_219 rfl (lv_at hl 4 rfl) ?_
              refine k_get (C := RX9) (T := TX9) (N := 19) hx hb hts inX9 hown hK hP 0 rfl rfl 9 (by decide) rfl wl2 rfl dX9_isPlan_220 ?_
              refine lv_iload hx hb dX9_isPlan_223 (lv_at hl 0 rfl) ?_
              obtain ⟨hi233, hX219⟩ := k_ix_some hX219
              refine k_iald (k := x5_223.toNatClampNeg) hx hb hK hP 1 0 rfl rfl hi233 rfl dX9_isPlan_225 ?_
              refine lv_iadd hx hb dX9_isPlan_226 ?_
              obtain ⟨hi234, hX219⟩ := k_ix_some hX219
              refine k_iald (k := (97 + (f_h_counts x5_223.toNatClampNeg)).toNatClampNeg) hx hb hK hP 3 0 rfl rfl hi234 rfl dX9_isPlan_227 ?_
              refine lv_goto (tgt := 232) hx hb dX9_isPlan_228 (by decide) ?_
              refine lv_iadd hx hb dX9_isPlan_232 ?_
              obtain ⟨y235, ey235, hX219⟩ := k_lt_some hX219
              refine k_topi ey235 ?_
              refine lv_istore (lv' := [(4, .int y235), (5, .int x5_223), (3, .int x3_197), (2, .int x2_117), (0, .ref h), (1, .int a1)]) hx hb dX9_isPlan_233 hl (by decide) rfl (fun ls hl => ?_)
              refine lv_iinc (v := x5_223 + 1) (lv' := [(5, .int (x5_223 + 1)), (4, .int y235), (3, .int x3_197), (2, .int x2_117), (0, .ref h), (1, .int a1)]) hx hb dX9_isPlan_235 hl (k := 1) rfl rfl (by decide) rfl (fun ls hl => ?_)
              refine lv_goto (tgt := 158) hx hb dX9_isPlan_238 (by decide) ?_
              exact hin219 (y235, x5_223 + 1) (Option.some.inj hX219).symm _ _ _ hP hD hS (lv_sub hl [0, 1, 2, 3, 4, 5] rfl)
  refine (k_lp_ind (fun sx116 => ∀ (H : Heap) (locs : List Loc) (ls : Array Slot), va_P D vwCl [(h, .inr (9, [.int v_h_thrown, .ref h_now, .ref h_aside, .int v_h_kept, .ref h_books, .ref h_tide, .ref h_rain, .ref h_rule, .int v_h_counted, .ref h_counts, .ref h_begins, .ref h_best, .int v_h_bestWorth, .int v_h_bestPitch, .int v_h_bestBits, .int v_h_leastHour, .int v_h_leastSet, .int v_h_shut, .ref h_planks])), (h_counts, .inl (cI, 5, .inl f_h_counts)), (h_begins, .inl (cI, 5, .inl f_h_begins)), (h_now, .inl (cI, 169, .inl f_h_now)), (h_rain, .inl (cI, 96, .inl f_h_rain)), (h_tide, .inl (cI, 96, .inl f_h_tide)), (h_rule, .inl (cI, 8, .inl f_h_rule))] H → va_D A [(h, .inr (9, [.int v_h_thrown, .ref h_now, .ref h_aside, .int v_h_kept, .ref h_books, .ref h_tide, .ref h_rain, .ref h_rule, .int v_h_counted, .ref h_counts, .ref h_begins, .ref h_best, .int v_h_bestWorth, .int v_h_bestPitch, .int v_h_bestBits, .int v_h_leastHour, .int v_h_leastSet, .int v_h_shut, .ref h_planks])), (h_counts, .inl (cI, 5, .inl f_h_counts)), (h_begins, .inl (cI, 5, .inl f_h_begins)), (h_now, .inl (cI, 169, .inl f_h_now)), (h_rain, .inl (cI, 96, .inl f_h_rain)), (h_tide, .inl (cI, 96, .inl f_h_tide)), (h_rule, .inl (cI, 8, .inl f_h_rule))] → va_S A s.heap H locs → lv_has ls 7 [(3, .int sx116.2), (2, .int sx116.1), (0, .ref h), (1, .int a1)] → W p l e rm_X9_isPlan s m args below meth c H locs 0 0 Q (F0 m 4 ls [])) (fun sx116 X116 hX116 hin116 hout116 => ?_) _ _ hlp116) _ _ _ hP hD hS (lv_sub hl [0, 1, 2, 3] rfl)
  obtain ⟨x2_236, x3_237⟩ := sx116
  intro H locs ls hP hD hS hl
  replace hP : va_P D vwCl [(h, .inr (9, [.int v_h_thrown, .ref h_now, .ref h_aside, .int v_h_kept, .ref h_books, .ref h_tide, .ref h_rain, .ref h_rule, .int v_h_counted, .ref h_counts, .ref h_begins, .ref h_best, .int v_h_bestWorth, .int v_h_bestPitch, .int v_h_bestBits, .int v_h_leastHour, .int v_h_leastSet, .int v_h_shut, .ref h_planks])), (h_counts, .inl (cI, 5, .inl f_h_counts)), (h_begins, .inl (cI, 5, .inl f_h_begins)), (h_now, .inl (cI, 169, .inl f_h_now)), (h_rain, .inl (cI, 96, .inl f_h_rain)), (h_tide, .inl (cI, 96, .inl f_h_tide)), (h_rule, .inl (cI, 8, .inl f_h_rule))] H := hP
  replace hD : va_D A [(h, .inr (9, [.int v_h_thrown, .ref h_now, .ref h_aside, .int v_h_kept, .ref h_books, .ref h_tide, .ref h_rain, .ref h_rule, .int v_h_counted, .ref h_counts, .ref h_begins, .ref h_best, .int v_h_bestWorth, .int v_h_bestPitch, .int v_h_bestBits, .int v_h_leastHour, .int v_h_leastSet, .int v_h_shut, .ref h_planks])), (h_counts, .inl (cI, 5, .inl f_h_counts)), (h_begins, .inl (cI, 5, .inl f_h_begins)), (h_now, .inl (cI, 169, .inl f_h_now)), (h_rain, .inl (cI, 96, .inl f_h_rain)), (h_tide, .inl (cI, 96, .inl f_h_tide)), (h_rule, .inl (cI, 8, .inl f_h_rule))] := hD
  replace hl : lv_has ls 7 [(3, .int x3_237), (2, .int x2_236), (0, .ref h), (1, .int a1)] := hl
  replace hX116 : lb_X9_isPlan_4 v_h_counted f_h_begins f_h_counts f_h_now a1 f_h_rain f_h_tide x2_236 x3_237 = some X116 := hX116
  unfold lb_X9_isPlan_4 at hX116
  refine lv_iload_n hx hb dX9_isPlan_4 rfl (lv_at hl 0 rfl) ?_
  refine lv_aload_n hx hb dX9_isPlan_5 rfl (lv_at hl 2 rfl) ?_
  refine k_get (C := RX9) (T := TX9) (N := 19) hx hb hts inX9 hown hK hP 0 rfl rfl 8 (by decide) rfl wl1 rfl dX9_isPlan_6 ?_
  refine lv_icmp_ge (tgt := 145) hx hb dX9_isPlan_9 (by decide) (fun c238 => ?_) (fun c238 => ?_)
  · replace hX116 := k_pos hX116 c238
    exact hE116 _ (hout116 _ (Option.some.inj hX116).symm).symm _ _ _ hP hD hS (lv_sub hl [1, 2, 3] rfl)
  · replace hX116 := k_neg hX116 c238
    refine lv_aload_n hx hb dX9_isPlan_12 rfl (lv_at hl 2 rfl) ?_
    refine k_get (C := RX9) (T := TX9) (N := 19) hx hb hts inX9 hown hK hP 0 rfl rfl 9 (by decide) rfl wl2 rfl dX9_isPlan_13 ?_
    refine lv_iload_n hx hb dX9_isPlan_16 rfl (lv_at hl 0 rfl) ?_
    obtain ⟨hi239, hX116⟩ := k_ix_some hX116
    refine k_iald (k := x3_237.toNatClampNeg) hx hb hK hP 1 0 rfl rfl hi239 rfl dX9_isPlan_17 ?_
    refine lv_istore (lv' := [(4, .int (f_h_counts x3_237.toNatClampNeg)), (3, .int x3_237), (2, .int x2_236), (0, .ref h), (1, .int a1)]) hx hb dX9_isPlan_18 hl (by decide) rfl (fun ls hl => ?_)
    refine lv_aload_n hx hb dX9_isPlan_20 rfl (lv_at hl 3 rfl) ?_
    refine k_get (C := RX9) (T := TX9) (N := 19) hx hb hts inX9 hown hK hP 0 rfl rfl 10 (by decide) rfl wl3 rfl dX9_isPlan_21 ?_
    refine lv_iload_n hx hb dX9_isPlan_24 rfl (lv_at hl 1 rfl) ?_
    obtain ⟨hi240, hX116⟩ := k_ix_some hX116
    refine k_iald (k := x3_237.toNatClampNeg) hx hb hK hP 2 0 rfl rfl hi240 rfl dX9_isPlan_25 ?_
    refine lv_if_lt (tgt := 139) hx hb dX9_isPlan_26 (by decide) (fun c241 => ?_) (fun c241 => ?_)
    · replace hX116 := k_pos hX116 c241
      refine lv_iinc (v := x3_237 + 1) (lv' := [(3, .int (x3_237 + 1)), (4, .int (f_h_counts x3_237.toNatClampNeg)), (2, .int x2_236), (0, .ref h), (1, .int a1)]) hx hb dX9_isPlan_139 hl (k := 1) rfl rfl (by decide) rfl (fun ls hl => ?_)
      refine lv_goto (tgt := 4) hx hb dX9_isPlan_142 (by decide) ?_
      exact hin116 (x2_236, x3_237 + 1) (Option.some.inj hX116).symm _ _ _ hP hD hS (lv_sub hl [0, 2, 3, 4] rfl)
    · replace hX116 := k_neg hX116 c241
      refine lv_iload_n hx hb dX9_isPlan_29 rfl (lv_at hl 2 rfl) ?_
      refine lv_aload_n hx hb dX9_isPlan_30 rfl (lv_at hl 3 rfl) ?_
      refine k_get (C := RX9) (T := TX9) (N := 19) hx hb hts inX9 hown hK hP 0 rfl rfl 1 (by decide) rfl wl4 rfl dX9_isPlan_31 ?_
      refine lv_sipush (v := 157) hx hb dX9_isPlan_34 (by decide) ?_
      refine lv_iload hx hb dX9_isPlan_37 (lv_at hl 0 rfl) ?_
      refine lv_iadd hx hb dX9_isPlan_39 ?_
      obtain ⟨hi242, hX116⟩ := k_ix_some hX116
      refine k_iald (k := (157 + (f_h_counts x3_237.toNatClampNeg)).toNatClampNeg) hx hb hK hP 3 0 rfl rfl hi242 rfl dX9_isPlan_40 ?_
      refine lv_if_ne (tgt := 57) hx hb dX9_isPlan_41 (by decide) (fun c243 => ?_) (fun c243 => ?_)
      · replace hX116 := k_neg hX116 c243
        refine lv_iconst (v := 0) hx hb dX9_isPlan_57 (by decide) ?_
        refine lv_iadd hx hb dX9_isPlan_58 ?_
        refine lv_istore_n (lv' := [(2, .int (x2_236 + 0)), (4, .int (f_h_counts x3_237.toNatClampNeg)), (3, .int x3_237), (0, .ref h), (1, .int a1)]) hx hb dX9_isPlan_59 rfl hl (by decide) rfl (fun ls hl => ?_)
        refine lv_aload_n hx hb dX9_isPlan_60 rfl (lv_at hl 3 rfl) ?_
        refine k_get (C := RX9) (T := TX9) (N := 19) hx hb hts inX9 hown hK hP 0 rfl rfl 10 (by decide) rfl wl3 rfl dX9_isPlan_61 ?_
        refine lv_iload_n hx hb dX9_isPlan_64 rfl (lv_at hl 2 rfl) ?_
        obtain ⟨hi244, hX116⟩ := k_ix_some hX116
        refine k_iald (k := x3_237.toNatClampNeg) hx hb hK hP 2 0 rfl rfl hi244 rfl dX9_isPlan_65 ?_
        refine lv_aload_n hx hb dX9_isPlan_66 rfl (lv_at hl 3 rfl) ?_
        refine lv_iload hx hb dX9_isPlan_67 (lv_at hl 1 rfl) ?_
        obtain ⟨r245, hc245, hX116⟩ := k_b1_some hX116
        refine k_ViR (q0 := 0) (As := [.int (f_h_counts x3_237.toNatClampNeg)]) (rest := [.int (f_h_begins x3_237.toNatClampNeg)]) S0 (c_X9_hoursFor l D cI cZ cJ cS h h_now h_aside h_books h_tide h_rain h_rule h_counts h_begins h_best h_planks v_h_thrown v_h_kept v_h_counted v_h_bestWorth v_h_bestPitch v_h_bestBits v_h_leastHour v_h_leastSet v_h_shut f_h_now (f_h_counts x3_237.toNatClampNeg) r245 hc245) (cwV 1 hts gX9_isPlan_X9_hoursFor rfl rfl rfl hdV_X9_hoursFor ⟨Nat.le_of_ble_eq_true rfl, Nat.le_of_ble_eq_true rfl⟩) hK hP hD hS hA hN [0, 3] rfl (by decide) rfl rfl rfl rfl hl.1 rfl (Nat.le_of_ble_eq_true rfl) dX9_isPlan_69 (fun H locs hP hS => ?_)
        refine lv_iadd hx hb dX9_isPlan_72 ?_
        refine lv_iload_n hx hb dX9_isPlan_73 rfl (lv_at hl 4 rfl) ?_
        refine lv_icmp_le (tgt := 79) hx hb dX9_isPlan_74 (by decide) (fun c246 => ?_) (fun c246 => ?_)
        · replace hX116 := k_pos hX116 c246
          refine lv_iconst (v := 0) hx hb dX9_isPlan_79 (by decide) ?_
          refine lv_istore (lv' := [(5, .int 0), (2, .int (x2_236 + 0)), (4, .int (f_h_counts x3_237.toNatClampNeg)), (3, .int x3_237), (0, .ref h), (1, .int a1)]) hx hb dX9_isPlan_80 hl (by decide) rfl (fun ls hl => ?_)
          obtain ⟨ee262, hlp262, hfl262, hfr262⟩ := k_bx0_some hX116
          have hE262 : ee262 = .inr () → ∀ (H : Heap) (locs : List Loc) (ls : Array Slot), va_P D vwCl [(h, .inr (9, [.int v_h_thrown, .ref h_now, .ref h_aside, .int v_h_kept, .ref h_books, .ref h_tide, .ref h_rain, .ref h_rule, .int v_h_counted, .ref h_counts, .ref h_begins, .ref h_best, .int v_h_bestWorth, .int v_h_bestPitch, .int v_h_bestBits, .int v_h_leastHour, .int v_h_leastSet, .int v_h_shut, .ref h_planks])), (h_counts, .inl (cI, 5, .inl f_h_counts)), (h_begins, .inl (cI, 5, .inl f_h_begins)), (h_now, .inl (cI, 169, .inl f_h_now)), (h_rain, .inl (cI, 96, .inl f_h_rain)), (h_tide, .inl (cI, 96, .inl f_h_tide)), (h_rule, .inl (cI, 8, .inl f_h_rule))] H → va_D A [(h, .inr (9, [.int v_h_thrown, .ref h_now, .ref h_aside, .int v_h_kept, .ref h_books, .ref h_tide, .ref h_rain, .ref h_rule, .int v_h_counted, .ref h_counts, .ref h_begins, .ref h_best, .int v_h_bestWorth, .int v_h_bestPitch, .int v_h_bestBits, .int v_h_leastHour, .int v_h_leastSet, .int v_h_shut, .ref h_planks])), (h_counts, .inl (cI, 5, .inl f_h_counts)), (h_begins, .inl (cI, 5, .inl f_h_begins)), (h_now, .inl (cI, 169, .inl f_h_now)), (h_rain, .inl (cI, 96, .inl f_h_rain)), (h_tide, .inl (cI, 96, .inl f_h_tide)), (h_rule, .inl (cI, 8, .inl f_h_rule))] → va_S A s.heap H locs → lv_has ls 7 [(2, .int (x2_236 + 0)), (3, .int x3_237), (0, .ref h), (1, .int a1)] → W p l e rm_X9_isPlan s m args below meth c H locs 0 0 Q (F0 m 139 ls []) := by
            intro  he H locs ls hP hD hS hl
            replace hX116 := hfr262  he
            refine lv_iinc (v := x3_237 + 1) (lv' := [(3, .int (x3_237 + 1)), (2, .int (x2_236 + 0)), (0, .ref h), (1, .int a1)]) hx hb dX9_isPlan_139 hl (k := 1) rfl rfl (by decide) rfl (fun ls hl => ?_)
            refine lv_goto (tgt := 4) hx hb dX9_isPlan_142 (by decide) ?_
            exact hin116 (x2_236 + 0, x3_237 + 1) (Option.some.inj hX116).symm _ _ _ hP hD hS (lv_sub hl [0, 1, 2, 3] rfl)
          refine (k_lp_ind (fun sx262 => ∀ (H : Heap) (locs : List Loc) (ls : Array Slot), va_P D vwCl [(h, .inr (9, [.int v_h_thrown, .ref h_now, .ref h_aside, .int v_h_kept, .ref h_books, .ref h_tide, .ref h_rain, .ref h_rule, .int v_h_counted, .ref h_counts, .ref h_begins, .ref h_best, .int v_h_bestWorth, .int v_h_bestPitch, .int v_h_bestBits, .int v_h_leastHour, .int v_h_leastSet, .int v_h_shut, .ref h_planks])), (h_counts, .inl (cI, 5, .inl f_h_counts)), (h_begins, .inl (cI, 5, .inl f_h_begins)), (h_now, .inl (cI, 169, .inl f_h_now)), (h_rain, .inl (cI, 96, .inl f_h_rain)), (h_tide, .inl (cI, 96, .inl f_h_tide)), (h_rule, .inl (cI, 8, .inl f_h_rule))] H → va_D A [(h, .inr (9, [.int v_h_thrown, .ref h_now, .ref h_aside, .int v_h_kept, .ref h_books, .ref h_tide, .ref h_rain, .ref h_rule, .int v_h_counted, .ref h_counts, .ref h_begins, .ref h_best, .int v_h_bestWorth, .int v_h_bestPitch, .int v_h_bestBits, .int v_h_leastHour, .int v_h_leastSet, .int v_h_shut, .ref h_planks])), (h_counts, .inl (cI, 5, .inl f_h_counts)), (h_begins, .inl (cI, 5, .inl f_h_begins)), (h_now, .inl (cI, 169, .inl f_h_now)), (h_rain, .inl (cI, 96, .inl f_h_rain)), (h_tide, .inl (cI, 96, .inl f_h_tide)), (h_rule, .inl (cI, 8, .inl f_h_rule))] → va_S A s.heap H locs → lv_has ls 7 [(5, .int sx262), (2, .int (x2_236 + 0)), (4, .int (f_h_counts x3_237.toNatClampNeg)), (3, .int x3_237), (0, .ref h), (1, .int a1)] → W p l e rm_X9_isPlan s m args below meth c H locs 0 0 Q (F0 m 82 ls [])) (fun sx262 X262 hX262 hin262 hout262 => ?_) _ _ hlp262) _ _ _ hP hD hS (lv_sub hl [0, 1, 2, 3, 4, 5] rfl)
          obtain ⟨x5_263, rfl⟩ : ∃ z, z = sx262 := ⟨_, rfl⟩
          intro H locs ls hP hD hS hl
          replace hP : va_P D vwCl [(h, .inr (9, [.int v_h_thrown, .ref h_now, .ref h_aside, .int v_h_kept, .ref h_books, .ref h_tide, .ref h_rain, .ref h_rule, .int v_h_counted, .ref h_counts, .ref h_begins, .ref h_best, .int v_h_bestWorth, .int v_h_bestPitch, .int v_h_bestBits, .int v_h_leastHour, .int v_h_leastSet, .int v_h_shut, .ref h_planks])), (h_counts, .inl (cI, 5, .inl f_h_counts)), (h_begins, .inl (cI, 5, .inl f_h_begins)), (h_now, .inl (cI, 169, .inl f_h_now)), (h_rain, .inl (cI, 96, .inl f_h_rain)), (h_tide, .inl (cI, 96, .inl f_h_tide)), (h_rule, .inl (cI, 8, .inl f_h_rule))] H := hP
          replace hD : va_D A [(h, .inr (9, [.int v_h_thrown, .ref h_now, .ref h_aside, .int v_h_kept, .ref h_books, .ref h_tide, .ref h_rain, .ref h_rule, .int v_h_counted, .ref h_counts, .ref h_begins, .ref h_best, .int v_h_bestWorth, .int v_h_bestPitch, .int v_h_bestBits, .int v_h_leastHour, .int v_h_leastSet, .int v_h_shut, .ref h_planks])), (h_counts, .inl (cI, 5, .inl f_h_counts)), (h_begins, .inl (cI, 5, .inl f_h_begins)), (h_now, .inl (cI, 169, .inl f_h_now)), (h_rain, .inl (cI, 96, .inl f_h_rain)), (h_tide, .inl (cI, 96, .inl f_h_tide)), (h_rule, .inl (cI, 8, .inl f_h_rule))] := hD
          replace hl : lv_has ls 7 [(5, .int x5_263), (2, .int (x2_236 + 0)), (4, .int (f_h_counts x3_237.toNatClampNeg)), (3, .int x3_237), (0, .ref h), (1, .int a1)] := hl
          replace hX262 : lb_X9_isPlan_82 f_h_now f_h_counts x3_237 f_h_rain f_h_begins f_h_tide x5_263 = some X262 := hX262
          unfold lb_X9_isPlan_82 at hX262
          refine lv_iload hx hb dX9_isPlan_82 (lv_at hl 0 rfl) ?_
          refine lv_aload_n hx hb dX9_isPlan_84 rfl (lv_at hl 4 rfl) ?_
          refine lv_iload hx hb dX9_isPlan_85 (lv_at hl 2 rfl) ?_
          obtain ⟨r264, hc264, hX262⟩ := k_b1_some hX262
          refine k_ViR (q0 := 0) (As := [.int (f_h_counts x3_237.toNatClampNeg)]) (rest := [.int x5_263]) S0 (c_X9_hoursFor l D cI cZ cJ cS h h_now h_aside h_books h_tide h_rain h_rule h_counts h_begins h_best h_planks v_h_thrown v_h_kept v_h_counted v_h_bestWorth v_h_bestPitch v_h_bestBits v_h_leastHour v_h_leastSet v_h_shut f_h_now (f_h_counts x3_237.toNatClampNeg) r264 hc264) (cwV 1 hts gX9_isPlan_X9_hoursFor rfl rfl rfl hdV_X9_hoursFor ⟨Nat.le_of_ble_eq_true rfl, Nat.le_of_ble_eq_true rfl⟩) hK hP hD hS hA hN [0, 3] rfl (by decide) rfl rfl rfl rfl hl.1 rfl (Nat.le_of_ble_eq_true rfl) dX9_isPlan_87 (fun H locs hP hS => ?_)
          refine lv_icmp_ge (tgt := 139) hx hb dX9_isPlan_90 (by decide) (fun c265 => ?_) (fun c265 => ?_)
          · replace hX262 := k_pos hX262 c265
            exact hE262  (hout262 _ (Option.some.inj hX262).symm).symm _ _ _ hP hD hS (lv_sub hl [1, 3, 4, 5] rfl)
          · replace hX262 := k_neg hX262 c265
            refine lv_aload_n hx hb dX9_isPlan_93 rfl (lv_at hl 4 rfl) ?_
            refine k_get (C := RX9) (T := TX9) (N := 19) hx hb hts inX9 hown hK hP 0 rfl rfl 1 (by decide) rfl wl4 rfl dX9_isPlan_94 ?_
            refine lv_iconst (v := 0) hx hb dX9_isPlan_97 (by decide) ?_
            refine k_iald (k := 0) hx hb hK hP 3 0 rfl rfl (by unfold vp_in; decide) (by decide) dX9_isPlan_98 ?_
            refine lv_aload_n hx hb dX9_isPlan_99 rfl (lv_at hl 4 rfl) ?_
            refine k_get (C := RX9) (T := TX9) (N := 19) hx hb hts inX9 hown hK hP 0 rfl rfl 10 (by decide) rfl wl3 rfl dX9_isPlan_100 ?_
            refine lv_iload_n hx hb dX9_isPlan_103 rfl (lv_at hl 3 rfl) ?_
            obtain ⟨hi266, hX262⟩ := k_ix_some hX262
            refine k_iald (k := x3_237.toNatClampNeg) hx hb hK hP 2 0 rfl rfl hi266 rfl dX9_isPlan_104 ?_
            refine lv_iadd hx hb dX9_isPlan_105 ?_
            refine lv_iload hx hb dX9_isPlan_106 (lv_at hl 0 rfl) ?_
            refine lv_iadd hx hb dX9_isPlan_108 ?_
            refine lv_istore (lv' := [(6, .int (((f_h_now 0) + (f_h_begins x3_237.toNatClampNeg)) + x5_263)), (5, .int x5_263), (2, .int (x2_236 + 0)), (4, .int (f_h_counts x3_237.toNatClampNeg)), (3, .int x3_237), (0, .ref h), (1, .int a1)]) hx hb dX9_isPlan_109 hl (by decide) rfl (fun ls hl => ?_)
            refine lv_aload_n hx hb dX9_isPlan_111 rfl (lv_at hl 5 rfl) ?_
            refine lv_iload hx hb dX9_isPlan_112 (lv_at hl 0 rfl) ?_
            obtain ⟨r267, hc267, hX262⟩ := k_b1_some hX262
            refine k_ViR (q0 := 0) (As := [.int (((f_h_now 0) + (f_h_begins x3_237.toNatClampNeg)) + x5_263)]) (rest := []) S0 (c_X9_rains l D cI cZ cJ cS h h_now h_aside h_books h_tide h_rain h_rule h_counts h_begins h_best h_planks v_h_thrown v_h_kept v_h_counted v_h_bestWorth v_h_bestPitch v_h_bestBits v_h_leastHour v_h_leastSet v_h_shut f_h_rain (((f_h_now 0) + (f_h_begins x3_237.toNatClampNeg)) + x5_263) r267 hc267) (cwV 1 hts gX9_isPlan_X9_rains rfl rfl rfl hdV_X9_rains ⟨Nat.le_of_ble_eq_true rfl, Nat.le_of_ble_eq_true rfl⟩) hK hP hD hS hA hN [0, 4] rfl (by decide) rfl rfl rfl rfl hl.1 rfl (Nat.le_of_ble_eq_true rfl) dX9_isPlan_114 (fun H locs hP hS => ?_)
            refine lv_if_ne (tgt := 131) hx hb dX9_isPlan_117 (by decide) (fun c268 => ?_) (fun c268 => ?_)
            · replace hX262 := k_neg hX262 c268
              refine lv_iconst (v := 0) hx hb dX9_isPlan_131 (by decide) ?_
              have he := hout262 _ (Option.some.inj hX262).symm
              replace hX116 := hfl262 _ he.symm
              have he := hout116 _ (Option.some.inj hX116).symm
              replace hf := hfl116 _ he.symm
              exact hRet _ hf _ _ _ _ hP hD hS rfl dX9_isPlan_132
            · replace hX262 := k_pos hX262 c268
              refine lv_aload_n hx hb dX9_isPlan_120 rfl (lv_at hl 5 rfl) ?_
              refine lv_iload hx hb dX9_isPlan_121 (lv_at hl 3 rfl) ?_
              refine lv_iload hx hb dX9_isPlan_123 (lv_at hl 0 rfl) ?_
              obtain ⟨r269, hc269, hX262⟩ := k_b1_some hX262
              refine k_ViR (q0 := 0) (As := [.int (f_h_counts x3_237.toNatClampNeg), .int (((f_h_now 0) + (f_h_begins x3_237.toNatClampNeg)) + x5_263)]) (rest := []) S0 (c_X9_isBare l D cI cZ cJ cS h h_now h_aside h_books h_tide h_rain h_rule h_counts h_begins h_best h_planks v_h_thrown v_h_kept v_h_counted v_h_bestWorth v_h_bestPitch v_h_bestBits v_h_leastHour v_h_leastSet v_h_shut f_h_now f_h_tide (f_h_counts x3_237.toNatClampNeg) (((f_h_now 0) + (f_h_begins x3_237.toNatClampNeg)) + x5_263) r269 hc269) (cwV 2 hts gX9_isPlan_X9_isBare rfl rfl rfl hdV_X9_isBare ⟨Nat.le_of_ble_eq_true rfl, Nat.le_of_ble_eq_true rfl⟩) hK hP hD hS hA hN [0, 3, 5] rfl (by decide) rfl rfl rfl rfl hl.1 rfl (Nat.le_of_ble_eq_true rfl) dX9_isPlan_125 (fun H locs hP hS => ?_)
              refine lv_if_ne (tgt := 133) hx hb dX9_isPlan_128 (by decide) (fun c270 => ?_) (fun c270 => ?_)
              · replace hX262 := k_neg hX262 c270
                refine lv_iinc (v := x5_263 + 1) (lv' := [(5, .int (x5_263 + 1)), (6, .int (((f_h_now 0) + (f_h_begins x3_237.toNatClampNeg)) + x5_263)), (2, .int (x2_236 + 0)), (4, .int (f_h_counts x3_237.toNatClampNeg)), (3, .int x3_237), (0, .ref h), (1, .int a1)]) hx hb dX9_isPlan_133 hl (k := 1) rfl rfl (by decide) rfl (fun ls hl => ?_)
                refine lv_goto (tgt := 82) hx hb dX9_isPlan_136 (by decide) ?_
                exact hin262 (x5_263 + 1) (Option.some.inj hX262).symm _ _ _ hP hD hS (lv_sub hl [0, 2, 3, 4, 5, 6] rfl)
              · replace hX262 := k_pos hX262 c270
                refine lv_iconst (v := 0) hx hb dX9_isPlan_131 (by decide) ?_
                have he := hout262 _ (Option.some.inj hX262).symm
                replace hX116 := hfl262 _ he.symm
                have he := hout116 _ (Option.some.inj hX116).symm
                replace hf := hfl116 _ he.symm
                exact hRet _ hf _ _ _ _ hP hD hS rfl dX9_isPlan_132
        · replace hX116 := k_neg hX116 c246
          refine lv_iconst (v := 0) hx hb dX9_isPlan_77 (by decide) ?_
          have he := hout116 _ (Option.some.inj hX116).symm
          replace hf := hfl116 _ he.symm
          exact hRet _ hf _ _ _ _ hP hD hS rfl dX9_isPlan_78
      · replace hX116 := k_pos hX116 c243
        refine lv_aload_n hx hb dX9_isPlan_44 rfl (lv_at hl 3 rfl) ?_
        refine k_get (C := RX9) (T := TX9) (N := 19) hx hb hts inX9 hown hK hP 0 rfl rfl 1 (by decide) rfl wl4 rfl dX9_isPlan_45 ?_
        refine lv_bipush (v := 121) hx hb dX9_isPlan_48 (by decide) ?_
        refine lv_iload hx hb dX9_isPlan_50 (lv_at hl 0 rfl) ?_
        refine lv_iadd hx hb dX9_isPlan_52 ?_
        obtain ⟨hi271, hX116⟩ := k_ix_some hX116
        refine k_iald (k := (121 + (f_h_counts x3_237.toNatClampNeg)).toNatClampNeg) hx hb hK hP 3 0 rfl rfl hi271 rfl dX9_isPlan_53 ?_
        refine lv_goto (tgt := 58) hx hb dX9_isPlan_54 (by decide) ?_
        refine lv_iadd hx hb dX9_isPlan_58 ?_
        obtain ⟨y272, ey272, hX116⟩ := k_lt_some hX116
        refine k_topi ey272 ?_
        refine lv_istore_n (lv' := [(2, .int y272), (4, .int (f_h_counts x3_237.toNatClampNeg)), (3, .int x3_237), (0, .ref h), (1, .int a1)]) hx hb dX9_isPlan_59 rfl hl (by decide) rfl (fun ls hl => ?_)
        refine lv_aload_n hx hb dX9_isPlan_60 rfl (lv_at hl 3 rfl) ?_
        refine k_get (C := RX9) (T := TX9) (N := 19) hx hb hts inX9 hown hK hP 0 rfl rfl 10 (by decide) rfl wl3 rfl dX9_isPlan_61 ?_
        refine lv_iload_n hx hb dX9_isPlan_64 rfl (lv_at hl 2 rfl) ?_
        obtain ⟨hi273, hX116⟩ := k_ix_some hX116
        refine k_iald (k := x3_237.toNatClampNeg) hx hb hK hP 2 0 rfl rfl hi273 rfl dX9_isPlan_65 ?_
        refine lv_aload_n hx hb dX9_isPlan_66 rfl (lv_at hl 3 rfl) ?_
        refine lv_iload hx hb dX9_isPlan_67 (lv_at hl 1 rfl) ?_
        obtain ⟨r274, hc274, hX116⟩ := k_b1_some hX116
        refine k_ViR (q0 := 0) (As := [.int (f_h_counts x3_237.toNatClampNeg)]) (rest := [.int (f_h_begins x3_237.toNatClampNeg)]) S0 (c_X9_hoursFor l D cI cZ cJ cS h h_now h_aside h_books h_tide h_rain h_rule h_counts h_begins h_best h_planks v_h_thrown v_h_kept v_h_counted v_h_bestWorth v_h_bestPitch v_h_bestBits v_h_leastHour v_h_leastSet v_h_shut f_h_now (f_h_counts x3_237.toNatClampNeg) r274 hc274) (cwV 1 hts gX9_isPlan_X9_hoursFor rfl rfl rfl hdV_X9_hoursFor ⟨Nat.le_of_ble_eq_true rfl, Nat.le_of_ble_eq_true rfl⟩) hK hP hD hS hA hN [0, 3] rfl (by decide) rfl rfl rfl rfl hl.1 rfl (Nat.le_of_ble_eq_true rfl) dX9_isPlan_69 (fun H locs hP hS => ?_)
        refine lv_iadd hx hb dX9_isPlan_72 ?_
        refine lv_iload_n hx hb dX9_isPlan_73 rfl (lv_at hl 4 rfl) ?_
        refine lv_icmp_le (tgt := 79) hx hb dX9_isPlan_74 (by decide) (fun c275 => ?_) (fun c275 => ?_)
        · replace hX116 := k_pos hX116 c275
          refine lv_iconst (v := 0) hx hb dX9_isPlan_79 (by decide) ?_
          refine lv_istore (lv' := [(5, .int 0), (2, .int y272), (4, .int (f_h_counts x3_237.toNatClampNeg)), (3, .int x3_237), (0, .ref h), (1, .int a1)]) hx hb dX9_isPlan_80 hl (by decide) rfl (fun ls hl => ?_)
          obtain ⟨ee291, hlp291, hfl291, hfr291⟩ := k_bx0_some hX116
          have hE291 : ee291 = .inr () → ∀ (H : Heap) (locs : List Loc) (ls : Array Slot), va_P D vwCl [(h, .inr (9, [.int v_h_thrown, .ref h_now, .ref h_aside, .int v_h_kept, .ref h_books, .ref h_tide, .ref h_rain, .ref h_rule, .int v_h_counted, .ref h_counts, .ref h_begins, .ref h_best, .int v_h_bestWorth, .int v_h_bestPitch, .int v_h_bestBits, .int v_h_leastHour, .int v_h_leastSet, .int v_h_shut, .ref h_planks])), (h_counts, .inl (cI, 5, .inl f_h_counts)), (h_begins, .inl (cI, 5, .inl f_h_begins)), (h_now, .inl (cI, 169, .inl f_h_now)), (h_rain, .inl (cI, 96, .inl f_h_rain)), (h_tide, .inl (cI, 96, .inl f_h_tide)), (h_rule, .inl (cI, 8, .inl f_h_rule))] H → va_D A [(h, .inr (9, [.int v_h_thrown, .ref h_now, .ref h_aside, .int v_h_kept, .ref h_books, .ref h_tide, .ref h_rain, .ref h_rule, .int v_h_counted, .ref h_counts, .ref h_begins, .ref h_best, .int v_h_bestWorth, .int v_h_bestPitch, .int v_h_bestBits, .int v_h_leastHour, .int v_h_leastSet, .int v_h_shut, .ref h_planks])), (h_counts, .inl (cI, 5, .inl f_h_counts)), (h_begins, .inl (cI, 5, .inl f_h_begins)), (h_now, .inl (cI, 169, .inl f_h_now)), (h_rain, .inl (cI, 96, .inl f_h_rain)), (h_tide, .inl (cI, 96, .inl f_h_tide)), (h_rule, .inl (cI, 8, .inl f_h_rule))] → va_S A s.heap H locs → lv_has ls 7 [(2, .int y272), (3, .int x3_237), (0, .ref h), (1, .int a1)] → W p l e rm_X9_isPlan s m args below meth c H locs 0 0 Q (F0 m 139 ls []) := by
            intro  he H locs ls hP hD hS hl
            replace hX116 := hfr291  he
            refine lv_iinc (v := x3_237 + 1) (lv' := [(3, .int (x3_237 + 1)), (2, .int y272), (0, .ref h), (1, .int a1)]) hx hb dX9_isPlan_139 hl (k := 1) rfl rfl (by decide) rfl (fun ls hl => ?_)
            refine lv_goto (tgt := 4) hx hb dX9_isPlan_142 (by decide) ?_
            exact hin116 (y272, x3_237 + 1) (Option.some.inj hX116).symm _ _ _ hP hD hS (lv_sub hl [0, 1, 2, 3] rfl)
          refine (k_lp_ind (fun sx291 => ∀ (H : Heap) (locs : List Loc) (ls : Array Slot), va_P D vwCl [(h, .inr (9, [.int v_h_thrown, .ref h_now, .ref h_aside, .int v_h_kept, .ref h_books, .ref h_tide, .ref h_rain, .ref h_rule, .int v_h_counted, .ref h_counts, .ref h_begins, .ref h_best, .int v_h_bestWorth, .int v_h_bestPitch, .int v_h_bestBits, .int v_h_leastHour, .int v_h_leastSet, .int v_h_shut, .ref h_planks])), (h_counts, .inl (cI, 5, .inl f_h_counts)), (h_begins, .inl (cI, 5, .inl f_h_begins)), (h_now, .inl (cI, 169, .inl f_h_now)), (h_rain, .inl (cI, 96, .inl f_h_rain)), (h_tide, .inl (cI, 96, .inl f_h_tide)), (h_rule, .inl (cI, 8, .inl f_h_rule))] H → va_D A [(h, .inr (9, [.int v_h_thrown, .ref h_now, .ref h_aside, .int v_h_kept, .ref h_books, .ref h_tide, .ref h_rain, .ref h_rule, .int v_h_counted, .ref h_counts, .ref h_begins, .ref h_best, .int v_h_bestWorth, .int v_h_bestPitch, .int v_h_bestBits, .int v_h_leastHour, .int v_h_leastSet, .int v_h_shut, .ref h_planks])), (h_counts, .inl (cI, 5, .inl f_h_counts)), (h_begins, .inl (cI, 5, .inl f_h_begins)), (h_now, .inl (cI, 169, .inl f_h_now)), (h_rain, .inl (cI, 96, .inl f_h_rain)), (h_tide, .inl (cI, 96, .inl f_h_tide)), (h_rule, .inl (cI, 8, .inl f_h_rule))] → va_S A s.heap H locs → lv_has ls 7 [(5, .int sx291), (2, .int y272), (4, .int (f_h_counts x3_237.toNatClampNeg)), (3, .int x3_237), (0, .ref h), (1, .int a1)] → W p l e rm_X9_isPlan s m args below meth c H locs 0 0 Q (F0 m 82 ls [])) (fun sx291 X291 hX291 hin291 hout291 => ?_) _ _ hlp291) _ _ _ hP hD hS (lv_sub hl [0, 1, 2, 3, 4, 5] rfl)
          obtain ⟨x5_292, rfl⟩ : ∃ z, z = sx291 := ⟨_, rfl⟩
          intro H locs ls hP hD hS hl
          replace hP : va_P D vwCl [(h, .inr (9, [.int v_h_thrown, .ref h_now, .ref h_aside, .int v_h_kept, .ref h_books, .ref h_tide, .ref h_rain, .ref h_rule, .int v_h_counted, .ref h_counts, .ref h_begins, .ref h_best, .int v_h_bestWorth, .int v_h_bestPitch, .int v_h_bestBits, .int v_h_leastHour, .int v_h_leastSet, .int v_h_shut, .ref h_planks])), (h_counts, .inl (cI, 5, .inl f_h_counts)), (h_begins, .inl (cI, 5, .inl f_h_begins)), (h_now, .inl (cI, 169, .inl f_h_now)), (h_rain, .inl (cI, 96, .inl f_h_rain)), (h_tide, .inl (cI, 96, .inl f_h_tide)), (h_rule, .inl (cI, 8, .inl f_h_rule))] H := hP
          replace hD : va_D A [(h, .inr (9, [.int v_h_thrown, .ref h_now, .ref h_aside, .int v_h_kept, .ref h_books, .ref h_tide, .ref h_rain, .ref h_rule, .int v_h_counted, .ref h_counts, .ref h_begins, .ref h_best, .int v_h_bestWorth, .int v_h_bestPitch, .int v_h_bestBits, .int v_h_leastHour, .int v_h_leastSet, .int v_h_shut, .ref h_planks])), (h_counts, .inl (cI, 5, .inl f_h_counts)), (h_begins, .inl (cI, 5, .inl f_h_begins)), (h_now, .inl (cI, 169, .inl f_h_now)), (h_rain, .inl (cI, 96, .inl f_h_rain)), (h_tide, .inl (cI, 96, .inl f_h_tide)), (h_rule, .inl (cI, 8, .inl f_h_rule))] := hD
          replace hl : lv_has ls 7 [(5, .int x5_292), (2, .int y272), (4, .int (f_h_counts x3_237.toNatClampNeg)), (3, .int x3_237), (0, .ref h), (1, .int a1)] := hl
          replace hX291 : lb_X9_isPlan_82_1 f_h_now f_h_counts x3_237 f_h_rain f_h_begins f_h_tide x5_292 = some X291 := hX291
          unfold lb_X9_isPlan_82_1 at hX291
          refine lv_iload hx hb dX9_isPlan_82 (lv_at hl 0 rfl) ?_
          refine lv_aload_n hx hb dX9_isPlan_84 rfl (lv_at hl 4 rfl) ?_
          refine lv_iload hx hb dX9_isPlan_85 (lv_at hl 2 rfl) ?_
          obtain ⟨r293, hc293, hX291⟩ := k_b1_some hX291
          refine k_ViR (q0 := 0) (As := [.int (f_h_counts x3_237.toNatClampNeg)]) (rest := [.int x5_292]) S0 (c_X9_hoursFor l D cI cZ cJ cS h h_now h_aside h_books h_tide h_rain h_rule h_counts h_begins h_best h_planks v_h_thrown v_h_kept v_h_counted v_h_bestWorth v_h_bestPitch v_h_bestBits v_h_leastHour v_h_leastSet v_h_shut f_h_now (f_h_counts x3_237.toNatClampNeg) r293 hc293) (cwV 1 hts gX9_isPlan_X9_hoursFor rfl rfl rfl hdV_X9_hoursFor ⟨Nat.le_of_ble_eq_true rfl, Nat.le_of_ble_eq_true rfl⟩) hK hP hD hS hA hN [0, 3] rfl (by decide) rfl rfl rfl rfl hl.1 rfl (Nat.le_of_ble_eq_true rfl) dX9_isPlan_87 (fun H locs hP hS => ?_)
          refine lv_icmp_ge (tgt := 139) hx hb dX9_isPlan_90 (by decide) (fun c294 => ?_) (fun c294 => ?_)
          · replace hX291 := k_pos hX291 c294
            exact hE291  (hout291 _ (Option.some.inj hX291).symm).symm _ _ _ hP hD hS (lv_sub hl [1, 3, 4, 5] rfl)
          · replace hX291 := k_neg hX291 c294
            refine lv_aload_n hx hb dX9_isPlan_93 rfl (lv_at hl 4 rfl) ?_
            refine k_get (C := RX9) (T := TX9) (N := 19) hx hb hts inX9 hown hK hP 0 rfl rfl 1 (by decide) rfl wl4 rfl dX9_isPlan_94 ?_
            refine lv_iconst (v := 0) hx hb dX9_isPlan_97 (by decide) ?_
            refine k_iald (k := 0) hx hb hK hP 3 0 rfl rfl (by unfold vp_in; decide) (by decide) dX9_isPlan_98 ?_
            refine lv_aload_n hx hb dX9_isPlan_99 rfl (lv_at hl 4 rfl) ?_
            refine k_get (C := RX9) (T := TX9) (N := 19) hx hb hts inX9 hown hK hP 0 rfl rfl 10 (by decide) rfl wl3 rfl dX9_isPlan_100 ?_
            refine lv_iload_n hx hb dX9_isPlan_103 rfl (lv_at hl 3 rfl) ?_
            obtain ⟨hi295, hX291⟩ := k_ix_some hX291
            refine k_iald (k := x3_237.toNatClampNeg) hx hb hK hP 2 0 rfl rfl hi295 rfl dX9_isPlan_104 ?_
            refine lv_iadd hx hb dX9_isPlan_105 ?_
            refine lv_iload hx hb dX9_isPlan_106 (lv_at hl 0 rfl) ?_
            refine lv_iadd hx hb dX9_isPlan_108 ?_
            refine lv_istore (lv' := [(6, .int (((f_h_now 0) + (f_h_begins x3_237.toNatClampNeg)) + x5_292)), (5, .int x5_292), (2, .int y272), (4, .int (f_h_counts x3_237.toNatClampNeg)), (3, .int x3_237), (0, .ref h), (1, .int a1)]) hx hb dX9_isPlan_109 hl (by decide) rfl (fun ls hl => ?_)
            refine lv_aload_n hx hb dX9_isPlan_111 rfl (lv_at hl 5 rfl) ?_
            refine lv_iload hx hb dX9_isPlan_112 (lv_at hl 0 rfl) ?_
            obtain ⟨r296, hc296, hX291⟩ := k_b1_some hX291
            refine k_ViR (q0 := 0) (As := [.int (((f_h_now 0) + (f_h_begins x3_237.toNatClampNeg)) + x5_292)]) (rest := []) S0 (c_X9_rains l D cI cZ cJ cS h h_now h_aside h_books h_tide h_rain h_rule h_counts h_begins h_best h_planks v_h_thrown v_h_kept v_h_counted v_h_bestWorth v_h_bestPitch v_h_bestBits v_h_leastHour v_h_leastSet v_h_shut f_h_rain (((f_h_now 0) + (f_h_begins x3_237.toNatClampNeg)) + x5_292) r296 hc296) (cwV 1 hts gX9_isPlan_X9_rains rfl rfl rfl hdV_X9_rains ⟨Nat.le_of_ble_eq_true rfl, Nat.le_of_ble_eq_true rfl⟩) hK hP hD hS hA hN [0, 4] rfl (by decide) rfl rfl rfl rfl hl.1 rfl (Nat.le_of_ble_eq_true rfl) dX9_isPlan_114 (fun H locs hP hS => ?_)
            refine lv_if_ne (tgt := 131) hx hb dX9_isPlan_117 (by decide) (fun c297 => ?_) (fun c297 => ?_)
            · replace hX291 := k_neg hX291 c297
              refine lv_iconst (v := 0) hx hb dX9_isPlan_131 (by decide) ?_
              have he := hout291 _ (Option.some.inj hX291).symm
              replace hX116 := hfl291 _ he.symm
              have he := hout116 _ (Option.some.inj hX116).symm
              replace hf := hfl116 _ he.symm
              exact hRet _ hf _ _ _ _ hP hD hS rfl dX9_isPlan_132
            · replace hX291 := k_pos hX291 c297
              refine lv_aload_n hx hb dX9_isPlan_120 rfl (lv_at hl 5 rfl) ?_
              refine lv_iload hx hb dX9_isPlan_121 (lv_at hl 3 rfl) ?_
              refine lv_iload hx hb dX9_isPlan_123 (lv_at hl 0 rfl) ?_
              obtain ⟨r298, hc298, hX291⟩ := k_b1_some hX291
              refine k_ViR (q0 := 0) (As := [.int (f_h_counts x3_237.toNatClampNeg), .int (((f_h_now 0) + (f_h_begins x3_237.toNatClampNeg)) + x5_292)]) (rest := []) S0 (c_X9_isBare l D cI cZ cJ cS h h_now h_aside h_books h_tide h_rain h_rule h_counts h_begins h_best h_planks v_h_thrown v_h_kept v_h_counted v_h_bestWorth v_h_bestPitch v_h_bestBits v_h_leastHour v_h_leastSet v_h_shut f_h_now f_h_tide (f_h_counts x3_237.toNatClampNeg) (((f_h_now 0) + (f_h_begins x3_237.toNatClampNeg)) + x5_292) r298 hc298) (cwV 2 hts gX9_isPlan_X9_isBare rfl rfl rfl hdV_X9_isBare ⟨Nat.le_of_ble_eq_true rfl, Nat.le_of_ble_eq_true rfl⟩) hK hP hD hS hA hN [0, 3, 5] rfl (by decide) rfl rfl rfl rfl hl.1 rfl (Nat.le_of_ble_eq_true rfl) dX9_isPlan_125 (fun H locs hP hS => ?_)
              refine lv_if_ne (tgt := 133) hx hb dX9_isPlan_128 (by decide) (fun c299 => ?_) (fun c299 => ?_)
              · replace hX291 := k_neg hX291 c299
                refine lv_iinc (v := x5_292 + 1) (lv' := [(5, .int (x5_292 + 1)), (6, .int (((f_h_now 0) + (f_h_begins x3_237.toNatClampNeg)) + x5_292)), (2, .int y272), (4, .int (f_h_counts x3_237.toNatClampNeg)), (3, .int x3_237), (0, .ref h), (1, .int a1)]) hx hb dX9_isPlan_133 hl (k := 1) rfl rfl (by decide) rfl (fun ls hl => ?_)
                refine lv_goto (tgt := 82) hx hb dX9_isPlan_136 (by decide) ?_
                exact hin291 (x5_292 + 1) (Option.some.inj hX291).symm _ _ _ hP hD hS (lv_sub hl [0, 2, 3, 4, 5, 6] rfl)
              · replace hX291 := k_pos hX291 c299
                refine lv_iconst (v := 0) hx hb dX9_isPlan_131 (by decide) ?_
                have he := hout291 _ (Option.some.inj hX291).symm
                replace hX116 := hfl291 _ he.symm
                have he := hout116 _ (Option.some.inj hX116).symm
                replace hf := hfl116 _ he.symm
                exact hRet _ hf _ _ _ _ hP hD hS rfl dX9_isPlan_132
        · replace hX116 := k_neg hX116 c275
          refine lv_iconst (v := 0) hx hb dX9_isPlan_77 (by decide) ?_
          have he := hout116 _ (Option.some.inj hX116).symm
          replace hf := hfl116 _ he.symm
          exact hRet _ hf _ _ _ _ hP hD hS rfl dX9_isPlan_78

def lb_X9_findPlan_362 (c_h_begins_456 : Nat → Int32) (x9_465 : Int32) (c_h_best_466 : Nat → Int32) : Option ((Int32 × (Nat → Int32)) ⊕ ((Nat → Int32))) :=
  if 5 ≤ x9_465 then
    some (.inr c_h_best_466)
  else
    k_ix x9_465 5 (
      k_ix x9_465 5 (
        some (.inl (x9_465 + 1, upd c_h_best_466 x9_465.toNatClampNeg (c_h_begins_456 x9_465.toNatClampNeg)))))
def lb_X9_findPlan_278 (x2_353 : Int32) (a1 : Int32) (x10_494 : Int32) (x11_495 : Int32) (c_h_begins_496 : Nat → Int32) : Option ((Int32 × Int32 × (Nat → Int32)) ⊕ ((Nat → Int32))) :=
  if x11_495 < 0 then
    some (.inr c_h_begins_496)
  else
    k_ix x11_495 5 (
      if ((x2_353 >>> (x11_495 &&& 31)) &&& 1) = 1 then
        k_ck (¬ a1 = 0) (
          k_ix x11_495 5 (
            k_ck (¬ a1 = 0) (
              some (.inl (x10_494 / a1, x11_495 + (-1), upd (upd c_h_begins_496 x11_495.toNatClampNeg (-1)) x11_495.toNatClampNeg (x10_494 - x10_494 / a1 * a1))))))
      else
        some (.inl (x10_494, x11_495 + (-1), upd c_h_begins_496 x11_495.toNatClampNeg (-1))))
def lb_X9_findPlan_249 (x6_384 : Int32) (t390 : Int32) (x2_353 : Int32) (a1 : Int32) (c_h_counted_14 : Int32) (c_h_counts_13 : Nat → Int32) (f_h_now : Nat → Int32) (f_h_rain : Nat → Int32) (f_h_tide : Nat → Int32) (f_h_rule : Nat → Int32) (x8_470 : Int32) (x9_471 : Int32) (c_h_begins_472 : Nat → Int32) : Option ((Int32 × Int32 × (Nat → Int32)) ⊕ (Int32 × (Nat → Int32))) :=
  if x6_384 ≤ x9_471 then
    some (.inr (x8_470, c_h_begins_472))
  else
    if t390 = 0 then
      some (.inr (x8_470, c_h_begins_472))
    else
      if x8_470 = 0 then
        k_b1 (k_lp (fun s => lb_X9_findPlan_278 x2_353 a1 s.1 s.2.1 s.2.2) k_fuel (x9_471, c_h_counted_14 - 1, c_h_begins_472)) fun c_h_begins_492 =>
        k_b1 (p_X9_isPlan c_h_counted_14 c_h_counts_13 c_h_begins_492 f_h_now f_h_rain f_h_tide f_h_rule a1) fun r493 =>
        some (.inl (r493, x9_471 + 1, c_h_begins_492))
      else
        some (.inr (x8_470, c_h_begins_472))
def lj_X9_findPlan_241 (x6_384 : Int32) (x2_353 : Int32) (a1 : Int32) (c_h_counted_14 : Int32) (c_h_counts_13 : Nat → Int32) (f_h_now : Nat → Int32) (f_h_rain : Nat → Int32) (f_h_tide : Nat → Int32) (f_h_rule : Nat → Int32) (c_h_begins_354 : Nat → Int32) (c_h_best_355 : Nat → Int32) (c_h_bestBits_356 : Int32) (c_h_bestPitch_357 : Int32) (c_h_bestWorth_358 : Int32) (x5_383 : Int32) (x4_382 : Int32) (x3_381 : Int32) (t390 : Int32) : Option ((Int32 × (Nat → Int32) × (Nat → Int32) × Int32 × Int32 × Int32) ⊕ ((Nat → Int32) × (Nat → Int32) × Int32 × Int32 × Int32)) :=
  k_b2 (k_lp (fun s => lb_X9_findPlan_249 x6_384 t390 x2_353 a1 c_h_counted_14 c_h_counts_13 f_h_now f_h_rain f_h_tide f_h_rule s.1 s.2.1 s.2.2) k_fuel (0, 0, c_h_begins_354)) fun x8_455 c_h_begins_456 =>
  if x8_455 = 0 then
    some (.inl (x2_353 + 1, c_h_begins_456, c_h_best_355, c_h_bestBits_356, c_h_bestPitch_357, c_h_bestWorth_358))
  else
    k_b1 (k_lp (fun s => lb_X9_findPlan_362 c_h_begins_456 s.1 s.2) k_fuel (0, c_h_best_355)) fun c_h_best_464 =>
    some (.inl (x2_353 + 1, c_h_begins_456, c_h_best_464, x5_383, x4_382, x3_381))
def lb_X9_findPlan_97 (c_h_counted_14 : Int32) (x2_353 : Int32) (c_h_counts_13 : Nat → Int32) (f_h_now : Nat → Int32) (a1 : Int32) (x3_508 : Int32) (x4_509 : Int32) (x5_510 : Int32) (x6_511 : Int32) (x7_512 : Int32) : Option ((Int32 × Int32 × Int32 × Int32 × Int32) ⊕ (Int32 × Int32 × Int32 × Int32)) :=
  if c_h_counted_14 ≤ x7_512 then
    some (.inr (x3_508, x4_509, x5_510, x6_511))
  else
    if ((x2_353 >>> (x7_512 &&& 31)) &&& 1) = 1 then
      k_ix x7_512 5 (
        k_ix (133 + (c_h_counts_13 x7_512.toNatClampNeg)) 169 (
          k_lt (x3_508 + (f_h_now (133 + (c_h_counts_13 x7_512.toNatClampNeg)).toNatClampNeg)) fun y517 =>
          k_ix (157 + (c_h_counts_13 x7_512.toNatClampNeg)) 169 (
            if (f_h_now (157 + (c_h_counts_13 x7_512.toNatClampNeg)).toNatClampNeg) = 0 then
              k_ix (121 + (c_h_counts_13 x7_512.toNatClampNeg)) 169 (
                k_lt (x4_509 + (f_h_now (121 + (c_h_counts_13 x7_512.toNatClampNeg)).toNatClampNeg)) fun y521 =>
                some (.inl (y517, y521, x5_510 ||| (1 <<< ((c_h_counts_13 x7_512.toNatClampNeg) &&& 31)), x6_511 * a1, x7_512 + 1)))
            else
              some (.inl (y517, x4_509 + 0, x5_510 ||| (1 <<< ((c_h_counts_13 x7_512.toNatClampNeg) &&& 31)), x6_511 * a1, x7_512 + 1)))))
    else
      some (.inl (x3_508, x4_509, x5_510, x6_511, x7_512 + 1))
def lb_X9_findPlan_73 (c_h_counted_14 : Int32) (c_h_counts_13 : Nat → Int32) (f_h_now : Nat → Int32) (a1 : Int32) (f_h_rain : Nat → Int32) (f_h_tide : Nat → Int32) (f_h_rule : Nat → Int32) (x2_353 : Int32) (c_h_begins_354 : Nat → Int32) (c_h_best_355 : Nat → Int32) (c_h_bestBits_356 : Int32) (c_h_bestPitch_357 : Int32) (c_h_bestWorth_358 : Int32) : Option ((Int32 × (Nat → Int32) × (Nat → Int32) × Int32 × Int32 × Int32) ⊕ ((Nat → Int32) × (Nat → Int32) × Int32 × Int32 × Int32)) :=
  if (1 <<< (c_h_counted_14 &&& 31)) ≤ x2_353 then
    some (.inr (c_h_begins_354, c_h_best_355, c_h_bestBits_356, c_h_bestPitch_357, c_h_bestWorth_358))
  else
    k_b4 (k_lp (fun s => lb_X9_findPlan_97 c_h_counted_14 x2_353 c_h_counts_13 f_h_now a1 s.1 s.2.1 s.2.2.1 s.2.2.2.1 s.2.2.2.2) k_fuel (0, 0, 0, 1, 0)) fun x3_381 x4_382 x5_383 x6_384 =>
    if c_h_bestWorth_358 < x3_381 then
      lj_X9_findPlan_241 x6_384 x2_353 a1 c_h_counted_14 c_h_counts_13 f_h_now f_h_rain f_h_tide f_h_rule c_h_begins_354 c_h_best_355 c_h_bestBits_356 c_h_bestPitch_357 c_h_bestWorth_358 x5_383 x4_382 x3_381 1
    else
      if x3_381 = c_h_bestWorth_358 then
        if x4_382 < c_h_bestPitch_357 then
          lj_X9_findPlan_241 x6_384 x2_353 a1 c_h_counted_14 c_h_counts_13 f_h_now f_h_rain f_h_tide f_h_rule c_h_begins_354 c_h_best_355 c_h_bestBits_356 c_h_bestPitch_357 c_h_bestWorth_358 x5_383 x4_382 x3_381 1
        else
          if x4_382 = c_h_bestPitch_357 then
            if c_h_bestBits_356 ≤ x5_383 then
              lj_X9_findPlan_241 x6_384 x2_353 a1 c_h_counted_14 c_h_counts_13 f_h_now f_h_rain f_h_tide f_h_rule c_h_begins_354 c_h_best_355 c_h_bestBits_356 c_h_bestPitch_357 c_h_bestWorth_358 x5_383 x4_382 x3_381 0
            else
              lj_X9_findPlan_241 x6_384 x2_353 a1 c_h_counted_14 c_h_counts_13 f_h_now f_h_rain f_h_tide f_h_rule c_h_begins_354 c_h_best_355 c_h_bestBits_356 c_h_bestPitch_357 c_h_bestWorth_358 x5_383 x4_382 x3_381 1
          else
            lj_X9_findPlan_241 x6_384 x2_353 a1 c_h_counted_14 c_h_counts_13 f_h_now f_h_rain f_h_tide f_h_rule c_h_begins_354 c_h_best_355 c_h_bestBits_356 c_h_bestPitch_357 c_h_bestWorth_358 x5_383 x4_382 x3_381 0
      else
        lj_X9_findPlan_241 x6_384 x2_353 a1 c_h_counted_14 c_h_counts_13 f_h_now f_h_rain f_h_tide f_h_rule c_h_begins_354 c_h_best_355 c_h_bestBits_356 c_h_bestPitch_357 c_h_bestWorth_358 x5_383 x4_382 x3_381 0
def lb_X9_findPlan_7 (f_h_now : Nat → Int32) (x2_522 : Int32) (c_h_counts_523 : Nat → Int32) (c_h_counted_524 : Int32) : Option ((Int32 × (Nat → Int32) × Int32) ⊕ ((Nat → Int32) × Int32)) :=
  if (f_h_now 12) ≤ x2_522 then
    some (.inr (c_h_counts_523, c_h_counted_524))
  else
    if 5 ≤ c_h_counted_524 then
      some (.inl (x2_522 + 1, c_h_counts_523, c_h_counted_524))
    else
      k_ix (145 + x2_522) 169 (
        if (f_h_now (145 + x2_522).toNatClampNeg) = 2 then
          some (.inl (x2_522 + 1, c_h_counts_523, c_h_counted_524))
        else
          k_ix c_h_counted_524 5 (
            some (.inl (x2_522 + 1, upd c_h_counts_523 c_h_counted_524.toNatClampNeg x2_522, c_h_counted_524 + 1))))
def p_X9_findPlan (v_h_bestPitch : Int32) (v_h_bestBits : Int32) (f_h_now : Nat → Int32) (f_h_counts : Nat → Int32) (f_h_begins : Nat → Int32) (f_h_rain : Nat → Int32) (f_h_tide : Nat → Int32) (f_h_rule : Nat → Int32) (f_h_best : Nat → Int32) (a1 : Int32) : Option (Int32 × Int32 × Int32 × Int32 × (Nat → Int32) × (Nat → Int32) × (Nat → Int32)) :=
  k_b2 (k_lp (fun s => lb_X9_findPlan_7 f_h_now s.1 s.2.1 s.2.2) k_fuel (0, f_h_counts, 0)) fun c_h_counts_13 c_h_counted_14 =>
  k_b5 (k_lp (fun s => lb_X9_findPlan_73 c_h_counted_14 c_h_counts_13 f_h_now a1 f_h_rain f_h_tide f_h_rule s.1 s.2.1 s.2.2.1 s.2.2.2.1 s.2.2.2.2.1 s.2.2.2.2.2) k_fuel (0, f_h_begins, f_h_best, v_h_bestBits, v_h_bestPitch, (-1))) fun c_h_begins_348 c_h_best_349 c_h_bestBits_350 c_h_bestPitch_351 c_h_bestWorth_352 =>
  some (c_h_counted_14, c_h_bestWorth_352, c_h_bestPitch_351, c_h_bestBits_350, c_h_counts_13, c_h_begins_348, c_h_best_349)
abbrev rm_X9_findPlan : Room := { frames := 3, cells := 0, slots := 0, locals := 70 }
theorem hdS_X9_findPlan : yX9_findPlan.cls ≠ "java/lang/invoke/MethodHandle" ∧ yX9_findPlan.cls ≠ "java/lang/invoke/VarHandle" ∧ (parseMethodDescriptor yX9_findPlan.desc).map (fun d => d.parameters.length) = some 1 := by decide +kernel
theorem hdV_X9_findPlan : yX9_findPlan.cls = RX9 ∧ yX9_findPlan.cls ≠ "java/lang/invoke/MethodHandle" ∧ yX9_findPlan.cls ≠ "java/lang/invoke/VarHandle" ∧ (parseMethodDescriptor yX9_findPlan.desc).map (fun d => d.parameters.length) = some 1 := by decide +kernel
set_option maxHeartbeats 4000000 in
set_option maxRecDepth 100000 in
theorem c_X9_findPlan (l : Launch) (D : va_G) (cI cZ cJ cS : ClassId) (h h_now h_aside h_books h_tide h_rain h_rule h_counts h_begins h_best h_planks : Nat) (v_h_thrown : Int32) (v_h_kept : Int32) (v_h_counted : Int32) (v_h_bestWorth : Int32) (v_h_bestPitch : Int32) (v_h_bestBits : Int32) (v_h_leastHour : Int32) (v_h_leastSet : Int32) (v_h_shut : Int32) (f_h_now : Nat → Int32) (f_h_counts : Nat → Int32) (f_h_begins : Nat → Int32) (f_h_rain : Nat → Int32) (f_h_tide : Nat → Int32) (f_h_rule : Nat → Int32) (f_h_best : Nat → Int32) (a1 : Int32) (v_h_counted' : Int32) (v_h_bestWorth' : Int32) (v_h_bestPitch' : Int32) (v_h_bestBits' : Int32) (f_h_counts' : Nat → Int32) (f_h_begins' : Nat → Int32) (f_h_best' : Nat → Int32) (hf : p_X9_findPlan v_h_bestPitch v_h_bestBits f_h_now f_h_counts f_h_begins f_h_rain f_h_tide f_h_rule f_h_best a1 = some (v_h_counted', v_h_bestWorth', v_h_bestPitch', v_h_bestBits', f_h_counts', f_h_begins', f_h_best')) : k_MV l yX9_findPlan wsX9_findPlan rm_X9_findPlan D (k_tys cI cZ cJ cS) [.ref h, .int a1] [(h, .inr (9, [.int v_h_thrown, .ref h_now, .ref h_aside, .int v_h_kept, .ref h_books, .ref h_tide, .ref h_rain, .ref h_rule, .int v_h_counted, .ref h_counts, .ref h_begins, .ref h_best, .int v_h_bestWorth, .int v_h_bestPitch, .int v_h_bestBits, .int v_h_leastHour, .int v_h_leastSet, .int v_h_shut, .ref h_planks])), (h_now, .inl (cI, 169, .inl f_h_now)), (h_counts, .inl (cI, 5, .inl f_h_counts)), (h_begins, .inl (cI, 5, .inl f_h_begins)), (h_rain, .inl (cI, 96, .inl f_h_rain)), (h_tide, .inl (cI, 96, .inl f_h_tide)), (h_rule, .inl (cI, 8, .inl f_h_rule)), (h_best, .inl (cI, 5, .inl f_h_best))] [(h, .inr (9, [.int v_h_thrown, .ref h_now, .ref h_aside, .int v_h_kept, .ref h_books, .ref h_tide, .ref h_rain, .ref h_rule, .int v_h_counted', .ref h_counts, .ref h_begins, .ref h_best, .int v_h_bestWorth', .int v_h_bestPitch', .int v_h_bestBits', .int v_h_leastHour, .int v_h_leastSet, .int v_h_shut, .ref h_planks])), (h_now, .inl (cI, 169, .inl f_h_now)), (h_counts, .inl (cI, 5, .inl f_h_counts')), (h_begins, .inl (cI, 5, .inl f_h_begins')), (h_rain, .inl (cI, 96, .inl f_h_rain)), (h_tide, .inl (cI, 96, .inl f_h_tide)), (h_rule, .inl (cI, 8, .inl f_h_rule)), (h_best, .inl (cI, 5, .inl f_h_best'))] := by
  refine k_enter (y := yX9_findPlan) (wl := wsX9_findPlan) (rm := rm_X9_findPlan) (av := [.ref h, .int a1]) (D := D) (tys := k_tys cI cZ cJ cS) (ws := [(h, .inr (9, [.int v_h_thrown, .ref h_now, .ref h_aside, .int v_h_kept, .ref h_books, .ref h_tide, .ref h_rain, .ref h_rule, .int v_h_counted, .ref h_counts, .ref h_begins, .ref h_best, .int v_h_bestWorth, .int v_h_bestPitch, .int v_h_bestBits, .int v_h_leastHour, .int v_h_leastSet, .int v_h_shut, .ref h_planks])), (h_now, .inl (cI, 169, .inl f_h_now)), (h_counts, .inl (cI, 5, .inl f_h_counts)), (h_begins, .inl (cI, 5, .inl f_h_begins)), (h_rain, .inl (cI, 96, .inl f_h_rain)), (h_tide, .inl (cI, 96, .inl f_h_tide)), (h_rule, .inl (cI, 8, .inl f_h_rule)), (h_best, .inl (cI, 5, .inl f_h_best))]) (cc := cX9_findPlan) (maxL := 12) (ret := none) (Qc := fun A => k_Qv D (k_tys cI cZ cJ cS) [(h, .inr (9, [.int v_h_thrown, .ref h_now, .ref h_aside, .int v_h_kept, .ref h_books, .ref h_tide, .ref h_rain, .ref h_rule, .int v_h_counted', .ref h_counts, .ref h_begins, .ref h_best, .int v_h_bestWorth', .int v_h_bestPitch', .int v_h_bestBits', .int v_h_leastHour, .int v_h_leastSet, .int v_h_shut, .ref h_planks])), (h_now, .inl (cI, 169, .inl f_h_now)), (h_counts, .inl (cI, 5, .inl f_h_counts')), (h_begins, .inl (cI, 5, .inl f_h_begins')), (h_rain, .inl (cI, 96, .inl f_h_rain)), (h_tide, .inl (cI, 96, .inl f_h_tide)), (h_rule, .inl (cI, 8, .inl f_h_rule)), (h_best, .inl (cI, 5, .inl f_h_best'))] A) (by decide) rfl (Nat.le_of_ble_eq_true rfl) [(0, .ref h), (1, .int a1)] rfl ?_
  intro p e s m below meth c A hx hb hml hr hlocks hnm hown hK hP hD hA hS hN ls args Q hts hl hQ
  replace hown : s.vm.findClass RX9 = some m.cls := hown
  have S0 : CallFix p m c cX9_findPlan 12 s args wsX9_findPlan RX9 := ⟨hx, hb, hml, hown, hts⟩
  have inX9 : ∀ w ∈ u_ws RX9 TX9 19, w ∈ wsX9_findPlan := fun w h => List.mem_cons_of_mem _ (List.mem_append_right _ h)
  have wl1 : (Cond.fieldLink RX9 144 "BeachedShipModel" "counted" "I").before args s = true := hts _ (List.mem_of_getElem? (i := 1) rfl)
  have wl2 : (Cond.fieldLink RX9 13 "BeachedShipModel" "now" "[I").before args s = true := hts _ (List.mem_of_getElem? (i := 2) rfl)
  have wl3 : (Cond.fieldLink RX9 32 "BeachedShipModel" "counts" "[I").before args s = true := hts _ (List.mem_of_getElem? (i := 3) rfl)
  have wl4 : (Cond.fieldLink RX9 150 "BeachedShipModel" "bestWorth" "I").before args s = true := hts _ (List.mem_of_getElem? (i := 4) rfl)
  have wl5 : (Cond.fieldLink RX9 153 "BeachedShipModel" "bestPitch" "I").before args s = true := hts _ (List.mem_of_getElem? (i := 5) rfl)
  have wl6 : (Cond.fieldLink RX9 156 "BeachedShipModel" "bestBits" "I").before args s = true := hts _ (List.mem_of_getElem? (i := 6) rfl)
  have wl7 : (Cond.fieldLink RX9 35 "BeachedShipModel" "begins" "[I").before args s = true := hts _ (List.mem_of_getElem? (i := 7) rfl)
  have wl8 : (Cond.fieldLink RX9 38 "BeachedShipModel" "best" "[I").before args s = true := hts _ (List.mem_of_getElem? (i := 8) rfl)
  have hRet : ∀ (v_h_counted_z : Int32) (v_h_bestWorth_z : Int32) (v_h_bestPitch_z : Int32) (v_h_bestBits_z : Int32) (f_h_counts_z : Nat → Int32) (f_h_begins_z : Nat → Int32) (f_h_best_z : Nat → Int32), some (v_h_counted_z, v_h_bestWorth_z, v_h_bestPitch_z, v_h_bestBits_z, f_h_counts_z, f_h_begins_z, f_h_best_z) = some (v_h_counted', v_h_bestWorth', v_h_bestPitch', v_h_bestBits', f_h_counts', f_h_begins', f_h_best') → ∀ (H : Heap) (locs : List Loc) (ls : Array Slot) (pc : Nat), va_P D vwCl [(h, .inr (9, [.int v_h_thrown, .ref h_now, .ref h_aside, .int v_h_kept, .ref h_books, .ref h_tide, .ref h_rain, .ref h_rule, .int v_h_counted_z, .ref h_counts, .ref h_begins, .ref h_best, .int v_h_bestWorth_z, .int v_h_bestPitch_z, .int v_h_bestBits_z, .int v_h_leastHour, .int v_h_leastSet, .int v_h_shut, .ref h_planks])), (h_now, .inl (cI, 169, .inl f_h_now)), (h_counts, .inl (cI, 5, .inl f_h_counts_z)), (h_begins, .inl (cI, 5, .inl f_h_begins_z)), (h_rain, .inl (cI, 96, .inl f_h_rain)), (h_tide, .inl (cI, 96, .inl f_h_tide)), (h_rule, .inl (cI, 8, .inl f_h_rule)), (h_best, .inl (cI, 5, .inl f_h_best_z))] H → va_D A [(h, .inr (9, [.int v_h_thrown, .ref h_now, .ref h_aside, .int v_h_kept, .ref h_books, .ref h_tide, .ref h_rain, .ref h_rule, .int v_h_counted_z, .ref h_counts, .ref h_begins, .ref h_best, .int v_h_bestWorth_z, .int v_h_bestPitch_z, .int v_h_bestBits_z, .int v_h_leastHour, .int v_h_leastSet, .int v_h_shut, .ref h_planks])), (h_now, .inl (cI, 169, .inl f_h_now)), (h_counts, .inl (cI, 5, .inl f_h_counts_z)), (h_begins, .inl (cI, 5, .inl f_h_begins_z)), (h_rain, .inl (cI, 96, .inl f_h_rain)), (h_tide, .inl (cI, 96, .inl f_h_tide)), (h_rule, .inl (cI, 8, .inl f_h_rule)), (h_best, .inl (cI, 5, .inl f_h_best_z))] → va_S A s.heap H locs → decode cX9_findPlan pc = .ok (.return_, 1) → W p l e rm_X9_findPlan s m args below meth c H locs 0 0 Q (F0 m pc ls []) := by
    intro v_h_counted_z v_h_bestWorth_z v_h_bestPitch_z v_h_bestBits_z f_h_counts_z f_h_begins_z f_h_best_z hz H locs ls pc hP hD hS hd
    cases hz
    exact k_vret hx hb hr hlocks hK hP hD hS hQ hd
  unfold p_X9_findPlan at hf
  refine lv_aload_n hx hb dX9_findPlan_0 rfl (lv_at hl 0 rfl) ?_
  refine lv_iconst (v := 0) hx hb dX9_findPlan_1 (by decide) ?_
  refine k_putf (ws2 := [(h, .inr (9, [.int v_h_thrown, .ref h_now, .ref h_aside, .int v_h_kept, .ref h_books, .ref h_tide, .ref h_rain, .ref h_rule, .int 0, .ref h_counts, .ref h_begins, .ref h_best, .int v_h_bestWorth, .int v_h_bestPitch, .int v_h_bestBits, .int v_h_leastHour, .int v_h_leastSet, .int v_h_shut, .ref h_planks])), (h_now, .inl (cI, 169, .inl f_h_now)), (h_counts, .inl (cI, 5, .inl f_h_counts)), (h_begins, .inl (cI, 5, .inl f_h_begins)), (h_rain, .inl (cI, 96, .inl f_h_rain)), (h_tide, .inl (cI, 96, .inl f_h_tide)), (h_rule, .inl (cI, 8, .inl f_h_rule)), (h_best, .inl (cI, 5, .inl f_h_best))]) (C := RX9) (T := TX9) (N := 19) hx hb hts inX9 tyX9 tyX9_ok nmX9 hown hK hP hD hS 0 rfl rfl 8 (by decide) rfl wl1 rfl rfl rfl (Nat.le_of_ble_eq_true rfl) rfl dX9_findPlan_2 (fun H locs hP hD hS => ?_)
  refine lv_iconst (v := 0) hx hb dX9_findPlan_5 (by decide) ?_
  refine lv_istore_n (lv' := [(2, .int 0), (0, .ref h), (1, .int a1)]) hx hb dX9_findPlan_6 rfl hl (by decide) rfl (fun ls hl => ?_)
  obtain ⟨ee12, hlp12, hfr12⟩ := k_b2_ee hf
  have hE12 : ∀ (c_h_counts_13 : Nat → Int32) (c_h_counted_14 : Int32), ee12 = (c_h_counts_13, c_h_counted_14) → ∀ (H : Heap) (locs : List Loc) (ls : Array Slot), va_P D vwCl [(h, .inr (9, [.int v_h_thrown, .ref h_now, .ref h_aside, .int v_h_kept, .ref h_books, .ref h_tide, .ref h_rain, .ref h_rule, .int c_h_counted_14, .ref h_counts, .ref h_begins, .ref h_best, .int v_h_bestWorth, .int v_h_bestPitch, .int v_h_bestBits, .int v_h_leastHour, .int v_h_leastSet, .int v_h_shut, .ref h_planks])), (h_now, .inl (cI, 169, .inl f_h_now)), (h_counts, .inl (cI, 5, .inl c_h_counts_13)), (h_begins, .inl (cI, 5, .inl f_h_begins)), (h_rain, .inl (cI, 96, .inl f_h_rain)), (h_tide, .inl (cI, 96, .inl f_h_tide)), (h_rule, .inl (cI, 8, .inl f_h_rule)), (h_best, .inl (cI, 5, .inl f_h_best))] H → va_D A [(h, .inr (9, [.int v_h_thrown, .ref h_now, .ref h_aside, .int v_h_kept, .ref h_books, .ref h_tide, .ref h_rain, .ref h_rule, .int c_h_counted_14, .ref h_counts, .ref h_begins, .ref h_best, .int v_h_bestWorth, .int v_h_bestPitch, .int v_h_bestBits, .int v_h_leastHour, .int v_h_leastSet, .int v_h_shut, .ref h_planks])), (h_now, .inl (cI, 169, .inl f_h_now)), (h_counts, .inl (cI, 5, .inl c_h_counts_13)), (h_begins, .inl (cI, 5, .inl f_h_begins)), (h_rain, .inl (cI, 96, .inl f_h_rain)), (h_tide, .inl (cI, 96, .inl f_h_tide)), (h_rule, .inl (cI, 8, .inl f_h_rule)), (h_best, .inl (cI, 5, .inl f_h_best))] → va_S A s.heap H locs → lv_has ls 12 [(0, .ref h), (1, .int a1)] → W p l e rm_X9_findPlan s m args below meth c H locs 0 0 Q (F0 m 66 ls []) := by
    intro c_h_counts_13 c_h_counted_14 he H locs ls hP hD hS hl
    replace hf := hfr12 c_h_counts_13 c_h_counted_14 he
    refine lv_aload_n hx hb dX9_findPlan_66 rfl (lv_at hl 0 rfl) ?_
    refine lv_iconst (v := (-1)) hx hb dX9_findPlan_67 (by decide) ?_
    refine k_putf (ws2 := [(h, .inr (9, [.int v_h_thrown, .ref h_now, .ref h_aside, .int v_h_kept, .ref h_books, .ref h_tide, .ref h_rain, .ref h_rule, .int c_h_counted_14, .ref h_counts, .ref h_begins, .ref h_best, .int (-1), .int v_h_bestPitch, .int v_h_bestBits, .int v_h_leastHour, .int v_h_leastSet, .int v_h_shut, .ref h_planks])), (h_now, .inl (cI, 169, .inl f_h_now)), (h_counts, .inl (cI, 5, .inl c_h_counts_13)), (h_begins, .inl (cI, 5, .inl f_h_begins)), (h_rain, .inl (cI, 96, .inl f_h_rain)), (h_tide, .inl (cI, 96, .inl f_h_tide)), (h_rule, .inl (cI, 8, .inl f_h_rule)), (h_best, .inl (cI, 5, .inl f_h_best))]) (C := RX9) (T := TX9) (N := 19) hx hb hts inX9 tyX9 tyX9_ok nmX9 hown hK hP hD hS 0 rfl rfl 12 (by decide) rfl wl4 rfl rfl rfl (Nat.le_of_ble_eq_true rfl) rfl dX9_findPlan_68 (fun H locs hP hD hS => ?_)
    refine lv_iconst (v := 0) hx hb dX9_findPlan_71 (by decide) ?_
    refine lv_istore_n (lv' := [(2, .int 0), (0, .ref h), (1, .int a1)]) hx hb dX9_findPlan_72 rfl hl (by decide) rfl (fun ls hl => ?_)
    obtain ⟨ee347, hlp347, hfr347⟩ := k_b5_ee hf
    have hE347 : ∀ (c_h_begins_348 : Nat → Int32) (c_h_best_349 : Nat → Int32) (c_h_bestBits_350 : Int32) (c_h_bestPitch_351 : Int32) (c_h_bestWorth_352 : Int32), ee347 = (c_h_begins_348, c_h_best_349, c_h_bestBits_350, c_h_bestPitch_351, c_h_bestWorth_352) → ∀ (H : Heap) (locs : List Loc) (ls : Array Slot), va_P D vwCl [(h, .inr (9, [.int v_h_thrown, .ref h_now, .ref h_aside, .int v_h_kept, .ref h_books, .ref h_tide, .ref h_rain, .ref h_rule, .int c_h_counted_14, .ref h_counts, .ref h_begins, .ref h_best, .int c_h_bestWorth_352, .int c_h_bestPitch_351, .int c_h_bestBits_350, .int v_h_leastHour, .int v_h_leastSet, .int v_h_shut, .ref h_planks])), (h_now, .inl (cI, 169, .inl f_h_now)), (h_counts, .inl (cI, 5, .inl c_h_counts_13)), (h_begins, .inl (cI, 5, .inl c_h_begins_348)), (h_rain, .inl (cI, 96, .inl f_h_rain)), (h_tide, .inl (cI, 96, .inl f_h_tide)), (h_rule, .inl (cI, 8, .inl f_h_rule)), (h_best, .inl (cI, 5, .inl c_h_best_349))] H → va_D A [(h, .inr (9, [.int v_h_thrown, .ref h_now, .ref h_aside, .int v_h_kept, .ref h_books, .ref h_tide, .ref h_rain, .ref h_rule, .int c_h_counted_14, .ref h_counts, .ref h_begins, .ref h_best, .int c_h_bestWorth_352, .int c_h_bestPitch_351, .int c_h_bestBits_350, .int v_h_leastHour, .int v_h_leastSet, .int v_h_shut, .ref h_planks])), (h_now, .inl (cI, 169, .inl f_h_now)), (h_counts, .inl (cI, 5, .inl c_h_counts_13)), (h_begins, .inl (cI, 5, .inl c_h_begins_348)), (h_rain, .inl (cI, 96, .inl f_h_rain)), (h_tide, .inl (cI, 96, .inl f_h_tide)), (h_rule, .inl (cI, 8, .inl f_h_rule)), (h_best, .inl (cI, 5, .inl c_h_best_349))] → va_S A s.heap H locs → lv_has ls 12 [] → W p l e rm_X9_findPlan s m args below meth c H locs 0 0 Q (F0 m 394 ls []) := by
      intro c_h_begins_348 c_h_best_349 c_h_bestBits_350 c_h_bestPitch_351 c_h_bestWorth_352 he H locs ls hP hD hS hl
      replace hf := hfr347 c_h_begins_348 c_h_best_349 c_h_bestBits_350 c_h_bestPitch_351 c_h_bestWorth_352 he
      exact hRet _ _ _ _ _ _ _ hf _ _ _ _ hP hD hS dX9_findPlan_394
    refine (k_lp_ind (fun sx347 => ∀ (H : Heap) (locs : List Loc) (ls : Array Slot), va_P D vwCl [(h, .inr (9, [.int v_h_thrown, .ref h_now, .ref h_aside, .int v_h_kept, .ref h_books, .ref h_tide, .ref h_rain, .ref h_rule, .int c_h_counted_14, .ref h_counts, .ref h_begins, .ref h_best, .int sx347.2.2.2.2.2, .int sx347.2.2.2.2.1, .int sx347.2.2.2.1, .int v_h_leastHour, .int v_h_leastSet, .int v_h_shut, .ref h_planks])), (h_now, .inl (cI, 169, .inl f_h_now)), (h_counts, .inl (cI, 5, .inl c_h_counts_13)), (h_begins, .inl (cI, 5, .inl sx347.2.1)), (h_rain, .inl (cI, 96, .inl f_h_rain)), (h_tide, .inl (cI, 96, .inl f_h_tide)), (h_rule, .inl (cI, 8, .inl f_h_rule)), (h_best, .inl (cI, 5, .inl sx347.2.2.1))] H → va_D A [(h, .inr (9, [.int v_h_thrown, .ref h_now, .ref h_aside, .int v_h_kept, .ref h_books, .ref h_tide, .ref h_rain, .ref h_rule, .int c_h_counted_14, .ref h_counts, .ref h_begins, .ref h_best, .int sx347.2.2.2.2.2, .int sx347.2.2.2.2.1, .int sx347.2.2.2.1, .int v_h_leastHour, .int v_h_leastSet, .int v_h_shut, .ref h_planks])), (h_now, .inl (cI, 169, .inl f_h_now)), (h_counts, .inl (cI, 5, .inl c_h_counts_13)), (h_begins, .inl (cI, 5, .inl sx347.2.1)), (h_rain, .inl (cI, 96, .inl f_h_rain)), (h_tide, .inl (cI, 96, .inl f_h_tide)), (h_rule, .inl (cI, 8, .inl f_h_rule)), (h_best, .inl (cI, 5, .inl sx347.2.2.1))] → va_S A s.heap H locs → lv_has ls 12 [(2, .int sx347.1), (0, .ref h), (1, .int a1)] → W p l e rm_X9_findPlan s m args below meth c H locs 0 0 Q (F0 m 73 ls [])) (fun sx347 X347 hX347 hin347 hout347 => ?_) _ _ hlp347) _ _ _ hP hD hS (lv_sub hl [0, 1, 2] rfl)
    obtain ⟨x2_353, c_h_begins_354, c_h_best_355, c_h_bestBits_356, c_h_bestPitch_357, c_h_bestWorth_358⟩ := sx347
    intro H locs ls hP hD hS hl
    replace hP : va_P D vwCl [(h, .inr (9, [.int v_h_thrown, .ref h_now, .ref h_aside, .int v_h_kept, .ref h_books, .ref h_tide, .ref h_rain, .ref h_rule, .int c_h_counted_14, .ref h_counts, .ref h_begins, .ref h_best, .int c_h_bestWorth_358, .int c_h_bestPitch_357, .int c_h_bestBits_356, .int v_h_leastHour, .int v_h_leastSet, .int v_h_shut, .ref h_planks])), (h_now, .inl (cI, 169, .inl f_h_now)), (h_counts, .inl (cI, 5, .inl c_h_counts_13)), (h_begins, .inl (cI, 5, .inl c_h_begins_354)), (h_rain, .inl (cI, 96, .inl f_h_rain)), (h_tide, .inl (cI, 96, .inl f_h_tide)), (h_rule, .inl (cI, 8, .inl f_h_rule)), (h_best, .inl (cI, 5, .inl c_h_best_355))] H := hP
    replace hD : va_D A [(h, .inr (9, [.int v_h_thrown, .ref h_now, .ref h_aside, .int v_h_kept, .ref h_books, .ref h_tide, .ref h_rain, .ref h_rule, .int c_h_counted_14, .ref h_counts, .ref h_begins, .ref h_best, .int c_h_bestWorth_358, .int c_h_bestPitch_357, .int c_h_bestBits_356, .int v_h_leastHour, .int v_h_leastSet, .int v_h_shut, .ref h_planks])), (h_now, .inl (cI, 169, .inl f_h_now)), (h_counts, .inl (cI, 5, .inl c_h_counts_13)), (h_begins, .inl (cI, 5, .inl c_h_begins_354)), (h_rain, .inl (cI, 96, .inl f_h_rain)), (h_tide, .inl (cI, 96, .inl f_h_tide)), (h_rule, .inl (cI, 8, .inl f_h_rule)), (h_best, .inl (cI, 5, .inl c_h_best_355))] := hD
    replace hl : lv_has ls 12 [(2, .int x2_353), (0, .ref h), (1, .int a1)] := hl
    replace hX347 : lb_X9_findPlan_73 c_h_counted_14 c_h_counts_13 f_h_now a1 f_h_rain f_h_tide f_h_rule x2_353 c_h_begins_354 c_h_best_355 c_h_bestBits_356 c_h_bestPitch_357 c_h_bestWorth_358 = some X347 := hX347
    unfold lb_X9_findPlan_73 at hX347
    refine lv_iload_n hx hb dX9_findPlan_73 rfl (lv_at hl 0 rfl) ?_
    refine lv_iconst (v := 1) hx hb dX9_findPlan_74 (by decide) ?_
    refine lv_aload_n hx hb dX9_findPlan_75 rfl (lv_at hl 1 rfl) ?_
    refine k_get (C := RX9) (T := TX9) (N := 19) hx hb hts inX9 hown hK hP 0 rfl rfl 8 (by decide) rfl wl1 rfl dX9_findPlan_76 ?_
    refine lv_ishl hx hb dX9_findPlan_79 ?_
    refine lv_icmp_ge (tgt := 394) hx hb dX9_findPlan_80 (by decide) (fun c359 => ?_) (fun c359 => ?_)
    · replace hX347 := k_pos hX347 c359
      exact hE347 _ _ _ _ _ (hout347 _ (Option.some.inj hX347).symm).symm _ _ _ hP hD hS (lv_sub hl [] rfl)
    · replace hX347 := k_neg hX347 c359
      refine lv_iconst (v := 0) hx hb dX9_findPlan_83 (by decide) ?_
      refine lv_istore_n (lv' := [(3, .int 0), (2, .int x2_353), (0, .ref h), (1, .int a1)]) hx hb dX9_findPlan_84 rfl hl (by decide) rfl (fun ls hl => ?_)
      refine lv_iconst (v := 0) hx hb dX9_findPlan_85 (by decide) ?_
      refine lv_istore (lv' := [(4, .int 0), (3, .int 0), (2, .int x2_353), (0, .ref h), (1, .int a1)]) hx hb dX9_findPlan_86 hl (by decide) rfl (fun ls hl => ?_)
      refine lv_iconst (v := 0) hx hb dX9_findPlan_88 (by decide) ?_
      refine lv_istore (lv' := [(5, .int 0), (4, .int 0), (3, .int 0), (2, .int x2_353), (0, .ref h), (1, .int a1)]) hx hb dX9_findPlan_89 hl (by decide) rfl (fun ls hl => ?_)
      refine lv_iconst (v := 1) hx hb dX9_findPlan_91 (by decide) ?_
      refine lv_istore (lv' := [(6, .int 1), (5, .int 0), (4, .int 0), (3, .int 0), (2, .int x2_353), (0, .ref h), (1, .int a1)]) hx hb dX9_findPlan_92 hl (by decide) rfl (fun ls hl => ?_)
      refine lv_iconst (v := 0) hx hb dX9_findPlan_94 (by decide) ?_
      refine lv_istore (lv' := [(7, .int 0), (6, .int 1), (5, .int 0), (4, .int 0), (3, .int 0), (2, .int x2_353), (0, .ref h), (1, .int a1)]) hx hb dX9_findPlan_95 hl (by decide) rfl (fun ls hl => ?_)
      obtain ⟨ee380, hlp380, hfr380⟩ := k_b4_ee hX347
      have hE380 : ∀ (x3_381 : Int32) (x4_382 : Int32) (x5_383 : Int32) (x6_384 : Int32), ee380 = (x3_381, x4_382, x5_383, x6_384) → ∀ (H : Heap) (locs : List Loc) (ls : Array Slot), va_P D vwCl [(h, .inr (9, [.int v_h_thrown, .ref h_now, .ref h_aside, .int v_h_kept, .ref h_books, .ref h_tide, .ref h_rain, .ref h_rule, .int c_h_counted_14, .ref h_counts, .ref h_begins, .ref h_best, .int c_h_bestWorth_358, .int c_h_bestPitch_357, .int c_h_bestBits_356, .int v_h_leastHour, .int v_h_leastSet, .int v_h_shut, .ref h_planks])), (h_now, .inl (cI, 169, .inl f_h_now)), (h_counts, .inl (cI, 5, .inl c_h_counts_13)), (h_begins, .inl (cI, 5, .inl c_h_begins_354)), (h_rain, .inl (cI, 96, .inl f_h_rain)), (h_tide, .inl (cI, 96, .inl f_h_tide)), (h_rule, .inl (cI, 8, .inl f_h_rule)), (h_best, .inl (cI, 5, .inl c_h_best_355))] H → va_D A [(h, .inr (9, [.int v_h_thrown, .ref h_now, .ref h_aside, .int v_h_kept, .ref h_books, .ref h_tide, .ref h_rain, .ref h_rule, .int c_h_counted_14, .ref h_counts, .ref h_begins, .ref h_best, .int c_h_bestWorth_358, .int c_h_bestPitch_357, .int c_h_bestBits_356, .int v_h_leastHour, .int v_h_leastSet, .int v_h_shut, .ref h_planks])), (h_now, .inl (cI, 169, .inl f_h_now)), (h_counts, .inl (cI, 5, .inl c_h_counts_13)), (h_begins, .inl (cI, 5, .inl c_h_begins_354)), (h_rain, .inl (cI, 96, .inl f_h_rain)), (h_tide, .inl (cI, 96, .inl f_h_tide)), (h_rule, .inl (cI, 8, .inl f_h_rule)), (h_best, .inl (cI, 5, .inl c_h_best_355))] → va_S A s.heap H locs → lv_has ls 12 [(6, .int x6_384), (5, .int x5_383), (4, .int x4_382), (3, .int x3_381), (2, .int x2_353), (0, .ref h), (1, .int a1)] → W p l e rm_X9_findPlan s m args below meth c H locs 0 0 Q (F0 m 193 ls []) := by
        intro x3_381 x4_382 x5_383 x6_384 he H locs ls hP hD hS hl
        replace hX347 := hfr380 x3_381 x4_382 x5_383 x6_384 he
        have hJ391 : ∀ (t390 : Int32), lj_X9_findPlan_241 x6_384 x2_353 a1 c_h_counted_14 c_h_counts_13 f_h_now f_h_rain f_h_tide f_h_rule c_h_begins_354 c_h_best_355 c_h_bestBits_356 c_h_bestPitch_357 c_h_bestWorth_358 x5_383 x4_382 x3_381 t390 = some X347 → ∀ (H : Heap) (locs : List Loc) (ls : Array Slot), va_P D vwCl [(h, .inr (9, [.int v_h_thrown, .ref h_now, .ref h_aside, .int v_h_kept, .ref h_books, .ref h_tide, .ref h_rain, .ref h_rule, .int c_h_counted_14, .ref h_counts, .ref h_begins, .ref h_best, .int c_h_bestWorth_358, .int c_h_bestPitch_357, .int c_h_bestBits_356, .int v_h_leastHour, .int v_h_leastSet, .int v_h_shut, .ref h_planks])), (h_now, .inl (cI, 169, .inl f_h_now)), (h_counts, .inl (cI, 5, .inl c_h_counts_13)), (h_begins, .inl (cI, 5, .inl c_h_begins_354)), (h_rain, .inl (cI, 96, .inl f_h_rain)), (h_tide, .inl (cI, 96, .inl f_h_tide)), (h_rule, .inl (cI, 8, .inl f_h_rule)), (h_best, .inl (cI, 5, .inl c_h_best_355))] H → va_D A [(h, .inr (9, [.int v_h_thrown, .ref h_now, .ref h_aside, .int v_h_kept, .ref h_books, .ref h_tide, .ref h_rain, .ref h_rule, .int c_h_counted_14, .ref h_counts, .ref h_begins, .ref h_best, .int c_h_bestWorth_358, .int c_h_bestPitch_357, .int c_h_bestBits_356, .int v_h_leastHour, .int v_h_leastSet, .int v_h_shut, .ref h_planks])), (h_now, .inl (cI, 169, .inl f_h_now)), (h_counts, .inl (cI, 5, .inl c_h_counts_13)), (h_begins, .inl (cI, 5, .inl c_h_begins_354)), (h_rain, .inl (cI, 96, .inl f_h_rain)), (h_tide, .inl (cI, 96, .inl f_h_tide)), (h_rule, .inl (cI, 8, .inl f_h_rule)), (h_best, .inl (cI, 5, .inl c_h_best_355))] → va_S A s.heap H locs → lv_has ls 12 [(6, .int x6_384), (5, .int x5_383), (4, .int x4_382), (3, .int x3_381), (2, .int x2_353), (0, .ref h), (1, .int a1)] → W p l e rm_X9_findPlan s m args below meth c H locs 0 0 Q (F0 m 241 ls [.int t390]) := by
          intro t390 hX347_j H locs ls hP hD hS hl
          replace hX347 := hX347_j
          unfold lj_X9_findPlan_241 at hX347
          refine lv_istore (lv' := [(7, .int t390), (6, .int x6_384), (5, .int x5_383), (4, .int x4_382), (3, .int x3_381), (2, .int x2_353), (0, .ref h), (1, .int a1)]) hx hb dX9_findPlan_241 hl (by decide) rfl (fun ls hl => ?_)
          refine lv_iconst (v := 0) hx hb dX9_findPlan_243 (by decide) ?_
          refine lv_istore (lv' := [(8, .int 0), (7, .int t390), (6, .int x6_384), (5, .int x5_383), (4, .int x4_382), (3, .int x3_381), (2, .int x2_353), (0, .ref h), (1, .int a1)]) hx hb dX9_findPlan_244 hl (by decide) rfl (fun ls hl => ?_)
          refine lv_iconst (v := 0) hx hb dX9_findPlan_246 (by decide) ?_
          refine lv_istore (lv' := [(9, .int 0), (8, .int 0), (7, .int t390), (6, .int x6_384), (5, .int x5_383), (4, .int x4_382), (3, .int x3_381), (2, .int x2_353), (0, .ref h), (1, .int a1)]) hx hb dX9_findPlan_247 hl (by decide) rfl (fun ls hl => ?_)
          obtain ⟨ee454, hlp454, hfr454⟩ := k_b2_ee hX347
          have hE454 : ∀ (x8_455 : Int32) (c_h_begins_456 : Nat → Int32), ee454 = (x8_455, c_h_begins_456) → ∀ (H : Heap) (locs : List Loc) (ls : Array Slot), va_P D vwCl [(h, .inr (9, [.int v_h_thrown, .ref h_now, .ref h_aside, .int v_h_kept, .ref h_books, .ref h_tide, .ref h_rain, .ref h_rule, .int c_h_counted_14, .ref h_counts, .ref h_begins, .ref h_best, .int c_h_bestWorth_358, .int c_h_bestPitch_357, .int c_h_bestBits_356, .int v_h_leastHour, .int v_h_leastSet, .int v_h_shut, .ref h_planks])), (h_now, .inl (cI, 169, .inl f_h_now)), (h_counts, .inl (cI, 5, .inl c_h_counts_13)), (h_begins, .inl (cI, 5, .inl c_h_begins_456)), (h_rain, .inl (cI, 96, .inl f_h_rain)), (h_tide, .inl (cI, 96, .inl f_h_tide)), (h_rule, .inl (cI, 8, .inl f_h_rule)), (h_best, .inl (cI, 5, .inl c_h_best_355))] H → va_D A [(h, .inr (9, [.int v_h_thrown, .ref h_now, .ref h_aside, .int v_h_kept, .ref h_books, .ref h_tide, .ref h_rain, .ref h_rule, .int c_h_counted_14, .ref h_counts, .ref h_begins, .ref h_best, .int c_h_bestWorth_358, .int c_h_bestPitch_357, .int c_h_bestBits_356, .int v_h_leastHour, .int v_h_leastSet, .int v_h_shut, .ref h_planks])), (h_now, .inl (cI, 169, .inl f_h_now)), (h_counts, .inl (cI, 5, .inl c_h_counts_13)), (h_begins, .inl (cI, 5, .inl c_h_begins_456)), (h_rain, .inl (cI, 96, .inl f_h_rain)), (h_tide, .inl (cI, 96, .inl f_h_tide)), (h_rule, .inl (cI, 8, .inl f_h_rule)), (h_best, .inl (cI, 5, .inl c_h_best_355))] → va_S A s.heap H locs → lv_has ls 12 [(8, .int x8_455), (5, .int x5_383), (4, .int x4_382), (3, .int x3_381), (2, .int x2_353), (0, .ref h), (1, .int a1)] → W p l e rm_X9_findPlan s m args below meth c H locs 0 0 Q (F0 m 337 ls []) := by
            intro x8_455 c_h_begins_456 he H locs ls hP hD hS hl
            replace hX347 := hfr454 x8_455 c_h_begins_456 he
            refine lv_iload hx hb dX9_findPlan_337 (lv_at hl 0 rfl) ?_
            refine lv_if_eq (tgt := 388) hx hb dX9_findPlan_339 (by decide) (fun c457 => ?_) (fun c457 => ?_)
            · replace hX347 := k_pos hX347 c457
              refine lv_iinc (v := x2_353 + 1) (lv' := [(2, .int (x2_353 + 1)), (8, .int x8_455), (5, .int x5_383), (4, .int x4_382), (3, .int x3_381), (0, .ref h), (1, .int a1)]) hx hb dX9_findPlan_388 hl (k := 4) rfl rfl (by decide) rfl (fun ls hl => ?_)
              refine lv_goto (tgt := 73) hx hb dX9_findPlan_391 (by decide) ?_
              exact hin347 (x2_353 + 1, c_h_begins_456, c_h_best_355, c_h_bestBits_356, c_h_bestPitch_357, c_h_bestWorth_358) (Option.some.inj hX347).symm _ _ _ hP hD hS (lv_sub hl [0, 5, 6] rfl)
            · replace hX347 := k_neg hX347 c457
              refine lv_aload_n hx hb dX9_findPlan_342 rfl (lv_at hl 5 rfl) ?_
              refine lv_iload_n hx hb dX9_findPlan_343 rfl (lv_at hl 3 rfl) ?_
              refine k_putf (ws2 := [(h, .inr (9, [.int v_h_thrown, .ref h_now, .ref h_aside, .int v_h_kept, .ref h_books, .ref h_tide, .ref h_rain, .ref h_rule, .int c_h_counted_14, .ref h_counts, .ref h_begins, .ref h_best, .int x3_381, .int c_h_bestPitch_357, .int c_h_bestBits_356, .int v_h_leastHour, .int v_h_leastSet, .int v_h_shut, .ref h_planks])), (h_now, .inl (cI, 169, .inl f_h_now)), (h_counts, .inl (cI, 5, .inl c_h_counts_13)), (h_begins, .inl (cI, 5, .inl c_h_begins_456)), (h_rain, .inl (cI, 96, .inl f_h_rain)), (h_tide, .inl (cI, 96, .inl f_h_tide)), (h_rule, .inl (cI, 8, .inl f_h_rule)), (h_best, .inl (cI, 5, .inl c_h_best_355))]) (C := RX9) (T := TX9) (N := 19) hx hb hts inX9 tyX9 tyX9_ok nmX9 hown hK hP hD hS 0 rfl rfl 12 (by decide) rfl wl4 rfl rfl rfl (Nat.le_of_ble_eq_true rfl) rfl dX9_findPlan_344 (fun H locs hP hD hS => ?_)
              refine lv_aload_n hx hb dX9_findPlan_347 rfl (lv_at hl 5 rfl) ?_
              refine lv_iload hx hb dX9_findPlan_348 (lv_at hl 2 rfl) ?_
              refine k_putf (ws2 := [(h, .inr (9, [.int v_h_thrown, .ref h_now, .ref h_aside, .int v_h_kept, .ref h_books, .ref h_tide, .ref h_rain, .ref h_rule, .int c_h_counted_14, .ref h_counts, .ref h_begins, .ref h_best, .int x3_381, .int x4_382, .int c_h_bestBits_356, .int v_h_leastHour, .int v_h_leastSet, .int v_h_shut, .ref h_planks])), (h_now, .inl (cI, 169, .inl f_h_now)), (h_counts, .inl (cI, 5, .inl c_h_counts_13)), (h_begins, .inl (cI, 5, .inl c_h_begins_456)), (h_rain, .inl (cI, 96, .inl f_h_rain)), (h_tide, .inl (cI, 96, .inl f_h_tide)), (h_rule, .inl (cI, 8, .inl f_h_rule)), (h_best, .inl (cI, 5, .inl c_h_best_355))]) (C := RX9) (T := TX9) (N := 19) hx hb hts inX9 tyX9 tyX9_ok nmX9 hown hK hP hD hS 0 rfl rfl 13 (by decide) rfl wl5 rfl rfl rfl (Nat.le_of_ble_eq_true rfl) rfl dX9_findPlan_350 (fun H locs hP hD hS => ?_)
              refine lv_aload_n hx hb dX9_findPlan_353 rfl (lv_at hl 5 rfl) ?_
              refine lv_iload hx hb dX9_findPlan_354 (lv_at hl 1 rfl) ?_
              refine k_putf (ws2 := [(h, .inr (9, [.int v_h_thrown, .ref h_now, .ref h_aside, .int v_h_kept, .ref h_books, .ref h_tide, .ref h_rain, .ref h_rule, .int c_h_counted_14, .ref h_counts, .ref h_begins, .ref h_best, .int x3_381, .int x4_382, .int x5_383, .int v_h_leastHour, .int v_h_leastSet, .int v_h_shut, .ref h_planks])), (h_now, .inl (cI, 169, .inl f_h_now)), (h_counts, .inl (cI, 5, .inl c_h_counts_13)), (h_begins, .inl (cI, 5, .inl c_h_begins_456)), (h_rain, .inl (cI, 96, .inl f_h_rain)), (h_tide, .inl (cI, 96, .inl f_h_tide)), (h_rule, .inl (cI, 8, .inl f_h_rule)), (h_best, .inl (cI, 5, .inl c_h_best_355))]) (C := RX9) (T := TX9) (N := 19) hx hb hts inX9 tyX9 tyX9_ok nmX9 hown hK hP hD hS 0 rfl rfl 14 (by decide) rfl wl6 rfl rfl rfl (Nat.le_of_ble_eq_true rfl) rfl dX9_findPlan_356 (fun H locs hP hD hS => ?_)
              refine lv_iconst (v := 0) hx hb dX9_findPlan_359 (by decide) ?_
              refine lv_istore (lv' := [(9, .int 0), (8, .int x8_455), (5, .int x5_383), (4, .int x4_382), (3, .int x3_381), (2, .int x2_353), (0, .ref h), (1, .int a1)]) hx hb dX9_findPlan_360 hl (by decide) rfl (fun ls hl => ?_)
              obtain ⟨ee463, hlp463, hfr463⟩ := k_b1_ee hX347
              have hE463 : ∀ (c_h_best_464 : Nat → Int32), ee463 = c_h_best_464 → ∀ (H : Heap) (locs : List Loc) (ls : Array Slot), va_P D vwCl [(h, .inr (9, [.int v_h_thrown, .ref h_now, .ref h_aside, .int v_h_kept, .ref h_books, .ref h_tide, .ref h_rain, .ref h_rule, .int c_h_counted_14, .ref h_counts, .ref h_begins, .ref h_best, .int x3_381, .int x4_382, .int x5_383, .int v_h_leastHour, .int v_h_leastSet, .int v_h_shut, .ref h_planks])), (h_now, .inl (cI, 169, .inl f_h_now)), (h_counts, .inl (cI, 5, .inl c_h_counts_13)), (h_begins, .inl (cI, 5, .inl c_h_begins_456)), (h_rain, .inl (cI, 96, .inl f_h_rain)), (h_tide, .inl (cI, 96, .inl f_h_tide)), (h_rule, .inl (cI, 8, .inl f_h_rule)), (h_best, .inl (cI, 5, .inl c_h_best_464))] H → va_D A [(h, .inr (9, [.int v_h_thrown, .ref h_now, .ref h_aside, .int v_h_kept, .ref h_books, .ref h_tide, .ref h_rain, .ref h_rule, .int c_h_counted_14, .ref h_counts, .ref h_begins, .ref h_best, .int x3_381, .int x4_382, .int x5_383, .int v_h_leastHour, .int v_h_leastSet, .int v_h_shut, .ref h_planks])), (h_now, .inl (cI, 169, .inl f_h_now)), (h_counts, .inl (cI, 5, .inl c_h_counts_13)), (h_begins, .inl (cI, 5, .inl c_h_begins_456)), (h_rain, .inl (cI, 96, .inl f_h_rain)), (h_tide, .inl (cI, 96, .inl f_h_tide)), (h_rule, .inl (cI, 8, .inl f_h_rule)), (h_best, .inl (cI, 5, .inl c_h_best_464))] → va_S A s.heap H locs → lv_has ls 12 [(2, .int x2_353), (0, .ref h), (1, .int a1)] → W p l e rm_X9_findPlan s m args below meth c H locs 0 0 Q (F0 m 388 ls []) := by
                intro c_h_best_464 he H locs ls hP hD hS hl
                replace hX347 := hfr463 c_h_best_464 he
                refine lv_iinc (v := x2_353 + 1) (lv' := [(2, .int (x2_353 + 1)), (0, .ref h), (1, .int a1)]) hx hb dX9_findPlan_388 hl (k := 0) rfl rfl (by decide) rfl (fun ls hl => ?_)
                refine lv_goto (tgt := 73) hx hb dX9_findPlan_391 (by decide) ?_
                exact hin347 (x2_353 + 1, c_h_begins_456, c_h_best_464, x5_383, x4_382, x3_381) (Option.some.inj hX347).symm _ _ _ hP hD hS (lv_sub hl [0, 1, 2] rfl)
              refine (k_lp_ind (fun sx463 => ∀ (H : Heap) (locs : List Loc) (ls : Array Slot), va_P D vwCl [(h, .inr (9, [.int v_h_thrown, .ref h_now, .ref h_aside, .int v_h_kept, .ref h_books, .ref h_tide, .ref h_rain, .ref h_rule, .int c_h_counted_14, .ref h_counts, .ref h_begins, .ref h_best, .int x3_381, .int x4_382, .int x5_383, .int v_h_leastHour, .int v_h_leastSet, .int v_h_shut, .ref h_planks])), (h_now, .inl (cI, 169, .inl f_h_now)), (h_counts, .inl (cI, 5, .inl c_h_counts_13)), (h_begins, .inl (cI, 5, .inl c_h_begins_456)), (h_rain, .inl (cI, 96, .inl f_h_rain)), (h_tide, .inl (cI, 96, .inl f_h_tide)), (h_rule, .inl (cI, 8, .inl f_h_rule)), (h_best, .inl (cI, 5, .inl sx463.2))] H → va_D A [(h, .inr (9, [.int v_h_thrown, .ref h_now, .ref h_aside, .int v_h_kept, .ref h_books, .ref h_tide, .ref h_rain, .ref h_rule, .int c_h_counted_14, .ref h_counts, .ref h_begins, .ref h_best, .int x3_381, .int x4_382, .int x5_383, .int v_h_leastHour, .int v_h_leastSet, .int v_h_shut, .ref h_planks])), (h_now, .inl (cI, 169, .inl f_h_now)), (h_counts, .inl (cI, 5, .inl c_h_counts_13)), (h_begins, .inl (cI, 5, .inl c_h_begins_456)), (h_rain, .inl (cI, 96, .inl f_h_rain)), (h_tide, .inl (cI, 96, .inl f_h_tide)), (h_rule, .inl (cI, 8, .inl f_h_rule)), (h_best, .inl (cI, 5, .inl sx463.2))] → va_S A s.heap H locs → lv_has ls 12 [(9, .int sx463.1), (2, .int x2_353), (0, .ref h), (1, .int a1)] → W p l e rm_X9_findPlan s m args below meth c H locs 0 0 Q (F0 m 362 ls [])) (fun sx463 X463 hX463 hin463 hout463 => ?_) _ _ hlp463) _ _ _ hP hD hS (lv_sub hl [0, 5, 6, 7] rfl)
              obtain ⟨x9_465, c_h_best_466⟩ := sx463
              intro H locs ls hP hD hS hl
              replace hP : va_P D vwCl [(h, .inr (9, [.int v_h_thrown, .ref h_now, .ref h_aside, .int v_h_kept, .ref h_books, .ref h_tide, .ref h_rain, .ref h_rule, .int c_h_counted_14, .ref h_counts, .ref h_begins, .ref h_best, .int x3_381, .int x4_382, .int x5_383, .int v_h_leastHour, .int v_h_leastSet, .int v_h_shut, .ref h_planks])), (h_now, .inl (cI, 169, .inl f_h_now)), (h_counts, .inl (cI, 5, .inl c_h_counts_13)), (h_begins, .inl (cI, 5, .inl c_h_begins_456)), (h_rain, .inl (cI, 96, .inl f_h_rain)), (h_tide, .inl (cI, 96, .inl f_h_tide)), (h_rule, .inl (cI, 8, .inl f_h_rule)), (h_best, .inl (cI, 5, .inl c_h_best_466))] H := hP
              replace hD : va_D A [(h, .inr (9, [.int v_h_thrown, .ref h_now, .ref h_aside, .int v_h_kept, .ref h_books, .ref h_tide, .ref h_rain, .ref h_rule, .int c_h_counted_14, .ref h_counts, .ref h_begins, .ref h_best, .int x3_381, .int x4_382, .int x5_383, .int v_h_leastHour, .int v_h_leastSet, .int v_h_shut, .ref h_planks])), (h_now, .inl (cI, 169, .inl f_h_now)), (h_counts, .inl (cI, 5, .inl c_h_counts_13)), (h_begins, .inl (cI, 5, .inl c_h_begins_456)), (h_rain, .inl (cI, 96, .inl f_h_rain)), (h_tide, .inl (cI, 96, .inl f_h_tide)), (h_rule, .inl (cI, 8, .inl f_h_rule)), (h_best, .inl (cI, 5, .inl c_h_best_466))] := hD
              replace hl : lv_has ls 12 [(9, .int x9_465), (2, .int x2_353), (0, .ref h), (1, .int a1)] := hl
              replace hX463 : lb_X9_findPlan_362 c_h_begins_456 x9_465 c_h_best_466 = some X463 := hX463
              unfold lb_X9_findPlan_362 at hX463
              refine lv_iload hx hb dX9_findPlan_362 (lv_at hl 0 rfl) ?_
              refine lv_iconst (v := 5) hx hb dX9_findPlan_364 (by decide) ?_
              refine lv_icmp_ge (tgt := 388) hx hb dX9_findPlan_365 (by decide) (fun c467 => ?_) (fun c467 => ?_)
              · replace hX463 := k_pos hX463 c467
                exact hE463 _ (hout463 _ (Option.some.inj hX463).symm).symm _ _ _ hP hD hS (lv_sub hl [1, 2, 3] rfl)
              · replace hX463 := k_neg hX463 c467
                refine lv_aload_n hx hb dX9_findPlan_368 rfl (lv_at hl 2 rfl) ?_
                refine k_get (C := RX9) (T := TX9) (N := 19) hx hb hts inX9 hown hK hP 0 rfl rfl 11 (by decide) rfl wl8 rfl dX9_findPlan_369 ?_
                refine lv_iload hx hb dX9_findPlan_372 (lv_at hl 0 rfl) ?_
                refine lv_aload_n hx hb dX9_findPlan_374 rfl (lv_at hl 2 rfl) ?_
                refine k_get (C := RX9) (T := TX9) (N := 19) hx hb hts inX9 hown hK hP 0 rfl rfl 10 (by decide) rfl wl7 rfl dX9_findPlan_375 ?_
                refine lv_iload hx hb dX9_findPlan_378 (lv_at hl 0 rfl) ?_
                obtain ⟨hi468, hX463⟩ := k_ix_some hX463
                refine k_iald (k := x9_465.toNatClampNeg) hx hb hK hP 3 0 rfl rfl hi468 rfl dX9_findPlan_380 ?_
                obtain ⟨hi469, hX463⟩ := k_ix_some hX463
                refine k_iast (ws2 := [(h, .inr (9, [.int v_h_thrown, .ref h_now, .ref h_aside, .int v_h_kept, .ref h_books, .ref h_tide, .ref h_rain, .ref h_rule, .int c_h_counted_14, .ref h_counts, .ref h_begins, .ref h_best, .int x3_381, .int x4_382, .int x5_383, .int v_h_leastHour, .int v_h_leastSet, .int v_h_shut, .ref h_planks])), (h_now, .inl (cI, 169, .inl f_h_now)), (h_counts, .inl (cI, 5, .inl c_h_counts_13)), (h_begins, .inl (cI, 5, .inl c_h_begins_456)), (h_rain, .inl (cI, 96, .inl f_h_rain)), (h_tide, .inl (cI, 96, .inl f_h_tide)), (h_rule, .inl (cI, 8, .inl f_h_rule)), (h_best, .inl (cI, 5, .inl (upd c_h_best_466 x9_465.toNatClampNeg (c_h_begins_456 x9_465.toNatClampNeg))))]) (k := x9_465.toNatClampNeg) hx hb hK hP hD hS 7 0 rfl rfl hi469 rfl rfl dX9_findPlan_381 (fun H locs hP hD hS => ?_)
                refine lv_iinc (v := x9_465 + 1) (lv' := [(9, .int (x9_465 + 1)), (2, .int x2_353), (0, .ref h), (1, .int a1)]) hx hb dX9_findPlan_382 hl (k := 0) rfl rfl (by decide) rfl (fun ls hl => ?_)
                refine lv_goto (tgt := 362) hx hb dX9_findPlan_385 (by decide) ?_
                exact hin463 (x9_465 + 1, upd c_h_best_466 x9_465.toNatClampNeg (c_h_begins_456 x9_465.toNatClampNeg)) (Option.some.inj hX463).symm _ _ _ hP hD hS (lv_sub hl [0, 1, 2, 3] rfl)
          refine (k_lp_ind (fun sx454 => ∀ (H : Heap) (locs : List Loc) (ls : Array Slot), va_P D vwCl [(h, .inr (9, [.int v_h_thrown, .ref h_now, .ref h_aside, .int v_h_kept, .ref h_books, .ref h_tide, .ref h_rain, .ref h_rule, .int c_h_counted_14, .ref h_counts, .ref h_begins, .ref h_best, .int c_h_bestWorth_358, .int c_h_bestPitch_357, .int c_h_bestBits_356, .int v_h_leastHour, .int v_h_leastSet, .int v_h_shut, .ref h_planks])), (h_now, .inl (cI, 169, .inl f_h_now)), (h_counts, .inl (cI, 5, .inl c_h_counts_13)), (h_begins, .inl (cI, 5, .inl sx454.2.2)), (h_rain, .inl (cI, 96, .inl f_h_rain)), (h_tide, .inl (cI, 96, .inl f_h_tide)), (h_rule, .inl (cI, 8, .inl f_h_rule)), (h_best, .inl (cI, 5, .inl c_h_best_355))] H → va_D A [(h, .inr (9, [.int v_h_thrown, .ref h_now, .ref h_aside, .int v_h_kept, .ref h_books, .ref h_tide, .ref h_rain, .ref h_rule, .int c_h_counted_14, .ref h_counts, .ref h_begins, .ref h_best, .int c_h_bestWorth_358, .int c_h_bestPitch_357, .int c_h_bestBits_356, .int v_h_leastHour, .int v_h_leastSet, .int v_h_shut, .ref h_planks])), (h_now, .inl (cI, 169, .inl f_h_now)), (h_counts, .inl (cI, 5, .inl c_h_counts_13)), (h_begins, .inl (cI, 5, .inl sx454.2.2)), (h_rain, .inl (cI, 96, .inl f_h_rain)), (h_tide, .inl (cI, 96, .inl f_h_tide)), (h_rule, .inl (cI, 8, .inl f_h_rule)), (h_best, .inl (cI, 5, .inl c_h_best_355))] → va_S A s.heap H locs → lv_has ls 12 [(9, .int sx454.2.1), (8, .int sx454.1), (7, .int t390), (6, .int x6_384), (5, .int x5_383), (4, .int x4_382), (3, .int x3_381), (2, .int x2_353), (0, .ref h), (1, .int a1)] → W p l e rm_X9_findPlan s m args below meth c H locs 0 0 Q (F0 m 249 ls [])) (fun sx454 X454 hX454 hin454 hout454 => ?_) _ _ hlp454) _ _ _ hP hD hS (lv_sub hl [0, 1, 2, 3, 4, 5, 6, 7, 8, 9] rfl)
          obtain ⟨x8_470, x9_471, c_h_begins_472⟩ := sx454
          intro H locs ls hP hD hS hl
          replace hP : va_P D vwCl [(h, .inr (9, [.int v_h_thrown, .ref h_now, .ref h_aside, .int v_h_kept, .ref h_books, .ref h_tide, .ref h_rain, .ref h_rule, .int c_h_counted_14, .ref h_counts, .ref h_begins, .ref h_best, .int c_h_bestWorth_358, .int c_h_bestPitch_357, .int c_h_bestBits_356, .int v_h_leastHour, .int v_h_leastSet, .int v_h_shut, .ref h_planks])), (h_now, .inl (cI, 169, .inl f_h_now)), (h_counts, .inl (cI, 5, .inl c_h_counts_13)), (h_begins, .inl (cI, 5, .inl c_h_begins_472)), (h_rain, .inl (cI, 96, .inl f_h_rain)), (h_tide, .inl (cI, 96, .inl f_h_tide)), (h_rule, .inl (cI, 8, .inl f_h_rule)), (h_best, .inl (cI, 5, .inl c_h_best_355))] H := hP
          replace hD : va_D A [(h, .inr (9, [.int v_h_thrown, .ref h_now, .ref h_aside, .int v_h_kept, .ref h_books, .ref h_tide, .ref h_rain, .ref h_rule, .int c_h_counted_14, .ref h_counts, .ref h_begins, .ref h_best, .int c_h_bestWorth_358, .int c_h_bestPitch_357, .int c_h_bestBits_356, .int v_h_leastHour, .int v_h_leastSet, .int v_h_shut, .ref h_planks])), (h_now, .inl (cI, 169, .inl f_h_now)), (h_counts, .inl (cI, 5, .inl c_h_counts_13)), (h_begins, .inl (cI, 5, .inl c_h_begins_472)), (h_rain, .inl (cI, 96, .inl f_h_rain)), (h_tide, .inl (cI, 96, .inl f_h_tide)), (h_rule, .inl (cI, 8, .inl f_h_rule)), (h_best, .inl (cI, 5, .inl c_h_best_355))] := hD
          replace hl : lv_has ls 12 [(9, .int x9_471), (8, .int x8_470), (7, .int t390), (6, .int x6_384), (5, .int x5_383), (4, .int x4_382), (3, .int x3_381), (2, .int x2_353), (0, .ref h), (1, .int a1)] := hl
          replace hX454 : lb_X9_findPlan_249 x6_384 t390 x2_353 a1 c_h_counted_14 c_h_counts_13 f_h_now f_h_rain f_h_tide f_h_rule x8_470 x9_471 c_h_begins_472 = some X454 := hX454
          unfold lb_X9_findPlan_249 at hX454
          refine lv_iload hx hb dX9_findPlan_249 (lv_at hl 0 rfl) ?_
          refine lv_iload hx hb dX9_findPlan_251 (lv_at hl 3 rfl) ?_
          refine lv_icmp_ge (tgt := 337) hx hb dX9_findPlan_253 (by decide) (fun c473 => ?_) (fun c473 => ?_)
          · replace hX454 := k_pos hX454 c473
            exact hE454 _ _ (hout454 _ (Option.some.inj hX454).symm).symm _ _ _ hP hD hS (lv_sub hl [1, 4, 5, 6, 7, 8, 9] rfl)
          · replace hX454 := k_neg hX454 c473
            refine lv_iload hx hb dX9_findPlan_256 (lv_at hl 2 rfl) ?_
            refine lv_if_eq (tgt := 337) hx hb dX9_findPlan_258 (by decide) (fun c474 => ?_) (fun c474 => ?_)
            · replace hX454 := k_pos hX454 c474
              exact hE454 _ _ (hout454 _ (Option.some.inj hX454).symm).symm _ _ _ hP hD hS (lv_sub hl [1, 4, 5, 6, 7, 8, 9] rfl)
            · replace hX454 := k_neg hX454 c474
              refine lv_iload hx hb dX9_findPlan_261 (lv_at hl 1 rfl) ?_
              refine lv_if_ne (tgt := 337) hx hb dX9_findPlan_263 (by decide) (fun c475 => ?_) (fun c475 => ?_)
              · replace hX454 := k_neg hX454 c475
                exact hE454 _ _ (hout454 _ (Option.some.inj hX454).symm).symm _ _ _ hP hD hS (lv_sub hl [1, 4, 5, 6, 7, 8, 9] rfl)
              · replace hX454 := k_pos hX454 c475
                refine lv_iload hx hb dX9_findPlan_266 (lv_at hl 0 rfl) ?_
                refine lv_istore (lv' := [(10, .int x9_471), (9, .int x9_471), (8, .int x8_470), (7, .int t390), (6, .int x6_384), (5, .int x5_383), (4, .int x4_382), (3, .int x3_381), (2, .int x2_353), (0, .ref h), (1, .int a1)]) hx hb dX9_findPlan_268 hl (by decide) rfl (fun ls hl => ?_)
                refine lv_aload_n hx hb dX9_findPlan_270 rfl (lv_at hl 9 rfl) ?_
                refine k_get (C := RX9) (T := TX9) (N := 19) hx hb hts inX9 hown hK hP 0 rfl rfl 8 (by decide) rfl wl1 rfl dX9_findPlan_271 ?_
                refine lv_iconst (v := 1) hx hb dX9_findPlan_274 (by decide) ?_
                refine lv_isub hx hb dX9_findPlan_275 ?_
                refine lv_istore (lv' := [(11, .int (c_h_counted_14 - 1)), (10, .int x9_471), (9, .int x9_471), (8, .int x8_470), (7, .int t390), (6, .int x6_384), (5, .int x5_383), (4, .int x4_382), (3, .int x3_381), (2, .int x2_353), (0, .ref h), (1, .int a1)]) hx hb dX9_findPlan_276 hl (by decide) rfl (fun ls hl => ?_)
                obtain ⟨ee491, hlp491, hfr491⟩ := k_b1_ee hX454
                have hE491 : ∀ (c_h_begins_492 : Nat → Int32), ee491 = c_h_begins_492 → ∀ (H : Heap) (locs : List Loc) (ls : Array Slot), va_P D vwCl [(h, .inr (9, [.int v_h_thrown, .ref h_now, .ref h_aside, .int v_h_kept, .ref h_books, .ref h_tide, .ref h_rain, .ref h_rule, .int c_h_counted_14, .ref h_counts, .ref h_begins, .ref h_best, .int c_h_bestWorth_358, .int c_h_bestPitch_357, .int c_h_bestBits_356, .int v_h_leastHour, .int v_h_leastSet, .int v_h_shut, .ref h_planks])), (h_now, .inl (cI, 169, .inl f_h_now)), (h_counts, .inl (cI, 5, .inl c_h_counts_13)), (h_begins, .inl (cI, 5, .inl c_h_begins_492)), (h_rain, .inl (cI, 96, .inl f_h_rain)), (h_tide, .inl (cI, 96, .inl f_h_tide)), (h_rule, .inl (cI, 8, .inl f_h_rule)), (h_best, .inl (cI, 5, .inl c_h_best_355))] H → va_D A [(h, .inr (9, [.int v_h_thrown, .ref h_now, .ref h_aside, .int v_h_kept, .ref h_books, .ref h_tide, .ref h_rain, .ref h_rule, .int c_h_counted_14, .ref h_counts, .ref h_begins, .ref h_best, .int c_h_bestWorth_358, .int c_h_bestPitch_357, .int c_h_bestBits_356, .int v_h_leastHour, .int v_h_leastSet, .int v_h_shut, .ref h_planks])), (h_now, .inl (cI, 169, .inl f_h_now)), (h_counts, .inl (cI, 5, .inl c_h_counts_13)), (h_begins, .inl (cI, 5, .inl c_h_begins_492)), (h_rain, .inl (cI, 96, .inl f_h_rain)), (h_tide, .inl (cI, 96, .inl f_h_tide)), (h_rule, .inl (cI, 8, .inl f_h_rule)), (h_best, .inl (cI, 5, .inl c_h_best_355))] → va_S A s.heap H locs → lv_has ls 12 [(9, .int x9_471), (7, .int t390), (6, .int x6_384), (5, .int x5_383), (4, .int x4_382), (3, .int x3_381), (2, .int x2_353), (0, .ref h), (1, .int a1)] → W p l e rm_X9_findPlan s m args below meth c H locs 0 0 Q (F0 m 324 ls []) := by
                  intro c_h_begins_492 he H locs ls hP hD hS hl
                  replace hX454 := hfr491 c_h_begins_492 he
                  refine lv_aload_n hx hb dX9_findPlan_324 rfl (lv_at hl 7 rfl) ?_
                  refine lv_iload_n hx hb dX9_findPlan_325 rfl (lv_at hl 8 rfl) ?_
                  obtain ⟨r493, hc493, hX454⟩ := k_b1_some hX454
                  refine k_ViR (q0 := 0) (As := [.int a1]) (rest := []) S0 (c_X9_isPlan l D cI cZ cJ cS h h_now h_aside h_books h_tide h_rain h_rule h_counts h_begins h_best h_planks v_h_thrown v_h_kept c_h_counted_14 c_h_bestWorth_358 c_h_bestPitch_357 c_h_bestBits_356 v_h_leastHour v_h_leastSet v_h_shut c_h_counts_13 c_h_begins_492 f_h_now f_h_rain f_h_tide f_h_rule a1 r493 hc493) (cwV 1 hts gX9_findPlan_X9_isPlan rfl rfl rfl hdV_X9_isPlan ⟨Nat.le_of_ble_eq_true rfl, Nat.le_of_ble_eq_true rfl⟩) hK hP hD hS hA hN [0, 2, 3, 1, 4, 5, 6] rfl (by decide) rfl rfl rfl rfl hl.1 rfl (Nat.le_of_ble_eq_true rfl) dX9_findPlan_326 (fun H locs hP hS => ?_)
                  refine lv_istore (lv' := [(8, .int r493), (9, .int x9_471), (7, .int t390), (6, .int x6_384), (5, .int x5_383), (4, .int x4_382), (3, .int x3_381), (2, .int x2_353), (0, .ref h), (1, .int a1)]) hx hb dX9_findPlan_329 hl (by decide) rfl (fun ls hl => ?_)
                  refine lv_iinc (v := x9_471 + 1) (lv' := [(9, .int (x9_471 + 1)), (8, .int r493), (7, .int t390), (6, .int x6_384), (5, .int x5_383), (4, .int x4_382), (3, .int x3_381), (2, .int x2_353), (0, .ref h), (1, .int a1)]) hx hb dX9_findPlan_331 hl (k := 1) rfl rfl (by decide) rfl (fun ls hl => ?_)
                  refine lv_goto (tgt := 249) hx hb dX9_findPlan_334 (by decide) ?_
                  exact hin454 (r493, x9_471 + 1, c_h_begins_492) (Option.some.inj hX454).symm _ _ _ hP hD hS (lv_sub hl [0, 1, 2, 3, 4, 5, 6, 7, 8, 9] rfl)
                refine (k_lp_ind (fun sx491 => ∀ (H : Heap) (locs : List Loc) (ls : Array Slot), va_P D vwCl [(h, .inr (9, [.int v_h_thrown, .ref h_now, .ref h_aside, .int v_h_kept, .ref h_books, .ref h_tide, .ref h_rain, .ref h_rule, .int c_h_counted_14, .ref h_counts, .ref h_begins, .ref h_best, .int c_h_bestWorth_358, .int c_h_bestPitch_357, .int c_h_bestBits_356, .int v_h_leastHour, .int v_h_leastSet, .int v_h_shut, .ref h_planks])), (h_now, .inl (cI, 169, .inl f_h_now)), (h_counts, .inl (cI, 5, .inl c_h_counts_13)), (h_begins, .inl (cI, 5, .inl sx491.2.2)), (h_rain, .inl (cI, 96, .inl f_h_rain)), (h_tide, .inl (cI, 96, .inl f_h_tide)), (h_rule, .inl (cI, 8, .inl f_h_rule)), (h_best, .inl (cI, 5, .inl c_h_best_355))] H → va_D A [(h, .inr (9, [.int v_h_thrown, .ref h_now, .ref h_aside, .int v_h_kept, .ref h_books, .ref h_tide, .ref h_rain, .ref h_rule, .int c_h_counted_14, .ref h_counts, .ref h_begins, .ref h_best, .int c_h_bestWorth_358, .int c_h_bestPitch_357, .int c_h_bestBits_356, .int v_h_leastHour, .int v_h_leastSet, .int v_h_shut, .ref h_planks])), (h_now, .inl (cI, 169, .inl f_h_now)), (h_counts, .inl (cI, 5, .inl c_h_counts_13)), (h_begins, .inl (cI, 5, .inl sx491.2.2)), (h_rain, .inl (cI, 96, .inl f_h_rain)), (h_tide, .inl (cI, 96, .inl f_h_tide)), (h_rule, .inl (cI, 8, .inl f_h_rule)), (h_best, .inl (cI, 5, .inl c_h_best_355))] → va_S A s.heap H locs → lv_has ls 12 [(11, .int sx491.2.1), (10, .int sx491.1), (9, .int x9_471), (7, .int t390), (6, .int x6_384), (5, .int x5_383), (4, .int x4_382), (3, .int x3_381), (2, .int x2_353), (0, .ref h), (1, .int a1)] → W p l e rm_X9_findPlan s m args below meth c H locs 0 0 Q (F0 m 278 ls [])) (fun sx491 X491 hX491 hin491 hout491 => ?_) _ _ hlp491) _ _ _ hP hD hS (lv_sub hl [0, 1, 2, 4, 5, 6, 7, 8, 9, 10, 11] rfl)
                obtain ⟨x10_494, x11_495, c_h_begins_496⟩ := sx491
                intro H locs ls hP hD hS hl
                replace hP : va_P D vwCl [(h, .inr (9, [.int v_h_thrown, .ref h_now, .ref h_aside, .int v_h_kept, .ref h_books, .ref h_tide, .ref h_rain, .ref h_rule, .int c_h_counted_14, .ref h_counts, .ref h_begins, .ref h_best, .int c_h_bestWorth_358, .int c_h_bestPitch_357, .int c_h_bestBits_356, .int v_h_leastHour, .int v_h_leastSet, .int v_h_shut, .ref h_planks])), (h_now, .inl (cI, 169, .inl f_h_now)), (h_counts, .inl (cI, 5, .inl c_h_counts_13)), (h_begins, .inl (cI, 5, .inl c_h_begins_496)), (h_rain, .inl (cI, 96, .inl f_h_rain)), (h_tide, .inl (cI, 96, .inl f_h_tide)), (h_rule, .inl (cI, 8, .inl f_h_rule)), (h_best, .inl (cI, 5, .inl c_h_best_355))] H := hP
                replace hD : va_D A [(h, .inr (9, [.int v_h_thrown, .ref h_now, .ref h_aside, .int v_h_kept, .ref h_books, .ref h_tide, .ref h_rain, .ref h_rule, .int c_h_counted_14, .ref h_counts, .ref h_begins, .ref h_best, .int c_h_bestWorth_358, .int c_h_bestPitch_357, .int c_h_bestBits_356, .int v_h_leastHour, .int v_h_leastSet, .int v_h_shut, .ref h_planks])), (h_now, .inl (cI, 169, .inl f_h_now)), (h_counts, .inl (cI, 5, .inl c_h_counts_13)), (h_begins, .inl (cI, 5, .inl c_h_begins_496)), (h_rain, .inl (cI, 96, .inl f_h_rain)), (h_tide, .inl (cI, 96, .inl f_h_tide)), (h_rule, .inl (cI, 8, .inl f_h_rule)), (h_best, .inl (cI, 5, .inl c_h_best_355))] := hD
                replace hl : lv_has ls 12 [(11, .int x11_495), (10, .int x10_494), (9, .int x9_471), (7, .int t390), (6, .int x6_384), (5, .int x5_383), (4, .int x4_382), (3, .int x3_381), (2, .int x2_353), (0, .ref h), (1, .int a1)] := hl
                replace hX491 : lb_X9_findPlan_278 x2_353 a1 x10_494 x11_495 c_h_begins_496 = some X491 := hX491
                unfold lb_X9_findPlan_278 at hX491
                refine lv_iload hx hb dX9_findPlan_278 (lv_at hl 0 rfl) ?_
                refine lv_if_lt (tgt := 324) hx hb dX9_findPlan_280 (by decide) (fun c497 => ?_) (fun c497 => ?_)
                · replace hX491 := k_pos hX491 c497
                  exact hE491 _ (hout491 _ (Option.some.inj hX491).symm).symm _ _ _ hP hD hS (lv_sub hl [2, 3, 4, 5, 6, 7, 8, 9, 10] rfl)
                · replace hX491 := k_neg hX491 c497
                  refine lv_aload_n hx hb dX9_findPlan_283 rfl (lv_at hl 9 rfl) ?_
                  refine k_get (C := RX9) (T := TX9) (N := 19) hx hb hts inX9 hown hK hP 0 rfl rfl 10 (by decide) rfl wl7 rfl dX9_findPlan_284 ?_
                  refine lv_iload hx hb dX9_findPlan_287 (lv_at hl 0 rfl) ?_
                  refine lv_iconst (v := (-1)) hx hb dX9_findPlan_289 (by decide) ?_
                  obtain ⟨hi498, hX491⟩ := k_ix_some hX491
                  refine k_iast (ws2 := [(h, .inr (9, [.int v_h_thrown, .ref h_now, .ref h_aside, .int v_h_kept, .ref h_books, .ref h_tide, .ref h_rain, .ref h_rule, .int c_h_counted_14, .ref h_counts, .ref h_begins, .ref h_best, .int c_h_bestWorth_358, .int c_h_bestPitch_357, .int c_h_bestBits_356, .int v_h_leastHour, .int v_h_leastSet, .int v_h_shut, .ref h_planks])), (h_now, .inl (cI, 169, .inl f_h_now)), (h_counts, .inl (cI, 5, .inl c_h_counts_13)), (h_begins, .inl (cI, 5, .inl (upd c_h_begins_496 x11_495.toNatClampNeg (-1)))), (h_rain, .inl (cI, 96, .inl f_h_rain)), (h_tide, .inl (cI, 96, .inl f_h_tide)), (h_rule, .inl (cI, 8, .inl f_h_rule)), (h_best, .inl (cI, 5, .inl c_h_best_355))]) (k := x11_495.toNatClampNeg) hx hb hK hP hD hS 3 0 rfl rfl hi498 rfl rfl dX9_findPlan_290 (fun H locs hP hD hS => ?_)
                  refine lv_iload_n hx hb dX9_findPlan_291 rfl (lv_at hl 8 rfl) ?_
                  refine lv_iload hx hb dX9_findPlan_292 (lv_at hl 0 rfl) ?_
                  refine lv_ishr hx hb dX9_findPlan_294 ?_
                  refine lv_iconst (v := 1) hx hb dX9_findPlan_295 (by decide) ?_
                  refine lv_iand hx hb dX9_findPlan_296 ?_
                  refine lv_iconst (v := 1) hx hb dX9_findPlan_297 (by decide) ?_
                  refine lv_icmp_ne (tgt := 318) hx hb dX9_findPlan_298 (by decide) (fun c499 => ?_) (fun c499 => ?_)
                  · replace hX491 := k_neg hX491 c499
                    refine lv_iinc (v := x11_495 + (-1)) (lv' := [(11, .int (x11_495 + (-1))), (10, .int x10_494), (9, .int x9_471), (7, .int t390), (6, .int x6_384), (5, .int x5_383), (4, .int x4_382), (3, .int x3_381), (2, .int x2_353), (0, .ref h), (1, .int a1)]) hx hb dX9_findPlan_318 hl (k := 0) rfl rfl (by decide) rfl (fun ls hl => ?_)
                    refine lv_goto (tgt := 278) hx hb dX9_findPlan_321 (by decide) ?_
                    exact hin491 (x10_494, x11_495 + (-1), upd c_h_begins_496 x11_495.toNatClampNeg (-1)) (Option.some.inj hX491).symm _ _ _ hP hD hS (lv_sub hl [0, 1, 2, 3, 4, 5, 6, 7, 8, 9, 10] rfl)
                  · replace hX491 := k_pos hX491 c499
                    refine lv_aload_n hx hb dX9_findPlan_301 rfl (lv_at hl 9 rfl) ?_
                    refine k_get (C := RX9) (T := TX9) (N := 19) hx hb hts inX9 hown hK hP 0 rfl rfl 10 (by decide) rfl wl7 rfl dX9_findPlan_302 ?_
                    refine lv_iload hx hb dX9_findPlan_305 (lv_at hl 0 rfl) ?_
                    refine lv_iload hx hb dX9_findPlan_307 (lv_at hl 1 rfl) ?_
                    refine lv_iload_n hx hb dX9_findPlan_309 rfl (lv_at hl 10 rfl) ?_
                    obtain ⟨hk500, hX491⟩ := k_ck_some hX491
                    refine lv_irem hx hb dX9_findPlan_310 hk500 ?_
                    obtain ⟨hi501, hX491⟩ := k_ix_some hX491
                    refine k_iast (ws2 := [(h, .inr (9, [.int v_h_thrown, .ref h_now, .ref h_aside, .int v_h_kept, .ref h_books, .ref h_tide, .ref h_rain, .ref h_rule, .int c_h_counted_14, .ref h_counts, .ref h_begins, .ref h_best, .int c_h_bestWorth_358, .int c_h_bestPitch_357, .int c_h_bestBits_356, .int v_h_leastHour, .int v_h_leastSet, .int v_h_shut, .ref h_planks])), (h_now, .inl (cI, 169, .inl f_h_now)), (h_counts, .inl (cI, 5, .inl c_h_counts_13)), (h_begins, .inl (cI, 5, .inl (upd (upd c_h_begins_496 x11_495.toNatClampNeg (-1)) x11_495.toNatClampNeg (x10_494 - x10_494 / a1 * a1)))), (h_rain, .inl (cI, 96, .inl f_h_rain)), (h_tide, .inl (cI, 96, .inl f_h_tide)), (h_rule, .inl (cI, 8, .inl f_h_rule)), (h_best, .inl (cI, 5, .inl c_h_best_355))]) (k := x11_495.toNatClampNeg) hx hb hK hP hD hS 3 0 rfl rfl hi501 rfl rfl dX9_findPlan_311 (fun H locs hP hD hS => ?_)
                    refine lv_iload hx hb dX9_findPlan_312 (lv_at hl 1 rfl) ?_
                    refine lv_iload_n hx hb dX9_findPlan_314 rfl (lv_at hl 10 rfl) ?_
                    obtain ⟨hk502, hX491⟩ := k_ck_some hX491
                    refine lv_idiv hx hb dX9_findPlan_315 hk502 ?_
                    refine lv_istore (lv' := [(10, .int (x10_494 / a1)), (11, .int x11_495), (9, .int x9_471), (7, .int t390), (6, .int x6_384), (5, .int x5_383), (4, .int x4_382), (3, .int x3_381), (2, .int x2_353), (0, .ref h), (1, .int a1)]) hx hb dX9_findPlan_316 hl (by decide) rfl (fun ls hl => ?_)
                    refine lv_iinc (v := x11_495 + (-1)) (lv' := [(11, .int (x11_495 + (-1))), (10, .int (x10_494 / a1)), (9, .int x9_471), (7, .int t390), (6, .int x6_384), (5, .int x5_383), (4, .int x4_382), (3, .int x3_381), (2, .int x2_353), (0, .ref h), (1, .int a1)]) hx hb dX9_findPlan_318 hl (k := 1) rfl rfl (by decide) rfl (fun ls hl => ?_)
                    refine lv_goto (tgt := 278) hx hb dX9_findPlan_321 (by decide) ?_
                    exact hin491 (x10_494 / a1, x11_495 + (-1), upd (upd c_h_begins_496 x11_495.toNatClampNeg (-1)) x11_495.toNatClampNeg (x10_494 - x10_494 / a1 * a1)) (Option.some.inj hX491).symm _ _ _ hP hD hS (lv_sub hl [0, 1, 2, 3, 4, 5, 6, 7, 8, 9, 10] rfl)
        refine lv_iload_n hx hb dX9_findPlan_193 rfl (lv_at hl 3 rfl) ?_
        refine lv_aload_n hx hb dX9_findPlan_194 rfl (lv_at hl 5 rfl) ?_
        refine k_get (C := RX9) (T := TX9) (N := 19) hx hb hts inX9 hown hK hP 0 rfl rfl 12 (by decide) rfl wl4 rfl dX9_findPlan_195 ?_
        refine lv_icmp_gt (tgt := 236) hx hb dX9_findPlan_198 (by decide) (fun c503 => ?_) (fun c503 => ?_)
        · replace hX347 := k_pos hX347 c503
          refine lv_iconst (v := 1) hx hb dX9_findPlan_236 (by decide) ?_
          refine lv_goto (tgt := 241) hx hb dX9_findPlan_237 (by decide) ?_
          exact hJ391 _ hX347 _ _ _ hP hD hS (lv_sub hl [0, 1, 2, 3, 4, 5, 6] rfl)
        · replace hX347 := k_neg hX347 c503
          refine lv_iload_n hx hb dX9_findPlan_201 rfl (lv_at hl 3 rfl) ?_
          refine lv_aload_n hx hb dX9_findPlan_202 rfl (lv_at hl 5 rfl) ?_
          refine k_get (C := RX9) (T := TX9) (N := 19) hx hb hts inX9 hown hK hP 0 rfl rfl 12 (by decide) rfl wl4 rfl dX9_findPlan_203 ?_
          refine lv_icmp_ne (tgt := 240) hx hb dX9_findPlan_206 (by decide) (fun c504 => ?_) (fun c504 => ?_)
          · replace hX347 := k_neg hX347 c504
            refine lv_iconst (v := 0) hx hb dX9_findPlan_240 (by decide) ?_
            exact hJ391 _ hX347 _ _ _ hP hD hS (lv_sub hl [0, 1, 2, 3, 4, 5, 6] rfl)
          · replace hX347 := k_pos hX347 c504
            refine lv_iload hx hb dX9_findPlan_209 (lv_at hl 2 rfl) ?_
            refine lv_aload_n hx hb dX9_findPlan_211 rfl (lv_at hl 5 rfl) ?_
            refine k_get (C := RX9) (T := TX9) (N := 19) hx hb hts inX9 hown hK hP 0 rfl rfl 13 (by decide) rfl wl5 rfl dX9_findPlan_212 ?_
            refine lv_icmp_lt (tgt := 236) hx hb dX9_findPlan_215 (by decide) (fun c505 => ?_) (fun c505 => ?_)
            · replace hX347 := k_pos hX347 c505
              refine lv_iconst (v := 1) hx hb dX9_findPlan_236 (by decide) ?_
              refine lv_goto (tgt := 241) hx hb dX9_findPlan_237 (by decide) ?_
              exact hJ391 _ hX347 _ _ _ hP hD hS (lv_sub hl [0, 1, 2, 3, 4, 5, 6] rfl)
            · replace hX347 := k_neg hX347 c505
              refine lv_iload hx hb dX9_findPlan_218 (lv_at hl 2 rfl) ?_
              refine lv_aload_n hx hb dX9_findPlan_220 rfl (lv_at hl 5 rfl) ?_
              refine k_get (C := RX9) (T := TX9) (N := 19) hx hb hts inX9 hown hK hP 0 rfl rfl 13 (by decide) rfl wl5 rfl dX9_findPlan_221 ?_
              refine lv_icmp_ne (tgt := 240) hx hb dX9_findPlan_224 (by decide) (fun c506 => ?_) (fun c506 => ?_)
              · replace hX347 := k_neg hX347 c506
                refine lv_iconst (v := 0) hx hb dX9_findPlan_240 (by decide) ?_
                exact hJ391 _ hX347 _ _ _ hP hD hS (lv_sub hl [0, 1, 2, 3, 4, 5, 6] rfl)
              · replace hX347 := k_pos hX347 c506
                refine lv_iload hx hb dX9_findPlan_227 (lv_at hl 1 rfl) ?_
                refine lv_aload_n hx hb dX9_findPlan_229 rfl (lv_at hl 5 rfl) ?_
                refine k_get (C := RX9) (T := TX9) (N := 19) hx hb hts inX9 hown hK hP 0 rfl rfl 14 (by decide) rfl wl6 rfl dX9_findPlan_230 ?_
                refine lv_icmp_ge (tgt := 240) hx hb dX9_findPlan_233 (by decide) (fun c507 => ?_) (fun c507 => ?_)
                · replace hX347 := k_pos hX347 c507
                  refine lv_iconst (v := 0) hx hb dX9_findPlan_240 (by decide) ?_
                  exact hJ391 _ hX347 _ _ _ hP hD hS (lv_sub hl [0, 1, 2, 3, 4, 5, 6] rfl)
                · replace hX347 := k_neg hX347 c507
                  refine lv_iconst (v := 1) hx hb dX9_findPlan_236 (by decide) ?_
                  refine lv_goto (tgt := 241) hx hb dX9_findPlan_237 (by decide) ?_
                  exact hJ391 _ hX347 _ _ _ hP hD hS (lv_sub hl [0, 1, 2, 3, 4, 5, 6] rfl)
      refine (k_lp_ind (fun sx380 => ∀ (H : Heap) (locs : List Loc) (ls : Array Slot), va_P D vwCl [(h, .inr (9, [.int v_h_thrown, .ref h_now, .ref h_aside, .int v_h_kept, .ref h_books, .ref h_tide, .ref h_rain, .ref h_rule, .int c_h_counted_14, .ref h_counts, .ref h_begins, .ref h_best, .int c_h_bestWorth_358, .int c_h_bestPitch_357, .int c_h_bestBits_356, .int v_h_leastHour, .int v_h_leastSet, .int v_h_shut, .ref h_planks])), (h_now, .inl (cI, 169, .inl f_h_now)), (h_counts, .inl (cI, 5, .inl c_h_counts_13)), (h_begins, .inl (cI, 5, .inl c_h_begins_354)), (h_rain, .inl (cI, 96, .inl f_h_rain)), (h_tide, .inl (cI, 96, .inl f_h_tide)), (h_rule, .inl (cI, 8, .inl f_h_rule)), (h_best, .inl (cI, 5, .inl c_h_best_355))] H → va_D A [(h, .inr (9, [.int v_h_thrown, .ref h_now, .ref h_aside, .int v_h_kept, .ref h_books, .ref h_tide, .ref h_rain, .ref h_rule, .int c_h_counted_14, .ref h_counts, .ref h_begins, .ref h_best, .int c_h_bestWorth_358, .int c_h_bestPitch_357, .int c_h_bestBits_356, .int v_h_leastHour, .int v_h_leastSet, .int v_h_shut, .ref h_planks])), (h_now, .inl (cI, 169, .inl f_h_now)), (h_counts, .inl (cI, 5, .inl c_h_counts_13)), (h_begins, .inl (cI, 5, .inl c_h_begins_354)), (h_rain, .inl (cI, 96, .inl f_h_rain)), (h_tide, .inl (cI, 96, .inl f_h_tide)), (h_rule, .inl (cI, 8, .inl f_h_rule)), (h_best, .inl (cI, 5, .inl c_h_best_355))] → va_S A s.heap H locs → lv_has ls 12 [(7, .int sx380.2.2.2.2), (6, .int sx380.2.2.2.1), (5, .int sx380.2.2.1), (4, .int sx380.2.1), (3, .int sx380.1), (2, .int x2_353), (0, .ref h), (1, .int a1)] → W p l e rm_X9_findPlan s m args below meth c H locs 0 0 Q (F0 m 97 ls [])) (fun sx380 X380 hX380 hin380 hout380 => ?_) _ _ hlp380) _ _ _ hP hD hS (lv_sub hl [0, 1, 2, 3, 4, 5, 6, 7] rfl)
      obtain ⟨x3_508, x4_509, x5_510, x6_511, x7_512⟩ := sx380
      intro H locs ls hP hD hS hl
      replace hP : va_P D vwCl [(h, .inr (9, [.int v_h_thrown, .ref h_now, .ref h_aside, .int v_h_kept, .ref h_books, .ref h_tide, .ref h_rain, .ref h_rule, .int c_h_counted_14, .ref h_counts, .ref h_begins, .ref h_best, .int c_h_bestWorth_358, .int c_h_bestPitch_357, .int c_h_bestBits_356, .int v_h_leastHour, .int v_h_leastSet, .int v_h_shut, .ref h_planks])), (h_now, .inl (cI, 169, .inl f_h_now)), (h_counts, .inl (cI, 5, .inl c_h_counts_13)), (h_begins, .inl (cI, 5, .inl c_h_begins_354)), (h_rain, .inl (cI, 96, .inl f_h_rain)), (h_tide, .inl (cI, 96, .inl f_h_tide)), (h_rule, .inl (cI, 8, .inl f_h_rule)), (h_best, .inl (cI, 5, .inl c_h_best_355))] H := hP
      replace hD : va_D A [(h, .inr (9, [.int v_h_thrown, .ref h_now, .ref h_aside, .int v_h_kept, .ref h_books, .ref h_tide, .ref h_rain, .ref h_rule, .int c_h_counted_14, .ref h_counts, .ref h_begins, .ref h_best, .int c_h_bestWorth_358, .int c_h_bestPitch_357, .int c_h_bestBits_356, .int v_h_leastHour, .int v_h_leastSet, .int v_h_shut, .ref h_planks])), (h_now, .inl (cI, 169, .inl f_h_now)), (h_counts, .inl (cI, 5, .inl c_h_counts_13)), (h_begins, .inl (cI, 5, .inl c_h_begins_354)), (h_rain, .inl (cI, 96, .inl f_h_rain)), (h_tide, .inl (cI, 96, .inl f_h_tide)), (h_rule, .inl (cI, 8, .inl f_h_rule)), (h_best, .inl (cI, 5, .inl c_h_best_355))] := hD
      replace hl : lv_has ls 12 [(7, .int x7_512), (6, .int x6_511), (5, .int x5_510), (4, .int x4_509), (3, .int x3_508), (2, .int x2_353), (0, .ref h), (1, .int a1)] := hl
      replace hX380 : lb_X9_findPlan_97 c_h_counted_14 x2_353 c_h_counts_13 f_h_now a1 x3_508 x4_509 x5_510 x6_511 x7_512 = some X380 := hX380
      unfold lb_X9_findPlan_97 at hX380
      refine lv_iload hx hb dX9_findPlan_97 (lv_at hl 0 rfl) ?_
      refine lv_aload_n hx hb dX9_findPlan_99 rfl (lv_at hl 6 rfl) ?_
      refine k_get (C := RX9) (T := TX9) (N := 19) hx hb hts inX9 hown hK hP 0 rfl rfl 8 (by decide) rfl wl1 rfl dX9_findPlan_100 ?_
      refine lv_icmp_ge (tgt := 193) hx hb dX9_findPlan_103 (by decide) (fun c513 => ?_) (fun c513 => ?_)
      · replace hX380 := k_pos hX380 c513
        exact hE380 _ _ _ _ (hout380 _ (Option.some.inj hX380).symm).symm _ _ _ hP hD hS (lv_sub hl [1, 2, 3, 4, 5, 6, 7] rfl)
      · replace hX380 := k_neg hX380 c513
        refine lv_iload_n hx hb dX9_findPlan_106 rfl (lv_at hl 5 rfl) ?_
        refine lv_iload hx hb dX9_findPlan_107 (lv_at hl 0 rfl) ?_
        refine lv_ishr hx hb dX9_findPlan_109 ?_
        refine lv_iconst (v := 1) hx hb dX9_findPlan_110 (by decide) ?_
        refine lv_iand hx hb dX9_findPlan_111 ?_
        refine lv_iconst (v := 1) hx hb dX9_findPlan_112 (by decide) ?_
        refine lv_icmp_ne (tgt := 187) hx hb dX9_findPlan_113 (by decide) (fun c514 => ?_) (fun c514 => ?_)
        · replace hX380 := k_neg hX380 c514
          refine lv_iinc (v := x7_512 + 1) (lv' := [(7, .int (x7_512 + 1)), (6, .int x6_511), (5, .int x5_510), (4, .int x4_509), (3, .int x3_508), (2, .int x2_353), (0, .ref h), (1, .int a1)]) hx hb dX9_findPlan_187 hl (k := 0) rfl rfl (by decide) rfl (fun ls hl => ?_)
          refine lv_goto (tgt := 97) hx hb dX9_findPlan_190 (by decide) ?_
          exact hin380 (x3_508, x4_509, x5_510, x6_511, x7_512 + 1) (Option.some.inj hX380).symm _ _ _ hP hD hS (lv_sub hl [0, 1, 2, 3, 4, 5, 6, 7] rfl)
        · replace hX380 := k_pos hX380 c514
          refine lv_aload_n hx hb dX9_findPlan_116 rfl (lv_at hl 6 rfl) ?_
          refine k_get (C := RX9) (T := TX9) (N := 19) hx hb hts inX9 hown hK hP 0 rfl rfl 9 (by decide) rfl wl3 rfl dX9_findPlan_117 ?_
          refine lv_iload hx hb dX9_findPlan_120 (lv_at hl 0 rfl) ?_
          obtain ⟨hi515, hX380⟩ := k_ix_some hX380
          refine k_iald (k := x7_512.toNatClampNeg) hx hb hK hP 2 0 rfl rfl hi515 rfl dX9_findPlan_122 ?_
          refine lv_istore (lv' := [(8, .int (c_h_counts_13 x7_512.toNatClampNeg)), (7, .int x7_512), (6, .int x6_511), (5, .int x5_510), (4, .int x4_509), (3, .int x3_508), (2, .int x2_353), (0, .ref h), (1, .int a1)]) hx hb dX9_findPlan_123 hl (by decide) rfl (fun ls hl => ?_)
          refine lv_iload_n hx hb dX9_findPlan_125 rfl (lv_at hl 5 rfl) ?_
          refine lv_aload_n hx hb dX9_findPlan_126 rfl (lv_at hl 7 rfl) ?_
          refine k_get (C := RX9) (T := TX9) (N := 19) hx hb hts inX9 hown hK hP 0 rfl rfl 1 (by decide) rfl wl2 rfl dX9_findPlan_127 ?_
          refine lv_sipush (v := 133) hx hb dX9_findPlan_130 (by decide) ?_
          refine lv_iload hx hb dX9_findPlan_133 (lv_at hl 0 rfl) ?_
          refine lv_iadd hx hb dX9_findPlan_135 ?_
          obtain ⟨hi516, hX380⟩ := k_ix_some hX380
          refine k_iald (k := (133 + (c_h_counts_13 x7_512.toNatClampNeg)).toNatClampNeg) hx hb hK hP 1 0 rfl rfl hi516 rfl dX9_findPlan_136 ?_
          refine lv_iadd hx hb dX9_findPlan_137 ?_
          obtain ⟨y517, ey517, hX380⟩ := k_lt_some hX380
          refine k_topi ey517 ?_
          refine lv_istore_n (lv' := [(3, .int y517), (8, .int (c_h_counts_13 x7_512.toNatClampNeg)), (7, .int x7_512), (6, .int x6_511), (5, .int x5_510), (4, .int x4_509), (2, .int x2_353), (0, .ref h), (1, .int a1)]) hx hb dX9_findPlan_138 rfl hl (by decide) rfl (fun ls hl => ?_)
          refine lv_iload hx hb dX9_findPlan_139 (lv_at hl 5 rfl) ?_
          refine lv_aload_n hx hb dX9_findPlan_141 rfl (lv_at hl 7 rfl) ?_
          refine k_get (C := RX9) (T := TX9) (N := 19) hx hb hts inX9 hown hK hP 0 rfl rfl 1 (by decide) rfl wl2 rfl dX9_findPlan_142 ?_
          refine lv_sipush (v := 157) hx hb dX9_findPlan_145 (by decide) ?_
          refine lv_iload hx hb dX9_findPlan_148 (lv_at hl 1 rfl) ?_
          refine lv_iadd hx hb dX9_findPlan_150 ?_
          obtain ⟨hi518, hX380⟩ := k_ix_some hX380
          refine k_iald (k := (157 + (c_h_counts_13 x7_512.toNatClampNeg)).toNatClampNeg) hx hb hK hP 1 0 rfl rfl hi518 rfl dX9_findPlan_151 ?_
          refine lv_if_ne (tgt := 168) hx hb dX9_findPlan_152 (by decide) (fun c519 => ?_) (fun c519 => ?_)
          · replace hX380 := k_neg hX380 c519
            refine lv_iconst (v := 0) hx hb dX9_findPlan_168 (by decide) ?_
            refine lv_iadd hx hb dX9_findPlan_169 ?_
            refine lv_istore (lv' := [(4, .int (x4_509 + 0)), (3, .int y517), (8, .int (c_h_counts_13 x7_512.toNatClampNeg)), (7, .int x7_512), (6, .int x6_511), (5, .int x5_510), (2, .int x2_353), (0, .ref h), (1, .int a1)]) hx hb dX9_findPlan_170 hl (by decide) rfl (fun ls hl => ?_)
            refine lv_iload hx hb dX9_findPlan_172 (lv_at hl 5 rfl) ?_
            refine lv_iconst (v := 1) hx hb dX9_findPlan_174 (by decide) ?_
            refine lv_iload hx hb dX9_findPlan_175 (lv_at hl 2 rfl) ?_
            refine lv_ishl hx hb dX9_findPlan_177 ?_
            refine lv_ior hx hb dX9_findPlan_178 ?_
            refine lv_istore (lv' := [(5, .int (x5_510 ||| (1 <<< ((c_h_counts_13 x7_512.toNatClampNeg) &&& 31)))), (4, .int (x4_509 + 0)), (3, .int y517), (8, .int (c_h_counts_13 x7_512.toNatClampNeg)), (7, .int x7_512), (6, .int x6_511), (2, .int x2_353), (0, .ref h), (1, .int a1)]) hx hb dX9_findPlan_179 hl (by decide) rfl (fun ls hl => ?_)
            refine lv_iload hx hb dX9_findPlan_181 (lv_at hl 5 rfl) ?_
            refine lv_iload_n hx hb dX9_findPlan_183 rfl (lv_at hl 8 rfl) ?_
            refine lv_imul hx hb dX9_findPlan_184 ?_
            refine lv_istore (lv' := [(6, .int (x6_511 * a1)), (5, .int (x5_510 ||| (1 <<< ((c_h_counts_13 x7_512.toNatClampNeg) &&& 31)))), (4, .int (x4_509 + 0)), (3, .int y517), (8, .int (c_h_counts_13 x7_512.toNatClampNeg)), (7, .int x7_512), (2, .int x2_353), (0, .ref h), (1, .int a1)]) hx hb dX9_findPlan_185 hl (by decide) rfl (fun ls hl => ?_)
            refine lv_iinc (v := x7_512 + 1) (lv' := [(7, .int (x7_512 + 1)), (6, .int (x6_511 * a1)), (5, .int (x5_510 ||| (1 <<< ((c_h_counts_13 x7_512.toNatClampNeg) &&& 31)))), (4, .int (x4_509 + 0)), (3, .int y517), (8, .int (c_h_counts_13 x7_512.toNatClampNeg)), (2, .int x2_353), (0, .ref h), (1, .int a1)]) hx hb dX9_findPlan_187 hl (k := 5) rfl rfl (by decide) rfl (fun ls hl => ?_)
            refine lv_goto (tgt := 97) hx hb dX9_findPlan_190 (by decide) ?_
            exact hin380 (y517, x4_509 + 0, x5_510 ||| (1 <<< ((c_h_counts_13 x7_512.toNatClampNeg) &&& 31)), x6_511 * a1, x7_512 + 1) (Option.some.inj hX380).symm _ _ _ hP hD hS (lv_sub hl [0, 1, 2, 3, 4, 6, 7, 8] rfl)
          · replace hX380 := k_pos hX380 c519
            refine lv_aload_n hx hb dX9_findPlan_155 rfl (lv_at hl 7 rfl) ?_
            refine k_get (C := RX9) (T := TX9) (N := 19) hx hb hts inX9 hown hK hP 0 rfl rfl 1 (by decide) rfl wl2 rfl dX9_findPlan_156 ?_
            refine lv_bipush (v := 121) hx hb dX9_findPlan_159 (by decide) ?_
            refine lv_iload hx hb dX9_findPlan_161 (lv_at hl 1 rfl) ?_
            refine lv_iadd hx hb dX9_findPlan_163 ?_
            obtain ⟨hi520, hX380⟩ := k_ix_some hX380
            refine k_iald (k := (121 + (c_h_counts_13 x7_512.toNatClampNeg)).toNatClampNeg) hx hb hK hP 1 0 rfl rfl hi520 rfl dX9_findPlan_164 ?_
            refine lv_goto (tgt := 169) hx hb dX9_findPlan_165 (by decide) ?_
            refine lv_iadd hx hb dX9_findPlan_169 ?_
            obtain ⟨y521, ey521, hX380⟩ := k_lt_some hX380
            refine k_topi ey521 ?_
            refine lv_istore (lv' := [(4, .int y521), (3, .int y517), (8, .int (c_h_counts_13 x7_512.toNatClampNeg)), (7, .int x7_512), (6, .int x6_511), (5, .int x5_510), (2, .int x2_353), (0, .ref h), (1, .int a1)]) hx hb dX9_findPlan_170 hl (by decide) rfl (fun ls hl => ?_)
            refine lv_iload hx hb dX9_findPlan_172 (lv_at hl 5 rfl) ?_
            refine lv_iconst (v := 1) hx hb dX9_findPlan_174 (by decide) ?_
            refine lv_iload hx hb dX9_findPlan_175 (lv_at hl 2 rfl) ?_
            refine lv_ishl hx hb dX9_findPlan_177 ?_
            refine lv_ior hx hb dX9_findPlan_178 ?_
            refine lv_istore (lv' := [(5, .int (x5_510 ||| (1 <<< ((c_h_counts_13 x7_512.toNatClampNeg) &&& 31)))), (4, .int y521), (3, .int y517), (8, .int (c_h_counts_13 x7_512.toNatClampNeg)), (7, .int x7_512), (6, .int x6_511), (2, .int x2_353), (0, .ref h), (1, .int a1)]) hx hb dX9_findPlan_179 hl (by decide) rfl (fun ls hl => ?_)
            refine lv_iload hx hb dX9_findPlan_181 (lv_at hl 5 rfl) ?_
            refine lv_iload_n hx hb dX9_findPlan_183 rfl (lv_at hl 8 rfl) ?_
            refine lv_imul hx hb dX9_findPlan_184 ?_
            refine lv_istore (lv' := [(6, .int (x6_511 * a1)), (5, .int (x5_510 ||| (1 <<< ((c_h_counts_13 x7_512.toNatClampNeg) &&& 31)))), (4, .int y521), (3, .int y517), (8, .int (c_h_counts_13 x7_512.toNatClampNeg)), (7, .int x7_512), (2, .int x2_353), (0, .ref h), (1, .int a1)]) hx hb dX9_findPlan_185 hl (by decide) rfl (fun ls hl => ?_)
            refine lv_iinc (v := x7_512 + 1) (lv' := [(7, .int (x7_512 + 1)), (6, .int (x6_511 * a1)), (5, .int (x5_510 ||| (1 <<< ((c_h_counts_13 x7_512.toNatClampNeg) &&& 31)))), (4, .int y521), (3, .int y517), (8, .int (c_h_counts_13 x7_512.toNatClampNeg)), (2, .int x2_353), (0, .ref h), (1, .int a1)]) hx hb dX9_findPlan_187 hl (k := 5) rfl rfl (by decide) rfl (fun ls hl => ?_)
            refine lv_goto (tgt := 97) hx hb dX9_findPlan_190 (by decide) ?_
            exact hin380 (y517, y521, x5_510 ||| (1 <<< ((c_h_counts_13 x7_512.toNatClampNeg) &&& 31)), x6_511 * a1, x7_512 + 1) (Option.some.inj hX380).symm _ _ _ hP hD hS (lv_sub hl [0, 1, 2, 3, 4, 6, 7, 8] rfl)
  refine (k_lp_ind (fun sx12 => ∀ (H : Heap) (locs : List Loc) (ls : Array Slot), va_P D vwCl [(h, .inr (9, [.int v_h_thrown, .ref h_now, .ref h_aside, .int v_h_kept, .ref h_books, .ref h_tide, .ref h_rain, .ref h_rule, .int sx12.2.2, .ref h_counts, .ref h_begins, .ref h_best, .int v_h_bestWorth, .int v_h_bestPitch, .int v_h_bestBits, .int v_h_leastHour, .int v_h_leastSet, .int v_h_shut, .ref h_planks])), (h_now, .inl (cI, 169, .inl f_h_now)), (h_counts, .inl (cI, 5, .inl sx12.2.1)), (h_begins, .inl (cI, 5, .inl f_h_begins)), (h_rain, .inl (cI, 96, .inl f_h_rain)), (h_tide, .inl (cI, 96, .inl f_h_tide)), (h_rule, .inl (cI, 8, .inl f_h_rule)), (h_best, .inl (cI, 5, .inl f_h_best))] H → va_D A [(h, .inr (9, [.int v_h_thrown, .ref h_now, .ref h_aside, .int v_h_kept, .ref h_books, .ref h_tide, .ref h_rain, .ref h_rule, .int sx12.2.2, .ref h_counts, .ref h_begins, .ref h_best, .int v_h_bestWorth, .int v_h_bestPitch, .int v_h_bestBits, .int v_h_leastHour, .int v_h_leastSet, .int v_h_shut, .ref h_planks])), (h_now, .inl (cI, 169, .inl f_h_now)), (h_counts, .inl (cI, 5, .inl sx12.2.1)), (h_begins, .inl (cI, 5, .inl f_h_begins)), (h_rain, .inl (cI, 96, .inl f_h_rain)), (h_tide, .inl (cI, 96, .inl f_h_tide)), (h_rule, .inl (cI, 8, .inl f_h_rule)), (h_best, .inl (cI, 5, .inl f_h_best))] → va_S A s.heap H locs → lv_has ls 12 [(2, .int sx12.1), (0, .ref h), (1, .int a1)] → W p l e rm_X9_findPlan s m args below meth c H locs 0 0 Q (F0 m 7 ls [])) (fun sx12 X12 hX12 hin12 hout12 => ?_) _ _ hlp12) _ _ _ hP hD hS (lv_sub hl [0, 1, 2] rfl)
  obtain ⟨x2_522, c_h_counts_523, c_h_counted_524⟩ := sx12
  intro H locs ls hP hD hS hl
  replace hP : va_P D vwCl [(h, .inr (9, [.int v_h_thrown, .ref h_now, .ref h_aside, .int v_h_kept, .ref h_books, .ref h_tide, .ref h_rain, .ref h_rule, .int c_h_counted_524, .ref h_counts, .ref h_begins, .ref h_best, .int v_h_bestWorth, .int v_h_bestPitch, .int v_h_bestBits, .int v_h_leastHour, .int v_h_leastSet, .int v_h_shut, .ref h_planks])), (h_now, .inl (cI, 169, .inl f_h_now)), (h_counts, .inl (cI, 5, .inl c_h_counts_523)), (h_begins, .inl (cI, 5, .inl f_h_begins)), (h_rain, .inl (cI, 96, .inl f_h_rain)), (h_tide, .inl (cI, 96, .inl f_h_tide)), (h_rule, .inl (cI, 8, .inl f_h_rule)), (h_best, .inl (cI, 5, .inl f_h_best))] H := hP
  replace hD : va_D A [(h, .inr (9, [.int v_h_thrown, .ref h_now, .ref h_aside, .int v_h_kept, .ref h_books, .ref h_tide, .ref h_rain, .ref h_rule, .int c_h_counted_524, .ref h_counts, .ref h_begins, .ref h_best, .int v_h_bestWorth, .int v_h_bestPitch, .int v_h_bestBits, .int v_h_leastHour, .int v_h_leastSet, .int v_h_shut, .ref h_planks])), (h_now, .inl (cI, 169, .inl f_h_now)), (h_counts, .inl (cI, 5, .inl c_h_counts_523)), (h_begins, .inl (cI, 5, .inl f_h_begins)), (h_rain, .inl (cI, 96, .inl f_h_rain)), (h_tide, .inl (cI, 96, .inl f_h_tide)), (h_rule, .inl (cI, 8, .inl f_h_rule)), (h_best, .inl (cI, 5, .inl f_h_best))] := hD
  replace hl : lv_has ls 12 [(2, .int x2_522), (0, .ref h), (1, .int a1)] := hl
  replace hX12 : lb_X9_findPlan_7 f_h_now x2_522 c_h_counts_523 c_h_counted_524 = some X12 := hX12
  unfold lb_X9_findPlan_7 at hX12
  refine lv_iload_n hx hb dX9_findPlan_7 rfl (lv_at hl 0 rfl) ?_
  refine lv_aload_n hx hb dX9_findPlan_8 rfl (lv_at hl 1 rfl) ?_
  refine k_get (C := RX9) (T := TX9) (N := 19) hx hb hts inX9 hown hK hP 0 rfl rfl 1 (by decide) rfl wl2 rfl dX9_findPlan_9 ?_
  refine lv_bipush (v := 12) hx hb dX9_findPlan_12 (by decide) ?_
  refine k_iald (k := 12) hx hb hK hP 1 0 rfl rfl (by unfold vp_in; decide) (by decide) dX9_findPlan_14 ?_
  refine lv_icmp_ge (tgt := 66) hx hb dX9_findPlan_15 (by decide) (fun c525 => ?_) (fun c525 => ?_)
  · replace hX12 := k_pos hX12 c525
    exact hE12 _ _ (hout12 _ (Option.some.inj hX12).symm).symm _ _ _ hP hD hS (lv_sub hl [1, 2] rfl)
  · replace hX12 := k_neg hX12 c525
    refine lv_aload_n hx hb dX9_findPlan_18 rfl (lv_at hl 1 rfl) ?_
    refine k_get (C := RX9) (T := TX9) (N := 19) hx hb hts inX9 hown hK hP 0 rfl rfl 8 (by decide) rfl wl1 rfl dX9_findPlan_19 ?_
    refine lv_iconst (v := 5) hx hb dX9_findPlan_22 (by decide) ?_
    refine lv_icmp_ge (tgt := 60) hx hb dX9_findPlan_23 (by decide) (fun c526 => ?_) (fun c526 => ?_)
    · replace hX12 := k_pos hX12 c526
      refine lv_iinc (v := x2_522 + 1) (lv' := [(2, .int (x2_522 + 1)), (0, .ref h), (1, .int a1)]) hx hb dX9_findPlan_60 hl (k := 0) rfl rfl (by decide) rfl (fun ls hl => ?_)
      refine lv_goto (tgt := 7) hx hb dX9_findPlan_63 (by decide) ?_
      exact hin12 (x2_522 + 1, c_h_counts_523, c_h_counted_524) (Option.some.inj hX12).symm _ _ _ hP hD hS (lv_sub hl [0, 1, 2] rfl)
    · replace hX12 := k_neg hX12 c526
      refine lv_aload_n hx hb dX9_findPlan_26 rfl (lv_at hl 1 rfl) ?_
      refine k_get (C := RX9) (T := TX9) (N := 19) hx hb hts inX9 hown hK hP 0 rfl rfl 1 (by decide) rfl wl2 rfl dX9_findPlan_27 ?_
      refine lv_sipush (v := 145) hx hb dX9_findPlan_30 (by decide) ?_
      refine lv_iload_n hx hb dX9_findPlan_33 rfl (lv_at hl 0 rfl) ?_
      refine lv_iadd hx hb dX9_findPlan_34 ?_
      obtain ⟨hi527, hX12⟩ := k_ix_some hX12
      refine k_iald (k := (145 + x2_522).toNatClampNeg) hx hb hK hP 1 0 rfl rfl hi527 rfl dX9_findPlan_35 ?_
      refine lv_iconst (v := 2) hx hb dX9_findPlan_36 (by decide) ?_
      refine lv_icmp_eq (tgt := 60) hx hb dX9_findPlan_37 (by decide) (fun c528 => ?_) (fun c528 => ?_)
      · replace hX12 := k_pos hX12 c528
        refine lv_iinc (v := x2_522 + 1) (lv' := [(2, .int (x2_522 + 1)), (0, .ref h), (1, .int a1)]) hx hb dX9_findPlan_60 hl (k := 0) rfl rfl (by decide) rfl (fun ls hl => ?_)
        refine lv_goto (tgt := 7) hx hb dX9_findPlan_63 (by decide) ?_
        exact hin12 (x2_522 + 1, c_h_counts_523, c_h_counted_524) (Option.some.inj hX12).symm _ _ _ hP hD hS (lv_sub hl [0, 1, 2] rfl)
      · replace hX12 := k_neg hX12 c528
        refine lv_aload_n hx hb dX9_findPlan_40 rfl (lv_at hl 1 rfl) ?_
        refine k_get (C := RX9) (T := TX9) (N := 19) hx hb hts inX9 hown hK hP 0 rfl rfl 9 (by decide) rfl wl3 rfl dX9_findPlan_41 ?_
        refine lv_aload_n hx hb dX9_findPlan_44 rfl (lv_at hl 1 rfl) ?_
        refine k_get (C := RX9) (T := TX9) (N := 19) hx hb hts inX9 hown hK hP 0 rfl rfl 8 (by decide) rfl wl1 rfl dX9_findPlan_45 ?_
        refine lv_iload_n hx hb dX9_findPlan_48 rfl (lv_at hl 0 rfl) ?_
        obtain ⟨hi529, hX12⟩ := k_ix_some hX12
        refine k_iast (ws2 := [(h, .inr (9, [.int v_h_thrown, .ref h_now, .ref h_aside, .int v_h_kept, .ref h_books, .ref h_tide, .ref h_rain, .ref h_rule, .int c_h_counted_524, .ref h_counts, .ref h_begins, .ref h_best, .int v_h_bestWorth, .int v_h_bestPitch, .int v_h_bestBits, .int v_h_leastHour, .int v_h_leastSet, .int v_h_shut, .ref h_planks])), (h_now, .inl (cI, 169, .inl f_h_now)), (h_counts, .inl (cI, 5, .inl (upd c_h_counts_523 c_h_counted_524.toNatClampNeg x2_522))), (h_begins, .inl (cI, 5, .inl f_h_begins)), (h_rain, .inl (cI, 96, .inl f_h_rain)), (h_tide, .inl (cI, 96, .inl f_h_tide)), (h_rule, .inl (cI, 8, .inl f_h_rule)), (h_best, .inl (cI, 5, .inl f_h_best))]) (k := c_h_counted_524.toNatClampNeg) hx hb hK hP hD hS 2 0 rfl rfl hi529 rfl rfl dX9_findPlan_49 (fun H locs hP hD hS => ?_)
        refine lv_aload_n hx hb dX9_findPlan_50 rfl (lv_at hl 1 rfl) ?_
        refine lv_dup hx hb dX9_findPlan_51 rfl ?_
        refine k_get (C := RX9) (T := TX9) (N := 19) hx hb hts inX9 hown hK hP 0 rfl rfl 8 (by decide) rfl wl1 rfl dX9_findPlan_52 ?_
        refine lv_iconst (v := 1) hx hb dX9_findPlan_55 (by decide) ?_
        refine lv_iadd hx hb dX9_findPlan_56 ?_
        refine k_putf (ws2 := [(h, .inr (9, [.int v_h_thrown, .ref h_now, .ref h_aside, .int v_h_kept, .ref h_books, .ref h_tide, .ref h_rain, .ref h_rule, .int (c_h_counted_524 + 1), .ref h_counts, .ref h_begins, .ref h_best, .int v_h_bestWorth, .int v_h_bestPitch, .int v_h_bestBits, .int v_h_leastHour, .int v_h_leastSet, .int v_h_shut, .ref h_planks])), (h_now, .inl (cI, 169, .inl f_h_now)), (h_counts, .inl (cI, 5, .inl (upd c_h_counts_523 c_h_counted_524.toNatClampNeg x2_522))), (h_begins, .inl (cI, 5, .inl f_h_begins)), (h_rain, .inl (cI, 96, .inl f_h_rain)), (h_tide, .inl (cI, 96, .inl f_h_tide)), (h_rule, .inl (cI, 8, .inl f_h_rule)), (h_best, .inl (cI, 5, .inl f_h_best))]) (C := RX9) (T := TX9) (N := 19) hx hb hts inX9 tyX9 tyX9_ok nmX9 hown hK hP hD hS 0 rfl rfl 8 (by decide) rfl wl1 rfl rfl rfl (Nat.le_of_ble_eq_true rfl) rfl dX9_findPlan_57 (fun H locs hP hD hS => ?_)
        refine lv_iinc (v := x2_522 + 1) (lv' := [(2, .int (x2_522 + 1)), (0, .ref h), (1, .int a1)]) hx hb dX9_findPlan_60 hl (k := 0) rfl rfl (by decide) rfl (fun ls hl => ?_)
        refine lv_goto (tgt := 7) hx hb dX9_findPlan_63 (by decide) ?_
        exact hin12 (x2_522 + 1, upd c_h_counts_523 c_h_counted_524.toNatClampNeg x2_522, c_h_counted_524 + 1) (Option.some.inj hX12).symm _ _ _ hP hD hS (lv_sub hl [0, 1, 2] rfl)

def lb_X9_plan_105 (w_h_counted_8 : Int32) (w_h_counts_12 : Nat → Int32) (a2 : Int32) (w_h_best_14 : Nat → Int32) (x3_29 : Int32) (x4_30 : Int32) : Option ((Int32 × Int32) ⊕ (Int32)) :=
  if w_h_counted_8 ≤ x4_30 then
    some (.inr x3_29)
  else
    k_ix x4_30 5 (
      if (w_h_counts_12 x4_30.toNatClampNeg) = (a2 - 3) then
        k_ix x4_30 5 (
          if (w_h_best_14 x4_30.toNatClampNeg) < 0 then
            some (.inl (x3_29, x4_30 + 1))
          else
            k_ix x4_30 5 (
              some (.inl (w_h_best_14 x4_30.toNatClampNeg, x4_30 + 1))))
      else
        some (.inl (x3_29, x4_30 + 1)))
def p_X9_plan (v_h_counted : Int32) (v_h_bestWorth : Int32) (v_h_bestPitch : Int32) (v_h_bestBits : Int32) (f_h_now : Nat → Int32) (f_h_counts : Nat → Int32) (f_h_begins : Nat → Int32) (f_h_rain : Nat → Int32) (f_h_tide : Nat → Int32) (f_h_rule : Nat → Int32) (f_h_best : Nat → Int32) (a1 : Int32) (a2 : Int32) : Option (Int32 × Int32 × Int32 × Int32 × Int32 × Int32 × (Nat → Int32) × (Nat → Int32) × (Nat → Int32)) :=
  k_b1 (p_X9_in ((a1).toInt64) 1 6) fun r1 =>
  if r1 = 0 then
    some ((-1), 0, v_h_counted, v_h_bestWorth, v_h_bestPitch, v_h_bestBits, f_h_counts, f_h_begins, f_h_best)
  else
    k_b1 (p_X9_in ((a2).toInt64) 0 ((2 + (f_h_now 12)).toInt64)) fun r3 =>
    if r3 = 0 then
      some ((-1), 0, v_h_counted, v_h_bestWorth, v_h_bestPitch, v_h_bestBits, f_h_counts, f_h_begins, f_h_best)
    else
      k_b1 (p_X9_isLost f_h_now) fun r5 =>
      if r5 = 0 then
        if ((f_h_now 0) + a1) ≤ 96 then
          k_b7 (p_X9_findPlan v_h_bestPitch v_h_bestBits f_h_now f_h_counts f_h_begins f_h_rain f_h_tide f_h_rule f_h_best a1) fun w_h_counted_8 w_h_bestWorth_9 w_h_bestPitch_10 w_h_bestBits_11 w_h_counts_12 w_h_begins_13 w_h_best_14 =>
          if 3 ≤ a2 then
            k_b1 (k_lp (fun s => lb_X9_plan_105 w_h_counted_8 w_h_counts_12 a2 w_h_best_14 s.1 s.2) k_fuel ((-4), 0)) fun x3_28 =>
            some (x3_28, 0, w_h_counted_8, w_h_bestWorth_9, w_h_bestPitch_10, w_h_bestBits_11, w_h_counts_12, w_h_begins_13, w_h_best_14)
          else
            if a2 = 0 then
              some (w_h_bestWorth_9, 0, w_h_counted_8, w_h_bestWorth_9, w_h_bestPitch_10, w_h_bestBits_11, w_h_counts_12, w_h_begins_13, w_h_best_14)
            else
              if a2 = 1 then
                some (w_h_bestPitch_10, 0, w_h_counted_8, w_h_bestWorth_9, w_h_bestPitch_10, w_h_bestBits_11, w_h_counts_12, w_h_begins_13, w_h_best_14)
              else
                some (w_h_bestBits_11, 0, w_h_counted_8, w_h_bestWorth_9, w_h_bestPitch_10, w_h_bestBits_11, w_h_counts_12, w_h_begins_13, w_h_best_14)
        else
          some ((-2), 0, v_h_counted, v_h_bestWorth, v_h_bestPitch, v_h_bestBits, f_h_counts, f_h_begins, f_h_best)
      else
        some ((-2), 0, v_h_counted, v_h_bestWorth, v_h_bestPitch, v_h_bestBits, f_h_counts, f_h_begins, f_h_best)
abbrev rm_X9_plan : Room := { frames := 4, cells := 0, slots := 0, locals := 101 }
theorem hdS_X9_plan : yX9_plan.cls ≠ "java/lang/invoke/MethodHandle" ∧ yX9_plan.cls ≠ "java/lang/invoke/VarHandle" ∧ (parseMethodDescriptor yX9_plan.desc).map (fun d => d.parameters.length) = some 2 := by decide +kernel
theorem hdV_X9_plan : yX9_plan.cls = RX9 ∧ yX9_plan.cls ≠ "java/lang/invoke/MethodHandle" ∧ yX9_plan.cls ≠ "java/lang/invoke/VarHandle" ∧ (parseMethodDescriptor yX9_plan.desc).map (fun d => d.parameters.length) = some 2 := by decide +kernel
set_option maxHeartbeats 4000000 in
set_option maxRecDepth 100000 in
theorem c_X9_plan (l : Launch) (D : va_G) (cI cZ cJ cS : ClassId) (h h_now h_aside h_books h_tide h_rain h_rule h_counts h_begins h_best h_planks : Nat) (v_h_thrown : Int32) (v_h_kept : Int32) (v_h_counted : Int32) (v_h_bestWorth : Int32) (v_h_bestPitch : Int32) (v_h_bestBits : Int32) (v_h_leastHour : Int32) (v_h_leastSet : Int32) (v_h_shut : Int32) (f_h_now : Nat → Int32) (f_h_counts : Nat → Int32) (f_h_begins : Nat → Int32) (f_h_rain : Nat → Int32) (f_h_tide : Nat → Int32) (f_h_rule : Nat → Int32) (f_h_best : Nat → Int32) (a1 : Int32) (a2 : Int32) (r : Int32) (v_h_thrown' : Int32) (v_h_counted' : Int32) (v_h_bestWorth' : Int32) (v_h_bestPitch' : Int32) (v_h_bestBits' : Int32) (f_h_counts' : Nat → Int32) (f_h_begins' : Nat → Int32) (f_h_best' : Nat → Int32) (hf : p_X9_plan v_h_counted v_h_bestWorth v_h_bestPitch v_h_bestBits f_h_now f_h_counts f_h_begins f_h_rain f_h_tide f_h_rule f_h_best a1 a2 = some (r, v_h_thrown', v_h_counted', v_h_bestWorth', v_h_bestPitch', v_h_bestBits', f_h_counts', f_h_begins', f_h_best')) : k_MI l yX9_plan wsX9_plan rm_X9_plan D (k_tys cI cZ cJ cS) [.ref h, .int a1, .int a2] [(h, .inr (9, [.int v_h_thrown, .ref h_now, .ref h_aside, .int v_h_kept, .ref h_books, .ref h_tide, .ref h_rain, .ref h_rule, .int v_h_counted, .ref h_counts, .ref h_begins, .ref h_best, .int v_h_bestWorth, .int v_h_bestPitch, .int v_h_bestBits, .int v_h_leastHour, .int v_h_leastSet, .int v_h_shut, .ref h_planks])), (h_now, .inl (cI, 169, .inl f_h_now)), (h_counts, .inl (cI, 5, .inl f_h_counts)), (h_begins, .inl (cI, 5, .inl f_h_begins)), (h_rain, .inl (cI, 96, .inl f_h_rain)), (h_tide, .inl (cI, 96, .inl f_h_tide)), (h_rule, .inl (cI, 8, .inl f_h_rule)), (h_best, .inl (cI, 5, .inl f_h_best))] [(h, .inr (9, [.int v_h_thrown', .ref h_now, .ref h_aside, .int v_h_kept, .ref h_books, .ref h_tide, .ref h_rain, .ref h_rule, .int v_h_counted', .ref h_counts, .ref h_begins, .ref h_best, .int v_h_bestWorth', .int v_h_bestPitch', .int v_h_bestBits', .int v_h_leastHour, .int v_h_leastSet, .int v_h_shut, .ref h_planks])), (h_now, .inl (cI, 169, .inl f_h_now)), (h_counts, .inl (cI, 5, .inl f_h_counts')), (h_begins, .inl (cI, 5, .inl f_h_begins')), (h_rain, .inl (cI, 96, .inl f_h_rain)), (h_tide, .inl (cI, 96, .inl f_h_tide)), (h_rule, .inl (cI, 8, .inl f_h_rule)), (h_best, .inl (cI, 5, .inl f_h_best'))] r := by
  refine k_enter (y := yX9_plan) (wl := wsX9_plan) (rm := rm_X9_plan) (av := [.ref h, .int a1, .int a2]) (D := D) (tys := k_tys cI cZ cJ cS) (ws := [(h, .inr (9, [.int v_h_thrown, .ref h_now, .ref h_aside, .int v_h_kept, .ref h_books, .ref h_tide, .ref h_rain, .ref h_rule, .int v_h_counted, .ref h_counts, .ref h_begins, .ref h_best, .int v_h_bestWorth, .int v_h_bestPitch, .int v_h_bestBits, .int v_h_leastHour, .int v_h_leastSet, .int v_h_shut, .ref h_planks])), (h_now, .inl (cI, 169, .inl f_h_now)), (h_counts, .inl (cI, 5, .inl f_h_counts)), (h_begins, .inl (cI, 5, .inl f_h_begins)), (h_rain, .inl (cI, 96, .inl f_h_rain)), (h_tide, .inl (cI, 96, .inl f_h_tide)), (h_rule, .inl (cI, 8, .inl f_h_rule)), (h_best, .inl (cI, 5, .inl f_h_best))]) (cc := cX9_plan) (maxL := 5) (ret := (some .int)) (Qc := fun A => k_Qi D (k_tys cI cZ cJ cS) [(h, .inr (9, [.int v_h_thrown', .ref h_now, .ref h_aside, .int v_h_kept, .ref h_books, .ref h_tide, .ref h_rain, .ref h_rule, .int v_h_counted', .ref h_counts, .ref h_begins, .ref h_best, .int v_h_bestWorth', .int v_h_bestPitch', .int v_h_bestBits', .int v_h_leastHour, .int v_h_leastSet, .int v_h_shut, .ref h_planks])), (h_now, .inl (cI, 169, .inl f_h_now)), (h_counts, .inl (cI, 5, .inl f_h_counts')), (h_begins, .inl (cI, 5, .inl f_h_begins')), (h_rain, .inl (cI, 96, .inl f_h_rain)), (h_tide, .inl (cI, 96, .inl f_h_tide)), (h_rule, .inl (cI, 8, .inl f_h_rule)), (h_best, .inl (cI, 5, .inl f_h_best'))] A r) (by decide) rfl (Nat.le_of_ble_eq_true rfl) [(0, .ref h), (1, .int a1), (2, .int a2)] rfl ?_
  intro p e s m below meth c A hx hb hml hr hlocks hnm hown hK hP hD hA hS hN ls args Q hts hl hQ
  replace hown : s.vm.findClass RX9 = some m.cls := hown
  have S0 : CallFix p m c cX9_plan 5 s args wsX9_plan RX9 := ⟨hx, hb, hml, hown, hts⟩
  have inX9 : ∀ w ∈ u_ws RX9 TX9 19, w ∈ wsX9_plan := fun w h => List.mem_cons_of_mem _ (List.mem_append_right _ h)
  have wl1 : (Cond.fieldLink RX9 1 "BeachedShipModel" "thrown" "I").before args s = true := hts _ (List.mem_of_getElem? (i := 1) rfl)
  have wl2 : (Cond.constantLong RX9 68 (6)).before args s = true := hts _ (List.mem_of_getElem? (i := 2) rfl)
  have wl3 : (Cond.fieldLink RX9 13 "BeachedShipModel" "now" "[I").before args s = true := hts _ (List.mem_of_getElem? (i := 3) rfl)
  have wl7 : (Cond.fieldLink RX9 144 "BeachedShipModel" "counted" "I").before args s = true := hts _ (List.mem_of_getElem? (i := 7) rfl)
  have wl8 : (Cond.fieldLink RX9 32 "BeachedShipModel" "counts" "[I").before args s = true := hts _ (List.mem_of_getElem? (i := 8) rfl)
  have wl9 : (Cond.fieldLink RX9 38 "BeachedShipModel" "best" "[I").before args s = true := hts _ (List.mem_of_getElem? (i := 9) rfl)
  have wl6 : (Cond.fieldLink RX9 156 "BeachedShipModel" "bestBits" "I").before args s = true := hts _ (List.mem_of_getElem? (i := 6) rfl)
  have wl5 : (Cond.fieldLink RX9 153 "BeachedShipModel" "bestPitch" "I").before args s = true := hts _ (List.mem_of_getElem? (i := 5) rfl)
  have wl4 : (Cond.fieldLink RX9 150 "BeachedShipModel" "bestWorth" "I").before args s = true := hts _ (List.mem_of_getElem? (i := 4) rfl)
  have hRet : ∀ (r_z : Int32) (v_h_thrown_z : Int32) (v_h_counted_z : Int32) (v_h_bestWorth_z : Int32) (v_h_bestPitch_z : Int32) (v_h_bestBits_z : Int32) (f_h_counts_z : Nat → Int32) (f_h_begins_z : Nat → Int32) (f_h_best_z : Nat → Int32), some (r_z, v_h_thrown_z, v_h_counted_z, v_h_bestWorth_z, v_h_bestPitch_z, v_h_bestBits_z, f_h_counts_z, f_h_begins_z, f_h_best_z) = some (r, v_h_thrown', v_h_counted', v_h_bestWorth', v_h_bestPitch', v_h_bestBits', f_h_counts', f_h_begins', f_h_best') → ∀ (H : Heap) (locs : List Loc) (ls : Array Slot) (pc : Nat), va_P D vwCl [(h, .inr (9, [.int v_h_thrown_z, .ref h_now, .ref h_aside, .int v_h_kept, .ref h_books, .ref h_tide, .ref h_rain, .ref h_rule, .int v_h_counted_z, .ref h_counts, .ref h_begins, .ref h_best, .int v_h_bestWorth_z, .int v_h_bestPitch_z, .int v_h_bestBits_z, .int v_h_leastHour, .int v_h_leastSet, .int v_h_shut, .ref h_planks])), (h_now, .inl (cI, 169, .inl f_h_now)), (h_counts, .inl (cI, 5, .inl f_h_counts_z)), (h_begins, .inl (cI, 5, .inl f_h_begins_z)), (h_rain, .inl (cI, 96, .inl f_h_rain)), (h_tide, .inl (cI, 96, .inl f_h_tide)), (h_rule, .inl (cI, 8, .inl f_h_rule)), (h_best, .inl (cI, 5, .inl f_h_best_z))] H → va_D A [(h, .inr (9, [.int v_h_thrown_z, .ref h_now, .ref h_aside, .int v_h_kept, .ref h_books, .ref h_tide, .ref h_rain, .ref h_rule, .int v_h_counted_z, .ref h_counts, .ref h_begins, .ref h_best, .int v_h_bestWorth_z, .int v_h_bestPitch_z, .int v_h_bestBits_z, .int v_h_leastHour, .int v_h_leastSet, .int v_h_shut, .ref h_planks])), (h_now, .inl (cI, 169, .inl f_h_now)), (h_counts, .inl (cI, 5, .inl f_h_counts_z)), (h_begins, .inl (cI, 5, .inl f_h_begins_z)), (h_rain, .inl (cI, 96, .inl f_h_rain)), (h_tide, .inl (cI, 96, .inl f_h_tide)), (h_rule, .inl (cI, 8, .inl f_h_rule)), (h_best, .inl (cI, 5, .inl f_h_best_z))] → va_S A s.heap H locs → narrow .int (.int r_z) = .int r_z → decode cX9_plan pc = .ok (.ireturn, 1) → W p l e rm_X9_plan s m args below meth c H locs 0 0 Q (F0 m pc ls [.int r_z]) := by
    intro r_z v_h_thrown_z v_h_counted_z v_h_bestWorth_z v_h_bestPitch_z v_h_bestBits_z f_h_counts_z f_h_begins_z f_h_best_z hz H locs ls pc hP hD hS hn hd
    cases hz
    exact k_iret hx hb hr hlocks hn hK hP hD hS hQ rfl hd
  unfold p_X9_plan at hf
  refine lv_aload_n hx hb dX9_plan_0 rfl (lv_at hl 0 rfl) ?_
  refine lv_iconst (v := 0) hx hb dX9_plan_1 (by decide) ?_
  refine k_putf (ws2 := [(h, .inr (9, [.int 0, .ref h_now, .ref h_aside, .int v_h_kept, .ref h_books, .ref h_tide, .ref h_rain, .ref h_rule, .int v_h_counted, .ref h_counts, .ref h_begins, .ref h_best, .int v_h_bestWorth, .int v_h_bestPitch, .int v_h_bestBits, .int v_h_leastHour, .int v_h_leastSet, .int v_h_shut, .ref h_planks])), (h_now, .inl (cI, 169, .inl f_h_now)), (h_counts, .inl (cI, 5, .inl f_h_counts)), (h_begins, .inl (cI, 5, .inl f_h_begins)), (h_rain, .inl (cI, 96, .inl f_h_rain)), (h_tide, .inl (cI, 96, .inl f_h_tide)), (h_rule, .inl (cI, 8, .inl f_h_rule)), (h_best, .inl (cI, 5, .inl f_h_best))]) (C := RX9) (T := TX9) (N := 19) hx hb hts inX9 tyX9 tyX9_ok nmX9 hown hK hP hD hS 0 rfl rfl 0 (by decide) rfl wl1 rfl rfl rfl (Nat.le_of_ble_eq_true rfl) rfl dX9_plan_2 (fun H locs hP hD hS => ?_)
  refine lv_iload_n hx hb dX9_plan_5 rfl (lv_at hl 1 rfl) ?_
  refine lv_i2l (v := (a1).toInt64) hx hb dX9_plan_6 rfl ?_
  refine lv_lconst (v := 1) hx hb dX9_plan_7 (by decide) ?_
  refine lv_ldc2 hx hb hown wl2 dX9_plan_8 ?_
  obtain ⟨r1, hc1, hf⟩ := k_b1_some hf
  refine k_SiR (As := [.long ((a1).toInt64), .long 1, .long 6]) (rest := []) S0 (c_X9_in l D cI cZ cJ cS ((a1).toInt64) 1 6 r1 hc1) (va_cwS 3 hts gX9_plan_X9_in rfl rfl rfl hdS_X9_in ⟨Nat.le_of_ble_eq_true rfl, Nat.le_of_ble_eq_true rfl⟩) hK hP hD hS hA hN [] rfl (by decide) rfl hl.1 rfl (Nat.le_of_ble_eq_true rfl) dX9_plan_11 (fun H locs hP hS => ?_)
  refine lv_if_eq (tgt := 36) hx hb dX9_plan_14 (by decide) (fun c2 => ?_) (fun c2 => ?_)
  · replace hf := k_pos hf c2
    refine lv_iconst (v := (-1)) hx hb dX9_plan_36 (by decide) ?_
    exact hRet _ _ _ _ _ _ _ _ _ hf _ _ _ _ hP hD hS rfl dX9_plan_37
  · replace hf := k_neg hf c2
    refine lv_iload_n hx hb dX9_plan_17 rfl (lv_at hl 2 rfl) ?_
    refine lv_i2l (v := (a2).toInt64) hx hb dX9_plan_18 rfl ?_
    refine lv_lconst (v := 0) hx hb dX9_plan_19 (by decide) ?_
    refine lv_iconst (v := 2) hx hb dX9_plan_20 (by decide) ?_
    refine lv_aload_n hx hb dX9_plan_21 rfl (lv_at hl 0 rfl) ?_
    refine k_get (C := RX9) (T := TX9) (N := 19) hx hb hts inX9 hown hK hP 0 rfl rfl 1 (by decide) rfl wl3 rfl dX9_plan_22 ?_
    refine lv_bipush (v := 12) hx hb dX9_plan_25 (by decide) ?_
    refine k_iald (k := 12) hx hb hK hP 1 0 rfl rfl (by unfold vp_in; decide) (by decide) dX9_plan_27 ?_
    refine lv_iadd hx hb dX9_plan_28 ?_
    refine lv_i2l (v := (2 + (f_h_now 12)).toInt64) hx hb dX9_plan_29 rfl ?_
    obtain ⟨r3, hc3, hf⟩ := k_b1_some hf
    refine k_SiR (As := [.long ((a2).toInt64), .long 0, .long ((2 + (f_h_now 12)).toInt64)]) (rest := []) S0 (c_X9_in l D cI cZ cJ cS ((a2).toInt64) 0 ((2 + (f_h_now 12)).toInt64) r3 hc3) (va_cwS 3 hts gX9_plan_X9_in rfl rfl rfl hdS_X9_in ⟨Nat.le_of_ble_eq_true rfl, Nat.le_of_ble_eq_true rfl⟩) hK hP hD hS hA hN [] rfl (by decide) rfl hl.1 rfl (Nat.le_of_ble_eq_true rfl) dX9_plan_30 (fun H locs hP hS => ?_)
    refine lv_if_ne (tgt := 38) hx hb dX9_plan_33 (by decide) (fun c4 => ?_) (fun c4 => ?_)
    · replace hf := k_neg hf c4
      refine lv_aload_n hx hb dX9_plan_38 rfl (lv_at hl 0 rfl) ?_
      obtain ⟨r5, hc5, hf⟩ := k_b1_some hf
      refine k_ViR (q0 := 0) (As := []) (rest := []) S0 (c_X9_isLost l D cI cZ cJ cS h h_now h_aside h_books h_tide h_rain h_rule h_counts h_begins h_best h_planks 0 v_h_kept v_h_counted v_h_bestWorth v_h_bestPitch v_h_bestBits v_h_leastHour v_h_leastSet v_h_shut f_h_now r5 hc5) (cwV 0 hts gX9_plan_X9_isLost rfl rfl rfl hdV_X9_isLost ⟨Nat.le_of_ble_eq_true rfl, Nat.le_of_ble_eq_true rfl⟩) hK hP hD hS hA hN [0, 1] rfl (by decide) rfl rfl rfl rfl hl.1 rfl (Nat.le_of_ble_eq_true rfl) dX9_plan_39 (fun H locs hP hS => ?_)
      refine lv_if_ne (tgt := 58) hx hb dX9_plan_42 (by decide) (fun c6 => ?_) (fun c6 => ?_)
      · replace hf := k_neg hf c6
        refine lv_bipush (v := (-2)) hx hb dX9_plan_58 (by decide) ?_
        exact hRet _ _ _ _ _ _ _ _ _ hf _ _ _ _ hP hD hS rfl dX9_plan_60
      · replace hf := k_pos hf c6
        refine lv_aload_n hx hb dX9_plan_45 rfl (lv_at hl 0 rfl) ?_
        refine k_get (C := RX9) (T := TX9) (N := 19) hx hb hts inX9 hown hK hP 0 rfl rfl 1 (by decide) rfl wl3 rfl dX9_plan_46 ?_
        refine lv_iconst (v := 0) hx hb dX9_plan_49 (by decide) ?_
        refine k_iald (k := 0) hx hb hK hP 1 0 rfl rfl (by unfold vp_in; decide) (by decide) dX9_plan_50 ?_
        refine lv_iload_n hx hb dX9_plan_51 rfl (lv_at hl 1 rfl) ?_
        refine lv_iadd hx hb dX9_plan_52 ?_
        refine lv_bipush (v := 96) hx hb dX9_plan_53 (by decide) ?_
        refine lv_icmp_le (tgt := 61) hx hb dX9_plan_55 (by decide) (fun c7 => ?_) (fun c7 => ?_)
        · replace hf := k_pos hf c7
          refine lv_aload_n hx hb dX9_plan_61 rfl (lv_at hl 0 rfl) ?_
          refine lv_iload_n hx hb dX9_plan_62 rfl (lv_at hl 1 rfl) ?_
          obtain ⟨w_h_counted_8, w_h_bestWorth_9, w_h_bestPitch_10, w_h_bestBits_11, w_h_counts_12, w_h_begins_13, w_h_best_14, hc14, hf⟩ := k_b7_some hf
          refine k_Vv (ws2 := [(h, .inr (9, [.int 0, .ref h_now, .ref h_aside, .int v_h_kept, .ref h_books, .ref h_tide, .ref h_rain, .ref h_rule, .int w_h_counted_8, .ref h_counts, .ref h_begins, .ref h_best, .int w_h_bestWorth_9, .int w_h_bestPitch_10, .int w_h_bestBits_11, .int v_h_leastHour, .int v_h_leastSet, .int v_h_shut, .ref h_planks])), (h_now, .inl (cI, 169, .inl f_h_now)), (h_counts, .inl (cI, 5, .inl w_h_counts_12)), (h_begins, .inl (cI, 5, .inl w_h_begins_13)), (h_rain, .inl (cI, 96, .inl f_h_rain)), (h_tide, .inl (cI, 96, .inl f_h_tide)), (h_rule, .inl (cI, 8, .inl f_h_rule)), (h_best, .inl (cI, 5, .inl w_h_best_14))]) (q0 := 0) (As := [.int a1]) (rest := []) S0 (c_X9_findPlan l D cI cZ cJ cS h h_now h_aside h_books h_tide h_rain h_rule h_counts h_begins h_best h_planks 0 v_h_kept v_h_counted v_h_bestWorth v_h_bestPitch v_h_bestBits v_h_leastHour v_h_leastSet v_h_shut f_h_now f_h_counts f_h_begins f_h_rain f_h_tide f_h_rule f_h_best a1 w_h_counted_8 w_h_bestWorth_9 w_h_bestPitch_10 w_h_bestBits_11 w_h_counts_12 w_h_begins_13 w_h_best_14 hc14) (cwV 1 hts gX9_plan_X9_findPlan rfl rfl rfl hdV_X9_findPlan ⟨Nat.le_of_ble_eq_true rfl, Nat.le_of_ble_eq_true rfl⟩) hK hP hD hS hA hN [0, 1, 2, 3, 4, 5, 6, 7] rfl (by decide) rfl rfl rfl rfl hl.1 rfl (Nat.le_of_ble_eq_true rfl) rfl rfl rfl dX9_plan_63 (fun H locs hP hD hS => ?_)
          refine lv_iload_n hx hb dX9_plan_66 rfl (lv_at hl 2 rfl) ?_
          refine lv_iconst (v := 3) hx hb dX9_plan_67 (by decide) ?_
          refine lv_icmp_ge (tgt := 99) hx hb dX9_plan_68 (by decide) (fun c15 => ?_) (fun c15 => ?_)
          · replace hf := k_pos hf c15
            refine lv_bipush (v := (-4)) hx hb dX9_plan_99 (by decide) ?_
            refine lv_istore_n (lv' := [(3, .int (-4)), (0, .ref h), (1, .int a1), (2, .int a2)]) hx hb dX9_plan_101 rfl hl (by decide) rfl (fun ls hl => ?_)
            refine lv_iconst (v := 0) hx hb dX9_plan_102 (by decide) ?_
            refine lv_istore (lv' := [(4, .int 0), (3, .int (-4)), (0, .ref h), (1, .int a1), (2, .int a2)]) hx hb dX9_plan_103 hl (by decide) rfl (fun ls hl => ?_)
            obtain ⟨ee27, hlp27, hfr27⟩ := k_b1_ee hf
            have hE27 : ∀ (x3_28 : Int32), ee27 = x3_28 → ∀ (H : Heap) (locs : List Loc) (ls : Array Slot), va_P D vwCl [(h, .inr (9, [.int 0, .ref h_now, .ref h_aside, .int v_h_kept, .ref h_books, .ref h_tide, .ref h_rain, .ref h_rule, .int w_h_counted_8, .ref h_counts, .ref h_begins, .ref h_best, .int w_h_bestWorth_9, .int w_h_bestPitch_10, .int w_h_bestBits_11, .int v_h_leastHour, .int v_h_leastSet, .int v_h_shut, .ref h_planks])), (h_now, .inl (cI, 169, .inl f_h_now)), (h_counts, .inl (cI, 5, .inl w_h_counts_12)), (h_begins, .inl (cI, 5, .inl w_h_begins_13)), (h_rain, .inl (cI, 96, .inl f_h_rain)), (h_tide, .inl (cI, 96, .inl f_h_tide)), (h_rule, .inl (cI, 8, .inl f_h_rule)), (h_best, .inl (cI, 5, .inl w_h_best_14))] H → va_D A [(h, .inr (9, [.int 0, .ref h_now, .ref h_aside, .int v_h_kept, .ref h_books, .ref h_tide, .ref h_rain, .ref h_rule, .int w_h_counted_8, .ref h_counts, .ref h_begins, .ref h_best, .int w_h_bestWorth_9, .int w_h_bestPitch_10, .int w_h_bestBits_11, .int v_h_leastHour, .int v_h_leastSet, .int v_h_shut, .ref h_planks])), (h_now, .inl (cI, 169, .inl f_h_now)), (h_counts, .inl (cI, 5, .inl w_h_counts_12)), (h_begins, .inl (cI, 5, .inl w_h_begins_13)), (h_rain, .inl (cI, 96, .inl f_h_rain)), (h_tide, .inl (cI, 96, .inl f_h_tide)), (h_rule, .inl (cI, 8, .inl f_h_rule)), (h_best, .inl (cI, 5, .inl w_h_best_14))] → va_S A s.heap H locs → lv_has ls 5 [(3, .int x3_28)] → W p l e rm_X9_plan s m args below meth c H locs 0 0 Q (F0 m 155 ls []) := by
              intro x3_28 he H locs ls hP hD hS hl
              replace hf := hfr27 x3_28 he
              refine lv_iload_n hx hb dX9_plan_155 rfl (lv_at hl 0 rfl) ?_
              exact hRet _ _ _ _ _ _ _ _ _ hf _ _ _ _ hP hD hS rfl dX9_plan_156
            refine (k_lp_ind (fun sx27 => ∀ (H : Heap) (locs : List Loc) (ls : Array Slot), va_P D vwCl [(h, .inr (9, [.int 0, .ref h_now, .ref h_aside, .int v_h_kept, .ref h_books, .ref h_tide, .ref h_rain, .ref h_rule, .int w_h_counted_8, .ref h_counts, .ref h_begins, .ref h_best, .int w_h_bestWorth_9, .int w_h_bestPitch_10, .int w_h_bestBits_11, .int v_h_leastHour, .int v_h_leastSet, .int v_h_shut, .ref h_planks])), (h_now, .inl (cI, 169, .inl f_h_now)), (h_counts, .inl (cI, 5, .inl w_h_counts_12)), (h_begins, .inl (cI, 5, .inl w_h_begins_13)), (h_rain, .inl (cI, 96, .inl f_h_rain)), (h_tide, .inl (cI, 96, .inl f_h_tide)), (h_rule, .inl (cI, 8, .inl f_h_rule)), (h_best, .inl (cI, 5, .inl w_h_best_14))] H → va_D A [(h, .inr (9, [.int 0, .ref h_now, .ref h_aside, .int v_h_kept, .ref h_books, .ref h_tide, .ref h_rain, .ref h_rule, .int w_h_counted_8, .ref h_counts, .ref h_begins, .ref h_best, .int w_h_bestWorth_9, .int w_h_bestPitch_10, .int w_h_bestBits_11, .int v_h_leastHour, .int v_h_leastSet, .int v_h_shut, .ref h_planks])), (h_now, .inl (cI, 169, .inl f_h_now)), (h_counts, .inl (cI, 5, .inl w_h_counts_12)), (h_begins, .inl (cI, 5, .inl w_h_begins_13)), (h_rain, .inl (cI, 96, .inl f_h_rain)), (h_tide, .inl (cI, 96, .inl f_h_tide)), (h_rule, .inl (cI, 8, .inl f_h_rule)), (h_best, .inl (cI, 5, .inl w_h_best_14))] → va_S A s.heap H locs → lv_has ls 5 [(4, .int sx27.2), (3, .int sx27.1), (0, .ref h), (2, .int a2)] → W p l e rm_X9_plan s m args below meth c H locs 0 0 Q (F0 m 105 ls [])) (fun sx27 X27 hX27 hin27 hout27 => ?_) _ _ hlp27) _ _ _ hP hD hS (lv_sub hl [0, 1, 2, 4] rfl)
            obtain ⟨x3_29, x4_30⟩ := sx27
            intro H locs ls hP hD hS hl
            replace hP : va_P D vwCl [(h, .inr (9, [.int 0, .ref h_now, .ref h_aside, .int v_h_kept, .ref h_books, .ref h_tide, .ref h_rain, .ref h_rule, .int w_h_counted_8, .ref h_counts, .ref h_begins, .ref h_best, .int w_h_bestWorth_9, .int w_h_bestPitch_10, .int w_h_bestBits_11, .int v_h_leastHour, .int v_h_leastSet, .int v_h_shut, .ref h_planks])), (h_now, .inl (cI, 169, .inl f_h_now)), (h_counts, .inl (cI, 5, .inl w_h_counts_12)), (h_begins, .inl (cI, 5, .inl w_h_begins_13)), (h_rain, .inl (cI, 96, .inl f_h_rain)), (h_tide, .inl (cI, 96, .inl f_h_tide)), (h_rule, .inl (cI, 8, .inl f_h_rule)), (h_best, .inl (cI, 5, .inl w_h_best_14))] H := hP
            replace hD : va_D A [(h, .inr (9, [.int 0, .ref h_now, .ref h_aside, .int v_h_kept, .ref h_books, .ref h_tide, .ref h_rain, .ref h_rule, .int w_h_counted_8, .ref h_counts, .ref h_begins, .ref h_best, .int w_h_bestWorth_9, .int w_h_bestPitch_10, .int w_h_bestBits_11, .int v_h_leastHour, .int v_h_leastSet, .int v_h_shut, .ref h_planks])), (h_now, .inl (cI, 169, .inl f_h_now)), (h_counts, .inl (cI, 5, .inl w_h_counts_12)), (h_begins, .inl (cI, 5, .inl w_h_begins_13)), (h_rain, .inl (cI, 96, .inl f_h_rain)), (h_tide, .inl (cI, 96, .inl f_h_tide)), (h_rule, .inl (cI, 8, .inl f_h_rule)), (h_best, .inl (cI, 5, .inl w_h_best_14))] := hD
            replace hl : lv_has ls 5 [(4, .int x4_30), (3, .int x3_29), (0, .ref h), (2, .int a2)] := hl
            replace hX27 : lb_X9_plan_105 w_h_counted_8 w_h_counts_12 a2 w_h_best_14 x3_29 x4_30 = some X27 := hX27
            unfold lb_X9_plan_105 at hX27
            refine lv_iload hx hb dX9_plan_105 (lv_at hl 0 rfl) ?_
            refine lv_aload_n hx hb dX9_plan_107 rfl (lv_at hl 2 rfl) ?_
            refine k_get (C := RX9) (T := TX9) (N := 19) hx hb hts inX9 hown hK hP 0 rfl rfl 8 (by decide) rfl wl7 rfl dX9_plan_108 ?_
            refine lv_icmp_ge (tgt := 155) hx hb dX9_plan_111 (by decide) (fun c31 => ?_) (fun c31 => ?_)
            · replace hX27 := k_pos hX27 c31
              exact hE27 _ (hout27 _ (Option.some.inj hX27).symm).symm _ _ _ hP hD hS (lv_sub hl [1] rfl)
            · replace hX27 := k_neg hX27 c31
              refine lv_aload_n hx hb dX9_plan_114 rfl (lv_at hl 2 rfl) ?_
              refine k_get (C := RX9) (T := TX9) (N := 19) hx hb hts inX9 hown hK hP 0 rfl rfl 9 (by decide) rfl wl8 rfl dX9_plan_115 ?_
              refine lv_iload hx hb dX9_plan_118 (lv_at hl 0 rfl) ?_
              obtain ⟨hi32, hX27⟩ := k_ix_some hX27
              refine k_iald (k := x4_30.toNatClampNeg) hx hb hK hP 2 0 rfl rfl hi32 rfl dX9_plan_120 ?_
              refine lv_iload_n hx hb dX9_plan_121 rfl (lv_at hl 3 rfl) ?_
              refine lv_iconst (v := 3) hx hb dX9_plan_122 (by decide) ?_
              refine lv_isub hx hb dX9_plan_123 ?_
              refine lv_icmp_ne (tgt := 147) hx hb dX9_plan_124 (by decide) (fun c33 => ?_) (fun c33 => ?_)
              · replace hX27 := k_neg hX27 c33
                refine lv_iload_n hx hb dX9_plan_147 rfl (lv_at hl 1 rfl) ?_
                refine lv_istore_n (lv' := [(3, .int x3_29), (4, .int x4_30), (0, .ref h), (2, .int a2)]) hx hb dX9_plan_148 rfl hl (by decide) rfl (fun ls hl => ?_)
                refine lv_iinc (v := x4_30 + 1) (lv' := [(4, .int (x4_30 + 1)), (3, .int x3_29), (0, .ref h), (2, .int a2)]) hx hb dX9_plan_149 hl (k := 1) rfl rfl (by decide) rfl (fun ls hl => ?_)
                refine lv_goto (tgt := 105) hx hb dX9_plan_152 (by decide) ?_
                exact hin27 (x3_29, x4_30 + 1) (Option.some.inj hX27).symm _ _ _ hP hD hS (lv_sub hl [0, 1, 2, 3] rfl)
              · replace hX27 := k_pos hX27 c33
                refine lv_aload_n hx hb dX9_plan_127 rfl (lv_at hl 2 rfl) ?_
                refine k_get (C := RX9) (T := TX9) (N := 19) hx hb hts inX9 hown hK hP 0 rfl rfl 11 (by decide) rfl wl9 rfl dX9_plan_128 ?_
                refine lv_iload hx hb dX9_plan_131 (lv_at hl 0 rfl) ?_
                obtain ⟨hi34, hX27⟩ := k_ix_some hX27
                refine k_iald (k := x4_30.toNatClampNeg) hx hb hK hP 7 0 rfl rfl hi34 rfl dX9_plan_133 ?_
                refine lv_if_lt (tgt := 147) hx hb dX9_plan_134 (by decide) (fun c35 => ?_) (fun c35 => ?_)
                · replace hX27 := k_pos hX27 c35
                  refine lv_iload_n hx hb dX9_plan_147 rfl (lv_at hl 1 rfl) ?_
                  refine lv_istore_n (lv' := [(3, .int x3_29), (4, .int x4_30), (0, .ref h), (2, .int a2)]) hx hb dX9_plan_148 rfl hl (by decide) rfl (fun ls hl => ?_)
                  refine lv_iinc (v := x4_30 + 1) (lv' := [(4, .int (x4_30 + 1)), (3, .int x3_29), (0, .ref h), (2, .int a2)]) hx hb dX9_plan_149 hl (k := 1) rfl rfl (by decide) rfl (fun ls hl => ?_)
                  refine lv_goto (tgt := 105) hx hb dX9_plan_152 (by decide) ?_
                  exact hin27 (x3_29, x4_30 + 1) (Option.some.inj hX27).symm _ _ _ hP hD hS (lv_sub hl [0, 1, 2, 3] rfl)
                · replace hX27 := k_neg hX27 c35
                  refine lv_aload_n hx hb dX9_plan_137 rfl (lv_at hl 2 rfl) ?_
                  refine k_get (C := RX9) (T := TX9) (N := 19) hx hb hts inX9 hown hK hP 0 rfl rfl 11 (by decide) rfl wl9 rfl dX9_plan_138 ?_
                  refine lv_iload hx hb dX9_plan_141 (lv_at hl 0 rfl) ?_
                  obtain ⟨hi36, hX27⟩ := k_ix_some hX27
                  refine k_iald (k := x4_30.toNatClampNeg) hx hb hK hP 7 0 rfl rfl hi36 rfl dX9_plan_143 ?_
                  refine lv_goto (tgt := 148) hx hb dX9_plan_144 (by decide) ?_
                  refine lv_istore_n (lv' := [(3, .int (w_h_best_14 x4_30.toNatClampNeg)), (4, .int x4_30), (0, .ref h), (2, .int a2)]) hx hb dX9_plan_148 rfl hl (by decide) rfl (fun ls hl => ?_)
                  refine lv_iinc (v := x4_30 + 1) (lv' := [(4, .int (x4_30 + 1)), (3, .int (w_h_best_14 x4_30.toNatClampNeg)), (0, .ref h), (2, .int a2)]) hx hb dX9_plan_149 hl (k := 1) rfl rfl (by decide) rfl (fun ls hl => ?_)
                  refine lv_goto (tgt := 105) hx hb dX9_plan_152 (by decide) ?_
                  exact hin27 (w_h_best_14 x4_30.toNatClampNeg, x4_30 + 1) (Option.some.inj hX27).symm _ _ _ hP hD hS (lv_sub hl [0, 1, 2, 3] rfl)
          · replace hf := k_neg hf c15
            refine lv_iload_n hx hb dX9_plan_71 rfl (lv_at hl 2 rfl) ?_
            refine lv_if_ne (tgt := 82) hx hb dX9_plan_72 (by decide) (fun c37 => ?_) (fun c37 => ?_)
            · replace hf := k_neg hf c37
              refine lv_iload_n hx hb dX9_plan_82 rfl (lv_at hl 2 rfl) ?_
              refine lv_iconst (v := 1) hx hb dX9_plan_83 (by decide) ?_
              refine lv_icmp_ne (tgt := 94) hx hb dX9_plan_84 (by decide) (fun c38 => ?_) (fun c38 => ?_)
              · replace hf := k_neg hf c38
                refine lv_aload_n hx hb dX9_plan_94 rfl (lv_at hl 0 rfl) ?_
                refine k_get (C := RX9) (T := TX9) (N := 19) hx hb hts inX9 hown hK hP 0 rfl rfl 14 (by decide) rfl wl6 rfl dX9_plan_95 ?_
                exact hRet _ _ _ _ _ _ _ _ _ hf _ _ _ _ hP hD hS rfl dX9_plan_98
              · replace hf := k_pos hf c38
                refine lv_aload_n hx hb dX9_plan_87 rfl (lv_at hl 0 rfl) ?_
                refine k_get (C := RX9) (T := TX9) (N := 19) hx hb hts inX9 hown hK hP 0 rfl rfl 13 (by decide) rfl wl5 rfl dX9_plan_88 ?_
                refine lv_goto (tgt := 98) hx hb dX9_plan_91 (by decide) ?_
                exact hRet _ _ _ _ _ _ _ _ _ hf _ _ _ _ hP hD hS rfl dX9_plan_98
            · replace hf := k_pos hf c37
              refine lv_aload_n hx hb dX9_plan_75 rfl (lv_at hl 0 rfl) ?_
              refine k_get (C := RX9) (T := TX9) (N := 19) hx hb hts inX9 hown hK hP 0 rfl rfl 12 (by decide) rfl wl4 rfl dX9_plan_76 ?_
              refine lv_goto (tgt := 98) hx hb dX9_plan_79 (by decide) ?_
              exact hRet _ _ _ _ _ _ _ _ _ hf _ _ _ _ hP hD hS rfl dX9_plan_98
        · replace hf := k_neg hf c7
          refine lv_bipush (v := (-2)) hx hb dX9_plan_58 (by decide) ?_
          exact hRet _ _ _ _ _ _ _ _ _ hf _ _ _ _ hP hD hS rfl dX9_plan_60
    · replace hf := k_pos hf c4
      refine lv_iconst (v := (-1)) hx hb dX9_plan_36 (by decide) ?_
      exact hRet _ _ _ _ _ _ _ _ _ hf _ _ _ _ hP hD hS rfl dX9_plan_37

def lb_X9_orders_65 (w_h_counted_8 : Int32) (w_h_best_14 : Nat → Int32) (a2 : Int32) (f_h_now : Nat → Int32) (w_h_counts_12 : Nat → Int32) (x3_34 : Int32) (x4_35 : Int32) : Option ((Int32 × Int32) ⊕ (Int32)) :=
  if w_h_counted_8 ≤ x4_35 then
    some (.inr x3_34)
  else
    k_ix x4_35 5 (
      if (w_h_best_14 x4_35.toNatClampNeg) < 0 then
        some (.inl (x3_34 ||| 0, x4_35 + 1))
      else
        k_ix x4_35 5 (
          if a2 < (w_h_best_14 x4_35.toNatClampNeg) then
            some (.inl (x3_34 ||| 0, x4_35 + 1))
          else
            k_ix x4_35 5 (
              k_ix x4_35 5 (
                k_b1 (p_X9_hoursFor f_h_now (w_h_counts_12 x4_35.toNatClampNeg)) fun r43 =>
                if ((w_h_best_14 x4_35.toNatClampNeg) + r43) ≤ a2 then
                  some (.inl (x3_34 ||| 0, x4_35 + 1))
                else
                  k_ix x4_35 5 (
                    some (.inl (x3_34 ||| (1 <<< ((w_h_counts_12 x4_35.toNatClampNeg) &&& 31)), x4_35 + 1)))))))
def p_X9_orders (v_h_counted : Int32) (v_h_bestWorth : Int32) (v_h_bestPitch : Int32) (v_h_bestBits : Int32) (f_h_now : Nat → Int32) (f_h_counts : Nat → Int32) (f_h_begins : Nat → Int32) (f_h_rain : Nat → Int32) (f_h_tide : Nat → Int32) (f_h_rule : Nat → Int32) (f_h_best : Nat → Int32) (a1 : Int32) (a2 : Int32) : Option (Int32 × Int32 × Int32 × Int32 × Int32 × Int32 × (Nat → Int32) × (Nat → Int32) × (Nat → Int32)) :=
  k_b1 (p_X9_in ((a1).toInt64) 1 6) fun r1 =>
  if r1 = 0 then
    some ((-1), 0, v_h_counted, v_h_bestWorth, v_h_bestPitch, v_h_bestBits, f_h_counts, f_h_begins, f_h_best)
  else
    k_b1 (p_X9_in ((a2).toInt64) 0 ((a1 - 1).toInt64)) fun r3 =>
    if r3 = 0 then
      some ((-1), 0, v_h_counted, v_h_bestWorth, v_h_bestPitch, v_h_bestBits, f_h_counts, f_h_begins, f_h_best)
    else
      k_b1 (p_X9_isLost f_h_now) fun r5 =>
      if r5 = 0 then
        if ((f_h_now 0) + a1) ≤ 96 then
          k_b7 (p_X9_findPlan v_h_bestPitch v_h_bestBits f_h_now f_h_counts f_h_begins f_h_rain f_h_tide f_h_rule f_h_best a1) fun w_h_counted_8 w_h_bestWorth_9 w_h_bestPitch_10 w_h_bestBits_11 w_h_counts_12 w_h_begins_13 w_h_best_14 =>
          k_b1 (k_lp (fun s => lb_X9_orders_65 w_h_counted_8 w_h_best_14 a2 f_h_now w_h_counts_12 s.1 s.2) k_fuel (0, 0)) fun x3_33 =>
          some (x3_33, 0, w_h_counted_8, w_h_bestWorth_9, w_h_bestPitch_10, w_h_bestBits_11, w_h_counts_12, w_h_begins_13, w_h_best_14)
        else
          some ((-2), 0, v_h_counted, v_h_bestWorth, v_h_bestPitch, v_h_bestBits, f_h_counts, f_h_begins, f_h_best)
      else
        some ((-2), 0, v_h_counted, v_h_bestWorth, v_h_bestPitch, v_h_bestBits, f_h_counts, f_h_begins, f_h_best)
abbrev rm_X9_orders : Room := { frames := 4, cells := 0, slots := 0, locals := 101 }
theorem hdS_X9_orders : yX9_orders.cls ≠ "java/lang/invoke/MethodHandle" ∧ yX9_orders.cls ≠ "java/lang/invoke/VarHandle" ∧ (parseMethodDescriptor yX9_orders.desc).map (fun d => d.parameters.length) = some 2 := by decide +kernel
theorem hdV_X9_orders : yX9_orders.cls = RX9 ∧ yX9_orders.cls ≠ "java/lang/invoke/MethodHandle" ∧ yX9_orders.cls ≠ "java/lang/invoke/VarHandle" ∧ (parseMethodDescriptor yX9_orders.desc).map (fun d => d.parameters.length) = some 2 := by decide +kernel
set_option maxHeartbeats 4000000 in
set_option maxRecDepth 100000 in
theorem c_X9_orders (l : Launch) (D : va_G) (cI cZ cJ cS : ClassId) (h h_now h_aside h_books h_tide h_rain h_rule h_counts h_begins h_best h_planks : Nat) (v_h_thrown : Int32) (v_h_kept : Int32) (v_h_counted : Int32) (v_h_bestWorth : Int32) (v_h_bestPitch : Int32) (v_h_bestBits : Int32) (v_h_leastHour : Int32) (v_h_leastSet : Int32) (v_h_shut : Int32) (f_h_now : Nat → Int32) (f_h_counts : Nat → Int32) (f_h_begins : Nat → Int32) (f_h_rain : Nat → Int32) (f_h_tide : Nat → Int32) (f_h_rule : Nat → Int32) (f_h_best : Nat → Int32) (a1 : Int32) (a2 : Int32) (r : Int32) (v_h_thrown' : Int32) (v_h_counted' : Int32) (v_h_bestWorth' : Int32) (v_h_bestPitch' : Int32) (v_h_bestBits' : Int32) (f_h_counts' : Nat → Int32) (f_h_begins' : Nat → Int32) (f_h_best' : Nat → Int32) (hf : p_X9_orders v_h_counted v_h_bestWorth v_h_bestPitch v_h_bestBits f_h_now f_h_counts f_h_begins f_h_rain f_h_tide f_h_rule f_h_best a1 a2 = some (r, v_h_thrown', v_h_counted', v_h_bestWorth', v_h_bestPitch', v_h_bestBits', f_h_counts', f_h_begins', f_h_best')) : k_MI l yX9_orders wsX9_orders rm_X9_orders D (k_tys cI cZ cJ cS) [.ref h, .int a1, .int a2] [(h, .inr (9, [.int v_h_thrown, .ref h_now, .ref h_aside, .int v_h_kept, .ref h_books, .ref h_tide, .ref h_rain, .ref h_rule, .int v_h_counted, .ref h_counts, .ref h_begins, .ref h_best, .int v_h_bestWorth, .int v_h_bestPitch, .int v_h_bestBits, .int v_h_leastHour, .int v_h_leastSet, .int v_h_shut, .ref h_planks])), (h_now, .inl (cI, 169, .inl f_h_now)), (h_counts, .inl (cI, 5, .inl f_h_counts)), (h_begins, .inl (cI, 5, .inl f_h_begins)), (h_rain, .inl (cI, 96, .inl f_h_rain)), (h_tide, .inl (cI, 96, .inl f_h_tide)), (h_rule, .inl (cI, 8, .inl f_h_rule)), (h_best, .inl (cI, 5, .inl f_h_best))] [(h, .inr (9, [.int v_h_thrown', .ref h_now, .ref h_aside, .int v_h_kept, .ref h_books, .ref h_tide, .ref h_rain, .ref h_rule, .int v_h_counted', .ref h_counts, .ref h_begins, .ref h_best, .int v_h_bestWorth', .int v_h_bestPitch', .int v_h_bestBits', .int v_h_leastHour, .int v_h_leastSet, .int v_h_shut, .ref h_planks])), (h_now, .inl (cI, 169, .inl f_h_now)), (h_counts, .inl (cI, 5, .inl f_h_counts')), (h_begins, .inl (cI, 5, .inl f_h_begins')), (h_rain, .inl (cI, 96, .inl f_h_rain)), (h_tide, .inl (cI, 96, .inl f_h_tide)), (h_rule, .inl (cI, 8, .inl f_h_rule)), (h_best, .inl (cI, 5, .inl f_h_best'))] r := by
  refine k_enter (y := yX9_orders) (wl := wsX9_orders) (rm := rm_X9_orders) (av := [.ref h, .int a1, .int a2]) (D := D) (tys := k_tys cI cZ cJ cS) (ws := [(h, .inr (9, [.int v_h_thrown, .ref h_now, .ref h_aside, .int v_h_kept, .ref h_books, .ref h_tide, .ref h_rain, .ref h_rule, .int v_h_counted, .ref h_counts, .ref h_begins, .ref h_best, .int v_h_bestWorth, .int v_h_bestPitch, .int v_h_bestBits, .int v_h_leastHour, .int v_h_leastSet, .int v_h_shut, .ref h_planks])), (h_now, .inl (cI, 169, .inl f_h_now)), (h_counts, .inl (cI, 5, .inl f_h_counts)), (h_begins, .inl (cI, 5, .inl f_h_begins)), (h_rain, .inl (cI, 96, .inl f_h_rain)), (h_tide, .inl (cI, 96, .inl f_h_tide)), (h_rule, .inl (cI, 8, .inl f_h_rule)), (h_best, .inl (cI, 5, .inl f_h_best))]) (cc := cX9_orders) (maxL := 5) (ret := (some .int)) (Qc := fun A => k_Qi D (k_tys cI cZ cJ cS) [(h, .inr (9, [.int v_h_thrown', .ref h_now, .ref h_aside, .int v_h_kept, .ref h_books, .ref h_tide, .ref h_rain, .ref h_rule, .int v_h_counted', .ref h_counts, .ref h_begins, .ref h_best, .int v_h_bestWorth', .int v_h_bestPitch', .int v_h_bestBits', .int v_h_leastHour, .int v_h_leastSet, .int v_h_shut, .ref h_planks])), (h_now, .inl (cI, 169, .inl f_h_now)), (h_counts, .inl (cI, 5, .inl f_h_counts')), (h_begins, .inl (cI, 5, .inl f_h_begins')), (h_rain, .inl (cI, 96, .inl f_h_rain)), (h_tide, .inl (cI, 96, .inl f_h_tide)), (h_rule, .inl (cI, 8, .inl f_h_rule)), (h_best, .inl (cI, 5, .inl f_h_best'))] A r) (by decide) rfl (Nat.le_of_ble_eq_true rfl) [(0, .ref h), (1, .int a1), (2, .int a2)] rfl ?_
  intro p e s m below meth c A hx hb hml hr hlocks hnm hown hK hP hD hA hS hN ls args Q hts hl hQ
  replace hown : s.vm.findClass RX9 = some m.cls := hown
  have S0 : CallFix p m c cX9_orders 5 s args wsX9_orders RX9 := ⟨hx, hb, hml, hown, hts⟩
  have inX9 : ∀ w ∈ u_ws RX9 TX9 19, w ∈ wsX9_orders := fun w h => List.mem_cons_of_mem _ (List.mem_append_right _ h)
  have wl1 : (Cond.fieldLink RX9 1 "BeachedShipModel" "thrown" "I").before args s = true := hts _ (List.mem_of_getElem? (i := 1) rfl)
  have wl2 : (Cond.constantLong RX9 68 (6)).before args s = true := hts _ (List.mem_of_getElem? (i := 2) rfl)
  have wl3 : (Cond.fieldLink RX9 13 "BeachedShipModel" "now" "[I").before args s = true := hts _ (List.mem_of_getElem? (i := 3) rfl)
  have wl4 : (Cond.fieldLink RX9 144 "BeachedShipModel" "counted" "I").before args s = true := hts _ (List.mem_of_getElem? (i := 4) rfl)
  have wl5 : (Cond.fieldLink RX9 38 "BeachedShipModel" "best" "[I").before args s = true := hts _ (List.mem_of_getElem? (i := 5) rfl)
  have wl6 : (Cond.fieldLink RX9 32 "BeachedShipModel" "counts" "[I").before args s = true := hts _ (List.mem_of_getElem? (i := 6) rfl)
  have hRet : ∀ (r_z : Int32) (v_h_thrown_z : Int32) (v_h_counted_z : Int32) (v_h_bestWorth_z : Int32) (v_h_bestPitch_z : Int32) (v_h_bestBits_z : Int32) (f_h_counts_z : Nat → Int32) (f_h_begins_z : Nat → Int32) (f_h_best_z : Nat → Int32), some (r_z, v_h_thrown_z, v_h_counted_z, v_h_bestWorth_z, v_h_bestPitch_z, v_h_bestBits_z, f_h_counts_z, f_h_begins_z, f_h_best_z) = some (r, v_h_thrown', v_h_counted', v_h_bestWorth', v_h_bestPitch', v_h_bestBits', f_h_counts', f_h_begins', f_h_best') → ∀ (H : Heap) (locs : List Loc) (ls : Array Slot) (pc : Nat), va_P D vwCl [(h, .inr (9, [.int v_h_thrown_z, .ref h_now, .ref h_aside, .int v_h_kept, .ref h_books, .ref h_tide, .ref h_rain, .ref h_rule, .int v_h_counted_z, .ref h_counts, .ref h_begins, .ref h_best, .int v_h_bestWorth_z, .int v_h_bestPitch_z, .int v_h_bestBits_z, .int v_h_leastHour, .int v_h_leastSet, .int v_h_shut, .ref h_planks])), (h_now, .inl (cI, 169, .inl f_h_now)), (h_counts, .inl (cI, 5, .inl f_h_counts_z)), (h_begins, .inl (cI, 5, .inl f_h_begins_z)), (h_rain, .inl (cI, 96, .inl f_h_rain)), (h_tide, .inl (cI, 96, .inl f_h_tide)), (h_rule, .inl (cI, 8, .inl f_h_rule)), (h_best, .inl (cI, 5, .inl f_h_best_z))] H → va_D A [(h, .inr (9, [.int v_h_thrown_z, .ref h_now, .ref h_aside, .int v_h_kept, .ref h_books, .ref h_tide, .ref h_rain, .ref h_rule, .int v_h_counted_z, .ref h_counts, .ref h_begins, .ref h_best, .int v_h_bestWorth_z, .int v_h_bestPitch_z, .int v_h_bestBits_z, .int v_h_leastHour, .int v_h_leastSet, .int v_h_shut, .ref h_planks])), (h_now, .inl (cI, 169, .inl f_h_now)), (h_counts, .inl (cI, 5, .inl f_h_counts_z)), (h_begins, .inl (cI, 5, .inl f_h_begins_z)), (h_rain, .inl (cI, 96, .inl f_h_rain)), (h_tide, .inl (cI, 96, .inl f_h_tide)), (h_rule, .inl (cI, 8, .inl f_h_rule)), (h_best, .inl (cI, 5, .inl f_h_best_z))] → va_S A s.heap H locs → narrow .int (.int r_z) = .int r_z → decode cX9_orders pc = .ok (.ireturn, 1) → W p l e rm_X9_orders s m args below meth c H locs 0 0 Q (F0 m pc ls [.int r_z]) := by
    intro r_z v_h_thrown_z v_h_counted_z v_h_bestWorth_z v_h_bestPitch_z v_h_bestBits_z f_h_counts_z f_h_begins_z f_h_best_z hz H locs ls pc hP hD hS hn hd
    cases hz
    exact k_iret hx hb hr hlocks hn hK hP hD hS hQ rfl hd
  unfold p_X9_orders at hf
  refine lv_aload_n hx hb dX9_orders_0 rfl (lv_at hl 0 rfl) ?_
  refine lv_iconst (v := 0) hx hb dX9_orders_1 (by decide) ?_
  refine k_putf (ws2 := [(h, .inr (9, [.int 0, .ref h_now, .ref h_aside, .int v_h_kept, .ref h_books, .ref h_tide, .ref h_rain, .ref h_rule, .int v_h_counted, .ref h_counts, .ref h_begins, .ref h_best, .int v_h_bestWorth, .int v_h_bestPitch, .int v_h_bestBits, .int v_h_leastHour, .int v_h_leastSet, .int v_h_shut, .ref h_planks])), (h_now, .inl (cI, 169, .inl f_h_now)), (h_counts, .inl (cI, 5, .inl f_h_counts)), (h_begins, .inl (cI, 5, .inl f_h_begins)), (h_rain, .inl (cI, 96, .inl f_h_rain)), (h_tide, .inl (cI, 96, .inl f_h_tide)), (h_rule, .inl (cI, 8, .inl f_h_rule)), (h_best, .inl (cI, 5, .inl f_h_best))]) (C := RX9) (T := TX9) (N := 19) hx hb hts inX9 tyX9 tyX9_ok nmX9 hown hK hP hD hS 0 rfl rfl 0 (by decide) rfl wl1 rfl rfl rfl (Nat.le_of_ble_eq_true rfl) rfl dX9_orders_2 (fun H locs hP hD hS => ?_)
  refine lv_iload_n hx hb dX9_orders_5 rfl (lv_at hl 1 rfl) ?_
  refine lv_i2l (v := (a1).toInt64) hx hb dX9_orders_6 rfl ?_
  refine lv_lconst (v := 1) hx hb dX9_orders_7 (by decide) ?_
  refine lv_ldc2 hx hb hown wl2 dX9_orders_8 ?_
  obtain ⟨r1, hc1, hf⟩ := k_b1_some hf
  refine k_SiR (As := [.long ((a1).toInt64), .long 1, .long 6]) (rest := []) S0 (c_X9_in l D cI cZ cJ cS ((a1).toInt64) 1 6 r1 hc1) (va_cwS 3 hts gX9_orders_X9_in rfl rfl rfl hdS_X9_in ⟨Nat.le_of_ble_eq_true rfl, Nat.le_of_ble_eq_true rfl⟩) hK hP hD hS hA hN [] rfl (by decide) rfl hl.1 rfl (Nat.le_of_ble_eq_true rfl) dX9_orders_11 (fun H locs hP hS => ?_)
  refine lv_if_eq (tgt := 30) hx hb dX9_orders_14 (by decide) (fun c2 => ?_) (fun c2 => ?_)
  · replace hf := k_pos hf c2
    refine lv_iconst (v := (-1)) hx hb dX9_orders_30 (by decide) ?_
    exact hRet _ _ _ _ _ _ _ _ _ hf _ _ _ _ hP hD hS rfl dX9_orders_31
  · replace hf := k_neg hf c2
    refine lv_iload_n hx hb dX9_orders_17 rfl (lv_at hl 2 rfl) ?_
    refine lv_i2l (v := (a2).toInt64) hx hb dX9_orders_18 rfl ?_
    refine lv_lconst (v := 0) hx hb dX9_orders_19 (by decide) ?_
    refine lv_iload_n hx hb dX9_orders_20 rfl (lv_at hl 1 rfl) ?_
    refine lv_iconst (v := 1) hx hb dX9_orders_21 (by decide) ?_
    refine lv_isub hx hb dX9_orders_22 ?_
    refine lv_i2l (v := (a1 - 1).toInt64) hx hb dX9_orders_23 rfl ?_
    obtain ⟨r3, hc3, hf⟩ := k_b1_some hf
    refine k_SiR (As := [.long ((a2).toInt64), .long 0, .long ((a1 - 1).toInt64)]) (rest := []) S0 (c_X9_in l D cI cZ cJ cS ((a2).toInt64) 0 ((a1 - 1).toInt64) r3 hc3) (va_cwS 3 hts gX9_orders_X9_in rfl rfl rfl hdS_X9_in ⟨Nat.le_of_ble_eq_true rfl, Nat.le_of_ble_eq_true rfl⟩) hK hP hD hS hA hN [] rfl (by decide) rfl hl.1 rfl (Nat.le_of_ble_eq_true rfl) dX9_orders_24 (fun H locs hP hS => ?_)
    refine lv_if_ne (tgt := 32) hx hb dX9_orders_27 (by decide) (fun c4 => ?_) (fun c4 => ?_)
    · replace hf := k_neg hf c4
      refine lv_aload_n hx hb dX9_orders_32 rfl (lv_at hl 0 rfl) ?_
      obtain ⟨r5, hc5, hf⟩ := k_b1_some hf
      refine k_ViR (q0 := 0) (As := []) (rest := []) S0 (c_X9_isLost l D cI cZ cJ cS h h_now h_aside h_books h_tide h_rain h_rule h_counts h_begins h_best h_planks 0 v_h_kept v_h_counted v_h_bestWorth v_h_bestPitch v_h_bestBits v_h_leastHour v_h_leastSet v_h_shut f_h_now r5 hc5) (cwV 0 hts gX9_orders_X9_isLost rfl rfl rfl hdV_X9_isLost ⟨Nat.le_of_ble_eq_true rfl, Nat.le_of_ble_eq_true rfl⟩) hK hP hD hS hA hN [0, 1] rfl (by decide) rfl rfl rfl rfl hl.1 rfl (Nat.le_of_ble_eq_true rfl) dX9_orders_33 (fun H locs hP hS => ?_)
      refine lv_if_ne (tgt := 52) hx hb dX9_orders_36 (by decide) (fun c6 => ?_) (fun c6 => ?_)
      · replace hf := k_neg hf c6
        refine lv_bipush (v := (-2)) hx hb dX9_orders_52 (by decide) ?_
        exact hRet _ _ _ _ _ _ _ _ _ hf _ _ _ _ hP hD hS rfl dX9_orders_54
      · replace hf := k_pos hf c6
        refine lv_aload_n hx hb dX9_orders_39 rfl (lv_at hl 0 rfl) ?_
        refine k_get (C := RX9) (T := TX9) (N := 19) hx hb hts inX9 hown hK hP 0 rfl rfl 1 (by decide) rfl wl3 rfl dX9_orders_40 ?_
        refine lv_iconst (v := 0) hx hb dX9_orders_43 (by decide) ?_
        refine k_iald (k := 0) hx hb hK hP 1 0 rfl rfl (by unfold vp_in; decide) (by decide) dX9_orders_44 ?_
        refine lv_iload_n hx hb dX9_orders_45 rfl (lv_at hl 1 rfl) ?_
        refine lv_iadd hx hb dX9_orders_46 ?_
        refine lv_bipush (v := 96) hx hb dX9_orders_47 (by decide) ?_
        refine lv_icmp_le (tgt := 55) hx hb dX9_orders_49 (by decide) (fun c7 => ?_) (fun c7 => ?_)
        · replace hf := k_pos hf c7
          refine lv_aload_n hx hb dX9_orders_55 rfl (lv_at hl 0 rfl) ?_
          refine lv_iload_n hx hb dX9_orders_56 rfl (lv_at hl 1 rfl) ?_
          obtain ⟨w_h_counted_8, w_h_bestWorth_9, w_h_bestPitch_10, w_h_bestBits_11, w_h_counts_12, w_h_begins_13, w_h_best_14, hc14, hf⟩ := k_b7_some hf
          refine k_Vv (ws2 := [(h, .inr (9, [.int 0, .ref h_now, .ref h_aside, .int v_h_kept, .ref h_books, .ref h_tide, .ref h_rain, .ref h_rule, .int w_h_counted_8, .ref h_counts, .ref h_begins, .ref h_best, .int w_h_bestWorth_9, .int w_h_bestPitch_10, .int w_h_bestBits_11, .int v_h_leastHour, .int v_h_leastSet, .int v_h_shut, .ref h_planks])), (h_now, .inl (cI, 169, .inl f_h_now)), (h_counts, .inl (cI, 5, .inl w_h_counts_12)), (h_begins, .inl (cI, 5, .inl w_h_begins_13)), (h_rain, .inl (cI, 96, .inl f_h_rain)), (h_tide, .inl (cI, 96, .inl f_h_tide)), (h_rule, .inl (cI, 8, .inl f_h_rule)), (h_best, .inl (cI, 5, .inl w_h_best_14))]) (q0 := 0) (As := [.int a1]) (rest := []) S0 (c_X9_findPlan l D cI cZ cJ cS h h_now h_aside h_books h_tide h_rain h_rule h_counts h_begins h_best h_planks 0 v_h_kept v_h_counted v_h_bestWorth v_h_bestPitch v_h_bestBits v_h_leastHour v_h_leastSet v_h_shut f_h_now f_h_counts f_h_begins f_h_rain f_h_tide f_h_rule f_h_best a1 w_h_counted_8 w_h_bestWorth_9 w_h_bestPitch_10 w_h_bestBits_11 w_h_counts_12 w_h_begins_13 w_h_best_14 hc14) (cwV 1 hts gX9_orders_X9_findPlan rfl rfl rfl hdV_X9_findPlan ⟨Nat.le_of_ble_eq_true rfl, Nat.le_of_ble_eq_true rfl⟩) hK hP hD hS hA hN [0, 1, 2, 3, 4, 5, 6, 7] rfl (by decide) rfl rfl rfl rfl hl.1 rfl (Nat.le_of_ble_eq_true rfl) rfl rfl rfl dX9_orders_57 (fun H locs hP hD hS => ?_)
          refine lv_iconst (v := 0) hx hb dX9_orders_60 (by decide) ?_
          refine lv_istore_n (lv' := [(3, .int 0), (0, .ref h), (1, .int a1), (2, .int a2)]) hx hb dX9_orders_61 rfl hl (by decide) rfl (fun ls hl => ?_)
          refine lv_iconst (v := 0) hx hb dX9_orders_62 (by decide) ?_
          refine lv_istore (lv' := [(4, .int 0), (3, .int 0), (0, .ref h), (1, .int a1), (2, .int a2)]) hx hb dX9_orders_63 hl (by decide) rfl (fun ls hl => ?_)
          obtain ⟨ee32, hlp32, hfr32⟩ := k_b1_ee hf
          have hE32 : ∀ (x3_33 : Int32), ee32 = x3_33 → ∀ (H : Heap) (locs : List Loc) (ls : Array Slot), va_P D vwCl [(h, .inr (9, [.int 0, .ref h_now, .ref h_aside, .int v_h_kept, .ref h_books, .ref h_tide, .ref h_rain, .ref h_rule, .int w_h_counted_8, .ref h_counts, .ref h_begins, .ref h_best, .int w_h_bestWorth_9, .int w_h_bestPitch_10, .int w_h_bestBits_11, .int v_h_leastHour, .int v_h_leastSet, .int v_h_shut, .ref h_planks])), (h_now, .inl (cI, 169, .inl f_h_now)), (h_counts, .inl (cI, 5, .inl w_h_counts_12)), (h_begins, .inl (cI, 5, .inl w_h_begins_13)), (h_rain, .inl (cI, 96, .inl f_h_rain)), (h_tide, .inl (cI, 96, .inl f_h_tide)), (h_rule, .inl (cI, 8, .inl f_h_rule)), (h_best, .inl (cI, 5, .inl w_h_best_14))] H → va_D A [(h, .inr (9, [.int 0, .ref h_now, .ref h_aside, .int v_h_kept, .ref h_books, .ref h_tide, .ref h_rain, .ref h_rule, .int w_h_counted_8, .ref h_counts, .ref h_begins, .ref h_best, .int w_h_bestWorth_9, .int w_h_bestPitch_10, .int w_h_bestBits_11, .int v_h_leastHour, .int v_h_leastSet, .int v_h_shut, .ref h_planks])), (h_now, .inl (cI, 169, .inl f_h_now)), (h_counts, .inl (cI, 5, .inl w_h_counts_12)), (h_begins, .inl (cI, 5, .inl w_h_begins_13)), (h_rain, .inl (cI, 96, .inl f_h_rain)), (h_tide, .inl (cI, 96, .inl f_h_tide)), (h_rule, .inl (cI, 8, .inl f_h_rule)), (h_best, .inl (cI, 5, .inl w_h_best_14))] → va_S A s.heap H locs → lv_has ls 5 [(3, .int x3_33)] → W p l e rm_X9_orders s m args below meth c H locs 0 0 Q (F0 m 140 ls []) := by
            intro x3_33 he H locs ls hP hD hS hl
            replace hf := hfr32 x3_33 he
            refine lv_iload_n hx hb dX9_orders_140 rfl (lv_at hl 0 rfl) ?_
            exact hRet _ _ _ _ _ _ _ _ _ hf _ _ _ _ hP hD hS rfl dX9_orders_141
          refine (k_lp_ind (fun sx32 => ∀ (H : Heap) (locs : List Loc) (ls : Array Slot), va_P D vwCl [(h, .inr (9, [.int 0, .ref h_now, .ref h_aside, .int v_h_kept, .ref h_books, .ref h_tide, .ref h_rain, .ref h_rule, .int w_h_counted_8, .ref h_counts, .ref h_begins, .ref h_best, .int w_h_bestWorth_9, .int w_h_bestPitch_10, .int w_h_bestBits_11, .int v_h_leastHour, .int v_h_leastSet, .int v_h_shut, .ref h_planks])), (h_now, .inl (cI, 169, .inl f_h_now)), (h_counts, .inl (cI, 5, .inl w_h_counts_12)), (h_begins, .inl (cI, 5, .inl w_h_begins_13)), (h_rain, .inl (cI, 96, .inl f_h_rain)), (h_tide, .inl (cI, 96, .inl f_h_tide)), (h_rule, .inl (cI, 8, .inl f_h_rule)), (h_best, .inl (cI, 5, .inl w_h_best_14))] H → va_D A [(h, .inr (9, [.int 0, .ref h_now, .ref h_aside, .int v_h_kept, .ref h_books, .ref h_tide, .ref h_rain, .ref h_rule, .int w_h_counted_8, .ref h_counts, .ref h_begins, .ref h_best, .int w_h_bestWorth_9, .int w_h_bestPitch_10, .int w_h_bestBits_11, .int v_h_leastHour, .int v_h_leastSet, .int v_h_shut, .ref h_planks])), (h_now, .inl (cI, 169, .inl f_h_now)), (h_counts, .inl (cI, 5, .inl w_h_counts_12)), (h_begins, .inl (cI, 5, .inl w_h_begins_13)), (h_rain, .inl (cI, 96, .inl f_h_rain)), (h_tide, .inl (cI, 96, .inl f_h_tide)), (h_rule, .inl (cI, 8, .inl f_h_rule)), (h_best, .inl (cI, 5, .inl w_h_best_14))] → va_S A s.heap H locs → lv_has ls 5 [(4, .int sx32.2), (3, .int sx32.1), (0, .ref h), (2, .int a2)] → W p l e rm_X9_orders s m args below meth c H locs 0 0 Q (F0 m 65 ls [])) (fun sx32 X32 hX32 hin32 hout32 => ?_) _ _ hlp32) _ _ _ hP hD hS (lv_sub hl [0, 1, 2, 4] rfl)
          obtain ⟨x3_34, x4_35⟩ := sx32
          intro H locs ls hP hD hS hl
          replace hP : va_P D vwCl [(h, .inr (9, [.int 0, .ref h_now, .ref h_aside, .int v_h_kept, .ref h_books, .ref h_tide, .ref h_rain, .ref h_rule, .int w_h_counted_8, .ref h_counts, .ref h_begins, .ref h_best, .int w_h_bestWorth_9, .int w_h_bestPitch_10, .int w_h_bestBits_11, .int v_h_leastHour, .int v_h_leastSet, .int v_h_shut, .ref h_planks])), (h_now, .inl (cI, 169, .inl f_h_now)), (h_counts, .inl (cI, 5, .inl w_h_counts_12)), (h_begins, .inl (cI, 5, .inl w_h_begins_13)), (h_rain, .inl (cI, 96, .inl f_h_rain)), (h_tide, .inl (cI, 96, .inl f_h_tide)), (h_rule, .inl (cI, 8, .inl f_h_rule)), (h_best, .inl (cI, 5, .inl w_h_best_14))] H := hP
          replace hD : va_D A [(h, .inr (9, [.int 0, .ref h_now, .ref h_aside, .int v_h_kept, .ref h_books, .ref h_tide, .ref h_rain, .ref h_rule, .int w_h_counted_8, .ref h_counts, .ref h_begins, .ref h_best, .int w_h_bestWorth_9, .int w_h_bestPitch_10, .int w_h_bestBits_11, .int v_h_leastHour, .int v_h_leastSet, .int v_h_shut, .ref h_planks])), (h_now, .inl (cI, 169, .inl f_h_now)), (h_counts, .inl (cI, 5, .inl w_h_counts_12)), (h_begins, .inl (cI, 5, .inl w_h_begins_13)), (h_rain, .inl (cI, 96, .inl f_h_rain)), (h_tide, .inl (cI, 96, .inl f_h_tide)), (h_rule, .inl (cI, 8, .inl f_h_rule)), (h_best, .inl (cI, 5, .inl w_h_best_14))] := hD
          replace hl : lv_has ls 5 [(4, .int x4_35), (3, .int x3_34), (0, .ref h), (2, .int a2)] := hl
          replace hX32 : lb_X9_orders_65 w_h_counted_8 w_h_best_14 a2 f_h_now w_h_counts_12 x3_34 x4_35 = some X32 := hX32
          unfold lb_X9_orders_65 at hX32
          refine lv_iload hx hb dX9_orders_65 (lv_at hl 0 rfl) ?_
          refine lv_aload_n hx hb dX9_orders_67 rfl (lv_at hl 2 rfl) ?_
          refine k_get (C := RX9) (T := TX9) (N := 19) hx hb hts inX9 hown hK hP 0 rfl rfl 8 (by decide) rfl wl4 rfl dX9_orders_68 ?_
          refine lv_icmp_ge (tgt := 140) hx hb dX9_orders_71 (by decide) (fun c36 => ?_) (fun c36 => ?_)
          · replace hX32 := k_pos hX32 c36
            exact hE32 _ (hout32 _ (Option.some.inj hX32).symm).symm _ _ _ hP hD hS (lv_sub hl [1] rfl)
          · replace hX32 := k_neg hX32 c36
            refine lv_iload_n hx hb dX9_orders_74 rfl (lv_at hl 1 rfl) ?_
            refine lv_aload_n hx hb dX9_orders_75 rfl (lv_at hl 2 rfl) ?_
            refine k_get (C := RX9) (T := TX9) (N := 19) hx hb hts inX9 hown hK hP 0 rfl rfl 11 (by decide) rfl wl5 rfl dX9_orders_76 ?_
            refine lv_iload hx hb dX9_orders_79 (lv_at hl 0 rfl) ?_
            obtain ⟨hi37, hX32⟩ := k_ix_some hX32
            refine k_iald (k := x4_35.toNatClampNeg) hx hb hK hP 7 0 rfl rfl hi37 rfl dX9_orders_81 ?_
            refine lv_if_lt (tgt := 131) hx hb dX9_orders_82 (by decide) (fun c38 => ?_) (fun c38 => ?_)
            · replace hX32 := k_pos hX32 c38
              refine lv_iconst (v := 0) hx hb dX9_orders_131 (by decide) ?_
              refine lv_ior hx hb dX9_orders_132 ?_
              refine lv_istore_n (lv' := [(3, .int (x3_34 ||| 0)), (4, .int x4_35), (0, .ref h), (2, .int a2)]) hx hb dX9_orders_133 rfl hl (by decide) rfl (fun ls hl => ?_)
              refine lv_iinc (v := x4_35 + 1) (lv' := [(4, .int (x4_35 + 1)), (3, .int (x3_34 ||| 0)), (0, .ref h), (2, .int a2)]) hx hb dX9_orders_134 hl (k := 1) rfl rfl (by decide) rfl (fun ls hl => ?_)
              refine lv_goto (tgt := 65) hx hb dX9_orders_137 (by decide) ?_
              exact hin32 (x3_34 ||| 0, x4_35 + 1) (Option.some.inj hX32).symm _ _ _ hP hD hS (lv_sub hl [0, 1, 2, 3] rfl)
            · replace hX32 := k_neg hX32 c38
              refine lv_iload_n hx hb dX9_orders_85 rfl (lv_at hl 3 rfl) ?_
              refine lv_aload_n hx hb dX9_orders_86 rfl (lv_at hl 2 rfl) ?_
              refine k_get (C := RX9) (T := TX9) (N := 19) hx hb hts inX9 hown hK hP 0 rfl rfl 11 (by decide) rfl wl5 rfl dX9_orders_87 ?_
              refine lv_iload hx hb dX9_orders_90 (lv_at hl 0 rfl) ?_
              obtain ⟨hi39, hX32⟩ := k_ix_some hX32
              refine k_iald (k := x4_35.toNatClampNeg) hx hb hK hP 7 0 rfl rfl hi39 rfl dX9_orders_92 ?_
              refine lv_icmp_lt (tgt := 131) hx hb dX9_orders_93 (by decide) (fun c40 => ?_) (fun c40 => ?_)
              · replace hX32 := k_pos hX32 c40
                refine lv_iconst (v := 0) hx hb dX9_orders_131 (by decide) ?_
                refine lv_ior hx hb dX9_orders_132 ?_
                refine lv_istore_n (lv' := [(3, .int (x3_34 ||| 0)), (4, .int x4_35), (0, .ref h), (2, .int a2)]) hx hb dX9_orders_133 rfl hl (by decide) rfl (fun ls hl => ?_)
                refine lv_iinc (v := x4_35 + 1) (lv' := [(4, .int (x4_35 + 1)), (3, .int (x3_34 ||| 0)), (0, .ref h), (2, .int a2)]) hx hb dX9_orders_134 hl (k := 1) rfl rfl (by decide) rfl (fun ls hl => ?_)
                refine lv_goto (tgt := 65) hx hb dX9_orders_137 (by decide) ?_
                exact hin32 (x3_34 ||| 0, x4_35 + 1) (Option.some.inj hX32).symm _ _ _ hP hD hS (lv_sub hl [0, 1, 2, 3] rfl)
              · replace hX32 := k_neg hX32 c40
                refine lv_iload_n hx hb dX9_orders_96 rfl (lv_at hl 3 rfl) ?_
                refine lv_aload_n hx hb dX9_orders_97 rfl (lv_at hl 2 rfl) ?_
                refine k_get (C := RX9) (T := TX9) (N := 19) hx hb hts inX9 hown hK hP 0 rfl rfl 11 (by decide) rfl wl5 rfl dX9_orders_98 ?_
                refine lv_iload hx hb dX9_orders_101 (lv_at hl 0 rfl) ?_
                obtain ⟨hi41, hX32⟩ := k_ix_some hX32
                refine k_iald (k := x4_35.toNatClampNeg) hx hb hK hP 7 0 rfl rfl hi41 rfl dX9_orders_103 ?_
                refine lv_aload_n hx hb dX9_orders_104 rfl (lv_at hl 2 rfl) ?_
                refine lv_aload_n hx hb dX9_orders_105 rfl (lv_at hl 2 rfl) ?_
                refine k_get (C := RX9) (T := TX9) (N := 19) hx hb hts inX9 hown hK hP 0 rfl rfl 9 (by decide) rfl wl6 rfl dX9_orders_106 ?_
                refine lv_iload hx hb dX9_orders_109 (lv_at hl 0 rfl) ?_
                obtain ⟨hi42, hX32⟩ := k_ix_some hX32
                refine k_iald (k := x4_35.toNatClampNeg) hx hb hK hP 2 0 rfl rfl hi42 rfl dX9_orders_111 ?_
                obtain ⟨r43, hc43, hX32⟩ := k_b1_some hX32
                refine k_ViR (q0 := 0) (As := [.int (w_h_counts_12 x4_35.toNatClampNeg)]) (rest := [.int (w_h_best_14 x4_35.toNatClampNeg), .int a2, .int x3_34]) S0 (c_X9_hoursFor l D cI cZ cJ cS h h_now h_aside h_books h_tide h_rain h_rule h_counts h_begins h_best h_planks 0 v_h_kept w_h_counted_8 w_h_bestWorth_9 w_h_bestPitch_10 w_h_bestBits_11 v_h_leastHour v_h_leastSet v_h_shut f_h_now (w_h_counts_12 x4_35.toNatClampNeg) r43 hc43) (cwV 1 hts gX9_orders_X9_hoursFor rfl rfl rfl hdV_X9_hoursFor ⟨Nat.le_of_ble_eq_true rfl, Nat.le_of_ble_eq_true rfl⟩) hK hP hD hS hA hN [0, 1] rfl (by decide) rfl rfl rfl rfl hl.1 rfl (Nat.le_of_ble_eq_true rfl) dX9_orders_112 (fun H locs hP hS => ?_)
                refine lv_iadd hx hb dX9_orders_115 ?_
                refine lv_icmp_ge (tgt := 131) hx hb dX9_orders_116 (by decide) (fun c44 => ?_) (fun c44 => ?_)
                · replace hX32 := k_pos hX32 c44
                  refine lv_iconst (v := 0) hx hb dX9_orders_131 (by decide) ?_
                  refine lv_ior hx hb dX9_orders_132 ?_
                  refine lv_istore_n (lv' := [(3, .int (x3_34 ||| 0)), (4, .int x4_35), (0, .ref h), (2, .int a2)]) hx hb dX9_orders_133 rfl hl (by decide) rfl (fun ls hl => ?_)
                  refine lv_iinc (v := x4_35 + 1) (lv' := [(4, .int (x4_35 + 1)), (3, .int (x3_34 ||| 0)), (0, .ref h), (2, .int a2)]) hx hb dX9_orders_134 hl (k := 1) rfl rfl (by decide) rfl (fun ls hl => ?_)
                  refine lv_goto (tgt := 65) hx hb dX9_orders_137 (by decide) ?_
                  exact hin32 (x3_34 ||| 0, x4_35 + 1) (Option.some.inj hX32).symm _ _ _ hP hD hS (lv_sub hl [0, 1, 2, 3] rfl)
                · replace hX32 := k_neg hX32 c44
                  refine lv_iconst (v := 1) hx hb dX9_orders_119 (by decide) ?_
                  refine lv_aload_n hx hb dX9_orders_120 rfl (lv_at hl 2 rfl) ?_
                  refine k_get (C := RX9) (T := TX9) (N := 19) hx hb hts inX9 hown hK hP 0 rfl rfl 9 (by decide) rfl wl6 rfl dX9_orders_121 ?_
                  refine lv_iload hx hb dX9_orders_124 (lv_at hl 0 rfl) ?_
                  obtain ⟨hi45, hX32⟩ := k_ix_some hX32
                  refine k_iald (k := x4_35.toNatClampNeg) hx hb hK hP 2 0 rfl rfl hi45 rfl dX9_orders_126 ?_
                  refine lv_ishl hx hb dX9_orders_127 ?_
                  refine lv_goto (tgt := 132) hx hb dX9_orders_128 (by decide) ?_
                  refine lv_ior hx hb dX9_orders_132 ?_
                  refine lv_istore_n (lv' := [(3, .int (x3_34 ||| (1 <<< ((w_h_counts_12 x4_35.toNatClampNeg) &&& 31)))), (4, .int x4_35), (0, .ref h), (2, .int a2)]) hx hb dX9_orders_133 rfl hl (by decide) rfl (fun ls hl => ?_)
                  refine lv_iinc (v := x4_35 + 1) (lv' := [(4, .int (x4_35 + 1)), (3, .int (x3_34 ||| (1 <<< ((w_h_counts_12 x4_35.toNatClampNeg) &&& 31)))), (0, .ref h), (2, .int a2)]) hx hb dX9_orders_134 hl (k := 1) rfl rfl (by decide) rfl (fun ls hl => ?_)
                  refine lv_goto (tgt := 65) hx hb dX9_orders_137 (by decide) ?_
                  exact hin32 (x3_34 ||| (1 <<< ((w_h_counts_12 x4_35.toNatClampNeg) &&& 31)), x4_35 + 1) (Option.some.inj hX32).symm _ _ _ hP hD hS (lv_sub hl [0, 1, 2, 3] rfl)
        · replace hf := k_neg hf c7
          refine lv_bipush (v := (-2)) hx hb dX9_orders_52 (by decide) ?_
          exact hRet _ _ _ _ _ _ _ _ _ hf _ _ _ _ hP hD hS rfl dX9_orders_54
    · replace hf := k_pos hf c4
      refine lv_iconst (v := (-1)) hx hb dX9_orders_30 (by decide) ?_
      exact hRet _ _ _ _ _ _ _ _ _ hf _ _ _ _ hP hD hS rfl dX9_orders_31

def lj_X9_findFloat_466 (x10_440 : Int32) (x9_451 : Int32) (c_h_leastHour_452 : Int32) (c_h_leastSet_453 : Int32) : Option ((Int32 × Int32 × Int32 × Int32) ⊕ (Int32 × Int32)) :=
  some (.inl (x10_440 + 1, x9_451, c_h_leastHour_452, c_h_leastSet_453))
def lb_X9_findFloat_405 (x5_398 : Int32) (f_h_rule : Nat → Int32) (f_h_tide : Nat → Int32) (x6_399 : Int32) (x4_349 : Int32) (x10_440 : Int32) (x9_441 : Int32) (c_h_leastHour_442 : Int32) (c_h_leastSet_443 : Int32) : Option ((Int32 × Int32 × Int32 × Int32) ⊕ (Int32 × Int32)) :=
  if 96 ≤ x10_440 then
    some (.inr (c_h_leastHour_442, c_h_leastSet_443))
  else
    if x5_398 = 0 then
      some (.inr (c_h_leastHour_442, c_h_leastSet_443))
    else
      if x9_441 = 0 then
        k_b1 (p_X9_floats f_h_rule f_h_tide x10_440 x6_399) fun r455 =>
        if r455 = 0 then
          lj_X9_findFloat_466 x10_440 x9_441 c_h_leastHour_442 c_h_leastSet_443
        else
          if c_h_leastHour_442 = (-4) then
            lj_X9_findFloat_466 x10_440 1 x10_440 x4_349
          else
            if c_h_leastHour_442 ≤ x10_440 then
              lj_X9_findFloat_466 x10_440 1 c_h_leastHour_442 c_h_leastSet_443
            else
              lj_X9_findFloat_466 x10_440 1 x10_440 x4_349
      else
        some (.inr (c_h_leastHour_442, c_h_leastSet_443))
def lj_X9_findFloat_396 (x5_398 : Int32) (f_h_rule : Nat → Int32) (f_h_tide : Nat → Int32) (x6_399 : Int32) (x4_349 : Int32) (c_h_leastHour_350 : Int32) (c_h_leastSet_351 : Int32) (t402 : Int32) : Option ((Int32 × Int32 × Int32) ⊕ (Int32 × Int32)) :=
  k_b2 (k_lp (fun s => lb_X9_findFloat_405 x5_398 f_h_rule f_h_tide x6_399 x4_349 s.1 s.2.1 s.2.2.1 s.2.2.2) k_fuel (t402, 0, c_h_leastHour_350, c_h_leastSet_351)) fun c_h_leastHour_438 c_h_leastSet_439 =>
  some (.inl (x4_349 + 1, c_h_leastHour_438, c_h_leastSet_439))
def lj_X9_findFloat_352 (x8_463 : Int32) (x6_461 : Int32) (c_h_now_82 : Nat → Int32) (x7_462 : Int32) (t474 : Int32) : Option ((Int32 × Int32 × Int32 × Int32) ⊕ (Int32 × Int32 × Int32)) :=
  k_ix (13 + x8_463) 169 (
    some (.inl (t474, x6_461 + (c_h_now_82 (13 + x8_463).toNatClampNeg), x7_462 + 1, x8_463 + 1)))
def lb_X9_findFloat_264 (c_h_now_82 : Nat → Int32) (x4_349 : Int32) (x5_460 : Int32) (x6_461 : Int32) (x7_462 : Int32) (x8_463 : Int32) : Option ((Int32 × Int32 × Int32 × Int32) ⊕ (Int32 × Int32 × Int32)) :=
  if (c_h_now_82 10) ≤ x8_463 then
    some (.inr (x5_460, x6_461, x7_462))
  else
    if ((x4_349 >>> (x8_463 &&& 31)) &&& 1) = 1 then
      k_ix (25 + x8_463) 169 (
        if x5_460 = 0 then
          lj_X9_findFloat_352 x8_463 x6_461 c_h_now_82 x7_462 0
        else
          k_ix (37 + x8_463) 169 (
            if (c_h_now_82 (37 + x8_463).toNatClampNeg) = 0 then
              if (c_h_now_82 (25 + x8_463).toNatClampNeg) < 0 then
                lj_X9_findFloat_352 x8_463 x6_461 c_h_now_82 x7_462 1
              else
                k_ix (37 + (c_h_now_82 (25 + x8_463).toNatClampNeg)) 169 (
                  if (c_h_now_82 (37 + (c_h_now_82 (25 + x8_463).toNatClampNeg)).toNatClampNeg) = 1 then
                    lj_X9_findFloat_352 x8_463 x6_461 c_h_now_82 x7_462 1
                  else
                    if ((x4_349 >>> ((c_h_now_82 (25 + x8_463).toNatClampNeg) &&& 31)) &&& 1) = 1 then
                      lj_X9_findFloat_352 x8_463 x6_461 c_h_now_82 x7_462 1
                    else
                      lj_X9_findFloat_352 x8_463 x6_461 c_h_now_82 x7_462 0)
            else
              lj_X9_findFloat_352 x8_463 x6_461 c_h_now_82 x7_462 0))
    else
      some (.inl (x5_460, x6_461, x7_462, x8_463 + 1))
def lb_X9_findFloat_231 (c_h_now_82 : Nat → Int32) (t71 : Int32) (f_h_rule : Nat → Int32) (f_h_now : Nat → Int32) (c_h_now_67 : Nat → Int32) (t74 : Int32) (f_h_tide : Nat → Int32) (x4_349 : Int32) (c_h_leastHour_350 : Int32) (c_h_leastSet_351 : Int32) : Option ((Int32 × Int32 × Int32) ⊕ (Int32 × Int32)) :=
  if (1 <<< ((c_h_now_82 10) &&& 31)) ≤ x4_349 then
    some (.inr (c_h_leastHour_350, c_h_leastSet_351))
  else
    if t71 = 0 then
      some (.inr (c_h_leastHour_350, c_h_leastSet_351))
    else
      k_b1 (p_X9_total f_h_rule c_h_now_82) fun r354 =>
      k_b3 (k_lp (fun s => lb_X9_findFloat_264 c_h_now_82 x4_349 s.1 s.2.1 s.2.2.1 s.2.2.2) k_fuel (1, r354, 0, 0)) fun x5_398 x6_399 x7_400 =>
      if ((f_h_now 0) + x7_400) ≤ ((c_h_now_67 0) + t74) then
        lj_X9_findFloat_396 x5_398 f_h_rule f_h_tide x6_399 x4_349 c_h_leastHour_350 c_h_leastSet_351 ((c_h_now_67 0) + t74)
      else
        lj_X9_findFloat_396 x5_398 f_h_rule f_h_tide x6_399 x4_349 c_h_leastHour_350 c_h_leastSet_351 ((f_h_now 0) + x7_400)
def lb_X9_findFloat_200 (c_h_aside_7 : Nat → Int32) (x4_484 : Int32) (c_h_now_485 : Nat → Int32) : Option ((Int32 × (Nat → Int32)) ⊕ ((Nat → Int32))) :=
  if 169 ≤ x4_484 then
    some (.inr c_h_now_485)
  else
    k_ix x4_484 169 (
      k_ix x4_484 169 (
        some (.inl (x4_484 + 1, upd c_h_now_485 x4_484.toNatClampNeg (c_h_aside_7 x4_484.toNatClampNeg)))))
def lj_X9_findFloat_195 (c_h_aside_7 : Nat → Int32) (c_h_now_67 : Nat → Int32) (t71 : Int32) (f_h_rule : Nat → Int32) (f_h_now : Nat → Int32) (f_h_tide : Nat → Int32) (v_h_leastSet : Int32) (t74 : Int32) : Option (Int32 × Int32 × Int32 × (Nat → Int32) × (Nat → Int32)) :=
  k_b1 (k_lp (fun s => lb_X9_findFloat_200 c_h_aside_7 s.1 s.2) k_fuel (0, c_h_now_67)) fun c_h_now_82 =>
  k_b2 (k_lp (fun s => lb_X9_findFloat_231 c_h_now_82 t71 f_h_rule f_h_now c_h_now_67 t74 f_h_tide s.1 s.2.1 s.2.2) k_fuel (0, (-4), v_h_leastSet)) fun c_h_leastHour_347 c_h_leastSet_348 =>
  some (c_h_leastHour_347, c_h_leastSet_348, c_h_now_67 0, c_h_now_82, c_h_aside_7)
def lj_X9_findFloat_155 (c_h_now_67 : Nat → Int32) (c_h_aside_7 : Nat → Int32) (f_h_rule : Nat → Int32) (f_h_now : Nat → Int32) (f_h_tide : Nat → Int32) (v_h_leastSet : Int32) (t71 : Int32) : Option (Int32 × Int32 × Int32 × (Nat → Int32) × (Nat → Int32)) :=
  if 0 ≤ (c_h_now_67 1) then
    lj_X9_findFloat_195 c_h_aside_7 c_h_now_67 t71 f_h_rule f_h_now f_h_tide v_h_leastSet (c_h_now_67 1)
  else
    lj_X9_findFloat_195 c_h_aside_7 c_h_now_67 t71 f_h_rule f_h_now f_h_tide v_h_leastSet (-(c_h_now_67 1))
def lj_X9_findFloat_126 (c_h_now_494 : Nat → Int32) (f_h_rain : Nat → Int32) (f_h_rule : Nat → Int32) (f_h_tide : Nat → Int32) (x3_507 : Int32) (t511 : Int32) : Option ((Int32 × (Nat → Int32)) ⊕ (Int32 × (Nat → Int32))) :=
  if t511 = 0 then
    some (.inl (t511, c_h_now_494))
  else
    k_b1 (p_X9_pass c_h_now_494 f_h_rain f_h_rule f_h_tide x3_507) fun w_h_now_514 =>
    some (.inl (t511, w_h_now_514))
def lb_X9_findFloat_59 (c_h_now_494 : Nat → Int32) (x3_518 : Int32) (x4_519 : Int32) : Option ((Int32 × Int32) ⊕ (Int32)) :=
  if (c_h_now_494 12) ≤ x4_519 then
    some (.inr x3_518)
  else
    k_ix (145 + x4_519) 169 (
      if (c_h_now_494 (145 + x4_519).toNatClampNeg) = 1 then
        some (.inl (x3_518 ||| (1 <<< (x4_519 &&& 31)), x4_519 + 1))
      else
        some (.inl (x3_518 ||| 0, x4_519 + 1)))
def lb_X9_findFloat_42 (f_h_rain : Nat → Int32) (f_h_rule : Nat → Int32) (f_h_tide : Nat → Int32) (x2_493 : Int32) (c_h_now_494 : Nat → Int32) : Option ((Int32 × (Nat → Int32)) ⊕ (Int32 × (Nat → Int32))) :=
  if x2_493 = 0 then
    some (.inr (x2_493, c_h_now_494))
  else
    k_b1 (p_X9_states c_h_now_494 1) fun r496 =>
    if r496 ≤ 0 then
      some (.inr (x2_493, c_h_now_494))
    else
      k_b1 (k_lp (fun s => lb_X9_findFloat_59 c_h_now_494 s.1 s.2) k_fuel (0, 0)) fun x3_507 =>
      k_b1 (p_X9_isLost c_h_now_494) fun r515 =>
      if r515 = 0 then
        if 96 ≤ (c_h_now_494 0) then
          lj_X9_findFloat_126 c_h_now_494 f_h_rain f_h_rule f_h_tide x3_507 0
        else
          lj_X9_findFloat_126 c_h_now_494 f_h_rain f_h_rule f_h_tide x3_507 1
      else
        lj_X9_findFloat_126 c_h_now_494 f_h_rain f_h_rule f_h_tide x3_507 0
def lb_X9_findFloat_9 (f_h_now : Nat → Int32) (x2_523 : Int32) (c_h_aside_524 : Nat → Int32) : Option ((Int32 × (Nat → Int32)) ⊕ ((Nat → Int32))) :=
  if 169 ≤ x2_523 then
    some (.inr c_h_aside_524)
  else
    k_ix x2_523 169 (
      k_ix x2_523 169 (
        some (.inl (x2_523 + 1, upd c_h_aside_524 x2_523.toNatClampNeg (f_h_now x2_523.toNatClampNeg)))))
def p_X9_findFloat (v_h_leastSet : Int32) (f_h_now : Nat → Int32) (f_h_aside : Nat → Int32) (f_h_rain : Nat → Int32) (f_h_rule : Nat → Int32) (f_h_tide : Nat → Int32) : Option (Int32 × Int32 × Int32 × (Nat → Int32) × (Nat → Int32)) :=
  k_b1 (k_lp (fun s => lb_X9_findFloat_9 f_h_now s.1 s.2) k_fuel (0, f_h_aside)) fun c_h_aside_7 =>
  k_b2 (k_lp (fun s => lb_X9_findFloat_42 f_h_rain f_h_rule f_h_tide s.1 s.2) k_fuel (1, f_h_now)) fun x2_66 c_h_now_67 =>
  if x2_66 = 0 then
    lj_X9_findFloat_155 c_h_now_67 c_h_aside_7 f_h_rule f_h_now f_h_tide v_h_leastSet 0
  else
    k_b1 (p_X9_isLost c_h_now_67) fun r491 =>
    if r491 = 0 then
      lj_X9_findFloat_155 c_h_now_67 c_h_aside_7 f_h_rule f_h_now f_h_tide v_h_leastSet 1
    else
      lj_X9_findFloat_155 c_h_now_67 c_h_aside_7 f_h_rule f_h_now f_h_tide v_h_leastSet 0
abbrev rm_X9_findFloat : Room := { frames := 6, cells := 0, slots := 0, locals := 139 }
theorem hdS_X9_findFloat : yX9_findFloat.cls ≠ "java/lang/invoke/MethodHandle" ∧ yX9_findFloat.cls ≠ "java/lang/invoke/VarHandle" ∧ (parseMethodDescriptor yX9_findFloat.desc).map (fun d => d.parameters.length) = some 0 := by decide +kernel
theorem hdV_X9_findFloat : yX9_findFloat.cls = RX9 ∧ yX9_findFloat.cls ≠ "java/lang/invoke/MethodHandle" ∧ yX9_findFloat.cls ≠ "java/lang/invoke/VarHandle" ∧ (parseMethodDescriptor yX9_findFloat.desc).map (fun d => d.parameters.length) = some 0 := by decide +kernel
set_option maxHeartbeats 4000000 in
set_option maxRecDepth 100000 in
theorem c_X9_findFloat (l : Launch) (D : va_G) (cI cZ cJ cS : ClassId) (h h_now h_aside h_books h_tide h_rain h_rule h_counts h_begins h_best h_planks : Nat) (v_h_thrown : Int32) (v_h_kept : Int32) (v_h_counted : Int32) (v_h_bestWorth : Int32) (v_h_bestPitch : Int32) (v_h_bestBits : Int32) (v_h_leastHour : Int32) (v_h_leastSet : Int32) (v_h_shut : Int32) (f_h_now : Nat → Int32) (f_h_aside : Nat → Int32) (f_h_rain : Nat → Int32) (f_h_rule : Nat → Int32) (f_h_tide : Nat → Int32) (v_h_leastHour' : Int32) (v_h_leastSet' : Int32) (v_h_shut' : Int32) (f_h_now' : Nat → Int32) (f_h_aside' : Nat → Int32) (hf : p_X9_findFloat v_h_leastSet f_h_now f_h_aside f_h_rain f_h_rule f_h_tide = some (v_h_leastHour', v_h_leastSet', v_h_shut', f_h_now', f_h_aside')) : k_MV l yX9_findFloat wsX9_findFloat rm_X9_findFloat D (k_tys cI cZ cJ cS) [.ref h] [(h, .inr (9, [.int v_h_thrown, .ref h_now, .ref h_aside, .int v_h_kept, .ref h_books, .ref h_tide, .ref h_rain, .ref h_rule, .int v_h_counted, .ref h_counts, .ref h_begins, .ref h_best, .int v_h_bestWorth, .int v_h_bestPitch, .int v_h_bestBits, .int v_h_leastHour, .int v_h_leastSet, .int v_h_shut, .ref h_planks])), (h_now, .inl (cI, 169, .inl f_h_now)), (h_aside, .inl (cI, 169, .inl f_h_aside)), (h_rain, .inl (cI, 96, .inl f_h_rain)), (h_rule, .inl (cI, 8, .inl f_h_rule)), (h_tide, .inl (cI, 96, .inl f_h_tide))] [(h, .inr (9, [.int v_h_thrown, .ref h_now, .ref h_aside, .int v_h_kept, .ref h_books, .ref h_tide, .ref h_rain, .ref h_rule, .int v_h_counted, .ref h_counts, .ref h_begins, .ref h_best, .int v_h_bestWorth, .int v_h_bestPitch, .int v_h_bestBits, .int v_h_leastHour', .int v_h_leastSet', .int v_h_shut', .ref h_planks])), (h_now, .inl (cI, 169, .inl f_h_now')), (h_aside, .inl (cI, 169, .inl f_h_aside')), (h_rain, .inl (cI, 96, .inl f_h_rain)), (h_rule, .inl (cI, 8, .inl f_h_rule)), (h_tide, .inl (cI, 96, .inl f_h_tide))] := by
  refine k_enter (y := yX9_findFloat) (wl := wsX9_findFloat) (rm := rm_X9_findFloat) (av := [.ref h]) (D := D) (tys := k_tys cI cZ cJ cS) (ws := [(h, .inr (9, [.int v_h_thrown, .ref h_now, .ref h_aside, .int v_h_kept, .ref h_books, .ref h_tide, .ref h_rain, .ref h_rule, .int v_h_counted, .ref h_counts, .ref h_begins, .ref h_best, .int v_h_bestWorth, .int v_h_bestPitch, .int v_h_bestBits, .int v_h_leastHour, .int v_h_leastSet, .int v_h_shut, .ref h_planks])), (h_now, .inl (cI, 169, .inl f_h_now)), (h_aside, .inl (cI, 169, .inl f_h_aside)), (h_rain, .inl (cI, 96, .inl f_h_rain)), (h_rule, .inl (cI, 8, .inl f_h_rule)), (h_tide, .inl (cI, 96, .inl f_h_tide))]) (cc := cX9_findFloat) (maxL := 11) (ret := none) (Qc := fun A => k_Qv D (k_tys cI cZ cJ cS) [(h, .inr (9, [.int v_h_thrown, .ref h_now, .ref h_aside, .int v_h_kept, .ref h_books, .ref h_tide, .ref h_rain, .ref h_rule, .int v_h_counted, .ref h_counts, .ref h_begins, .ref h_best, .int v_h_bestWorth, .int v_h_bestPitch, .int v_h_bestBits, .int v_h_leastHour', .int v_h_leastSet', .int v_h_shut', .ref h_planks])), (h_now, .inl (cI, 169, .inl f_h_now')), (h_aside, .inl (cI, 169, .inl f_h_aside')), (h_rain, .inl (cI, 96, .inl f_h_rain)), (h_rule, .inl (cI, 8, .inl f_h_rule)), (h_tide, .inl (cI, 96, .inl f_h_tide))] A) (by decide) rfl (Nat.le_of_ble_eq_true rfl) [(0, .ref h)] rfl ?_
  intro p e s m below meth c A hx hb hml hr hlocks hnm hown hK hP hD hA hS hN ls args Q hts hl hQ
  replace hown : s.vm.findClass RX9 = some m.cls := hown
  have S0 : CallFix p m c cX9_findFloat 11 s args wsX9_findFloat RX9 := ⟨hx, hb, hml, hown, hts⟩
  have inX9 : ∀ w ∈ u_ws RX9 TX9 19, w ∈ wsX9_findFloat := fun w h => List.mem_cons_of_mem _ (List.mem_append_right _ h)
  have wl1 : (Cond.fieldLink RX9 13 "BeachedShipModel" "now" "[I").before args s = true := hts _ (List.mem_of_getElem? (i := 1) rfl)
  have wl2 : (Cond.fieldLink RX9 17 "BeachedShipModel" "aside" "[I").before args s = true := hts _ (List.mem_of_getElem? (i := 2) rfl)
  have wl3 : (Cond.fieldLink RX9 165 "BeachedShipModel" "leastHour" "I").before args s = true := hts _ (List.mem_of_getElem? (i := 3) rfl)
  have wl4 : (Cond.fieldLink RX9 168 "BeachedShipModel" "shut" "I").before args s = true := hts _ (List.mem_of_getElem? (i := 4) rfl)
  have wl5 : (Cond.fieldLink RX9 171 "BeachedShipModel" "leastSet" "I").before args s = true := hts _ (List.mem_of_getElem? (i := 5) rfl)
  have hRet : ∀ (v_h_leastHour_z : Int32) (v_h_leastSet_z : Int32) (v_h_shut_z : Int32) (f_h_now_z : Nat → Int32) (f_h_aside_z : Nat → Int32), some (v_h_leastHour_z, v_h_leastSet_z, v_h_shut_z, f_h_now_z, f_h_aside_z) = some (v_h_leastHour', v_h_leastSet', v_h_shut', f_h_now', f_h_aside') → ∀ (H : Heap) (locs : List Loc) (ls : Array Slot) (pc : Nat), va_P D vwCl [(h, .inr (9, [.int v_h_thrown, .ref h_now, .ref h_aside, .int v_h_kept, .ref h_books, .ref h_tide, .ref h_rain, .ref h_rule, .int v_h_counted, .ref h_counts, .ref h_begins, .ref h_best, .int v_h_bestWorth, .int v_h_bestPitch, .int v_h_bestBits, .int v_h_leastHour_z, .int v_h_leastSet_z, .int v_h_shut_z, .ref h_planks])), (h_now, .inl (cI, 169, .inl f_h_now_z)), (h_aside, .inl (cI, 169, .inl f_h_aside_z)), (h_rain, .inl (cI, 96, .inl f_h_rain)), (h_rule, .inl (cI, 8, .inl f_h_rule)), (h_tide, .inl (cI, 96, .inl f_h_tide))] H → va_D A [(h, .inr (9, [.int v_h_thrown, .ref h_now, .ref h_aside, .int v_h_kept, .ref h_books, .ref h_tide, .ref h_rain, .ref h_rule, .int v_h_counted, .ref h_counts, .ref h_begins, .ref h_best, .int v_h_bestWorth, .int v_h_bestPitch, .int v_h_bestBits, .int v_h_leastHour_z, .int v_h_leastSet_z, .int v_h_shut_z, .ref h_planks])), (h_now, .inl (cI, 169, .inl f_h_now_z)), (h_aside, .inl (cI, 169, .inl f_h_aside_z)), (h_rain, .inl (cI, 96, .inl f_h_rain)), (h_rule, .inl (cI, 8, .inl f_h_rule)), (h_tide, .inl (cI, 96, .inl f_h_tide))] → va_S A s.heap H locs → decode cX9_findFloat pc = .ok (.return_, 1) → W p l e rm_X9_findFloat s m args below meth c H locs 0 0 Q (F0 m pc ls []) := by
    intro v_h_leastHour_z v_h_leastSet_z v_h_shut_z f_h_now_z f_h_aside_z hz H locs ls pc hP hD hS hd
    cases hz
    exact k_vret hx hb hr hlocks hK hP hD hS hQ hd
  unfold p_X9_findFloat at hf
  refine lv_aload_n hx hb dX9_findFloat_0 rfl (lv_at hl 0 rfl) ?_
  refine k_get (C := RX9) (T := TX9) (N := 19) hx hb hts inX9 hown hK hP 0 rfl rfl 1 (by decide) rfl wl1 rfl dX9_findFloat_1 ?_
  refine lv_iconst (v := 0) hx hb dX9_findFloat_4 (by decide) ?_
  refine k_iald (k := 0) hx hb hK hP 1 0 rfl rfl (by unfold vp_in; decide) (by decide) dX9_findFloat_5 ?_
  refine lv_istore_n (lv' := [(1, .int (f_h_now 0)), (0, .ref h)]) hx hb dX9_findFloat_6 rfl hl (by decide) rfl (fun ls hl => ?_)
  refine lv_iconst (v := 0) hx hb dX9_findFloat_7 (by decide) ?_
  refine lv_istore_n (lv' := [(2, .int 0), (1, .int (f_h_now 0)), (0, .ref h)]) hx hb dX9_findFloat_8 rfl hl (by decide) rfl (fun ls hl => ?_)
  obtain ⟨ee6, hlp6, hfr6⟩ := k_b1_ee hf
  have hE6 : ∀ (c_h_aside_7 : Nat → Int32), ee6 = c_h_aside_7 → ∀ (H : Heap) (locs : List Loc) (ls : Array Slot), va_P D vwCl [(h, .inr (9, [.int v_h_thrown, .ref h_now, .ref h_aside, .int v_h_kept, .ref h_books, .ref h_tide, .ref h_rain, .ref h_rule, .int v_h_counted, .ref h_counts, .ref h_begins, .ref h_best, .int v_h_bestWorth, .int v_h_bestPitch, .int v_h_bestBits, .int v_h_leastHour, .int v_h_leastSet, .int v_h_shut, .ref h_planks])), (h_now, .inl (cI, 169, .inl f_h_now)), (h_aside, .inl (cI, 169, .inl c_h_aside_7)), (h_rain, .inl (cI, 96, .inl f_h_rain)), (h_rule, .inl (cI, 8, .inl f_h_rule)), (h_tide, .inl (cI, 96, .inl f_h_tide))] H → va_D A [(h, .inr (9, [.int v_h_thrown, .ref h_now, .ref h_aside, .int v_h_kept, .ref h_books, .ref h_tide, .ref h_rain, .ref h_rule, .int v_h_counted, .ref h_counts, .ref h_begins, .ref h_best, .int v_h_bestWorth, .int v_h_bestPitch, .int v_h_bestBits, .int v_h_leastHour, .int v_h_leastSet, .int v_h_shut, .ref h_planks])), (h_now, .inl (cI, 169, .inl f_h_now)), (h_aside, .inl (cI, 169, .inl c_h_aside_7)), (h_rain, .inl (cI, 96, .inl f_h_rain)), (h_rule, .inl (cI, 8, .inl f_h_rule)), (h_tide, .inl (cI, 96, .inl f_h_tide))] → va_S A s.heap H locs → lv_has ls 11 [(1, .int (f_h_now 0)), (0, .ref h)] → W p l e rm_X9_findFloat s m args below meth c H locs 0 0 Q (F0 m 34 ls []) := by
    intro c_h_aside_7 he H locs ls hP hD hS hl
    replace hf := hfr6 c_h_aside_7 he
    refine lv_aload_n hx hb dX9_findFloat_34 rfl (lv_at hl 1 rfl) ?_
    refine lv_bipush (v := (-4)) hx hb dX9_findFloat_35 (by decide) ?_
    refine k_putf (ws2 := [(h, .inr (9, [.int v_h_thrown, .ref h_now, .ref h_aside, .int v_h_kept, .ref h_books, .ref h_tide, .ref h_rain, .ref h_rule, .int v_h_counted, .ref h_counts, .ref h_begins, .ref h_best, .int v_h_bestWorth, .int v_h_bestPitch, .int v_h_bestBits, .int (-4), .int v_h_leastSet, .int v_h_shut, .ref h_planks])), (h_now, .inl (cI, 169, .inl f_h_now)), (h_aside, .inl (cI, 169, .inl c_h_aside_7)), (h_rain, .inl (cI, 96, .inl f_h_rain)), (h_rule, .inl (cI, 8, .inl f_h_rule)), (h_tide, .inl (cI, 96, .inl f_h_tide))]) (C := RX9) (T := TX9) (N := 19) hx hb hts inX9 tyX9 tyX9_ok nmX9 hown hK hP hD hS 0 rfl rfl 15 (by decide) rfl wl3 rfl rfl rfl (Nat.le_of_ble_eq_true rfl) rfl dX9_findFloat_37 (fun H locs hP hD hS => ?_)
    refine lv_iconst (v := 1) hx hb dX9_findFloat_40 (by decide) ?_
    refine lv_istore_n (lv' := [(2, .int 1), (1, .int (f_h_now 0)), (0, .ref h)]) hx hb dX9_findFloat_41 rfl hl (by decide) rfl (fun ls hl => ?_)
    obtain ⟨ee65, hlp65, hfr65⟩ := k_b2_ee hf
    have hE65 : ∀ (x2_66 : Int32) (c_h_now_67 : Nat → Int32), ee65 = (x2_66, c_h_now_67) → ∀ (H : Heap) (locs : List Loc) (ls : Array Slot), va_P D vwCl [(h, .inr (9, [.int v_h_thrown, .ref h_now, .ref h_aside, .int v_h_kept, .ref h_books, .ref h_tide, .ref h_rain, .ref h_rule, .int v_h_counted, .ref h_counts, .ref h_begins, .ref h_best, .int v_h_bestWorth, .int v_h_bestPitch, .int v_h_bestBits, .int (-4), .int v_h_leastSet, .int v_h_shut, .ref h_planks])), (h_now, .inl (cI, 169, .inl c_h_now_67)), (h_aside, .inl (cI, 169, .inl c_h_aside_7)), (h_rain, .inl (cI, 96, .inl f_h_rain)), (h_rule, .inl (cI, 8, .inl f_h_rule)), (h_tide, .inl (cI, 96, .inl f_h_tide))] H → va_D A [(h, .inr (9, [.int v_h_thrown, .ref h_now, .ref h_aside, .int v_h_kept, .ref h_books, .ref h_tide, .ref h_rain, .ref h_rule, .int v_h_counted, .ref h_counts, .ref h_begins, .ref h_best, .int v_h_bestWorth, .int v_h_bestPitch, .int v_h_bestBits, .int (-4), .int v_h_leastSet, .int v_h_shut, .ref h_planks])), (h_now, .inl (cI, 169, .inl c_h_now_67)), (h_aside, .inl (cI, 169, .inl c_h_aside_7)), (h_rain, .inl (cI, 96, .inl f_h_rain)), (h_rule, .inl (cI, 8, .inl f_h_rule)), (h_tide, .inl (cI, 96, .inl f_h_tide))] → va_S A s.heap H locs → lv_has ls 11 [(2, .int x2_66), (1, .int (f_h_now 0)), (0, .ref h)] → W p l e rm_X9_findFloat s m args below meth c H locs 0 0 Q (F0 m 139 ls []) := by
      intro x2_66 c_h_now_67 he H locs ls hP hD hS hl
      replace hf := hfr65 x2_66 c_h_now_67 he
      have hJ72 : ∀ (t71 : Int32), lj_X9_findFloat_155 c_h_now_67 c_h_aside_7 f_h_rule f_h_now f_h_tide v_h_leastSet t71 = some (v_h_leastHour', v_h_leastSet', v_h_shut', f_h_now', f_h_aside') → ∀ (H : Heap) (locs : List Loc) (ls : Array Slot), va_P D vwCl [(h, .inr (9, [.int v_h_thrown, .ref h_now, .ref h_aside, .int v_h_kept, .ref h_books, .ref h_tide, .ref h_rain, .ref h_rule, .int v_h_counted, .ref h_counts, .ref h_begins, .ref h_best, .int v_h_bestWorth, .int v_h_bestPitch, .int v_h_bestBits, .int (-4), .int v_h_leastSet, .int v_h_shut, .ref h_planks])), (h_now, .inl (cI, 169, .inl c_h_now_67)), (h_aside, .inl (cI, 169, .inl c_h_aside_7)), (h_rain, .inl (cI, 96, .inl f_h_rain)), (h_rule, .inl (cI, 8, .inl f_h_rule)), (h_tide, .inl (cI, 96, .inl f_h_tide))] H → va_D A [(h, .inr (9, [.int v_h_thrown, .ref h_now, .ref h_aside, .int v_h_kept, .ref h_books, .ref h_tide, .ref h_rain, .ref h_rule, .int v_h_counted, .ref h_counts, .ref h_begins, .ref h_best, .int v_h_bestWorth, .int v_h_bestPitch, .int v_h_bestBits, .int (-4), .int v_h_leastSet, .int v_h_shut, .ref h_planks])), (h_now, .inl (cI, 169, .inl c_h_now_67)), (h_aside, .inl (cI, 169, .inl c_h_aside_7)), (h_rain, .inl (cI, 96, .inl f_h_rain)), (h_rule, .inl (cI, 8, .inl f_h_rule)), (h_tide, .inl (cI, 96, .inl f_h_tide))] → va_S A s.heap H locs → lv_has ls 11 [(1, .int (f_h_now 0)), (0, .ref h)] → W p l e rm_X9_findFloat s m args below meth c H locs 0 0 Q (F0 m 155 ls [.int t71]) := by
        intro t71 hf_j H locs ls hP hD hS hl
        replace hf := hf_j
        unfold lj_X9_findFloat_155 at hf
        refine lv_istore_n (lv' := [(2, .int t71), (1, .int (f_h_now 0)), (0, .ref h)]) hx hb dX9_findFloat_155 rfl hl (by decide) rfl (fun ls hl => ?_)
        refine lv_aload_n hx hb dX9_findFloat_156 rfl (lv_at hl 2 rfl) ?_
        refine lv_aload_n hx hb dX9_findFloat_157 rfl (lv_at hl 2 rfl) ?_
        refine k_get (C := RX9) (T := TX9) (N := 19) hx hb hts inX9 hown hK hP 0 rfl rfl 1 (by decide) rfl wl1 rfl dX9_findFloat_158 ?_
        refine lv_iconst (v := 0) hx hb dX9_findFloat_161 (by decide) ?_
        refine k_iald (k := 0) hx hb hK hP 1 0 rfl rfl (by unfold vp_in; decide) (by decide) dX9_findFloat_162 ?_
        refine k_putf (ws2 := [(h, .inr (9, [.int v_h_thrown, .ref h_now, .ref h_aside, .int v_h_kept, .ref h_books, .ref h_tide, .ref h_rain, .ref h_rule, .int v_h_counted, .ref h_counts, .ref h_begins, .ref h_best, .int v_h_bestWorth, .int v_h_bestPitch, .int v_h_bestBits, .int (-4), .int v_h_leastSet, .int (c_h_now_67 0), .ref h_planks])), (h_now, .inl (cI, 169, .inl c_h_now_67)), (h_aside, .inl (cI, 169, .inl c_h_aside_7)), (h_rain, .inl (cI, 96, .inl f_h_rain)), (h_rule, .inl (cI, 8, .inl f_h_rule)), (h_tide, .inl (cI, 96, .inl f_h_tide))]) (C := RX9) (T := TX9) (N := 19) hx hb hts inX9 tyX9 tyX9_ok nmX9 hown hK hP hD hS 0 rfl rfl 17 (by decide) rfl wl4 rfl rfl rfl (Nat.le_of_ble_eq_true rfl) rfl dX9_findFloat_163 (fun H locs hP hD hS => ?_)
        refine lv_aload_n hx hb dX9_findFloat_166 rfl (lv_at hl 2 rfl) ?_
        refine k_get (C := RX9) (T := TX9) (N := 19) hx hb hts inX9 hown hK hP 0 rfl rfl 17 (by decide) rfl wl4 rfl dX9_findFloat_167 ?_
        have hJ75 : ∀ (t74 : Int32), lj_X9_findFloat_195 c_h_aside_7 c_h_now_67 t71 f_h_rule f_h_now f_h_tide v_h_leastSet t74 = some (v_h_leastHour', v_h_leastSet', v_h_shut', f_h_now', f_h_aside') → ∀ (H : Heap) (locs : List Loc) (ls : Array Slot), va_P D vwCl [(h, .inr (9, [.int v_h_thrown, .ref h_now, .ref h_aside, .int v_h_kept, .ref h_books, .ref h_tide, .ref h_rain, .ref h_rule, .int v_h_counted, .ref h_counts, .ref h_begins, .ref h_best, .int v_h_bestWorth, .int v_h_bestPitch, .int v_h_bestBits, .int (-4), .int v_h_leastSet, .int (c_h_now_67 0), .ref h_planks])), (h_now, .inl (cI, 169, .inl c_h_now_67)), (h_aside, .inl (cI, 169, .inl c_h_aside_7)), (h_rain, .inl (cI, 96, .inl f_h_rain)), (h_rule, .inl (cI, 8, .inl f_h_rule)), (h_tide, .inl (cI, 96, .inl f_h_tide))] H → va_D A [(h, .inr (9, [.int v_h_thrown, .ref h_now, .ref h_aside, .int v_h_kept, .ref h_books, .ref h_tide, .ref h_rain, .ref h_rule, .int v_h_counted, .ref h_counts, .ref h_begins, .ref h_best, .int v_h_bestWorth, .int v_h_bestPitch, .int v_h_bestBits, .int (-4), .int v_h_leastSet, .int (c_h_now_67 0), .ref h_planks])), (h_now, .inl (cI, 169, .inl c_h_now_67)), (h_aside, .inl (cI, 169, .inl c_h_aside_7)), (h_rain, .inl (cI, 96, .inl f_h_rain)), (h_rule, .inl (cI, 8, .inl f_h_rule)), (h_tide, .inl (cI, 96, .inl f_h_tide))] → va_S A s.heap H locs → lv_has ls 11 [(2, .int t71), (1, .int (f_h_now 0)), (0, .ref h)] → W p l e rm_X9_findFloat s m args below meth c H locs 0 0 Q (F0 m 195 ls [.int t74, .int (c_h_now_67 0)]) := by
          intro t74 hf_j H locs ls hP hD hS hl
          replace hf := hf_j
          unfold lj_X9_findFloat_195 at hf
          refine lv_iadd hx hb dX9_findFloat_195 ?_
          refine lv_istore_n (lv' := [(3, .int ((c_h_now_67 0) + t74)), (2, .int t71), (1, .int (f_h_now 0)), (0, .ref h)]) hx hb dX9_findFloat_196 rfl hl (by decide) rfl (fun ls hl => ?_)
          refine lv_iconst (v := 0) hx hb dX9_findFloat_197 (by decide) ?_
          refine lv_istore (lv' := [(4, .int 0), (3, .int ((c_h_now_67 0) + t74)), (2, .int t71), (1, .int (f_h_now 0)), (0, .ref h)]) hx hb dX9_findFloat_198 hl (by decide) rfl (fun ls hl => ?_)
          obtain ⟨ee81, hlp81, hfr81⟩ := k_b1_ee hf
          have hE81 : ∀ (c_h_now_82 : Nat → Int32), ee81 = c_h_now_82 → ∀ (H : Heap) (locs : List Loc) (ls : Array Slot), va_P D vwCl [(h, .inr (9, [.int v_h_thrown, .ref h_now, .ref h_aside, .int v_h_kept, .ref h_books, .ref h_tide, .ref h_rain, .ref h_rule, .int v_h_counted, .ref h_counts, .ref h_begins, .ref h_best, .int v_h_bestWorth, .int v_h_bestPitch, .int v_h_bestBits, .int (-4), .int v_h_leastSet, .int (c_h_now_67 0), .ref h_planks])), (h_now, .inl (cI, 169, .inl c_h_now_82)), (h_aside, .inl (cI, 169, .inl c_h_aside_7)), (h_rain, .inl (cI, 96, .inl f_h_rain)), (h_rule, .inl (cI, 8, .inl f_h_rule)), (h_tide, .inl (cI, 96, .inl f_h_tide))] H → va_D A [(h, .inr (9, [.int v_h_thrown, .ref h_now, .ref h_aside, .int v_h_kept, .ref h_books, .ref h_tide, .ref h_rain, .ref h_rule, .int v_h_counted, .ref h_counts, .ref h_begins, .ref h_best, .int v_h_bestWorth, .int v_h_bestPitch, .int v_h_bestBits, .int (-4), .int v_h_leastSet, .int (c_h_now_67 0), .ref h_planks])), (h_now, .inl (cI, 169, .inl c_h_now_82)), (h_aside, .inl (cI, 169, .inl c_h_aside_7)), (h_rain, .inl (cI, 96, .inl f_h_rain)), (h_rule, .inl (cI, 8, .inl f_h_rule)), (h_tide, .inl (cI, 96, .inl f_h_tide))] → va_S A s.heap H locs → lv_has ls 11 [(3, .int ((c_h_now_67 0) + t74)), (2, .int t71), (1, .int (f_h_now 0)), (0, .ref h)] → W p l e rm_X9_findFloat s m args below meth c H locs 0 0 Q (F0 m 228 ls []) := by
            intro c_h_now_82 he H locs ls hP hD hS hl
            replace hf := hfr81 c_h_now_82 he
            refine lv_iconst (v := 0) hx hb dX9_findFloat_228 (by decide) ?_
            refine lv_istore (lv' := [(4, .int 0), (3, .int ((c_h_now_67 0) + t74)), (2, .int t71), (1, .int (f_h_now 0)), (0, .ref h)]) hx hb dX9_findFloat_229 hl (by decide) rfl (fun ls hl => ?_)
            obtain ⟨ee346, hlp346, hfr346⟩ := k_b2_ee hf
            have hE346 : ∀ (c_h_leastHour_347 : Int32) (c_h_leastSet_348 : Int32), ee346 = (c_h_leastHour_347, c_h_leastSet_348) → ∀ (H : Heap) (locs : List Loc) (ls : Array Slot), va_P D vwCl [(h, .inr (9, [.int v_h_thrown, .ref h_now, .ref h_aside, .int v_h_kept, .ref h_books, .ref h_tide, .ref h_rain, .ref h_rule, .int v_h_counted, .ref h_counts, .ref h_begins, .ref h_best, .int v_h_bestWorth, .int v_h_bestPitch, .int v_h_bestBits, .int c_h_leastHour_347, .int c_h_leastSet_348, .int (c_h_now_67 0), .ref h_planks])), (h_now, .inl (cI, 169, .inl c_h_now_82)), (h_aside, .inl (cI, 169, .inl c_h_aside_7)), (h_rain, .inl (cI, 96, .inl f_h_rain)), (h_rule, .inl (cI, 8, .inl f_h_rule)), (h_tide, .inl (cI, 96, .inl f_h_tide))] H → va_D A [(h, .inr (9, [.int v_h_thrown, .ref h_now, .ref h_aside, .int v_h_kept, .ref h_books, .ref h_tide, .ref h_rain, .ref h_rule, .int v_h_counted, .ref h_counts, .ref h_begins, .ref h_best, .int v_h_bestWorth, .int v_h_bestPitch, .int v_h_bestBits, .int c_h_leastHour_347, .int c_h_leastSet_348, .int (c_h_now_67 0), .ref h_planks])), (h_now, .inl (cI, 169, .inl c_h_now_82)), (h_aside, .inl (cI, 169, .inl c_h_aside_7)), (h_rain, .inl (cI, 96, .inl f_h_rain)), (h_rule, .inl (cI, 8, .inl f_h_rule)), (h_tide, .inl (cI, 96, .inl f_h_tide))] → va_S A s.heap H locs → lv_has ls 11 [] → W p l e rm_X9_findFloat s m args below meth c H locs 0 0 Q (F0 m 478 ls []) := by
              intro c_h_leastHour_347 c_h_leastSet_348 he H locs ls hP hD hS hl
              replace hf := hfr346 c_h_leastHour_347 c_h_leastSet_348 he
              exact hRet _ _ _ _ _ hf _ _ _ _ hP hD hS dX9_findFloat_478
            refine (k_lp_ind (fun sx346 => ∀ (H : Heap) (locs : List Loc) (ls : Array Slot), va_P D vwCl [(h, .inr (9, [.int v_h_thrown, .ref h_now, .ref h_aside, .int v_h_kept, .ref h_books, .ref h_tide, .ref h_rain, .ref h_rule, .int v_h_counted, .ref h_counts, .ref h_begins, .ref h_best, .int v_h_bestWorth, .int v_h_bestPitch, .int v_h_bestBits, .int sx346.2.1, .int sx346.2.2, .int (c_h_now_67 0), .ref h_planks])), (h_now, .inl (cI, 169, .inl c_h_now_82)), (h_aside, .inl (cI, 169, .inl c_h_aside_7)), (h_rain, .inl (cI, 96, .inl f_h_rain)), (h_rule, .inl (cI, 8, .inl f_h_rule)), (h_tide, .inl (cI, 96, .inl f_h_tide))] H → va_D A [(h, .inr (9, [.int v_h_thrown, .ref h_now, .ref h_aside, .int v_h_kept, .ref h_books, .ref h_tide, .ref h_rain, .ref h_rule, .int v_h_counted, .ref h_counts, .ref h_begins, .ref h_best, .int v_h_bestWorth, .int v_h_bestPitch, .int v_h_bestBits, .int sx346.2.1, .int sx346.2.2, .int (c_h_now_67 0), .ref h_planks])), (h_now, .inl (cI, 169, .inl c_h_now_82)), (h_aside, .inl (cI, 169, .inl c_h_aside_7)), (h_rain, .inl (cI, 96, .inl f_h_rain)), (h_rule, .inl (cI, 8, .inl f_h_rule)), (h_tide, .inl (cI, 96, .inl f_h_tide))] → va_S A s.heap H locs → lv_has ls 11 [(4, .int sx346.1), (3, .int ((c_h_now_67 0) + t74)), (2, .int t71), (1, .int (f_h_now 0)), (0, .ref h)] → W p l e rm_X9_findFloat s m args below meth c H locs 0 0 Q (F0 m 231 ls [])) (fun sx346 X346 hX346 hin346 hout346 => ?_) _ _ hlp346) _ _ _ hP hD hS (lv_sub hl [0, 1, 2, 3, 4] rfl)
            obtain ⟨x4_349, c_h_leastHour_350, c_h_leastSet_351⟩ := sx346
            intro H locs ls hP hD hS hl
            replace hP : va_P D vwCl [(h, .inr (9, [.int v_h_thrown, .ref h_now, .ref h_aside, .int v_h_kept, .ref h_books, .ref h_tide, .ref h_rain, .ref h_rule, .int v_h_counted, .ref h_counts, .ref h_begins, .ref h_best, .int v_h_bestWorth, .int v_h_bestPitch, .int v_h_bestBits, .int c_h_leastHour_350, .int c_h_leastSet_351, .int (c_h_now_67 0), .ref h_planks])), (h_now, .inl (cI, 169, .inl c_h_now_82)), (h_aside, .inl (cI, 169, .inl c_h_aside_7)), (h_rain, .inl (cI, 96, .inl f_h_rain)), (h_rule, .inl (cI, 8, .inl f_h_rule)), (h_tide, .inl (cI, 96, .inl f_h_tide))] H := hP
            replace hD : va_D A [(h, .inr (9, [.int v_h_thrown, .ref h_now, .ref h_aside, .int v_h_kept, .ref h_books, .ref h_tide, .ref h_rain, .ref h_rule, .int v_h_counted, .ref h_counts, .ref h_begins, .ref h_best, .int v_h_bestWorth, .int v_h_bestPitch, .int v_h_bestBits, .int c_h_leastHour_350, .int c_h_leastSet_351, .int (c_h_now_67 0), .ref h_planks])), (h_now, .inl (cI, 169, .inl c_h_now_82)), (h_aside, .inl (cI, 169, .inl c_h_aside_7)), (h_rain, .inl (cI, 96, .inl f_h_rain)), (h_rule, .inl (cI, 8, .inl f_h_rule)), (h_tide, .inl (cI, 96, .inl f_h_tide))] := hD
            replace hl : lv_has ls 11 [(4, .int x4_349), (3, .int ((c_h_now_67 0) + t74)), (2, .int t71), (1, .int (f_h_now 0)), (0, .ref h)] := hl
            replace hX346 : lb_X9_findFloat_231 c_h_now_82 t71 f_h_rule f_h_now c_h_now_67 t74 f_h_tide x4_349 c_h_leastHour_350 c_h_leastSet_351 = some X346 := hX346
            unfold lb_X9_findFloat_231 at hX346
            refine lv_iload hx hb dX9_findFloat_231 (lv_at hl 0 rfl) ?_
            refine lv_iconst (v := 1) hx hb dX9_findFloat_233 (by decide) ?_
            refine lv_aload_n hx hb dX9_findFloat_234 rfl (lv_at hl 4 rfl) ?_
            refine k_get (C := RX9) (T := TX9) (N := 19) hx hb hts inX9 hown hK hP 0 rfl rfl 1 (by decide) rfl wl1 rfl dX9_findFloat_235 ?_
            refine lv_bipush (v := 10) hx hb dX9_findFloat_238 (by decide) ?_
            refine k_iald (k := 10) hx hb hK hP 1 0 rfl rfl (by unfold vp_in; decide) (by decide) dX9_findFloat_240 ?_
            refine lv_ishl hx hb dX9_findFloat_241 ?_
            refine lv_icmp_ge (tgt := 478) hx hb dX9_findFloat_242 (by decide) (fun c352 => ?_) (fun c352 => ?_)
            · replace hX346 := k_pos hX346 c352
              exact hE346 _ _ (hout346 _ (Option.some.inj hX346).symm).symm _ _ _ hP hD hS (lv_sub hl [] rfl)
            · replace hX346 := k_neg hX346 c352
              refine lv_iload_n hx hb dX9_findFloat_245 rfl (lv_at hl 2 rfl) ?_
              refine lv_if_eq (tgt := 478) hx hb dX9_findFloat_246 (by decide) (fun c353 => ?_) (fun c353 => ?_)
              · replace hX346 := k_pos hX346 c353
                exact hE346 _ _ (hout346 _ (Option.some.inj hX346).symm).symm _ _ _ hP hD hS (lv_sub hl [] rfl)
              · replace hX346 := k_neg hX346 c353
                refine lv_iconst (v := 1) hx hb dX9_findFloat_249 (by decide) ?_
                refine lv_istore (lv' := [(5, .int 1), (4, .int x4_349), (3, .int ((c_h_now_67 0) + t74)), (2, .int t71), (1, .int (f_h_now 0)), (0, .ref h)]) hx hb dX9_findFloat_250 hl (by decide) rfl (fun ls hl => ?_)
                refine lv_aload_n hx hb dX9_findFloat_252 rfl (lv_at hl 5 rfl) ?_
                obtain ⟨r354, hc354, hX346⟩ := k_b1_some hX346
                refine k_ViR (q0 := 0) (As := []) (rest := []) S0 (c_X9_total l D cI cZ cJ cS h h_now h_aside h_books h_tide h_rain h_rule h_counts h_begins h_best h_planks v_h_thrown v_h_kept v_h_counted v_h_bestWorth v_h_bestPitch v_h_bestBits c_h_leastHour_350 c_h_leastSet_351 (c_h_now_67 0) f_h_rule c_h_now_82 r354 hc354) (cwV 0 hts gX9_findFloat_X9_total rfl rfl rfl hdV_X9_total ⟨Nat.le_of_ble_eq_true rfl, Nat.le_of_ble_eq_true rfl⟩) hK hP hD hS hA hN [0, 4, 1] rfl (by decide) rfl rfl rfl rfl hl.1 rfl (Nat.le_of_ble_eq_true rfl) dX9_findFloat_253 (fun H locs hP hS => ?_)
                refine lv_istore (lv' := [(6, .int r354), (5, .int 1), (4, .int x4_349), (3, .int ((c_h_now_67 0) + t74)), (2, .int t71), (1, .int (f_h_now 0)), (0, .ref h)]) hx hb dX9_findFloat_256 hl (by decide) rfl (fun ls hl => ?_)
                refine lv_iconst (v := 0) hx hb dX9_findFloat_258 (by decide) ?_
                refine lv_istore (lv' := [(7, .int 0), (6, .int r354), (5, .int 1), (4, .int x4_349), (3, .int ((c_h_now_67 0) + t74)), (2, .int t71), (1, .int (f_h_now 0)), (0, .ref h)]) hx hb dX9_findFloat_259 hl (by decide) rfl (fun ls hl => ?_)
                refine lv_iconst (v := 0) hx hb dX9_findFloat_261 (by decide) ?_
                refine lv_istore (lv' := [(8, .int 0), (7, .int 0), (6, .int r354), (5, .int 1), (4, .int x4_349), (3, .int ((c_h_now_67 0) + t74)), (2, .int t71), (1, .int (f_h_now 0)), (0, .ref h)]) hx hb dX9_findFloat_262 hl (by decide) rfl (fun ls hl => ?_)
                obtain ⟨ee397, hlp397, hfr397⟩ := k_b3_ee hX346
                have hE397 : ∀ (x5_398 : Int32) (x6_399 : Int32) (x7_400 : Int32), ee397 = (x5_398, x6_399, x7_400) → ∀ (H : Heap) (locs : List Loc) (ls : Array Slot), va_P D vwCl [(h, .inr (9, [.int v_h_thrown, .ref h_now, .ref h_aside, .int v_h_kept, .ref h_books, .ref h_tide, .ref h_rain, .ref h_rule, .int v_h_counted, .ref h_counts, .ref h_begins, .ref h_best, .int v_h_bestWorth, .int v_h_bestPitch, .int v_h_bestBits, .int c_h_leastHour_350, .int c_h_leastSet_351, .int (c_h_now_67 0), .ref h_planks])), (h_now, .inl (cI, 169, .inl c_h_now_82)), (h_aside, .inl (cI, 169, .inl c_h_aside_7)), (h_rain, .inl (cI, 96, .inl f_h_rain)), (h_rule, .inl (cI, 8, .inl f_h_rule)), (h_tide, .inl (cI, 96, .inl f_h_tide))] H → va_D A [(h, .inr (9, [.int v_h_thrown, .ref h_now, .ref h_aside, .int v_h_kept, .ref h_books, .ref h_tide, .ref h_rain, .ref h_rule, .int v_h_counted, .ref h_counts, .ref h_begins, .ref h_best, .int v_h_bestWorth, .int v_h_bestPitch, .int v_h_bestBits, .int c_h_leastHour_350, .int c_h_leastSet_351, .int (c_h_now_67 0), .ref h_planks])), (h_now, .inl (cI, 169, .inl c_h_now_82)), (h_aside, .inl (cI, 169, .inl c_h_aside_7)), (h_rain, .inl (cI, 96, .inl f_h_rain)), (h_rule, .inl (cI, 8, .inl f_h_rule)), (h_tide, .inl (cI, 96, .inl f_h_tide))] → va_S A s.heap H locs → lv_has ls 11 [(7, .int x7_400), (6, .int x6_399), (5, .int x5_398), (4, .int x4_349), (3, .int ((c_h_now_67 0) + t74)), (2, .int t71), (1, .int (f_h_now 0)), (0, .ref h)] → W p l e rm_X9_findFloat s m args below meth c H locs 0 0 Q (F0 m 378 ls []) := by
                  intro x5_398 x6_399 x7_400 he H locs ls hP hD hS hl
                  replace hX346 := hfr397 x5_398 x6_399 x7_400 he
                  refine lv_iload_n hx hb dX9_findFloat_378 rfl (lv_at hl 6 rfl) ?_
                  refine lv_iload hx hb dX9_findFloat_379 (lv_at hl 0 rfl) ?_
                  refine lv_iadd hx hb dX9_findFloat_381 ?_
                  refine lv_istore (lv' := [(8, .int ((f_h_now 0) + x7_400)), (7, .int x7_400), (6, .int x6_399), (5, .int x5_398), (4, .int x4_349), (3, .int ((c_h_now_67 0) + t74)), (2, .int t71), (1, .int (f_h_now 0)), (0, .ref h)]) hx hb dX9_findFloat_382 hl (by decide) rfl (fun ls hl => ?_)
                  have hJ403 : ∀ (t402 : Int32), lj_X9_findFloat_396 x5_398 f_h_rule f_h_tide x6_399 x4_349 c_h_leastHour_350 c_h_leastSet_351 t402 = some X346 → ∀ (H : Heap) (locs : List Loc) (ls : Array Slot), va_P D vwCl [(h, .inr (9, [.int v_h_thrown, .ref h_now, .ref h_aside, .int v_h_kept, .ref h_books, .ref h_tide, .ref h_rain, .ref h_rule, .int v_h_counted, .ref h_counts, .ref h_begins, .ref h_best, .int v_h_bestWorth, .int v_h_bestPitch, .int v_h_bestBits, .int c_h_leastHour_350, .int c_h_leastSet_351, .int (c_h_now_67 0), .ref h_planks])), (h_now, .inl (cI, 169, .inl c_h_now_82)), (h_aside, .inl (cI, 169, .inl c_h_aside_7)), (h_rain, .inl (cI, 96, .inl f_h_rain)), (h_rule, .inl (cI, 8, .inl f_h_rule)), (h_tide, .inl (cI, 96, .inl f_h_tide))] H → va_D A [(h, .inr (9, [.int v_h_thrown, .ref h_now, .ref h_aside, .int v_h_kept, .ref h_books, .ref h_tide, .ref h_rain, .ref h_rule, .int v_h_counted, .ref h_counts, .ref h_begins, .ref h_best, .int v_h_bestWorth, .int v_h_bestPitch, .int v_h_bestBits, .int c_h_leastHour_350, .int c_h_leastSet_351, .int (c_h_now_67 0), .ref h_planks])), (h_now, .inl (cI, 169, .inl c_h_now_82)), (h_aside, .inl (cI, 169, .inl c_h_aside_7)), (h_rain, .inl (cI, 96, .inl f_h_rain)), (h_rule, .inl (cI, 8, .inl f_h_rule)), (h_tide, .inl (cI, 96, .inl f_h_tide))] → va_S A s.heap H locs → lv_has ls 11 [(6, .int x6_399), (5, .int x5_398), (4, .int x4_349), (3, .int ((c_h_now_67 0) + t74)), (2, .int t71), (1, .int (f_h_now 0)), (0, .ref h)] → W p l e rm_X9_findFloat s m args below meth c H locs 0 0 Q (F0 m 396 ls [.int t402]) := by
                    intro t402 hX346_j H locs ls hP hD hS hl
                    replace hX346 := hX346_j
                    unfold lj_X9_findFloat_396 at hX346
                    refine lv_istore (lv' := [(8, .int t402), (6, .int x6_399), (5, .int x5_398), (4, .int x4_349), (3, .int ((c_h_now_67 0) + t74)), (2, .int t71), (1, .int (f_h_now 0)), (0, .ref h)]) hx hb dX9_findFloat_396 hl (by decide) rfl (fun ls hl => ?_)
                    refine lv_iconst (v := 0) hx hb dX9_findFloat_398 (by decide) ?_
                    refine lv_istore (lv' := [(9, .int 0), (8, .int t402), (6, .int x6_399), (5, .int x5_398), (4, .int x4_349), (3, .int ((c_h_now_67 0) + t74)), (2, .int t71), (1, .int (f_h_now 0)), (0, .ref h)]) hx hb dX9_findFloat_399 hl (by decide) rfl (fun ls hl => ?_)
                    refine lv_iload hx hb dX9_findFloat_401 (lv_at hl 1 rfl) ?_
                    refine lv_istore (lv' := [(10, .int t402), (9, .int 0), (8, .int t402), (6, .int x6_399), (5, .int x5_398), (4, .int x4_349), (3, .int ((c_h_now_67 0) + t74)), (2, .int t71), (1, .int (f_h_now 0)), (0, .ref h)]) hx hb dX9_findFloat_403 hl (by decide) rfl (fun ls hl => ?_)
                    obtain ⟨ee437, hlp437, hfr437⟩ := k_b2_ee hX346
                    have hE437 : ∀ (c_h_leastHour_438 : Int32) (c_h_leastSet_439 : Int32), ee437 = (c_h_leastHour_438, c_h_leastSet_439) → ∀ (H : Heap) (locs : List Loc) (ls : Array Slot), va_P D vwCl [(h, .inr (9, [.int v_h_thrown, .ref h_now, .ref h_aside, .int v_h_kept, .ref h_books, .ref h_tide, .ref h_rain, .ref h_rule, .int v_h_counted, .ref h_counts, .ref h_begins, .ref h_best, .int v_h_bestWorth, .int v_h_bestPitch, .int v_h_bestBits, .int c_h_leastHour_438, .int c_h_leastSet_439, .int (c_h_now_67 0), .ref h_planks])), (h_now, .inl (cI, 169, .inl c_h_now_82)), (h_aside, .inl (cI, 169, .inl c_h_aside_7)), (h_rain, .inl (cI, 96, .inl f_h_rain)), (h_rule, .inl (cI, 8, .inl f_h_rule)), (h_tide, .inl (cI, 96, .inl f_h_tide))] H → va_D A [(h, .inr (9, [.int v_h_thrown, .ref h_now, .ref h_aside, .int v_h_kept, .ref h_books, .ref h_tide, .ref h_rain, .ref h_rule, .int v_h_counted, .ref h_counts, .ref h_begins, .ref h_best, .int v_h_bestWorth, .int v_h_bestPitch, .int v_h_bestBits, .int c_h_leastHour_438, .int c_h_leastSet_439, .int (c_h_now_67 0), .ref h_planks])), (h_now, .inl (cI, 169, .inl c_h_now_82)), (h_aside, .inl (cI, 169, .inl c_h_aside_7)), (h_rain, .inl (cI, 96, .inl f_h_rain)), (h_rule, .inl (cI, 8, .inl f_h_rule)), (h_tide, .inl (cI, 96, .inl f_h_tide))] → va_S A s.heap H locs → lv_has ls 11 [(4, .int x4_349), (3, .int ((c_h_now_67 0) + t74)), (2, .int t71), (1, .int (f_h_now 0)), (0, .ref h)] → W p l e rm_X9_findFloat s m args below meth c H locs 0 0 Q (F0 m 472 ls []) := by
                      intro c_h_leastHour_438 c_h_leastSet_439 he H locs ls hP hD hS hl
                      replace hX346 := hfr437 c_h_leastHour_438 c_h_leastSet_439 he
                      refine lv_iinc (v := x4_349 + 1) (lv' := [(4, .int (x4_349 + 1)), (3, .int ((c_h_now_67 0) + t74)), (2, .int t71), (1, .int (f_h_now 0)), (0, .ref h)]) hx hb dX9_findFloat_472 hl (k := 0) rfl rfl (by decide) rfl (fun ls hl => ?_)
                      refine lv_goto (tgt := 231) hx hb dX9_findFloat_475 (by decide) ?_
                      exact hin346 (x4_349 + 1, c_h_leastHour_438, c_h_leastSet_439) (Option.some.inj hX346).symm _ _ _ hP hD hS (lv_sub hl [0, 1, 2, 3, 4] rfl)
                    refine (k_lp_ind (fun sx437 => ∀ (H : Heap) (locs : List Loc) (ls : Array Slot), va_P D vwCl [(h, .inr (9, [.int v_h_thrown, .ref h_now, .ref h_aside, .int v_h_kept, .ref h_books, .ref h_tide, .ref h_rain, .ref h_rule, .int v_h_counted, .ref h_counts, .ref h_begins, .ref h_best, .int v_h_bestWorth, .int v_h_bestPitch, .int v_h_bestBits, .int sx437.2.2.1, .int sx437.2.2.2, .int (c_h_now_67 0), .ref h_planks])), (h_now, .inl (cI, 169, .inl c_h_now_82)), (h_aside, .inl (cI, 169, .inl c_h_aside_7)), (h_rain, .inl (cI, 96, .inl f_h_rain)), (h_rule, .inl (cI, 8, .inl f_h_rule)), (h_tide, .inl (cI, 96, .inl f_h_tide))] H → va_D A [(h, .inr (9, [.int v_h_thrown, .ref h_now, .ref h_aside, .int v_h_kept, .ref h_books, .ref h_tide, .ref h_rain, .ref h_rule, .int v_h_counted, .ref h_counts, .ref h_begins, .ref h_best, .int v_h_bestWorth, .int v_h_bestPitch, .int v_h_bestBits, .int sx437.2.2.1, .int sx437.2.2.2, .int (c_h_now_67 0), .ref h_planks])), (h_now, .inl (cI, 169, .inl c_h_now_82)), (h_aside, .inl (cI, 169, .inl c_h_aside_7)), (h_rain, .inl (cI, 96, .inl f_h_rain)), (h_rule, .inl (cI, 8, .inl f_h_rule)), (h_tide, .inl (cI, 96, .inl f_h_tide))] → va_S A s.heap H locs → lv_has ls 11 [(10, .int sx437.1), (9, .int sx437.2.1), (6, .int x6_399), (5, .int x5_398), (4, .int x4_349), (3, .int ((c_h_now_67 0) + t74)), (2, .int t71), (1, .int (f_h_now 0)), (0, .ref h)] → W p l e rm_X9_findFloat s m args below meth c H locs 0 0 Q (F0 m 405 ls [])) (fun sx437 X437 hX437 hin437 hout437 => ?_) _ _ hlp437) _ _ _ hP hD hS (lv_sub hl [0, 1, 3, 4, 5, 6, 7, 8, 9] rfl)
                    obtain ⟨x10_440, x9_441, c_h_leastHour_442, c_h_leastSet_443⟩ := sx437
                    intro H locs ls hP hD hS hl
                    replace hP : va_P D vwCl [(h, .inr (9, [.int v_h_thrown, .ref h_now, .ref h_aside, .int v_h_kept, .ref h_books, .ref h_tide, .ref h_rain, .ref h_rule, .int v_h_counted, .ref h_counts, .ref h_begins, .ref h_best, .int v_h_bestWorth, .int v_h_bestPitch, .int v_h_bestBits, .int c_h_leastHour_442, .int c_h_leastSet_443, .int (c_h_now_67 0), .ref h_planks])), (h_now, .inl (cI, 169, .inl c_h_now_82)), (h_aside, .inl (cI, 169, .inl c_h_aside_7)), (h_rain, .inl (cI, 96, .inl f_h_rain)), (h_rule, .inl (cI, 8, .inl f_h_rule)), (h_tide, .inl (cI, 96, .inl f_h_tide))] H := hP
                    replace hD : va_D A [(h, .inr (9, [.int v_h_thrown, .ref h_now, .ref h_aside, .int v_h_kept, .ref h_books, .ref h_tide, .ref h_rain, .ref h_rule, .int v_h_counted, .ref h_counts, .ref h_begins, .ref h_best, .int v_h_bestWorth, .int v_h_bestPitch, .int v_h_bestBits, .int c_h_leastHour_442, .int c_h_leastSet_443, .int (c_h_now_67 0), .ref h_planks])), (h_now, .inl (cI, 169, .inl c_h_now_82)), (h_aside, .inl (cI, 169, .inl c_h_aside_7)), (h_rain, .inl (cI, 96, .inl f_h_rain)), (h_rule, .inl (cI, 8, .inl f_h_rule)), (h_tide, .inl (cI, 96, .inl f_h_tide))] := hD
                    replace hl : lv_has ls 11 [(10, .int x10_440), (9, .int x9_441), (6, .int x6_399), (5, .int x5_398), (4, .int x4_349), (3, .int ((c_h_now_67 0) + t74)), (2, .int t71), (1, .int (f_h_now 0)), (0, .ref h)] := hl
                    replace hX437 : lb_X9_findFloat_405 x5_398 f_h_rule f_h_tide x6_399 x4_349 x10_440 x9_441 c_h_leastHour_442 c_h_leastSet_443 = some X437 := hX437
                    unfold lb_X9_findFloat_405 at hX437
                    refine lv_iload hx hb dX9_findFloat_405 (lv_at hl 0 rfl) ?_
                    refine lv_bipush (v := 96) hx hb dX9_findFloat_407 (by decide) ?_
                    refine lv_icmp_ge (tgt := 472) hx hb dX9_findFloat_409 (by decide) (fun c444 => ?_) (fun c444 => ?_)
                    · replace hX437 := k_pos hX437 c444
                      exact hE437 _ _ (hout437 _ (Option.some.inj hX437).symm).symm _ _ _ hP hD hS (lv_sub hl [4, 5, 6, 7, 8] rfl)
                    · replace hX437 := k_neg hX437 c444
                      refine lv_iload hx hb dX9_findFloat_412 (lv_at hl 3 rfl) ?_
                      refine lv_if_eq (tgt := 472) hx hb dX9_findFloat_414 (by decide) (fun c445 => ?_) (fun c445 => ?_)
                      · replace hX437 := k_pos hX437 c445
                        exact hE437 _ _ (hout437 _ (Option.some.inj hX437).symm).symm _ _ _ hP hD hS (lv_sub hl [4, 5, 6, 7, 8] rfl)
                      · replace hX437 := k_neg hX437 c445
                        refine lv_iload hx hb dX9_findFloat_417 (lv_at hl 1 rfl) ?_
                        refine lv_if_ne (tgt := 472) hx hb dX9_findFloat_419 (by decide) (fun c446 => ?_) (fun c446 => ?_)
                        · replace hX437 := k_neg hX437 c446
                          exact hE437 _ _ (hout437 _ (Option.some.inj hX437).symm).symm _ _ _ hP hD hS (lv_sub hl [4, 5, 6, 7, 8] rfl)
                        · replace hX437 := k_pos hX437 c446
                          have hJ454 : ∀ (x9_451 : Int32) (c_h_leastHour_452 : Int32) (c_h_leastSet_453 : Int32), lj_X9_findFloat_466 x10_440 x9_451 c_h_leastHour_452 c_h_leastSet_453 = some X437 → ∀ (H : Heap) (locs : List Loc) (ls : Array Slot), va_P D vwCl [(h, .inr (9, [.int v_h_thrown, .ref h_now, .ref h_aside, .int v_h_kept, .ref h_books, .ref h_tide, .ref h_rain, .ref h_rule, .int v_h_counted, .ref h_counts, .ref h_begins, .ref h_best, .int v_h_bestWorth, .int v_h_bestPitch, .int v_h_bestBits, .int c_h_leastHour_452, .int c_h_leastSet_453, .int (c_h_now_67 0), .ref h_planks])), (h_now, .inl (cI, 169, .inl c_h_now_82)), (h_aside, .inl (cI, 169, .inl c_h_aside_7)), (h_rain, .inl (cI, 96, .inl f_h_rain)), (h_rule, .inl (cI, 8, .inl f_h_rule)), (h_tide, .inl (cI, 96, .inl f_h_tide))] H → va_D A [(h, .inr (9, [.int v_h_thrown, .ref h_now, .ref h_aside, .int v_h_kept, .ref h_books, .ref h_tide, .ref h_rain, .ref h_rule, .int v_h_counted, .ref h_counts, .ref h_begins, .ref h_best, .int v_h_bestWorth, .int v_h_bestPitch, .int v_h_bestBits, .int c_h_leastHour_452, .int c_h_leastSet_453, .int (c_h_now_67 0), .ref h_planks])), (h_now, .inl (cI, 169, .inl c_h_now_82)), (h_aside, .inl (cI, 169, .inl c_h_aside_7)), (h_rain, .inl (cI, 96, .inl f_h_rain)), (h_rule, .inl (cI, 8, .inl f_h_rule)), (h_tide, .inl (cI, 96, .inl f_h_tide))] → va_S A s.heap H locs → lv_has ls 11 [(10, .int x10_440), (9, .int x9_451), (6, .int x6_399), (5, .int x5_398), (4, .int x4_349), (3, .int ((c_h_now_67 0) + t74)), (2, .int t71), (1, .int (f_h_now 0)), (0, .ref h)] → W p l e rm_X9_findFloat s m args below meth c H locs 0 0 Q (F0 m 466 ls []) := by
                            intro x9_451 c_h_leastHour_452 c_h_leastSet_453 hX437_j H locs ls hP hD hS hl
                            replace hX437 := hX437_j
                            unfold lj_X9_findFloat_466 at hX437
                            refine lv_iinc (v := x10_440 + 1) (lv' := [(10, .int (x10_440 + 1)), (9, .int x9_451), (6, .int x6_399), (5, .int x5_398), (4, .int x4_349), (3, .int ((c_h_now_67 0) + t74)), (2, .int t71), (1, .int (f_h_now 0)), (0, .ref h)]) hx hb dX9_findFloat_466 hl (k := 0) rfl rfl (by decide) rfl (fun ls hl => ?_)
                            refine lv_goto (tgt := 405) hx hb dX9_findFloat_469 (by decide) ?_
                            exact hin437 (x10_440 + 1, x9_451, c_h_leastHour_452, c_h_leastSet_453) (Option.some.inj hX437).symm _ _ _ hP hD hS (lv_sub hl [0, 1, 2, 3, 4, 5, 6, 7, 8] rfl)
                          refine lv_aload_n hx hb dX9_findFloat_422 rfl (lv_at hl 8 rfl) ?_
                          refine lv_iload hx hb dX9_findFloat_423 (lv_at hl 0 rfl) ?_
                          refine lv_iload hx hb dX9_findFloat_425 (lv_at hl 2 rfl) ?_
                          obtain ⟨r455, hc455, hX437⟩ := k_b1_some hX437
                          refine k_ViR (q0 := 0) (As := [.int x10_440, .int x6_399]) (rest := []) S0 (c_X9_floats l D cI cZ cJ cS h h_now h_aside h_books h_tide h_rain h_rule h_counts h_begins h_best h_planks v_h_thrown v_h_kept v_h_counted v_h_bestWorth v_h_bestPitch v_h_bestBits c_h_leastHour_442 c_h_leastSet_443 (c_h_now_67 0) f_h_rule f_h_tide x10_440 x6_399 r455 hc455) (cwV 2 hts gX9_findFloat_X9_floats rfl rfl rfl hdV_X9_floats ⟨Nat.le_of_ble_eq_true rfl, Nat.le_of_ble_eq_true rfl⟩) hK hP hD hS hA hN [0, 4, 5] rfl (by decide) rfl rfl rfl rfl hl.1 rfl (Nat.le_of_ble_eq_true rfl) dX9_findFloat_427 (fun H locs hP hS => ?_)
                          refine lv_if_eq (tgt := 466) hx hb dX9_findFloat_430 (by decide) (fun c456 => ?_) (fun c456 => ?_)
                          · replace hX437 := k_pos hX437 c456
                            exact hJ454 _ _ _ hX437 _ _ _ hP hD hS (lv_sub hl [0, 1, 2, 3, 4, 5, 6, 7, 8] rfl)
                          · replace hX437 := k_neg hX437 c456
                            refine lv_iconst (v := 1) hx hb dX9_findFloat_433 (by decide) ?_
                            refine lv_istore (lv' := [(9, .int 1), (10, .int x10_440), (6, .int x6_399), (5, .int x5_398), (4, .int x4_349), (3, .int ((c_h_now_67 0) + t74)), (2, .int t71), (1, .int (f_h_now 0)), (0, .ref h)]) hx hb dX9_findFloat_434 hl (by decide) rfl (fun ls hl => ?_)
                            refine lv_aload_n hx hb dX9_findFloat_436 rfl (lv_at hl 8 rfl) ?_
                            refine k_get (C := RX9) (T := TX9) (N := 19) hx hb hts inX9 hown hK hP 0 rfl rfl 15 (by decide) rfl wl3 rfl dX9_findFloat_437 ?_
                            refine lv_bipush (v := (-4)) hx hb dX9_findFloat_440 (by decide) ?_
                            refine lv_icmp_eq (tgt := 454) hx hb dX9_findFloat_442 (by decide) (fun c457 => ?_) (fun c457 => ?_)
                            · replace hX437 := k_pos hX437 c457
                              refine lv_aload_n hx hb dX9_findFloat_454 rfl (lv_at hl 8 rfl) ?_
                              refine lv_iload hx hb dX9_findFloat_455 (lv_at hl 1 rfl) ?_
                              refine k_putf (ws2 := [(h, .inr (9, [.int v_h_thrown, .ref h_now, .ref h_aside, .int v_h_kept, .ref h_books, .ref h_tide, .ref h_rain, .ref h_rule, .int v_h_counted, .ref h_counts, .ref h_begins, .ref h_best, .int v_h_bestWorth, .int v_h_bestPitch, .int v_h_bestBits, .int x10_440, .int c_h_leastSet_443, .int (c_h_now_67 0), .ref h_planks])), (h_now, .inl (cI, 169, .inl c_h_now_82)), (h_aside, .inl (cI, 169, .inl c_h_aside_7)), (h_rain, .inl (cI, 96, .inl f_h_rain)), (h_rule, .inl (cI, 8, .inl f_h_rule)), (h_tide, .inl (cI, 96, .inl f_h_tide))]) (C := RX9) (T := TX9) (N := 19) hx hb hts inX9 tyX9 tyX9_ok nmX9 hown hK hP hD hS 0 rfl rfl 15 (by decide) rfl wl3 rfl rfl rfl (Nat.le_of_ble_eq_true rfl) rfl dX9_findFloat_457 (fun H locs hP hD hS => ?_)
                              refine lv_aload_n hx hb dX9_findFloat_460 rfl (lv_at hl 8 rfl) ?_
                              refine lv_iload hx hb dX9_findFloat_461 (lv_at hl 4 rfl) ?_
                              refine k_putf (ws2 := [(h, .inr (9, [.int v_h_thrown, .ref h_now, .ref h_aside, .int v_h_kept, .ref h_books, .ref h_tide, .ref h_rain, .ref h_rule, .int v_h_counted, .ref h_counts, .ref h_begins, .ref h_best, .int v_h_bestWorth, .int v_h_bestPitch, .int v_h_bestBits, .int x10_440, .int x4_349, .int (c_h_now_67 0), .ref h_planks])), (h_now, .inl (cI, 169, .inl c_h_now_82)), (h_aside, .inl (cI, 169, .inl c_h_aside_7)), (h_rain, .inl (cI, 96, .inl f_h_rain)), (h_rule, .inl (cI, 8, .inl f_h_rule)), (h_tide, .inl (cI, 96, .inl f_h_tide))]) (C := RX9) (T := TX9) (N := 19) hx hb hts inX9 tyX9 tyX9_ok nmX9 hown hK hP hD hS 0 rfl rfl 16 (by decide) rfl wl5 rfl rfl rfl (Nat.le_of_ble_eq_true rfl) rfl dX9_findFloat_463 (fun H locs hP hD hS => ?_)
                              exact hJ454 _ _ _ hX437 _ _ _ hP hD hS (lv_sub hl [1, 0, 2, 3, 4, 5, 6, 7, 8] rfl)
                            · replace hX437 := k_neg hX437 c457
                              refine lv_iload hx hb dX9_findFloat_445 (lv_at hl 1 rfl) ?_
                              refine lv_aload_n hx hb dX9_findFloat_447 rfl (lv_at hl 8 rfl) ?_
                              refine k_get (C := RX9) (T := TX9) (N := 19) hx hb hts inX9 hown hK hP 0 rfl rfl 15 (by decide) rfl wl3 rfl dX9_findFloat_448 ?_
                              refine lv_icmp_ge (tgt := 466) hx hb dX9_findFloat_451 (by decide) (fun c458 => ?_) (fun c458 => ?_)
                              · replace hX437 := k_pos hX437 c458
                                exact hJ454 _ _ _ hX437 _ _ _ hP hD hS (lv_sub hl [1, 0, 2, 3, 4, 5, 6, 7, 8] rfl)
                              · replace hX437 := k_neg hX437 c458
                                refine lv_aload_n hx hb dX9_findFloat_454 rfl (lv_at hl 8 rfl) ?_
                                refine lv_iload hx hb dX9_findFloat_455 (lv_at hl 1 rfl) ?_
                                refine k_putf (ws2 := [(h, .inr (9, [.int v_h_thrown, .ref h_now, .ref h_aside, .int v_h_kept, .ref h_books, .ref h_tide, .ref h_rain, .ref h_rule, .int v_h_counted, .ref h_counts, .ref h_begins, .ref h_best, .int v_h_bestWorth, .int v_h_bestPitch, .int v_h_bestBits, .int x10_440, .int c_h_leastSet_443, .int (c_h_now_67 0), .ref h_planks])), (h_now, .inl (cI, 169, .inl c_h_now_82)), (h_aside, .inl (cI, 169, .inl c_h_aside_7)), (h_rain, .inl (cI, 96, .inl f_h_rain)), (h_rule, .inl (cI, 8, .inl f_h_rule)), (h_tide, .inl (cI, 96, .inl f_h_tide))]) (C := RX9) (T := TX9) (N := 19) hx hb hts inX9 tyX9 tyX9_ok nmX9 hown hK hP hD hS 0 rfl rfl 15 (by decide) rfl wl3 rfl rfl rfl (Nat.le_of_ble_eq_true rfl) rfl dX9_findFloat_457 (fun H locs hP hD hS => ?_)
                                refine lv_aload_n hx hb dX9_findFloat_460 rfl (lv_at hl 8 rfl) ?_
                                refine lv_iload hx hb dX9_findFloat_461 (lv_at hl 4 rfl) ?_
                                refine k_putf (ws2 := [(h, .inr (9, [.int v_h_thrown, .ref h_now, .ref h_aside, .int v_h_kept, .ref h_books, .ref h_tide, .ref h_rain, .ref h_rule, .int v_h_counted, .ref h_counts, .ref h_begins, .ref h_best, .int v_h_bestWorth, .int v_h_bestPitch, .int v_h_bestBits, .int x10_440, .int x4_349, .int (c_h_now_67 0), .ref h_planks])), (h_now, .inl (cI, 169, .inl c_h_now_82)), (h_aside, .inl (cI, 169, .inl c_h_aside_7)), (h_rain, .inl (cI, 96, .inl f_h_rain)), (h_rule, .inl (cI, 8, .inl f_h_rule)), (h_tide, .inl (cI, 96, .inl f_h_tide))]) (C := RX9) (T := TX9) (N := 19) hx hb hts inX9 tyX9 tyX9_ok nmX9 hown hK hP hD hS 0 rfl rfl 16 (by decide) rfl wl5 rfl rfl rfl (Nat.le_of_ble_eq_true rfl) rfl dX9_findFloat_463 (fun H locs hP hD hS => ?_)
                                exact hJ454 _ _ _ hX437 _ _ _ hP hD hS (lv_sub hl [1, 0, 2, 3, 4, 5, 6, 7, 8] rfl)
                  refine lv_iload hx hb dX9_findFloat_384 (lv_at hl 0 rfl) ?_
                  refine lv_iload_n hx hb dX9_findFloat_386 rfl (lv_at hl 5 rfl) ?_
                  refine lv_icmp_le (tgt := 395) hx hb dX9_findFloat_387 (by decide) (fun c459 => ?_) (fun c459 => ?_)
                  · replace hX346 := k_pos hX346 c459
                    refine lv_iload_n hx hb dX9_findFloat_395 rfl (lv_at hl 5 rfl) ?_
                    exact hJ403 _ hX346 _ _ _ hP hD hS (lv_sub hl [2, 3, 4, 5, 6, 7, 8] rfl)
                  · replace hX346 := k_neg hX346 c459
                    refine lv_iload hx hb dX9_findFloat_390 (lv_at hl 0 rfl) ?_
                    refine lv_goto (tgt := 396) hx hb dX9_findFloat_392 (by decide) ?_
                    exact hJ403 _ hX346 _ _ _ hP hD hS (lv_sub hl [2, 3, 4, 5, 6, 7, 8] rfl)
                refine (k_lp_ind (fun sx397 => ∀ (H : Heap) (locs : List Loc) (ls : Array Slot), va_P D vwCl [(h, .inr (9, [.int v_h_thrown, .ref h_now, .ref h_aside, .int v_h_kept, .ref h_books, .ref h_tide, .ref h_rain, .ref h_rule, .int v_h_counted, .ref h_counts, .ref h_begins, .ref h_best, .int v_h_bestWorth, .int v_h_bestPitch, .int v_h_bestBits, .int c_h_leastHour_350, .int c_h_leastSet_351, .int (c_h_now_67 0), .ref h_planks])), (h_now, .inl (cI, 169, .inl c_h_now_82)), (h_aside, .inl (cI, 169, .inl c_h_aside_7)), (h_rain, .inl (cI, 96, .inl f_h_rain)), (h_rule, .inl (cI, 8, .inl f_h_rule)), (h_tide, .inl (cI, 96, .inl f_h_tide))] H → va_D A [(h, .inr (9, [.int v_h_thrown, .ref h_now, .ref h_aside, .int v_h_kept, .ref h_books, .ref h_tide, .ref h_rain, .ref h_rule, .int v_h_counted, .ref h_counts, .ref h_begins, .ref h_best, .int v_h_bestWorth, .int v_h_bestPitch, .int v_h_bestBits, .int c_h_leastHour_350, .int c_h_leastSet_351, .int (c_h_now_67 0), .ref h_planks])), (h_now, .inl (cI, 169, .inl c_h_now_82)), (h_aside, .inl (cI, 169, .inl c_h_aside_7)), (h_rain, .inl (cI, 96, .inl f_h_rain)), (h_rule, .inl (cI, 8, .inl f_h_rule)), (h_tide, .inl (cI, 96, .inl f_h_tide))] → va_S A s.heap H locs → lv_has ls 11 [(8, .int sx397.2.2.2), (7, .int sx397.2.2.1), (6, .int sx397.2.1), (5, .int sx397.1), (4, .int x4_349), (3, .int ((c_h_now_67 0) + t74)), (2, .int t71), (1, .int (f_h_now 0)), (0, .ref h)] → W p l e rm_X9_findFloat s m args below meth c H locs 0 0 Q (F0 m 264 ls [])) (fun sx397 X397 hX397 hin397 hout397 => ?_) _ _ hlp397) _ _ _ hP hD hS (lv_sub hl [0, 1, 2, 3, 4, 5, 6, 7, 8] rfl)
                obtain ⟨x5_460, x6_461, x7_462, x8_463⟩ := sx397
                intro H locs ls hP hD hS hl
                replace hP : va_P D vwCl [(h, .inr (9, [.int v_h_thrown, .ref h_now, .ref h_aside, .int v_h_kept, .ref h_books, .ref h_tide, .ref h_rain, .ref h_rule, .int v_h_counted, .ref h_counts, .ref h_begins, .ref h_best, .int v_h_bestWorth, .int v_h_bestPitch, .int v_h_bestBits, .int c_h_leastHour_350, .int c_h_leastSet_351, .int (c_h_now_67 0), .ref h_planks])), (h_now, .inl (cI, 169, .inl c_h_now_82)), (h_aside, .inl (cI, 169, .inl c_h_aside_7)), (h_rain, .inl (cI, 96, .inl f_h_rain)), (h_rule, .inl (cI, 8, .inl f_h_rule)), (h_tide, .inl (cI, 96, .inl f_h_tide))] H := hP
                replace hD : va_D A [(h, .inr (9, [.int v_h_thrown, .ref h_now, .ref h_aside, .int v_h_kept, .ref h_books, .ref h_tide, .ref h_rain, .ref h_rule, .int v_h_counted, .ref h_counts, .ref h_begins, .ref h_best, .int v_h_bestWorth, .int v_h_bestPitch, .int v_h_bestBits, .int c_h_leastHour_350, .int c_h_leastSet_351, .int (c_h_now_67 0), .ref h_planks])), (h_now, .inl (cI, 169, .inl c_h_now_82)), (h_aside, .inl (cI, 169, .inl c_h_aside_7)), (h_rain, .inl (cI, 96, .inl f_h_rain)), (h_rule, .inl (cI, 8, .inl f_h_rule)), (h_tide, .inl (cI, 96, .inl f_h_tide))] := hD
                replace hl : lv_has ls 11 [(8, .int x8_463), (7, .int x7_462), (6, .int x6_461), (5, .int x5_460), (4, .int x4_349), (3, .int ((c_h_now_67 0) + t74)), (2, .int t71), (1, .int (f_h_now 0)), (0, .ref h)] := hl
                replace hX397 : lb_X9_findFloat_264 c_h_now_82 x4_349 x5_460 x6_461 x7_462 x8_463 = some X397 := hX397
                unfold lb_X9_findFloat_264 at hX397
                refine lv_iload hx hb dX9_findFloat_264 (lv_at hl 0 rfl) ?_
                refine lv_aload_n hx hb dX9_findFloat_266 rfl (lv_at hl 8 rfl) ?_
                refine k_get (C := RX9) (T := TX9) (N := 19) hx hb hts inX9 hown hK hP 0 rfl rfl 1 (by decide) rfl wl1 rfl dX9_findFloat_267 ?_
                refine lv_bipush (v := 10) hx hb dX9_findFloat_270 (by decide) ?_
                refine k_iald (k := 10) hx hb hK hP 1 0 rfl rfl (by unfold vp_in; decide) (by decide) dX9_findFloat_272 ?_
                refine lv_icmp_ge (tgt := 378) hx hb dX9_findFloat_273 (by decide) (fun c464 => ?_) (fun c464 => ?_)
                · replace hX397 := k_pos hX397 c464
                  exact hE397 _ _ _ (hout397 _ (Option.some.inj hX397).symm).symm _ _ _ hP hD hS (lv_sub hl [1, 2, 3, 4, 5, 6, 7, 8] rfl)
                · replace hX397 := k_neg hX397 c464
                  refine lv_iload hx hb dX9_findFloat_276 (lv_at hl 4 rfl) ?_
                  refine lv_iload hx hb dX9_findFloat_278 (lv_at hl 0 rfl) ?_
                  refine lv_ishr hx hb dX9_findFloat_280 ?_
                  refine lv_iconst (v := 1) hx hb dX9_findFloat_281 (by decide) ?_
                  refine lv_iand hx hb dX9_findFloat_282 ?_
                  refine lv_iconst (v := 1) hx hb dX9_findFloat_283 (by decide) ?_
                  refine lv_icmp_ne (tgt := 372) hx hb dX9_findFloat_284 (by decide) (fun c465 => ?_) (fun c465 => ?_)
                  · replace hX397 := k_neg hX397 c465
                    refine lv_iinc (v := x8_463 + 1) (lv' := [(8, .int (x8_463 + 1)), (7, .int x7_462), (6, .int x6_461), (5, .int x5_460), (4, .int x4_349), (3, .int ((c_h_now_67 0) + t74)), (2, .int t71), (1, .int (f_h_now 0)), (0, .ref h)]) hx hb dX9_findFloat_372 hl (k := 0) rfl rfl (by decide) rfl (fun ls hl => ?_)
                    refine lv_goto (tgt := 264) hx hb dX9_findFloat_375 (by decide) ?_
                    exact hin397 (x5_460, x6_461, x7_462, x8_463 + 1) (Option.some.inj hX397).symm _ _ _ hP hD hS (lv_sub hl [0, 1, 2, 3, 4, 5, 6, 7, 8] rfl)
                  · replace hX397 := k_pos hX397 c465
                    refine lv_aload_n hx hb dX9_findFloat_287 rfl (lv_at hl 8 rfl) ?_
                    refine k_get (C := RX9) (T := TX9) (N := 19) hx hb hts inX9 hown hK hP 0 rfl rfl 1 (by decide) rfl wl1 rfl dX9_findFloat_288 ?_
                    refine lv_bipush (v := 25) hx hb dX9_findFloat_291 (by decide) ?_
                    refine lv_iload hx hb dX9_findFloat_293 (lv_at hl 0 rfl) ?_
                    refine lv_iadd hx hb dX9_findFloat_295 ?_
                    obtain ⟨hi466, hX397⟩ := k_ix_some hX397
                    refine k_iald (k := (25 + x8_463).toNatClampNeg) hx hb hK hP 1 0 rfl rfl hi466 rfl dX9_findFloat_296 ?_
                    refine lv_istore (lv' := [(9, .int (c_h_now_82 (25 + x8_463).toNatClampNeg)), (8, .int x8_463), (7, .int x7_462), (6, .int x6_461), (5, .int x5_460), (4, .int x4_349), (3, .int ((c_h_now_67 0) + t74)), (2, .int t71), (1, .int (f_h_now 0)), (0, .ref h)]) hx hb dX9_findFloat_297 hl (by decide) rfl (fun ls hl => ?_)
                    have hJ475 : ∀ (t474 : Int32), lj_X9_findFloat_352 x8_463 x6_461 c_h_now_82 x7_462 t474 = some X397 → ∀ (H : Heap) (locs : List Loc) (ls : Array Slot), va_P D vwCl [(h, .inr (9, [.int v_h_thrown, .ref h_now, .ref h_aside, .int v_h_kept, .ref h_books, .ref h_tide, .ref h_rain, .ref h_rule, .int v_h_counted, .ref h_counts, .ref h_begins, .ref h_best, .int v_h_bestWorth, .int v_h_bestPitch, .int v_h_bestBits, .int c_h_leastHour_350, .int c_h_leastSet_351, .int (c_h_now_67 0), .ref h_planks])), (h_now, .inl (cI, 169, .inl c_h_now_82)), (h_aside, .inl (cI, 169, .inl c_h_aside_7)), (h_rain, .inl (cI, 96, .inl f_h_rain)), (h_rule, .inl (cI, 8, .inl f_h_rule)), (h_tide, .inl (cI, 96, .inl f_h_tide))] H → va_D A [(h, .inr (9, [.int v_h_thrown, .ref h_now, .ref h_aside, .int v_h_kept, .ref h_books, .ref h_tide, .ref h_rain, .ref h_rule, .int v_h_counted, .ref h_counts, .ref h_begins, .ref h_best, .int v_h_bestWorth, .int v_h_bestPitch, .int v_h_bestBits, .int c_h_leastHour_350, .int c_h_leastSet_351, .int (c_h_now_67 0), .ref h_planks])), (h_now, .inl (cI, 169, .inl c_h_now_82)), (h_aside, .inl (cI, 169, .inl c_h_aside_7)), (h_rain, .inl (cI, 96, .inl f_h_rain)), (h_rule, .inl (cI, 8, .inl f_h_rule)), (h_tide, .inl (cI, 96, .inl f_h_tide))] → va_S A s.heap H locs → lv_has ls 11 [(8, .int x8_463), (7, .int x7_462), (6, .int x6_461), (4, .int x4_349), (3, .int ((c_h_now_67 0) + t74)), (2, .int t71), (1, .int (f_h_now 0)), (0, .ref h)] → W p l e rm_X9_findFloat s m args below meth c H locs 0 0 Q (F0 m 352 ls [.int t474]) := by
                      intro t474 hX397_j H locs ls hP hD hS hl
                      replace hX397 := hX397_j
                      unfold lj_X9_findFloat_352 at hX397
                      refine lv_istore (lv' := [(5, .int t474), (8, .int x8_463), (7, .int x7_462), (6, .int x6_461), (4, .int x4_349), (3, .int ((c_h_now_67 0) + t74)), (2, .int t71), (1, .int (f_h_now 0)), (0, .ref h)]) hx hb dX9_findFloat_352 hl (by decide) rfl (fun ls hl => ?_)
                      refine lv_iload hx hb dX9_findFloat_354 (lv_at hl 3 rfl) ?_
                      refine lv_aload_n hx hb dX9_findFloat_356 rfl (lv_at hl 8 rfl) ?_
                      refine k_get (C := RX9) (T := TX9) (N := 19) hx hb hts inX9 hown hK hP 0 rfl rfl 1 (by decide) rfl wl1 rfl dX9_findFloat_357 ?_
                      refine lv_bipush (v := 13) hx hb dX9_findFloat_360 (by decide) ?_
                      refine lv_iload hx hb dX9_findFloat_362 (lv_at hl 1 rfl) ?_
                      refine lv_iadd hx hb dX9_findFloat_364 ?_
                      obtain ⟨hi476, hX397⟩ := k_ix_some hX397
                      refine k_iald (k := (13 + x8_463).toNatClampNeg) hx hb hK hP 1 0 rfl rfl hi476 rfl dX9_findFloat_365 ?_
                      refine lv_iadd hx hb dX9_findFloat_366 ?_
                      refine lv_istore (lv' := [(6, .int (x6_461 + (c_h_now_82 (13 + x8_463).toNatClampNeg))), (5, .int t474), (8, .int x8_463), (7, .int x7_462), (4, .int x4_349), (3, .int ((c_h_now_67 0) + t74)), (2, .int t71), (1, .int (f_h_now 0)), (0, .ref h)]) hx hb dX9_findFloat_367 hl (by decide) rfl (fun ls hl => ?_)
                      refine lv_iinc (v := x7_462 + 1) (lv' := [(7, .int (x7_462 + 1)), (6, .int (x6_461 + (c_h_now_82 (13 + x8_463).toNatClampNeg))), (5, .int t474), (8, .int x8_463), (4, .int x4_349), (3, .int ((c_h_now_67 0) + t74)), (2, .int t71), (1, .int (f_h_now 0)), (0, .ref h)]) hx hb dX9_findFloat_369 hl (k := 3) rfl rfl (by decide) rfl (fun ls hl => ?_)
                      refine lv_iinc (v := x8_463 + 1) (lv' := [(8, .int (x8_463 + 1)), (7, .int (x7_462 + 1)), (6, .int (x6_461 + (c_h_now_82 (13 + x8_463).toNatClampNeg))), (5, .int t474), (4, .int x4_349), (3, .int ((c_h_now_67 0) + t74)), (2, .int t71), (1, .int (f_h_now 0)), (0, .ref h)]) hx hb dX9_findFloat_372 hl (k := 3) rfl rfl (by decide) rfl (fun ls hl => ?_)
                      refine lv_goto (tgt := 264) hx hb dX9_findFloat_375 (by decide) ?_
                      exact hin397 (t474, x6_461 + (c_h_now_82 (13 + x8_463).toNatClampNeg), x7_462 + 1, x8_463 + 1) (Option.some.inj hX397).symm _ _ _ hP hD hS (lv_sub hl [0, 1, 2, 3, 4, 5, 6, 7, 8] rfl)
                    refine lv_iload hx hb dX9_findFloat_299 (lv_at hl 4 rfl) ?_
                    refine lv_if_eq (tgt := 351) hx hb dX9_findFloat_301 (by decide) (fun c477 => ?_) (fun c477 => ?_)
                    · replace hX397 := k_pos hX397 c477
                      refine lv_iconst (v := 0) hx hb dX9_findFloat_351 (by decide) ?_
                      exact hJ475 _ hX397 _ _ _ hP hD hS (lv_sub hl [1, 2, 3, 5, 6, 7, 8, 9] rfl)
                    · replace hX397 := k_neg hX397 c477
                      refine lv_aload_n hx hb dX9_findFloat_304 rfl (lv_at hl 9 rfl) ?_
                      refine k_get (C := RX9) (T := TX9) (N := 19) hx hb hts inX9 hown hK hP 0 rfl rfl 1 (by decide) rfl wl1 rfl dX9_findFloat_305 ?_
                      refine lv_bipush (v := 37) hx hb dX9_findFloat_308 (by decide) ?_
                      refine lv_iload hx hb dX9_findFloat_310 (lv_at hl 1 rfl) ?_
                      refine lv_iadd hx hb dX9_findFloat_312 ?_
                      obtain ⟨hi478, hX397⟩ := k_ix_some hX397
                      refine k_iald (k := (37 + x8_463).toNatClampNeg) hx hb hK hP 1 0 rfl rfl hi478 rfl dX9_findFloat_313 ?_
                      refine lv_if_ne (tgt := 351) hx hb dX9_findFloat_314 (by decide) (fun c479 => ?_) (fun c479 => ?_)
                      · replace hX397 := k_neg hX397 c479
                        refine lv_iconst (v := 0) hx hb dX9_findFloat_351 (by decide) ?_
                        exact hJ475 _ hX397 _ _ _ hP hD hS (lv_sub hl [1, 2, 3, 5, 6, 7, 8, 9] rfl)
                      · replace hX397 := k_pos hX397 c479
                        refine lv_iload hx hb dX9_findFloat_317 (lv_at hl 0 rfl) ?_
                        refine lv_if_lt (tgt := 347) hx hb dX9_findFloat_319 (by decide) (fun c480 => ?_) (fun c480 => ?_)
                        · replace hX397 := k_pos hX397 c480
                          refine lv_iconst (v := 1) hx hb dX9_findFloat_347 (by decide) ?_
                          refine lv_goto (tgt := 352) hx hb dX9_findFloat_348 (by decide) ?_
                          exact hJ475 _ hX397 _ _ _ hP hD hS (lv_sub hl [1, 2, 3, 5, 6, 7, 8, 9] rfl)
                        · replace hX397 := k_neg hX397 c480
                          refine lv_aload_n hx hb dX9_findFloat_322 rfl (lv_at hl 9 rfl) ?_
                          refine k_get (C := RX9) (T := TX9) (N := 19) hx hb hts inX9 hown hK hP 0 rfl rfl 1 (by decide) rfl wl1 rfl dX9_findFloat_323 ?_
                          refine lv_bipush (v := 37) hx hb dX9_findFloat_326 (by decide) ?_
                          refine lv_iload hx hb dX9_findFloat_328 (lv_at hl 0 rfl) ?_
                          refine lv_iadd hx hb dX9_findFloat_330 ?_
                          obtain ⟨hi481, hX397⟩ := k_ix_some hX397
                          refine k_iald (k := (37 + (c_h_now_82 (25 + x8_463).toNatClampNeg)).toNatClampNeg) hx hb hK hP 1 0 rfl rfl hi481 rfl dX9_findFloat_331 ?_
                          refine lv_iconst (v := 1) hx hb dX9_findFloat_332 (by decide) ?_
                          refine lv_icmp_eq (tgt := 347) hx hb dX9_findFloat_333 (by decide) (fun c482 => ?_) (fun c482 => ?_)
                          · replace hX397 := k_pos hX397 c482
                            refine lv_iconst (v := 1) hx hb dX9_findFloat_347 (by decide) ?_
                            refine lv_goto (tgt := 352) hx hb dX9_findFloat_348 (by decide) ?_
                            exact hJ475 _ hX397 _ _ _ hP hD hS (lv_sub hl [1, 2, 3, 5, 6, 7, 8, 9] rfl)
                          · replace hX397 := k_neg hX397 c482
                            refine lv_iload hx hb dX9_findFloat_336 (lv_at hl 5 rfl) ?_
                            refine lv_iload hx hb dX9_findFloat_338 (lv_at hl 0 rfl) ?_
                            refine lv_ishr hx hb dX9_findFloat_340 ?_
                            refine lv_iconst (v := 1) hx hb dX9_findFloat_341 (by decide) ?_
                            refine lv_iand hx hb dX9_findFloat_342 ?_
                            refine lv_iconst (v := 1) hx hb dX9_findFloat_343 (by decide) ?_
                            refine lv_icmp_ne (tgt := 351) hx hb dX9_findFloat_344 (by decide) (fun c483 => ?_) (fun c483 => ?_)
                            · replace hX397 := k_neg hX397 c483
                              refine lv_iconst (v := 0) hx hb dX9_findFloat_351 (by decide) ?_
                              exact hJ475 _ hX397 _ _ _ hP hD hS (lv_sub hl [1, 2, 3, 5, 6, 7, 8, 9] rfl)
                            · replace hX397 := k_pos hX397 c483
                              refine lv_iconst (v := 1) hx hb dX9_findFloat_347 (by decide) ?_
                              refine lv_goto (tgt := 352) hx hb dX9_findFloat_348 (by decide) ?_
                              exact hJ475 _ hX397 _ _ _ hP hD hS (lv_sub hl [1, 2, 3, 5, 6, 7, 8, 9] rfl)
          refine (k_lp_ind (fun sx81 => ∀ (H : Heap) (locs : List Loc) (ls : Array Slot), va_P D vwCl [(h, .inr (9, [.int v_h_thrown, .ref h_now, .ref h_aside, .int v_h_kept, .ref h_books, .ref h_tide, .ref h_rain, .ref h_rule, .int v_h_counted, .ref h_counts, .ref h_begins, .ref h_best, .int v_h_bestWorth, .int v_h_bestPitch, .int v_h_bestBits, .int (-4), .int v_h_leastSet, .int (c_h_now_67 0), .ref h_planks])), (h_now, .inl (cI, 169, .inl sx81.2)), (h_aside, .inl (cI, 169, .inl c_h_aside_7)), (h_rain, .inl (cI, 96, .inl f_h_rain)), (h_rule, .inl (cI, 8, .inl f_h_rule)), (h_tide, .inl (cI, 96, .inl f_h_tide))] H → va_D A [(h, .inr (9, [.int v_h_thrown, .ref h_now, .ref h_aside, .int v_h_kept, .ref h_books, .ref h_tide, .ref h_rain, .ref h_rule, .int v_h_counted, .ref h_counts, .ref h_begins, .ref h_best, .int v_h_bestWorth, .int v_h_bestPitch, .int v_h_bestBits, .int (-4), .int v_h_leastSet, .int (c_h_now_67 0), .ref h_planks])), (h_now, .inl (cI, 169, .inl sx81.2)), (h_aside, .inl (cI, 169, .inl c_h_aside_7)), (h_rain, .inl (cI, 96, .inl f_h_rain)), (h_rule, .inl (cI, 8, .inl f_h_rule)), (h_tide, .inl (cI, 96, .inl f_h_tide))] → va_S A s.heap H locs → lv_has ls 11 [(4, .int sx81.1), (3, .int ((c_h_now_67 0) + t74)), (2, .int t71), (1, .int (f_h_now 0)), (0, .ref h)] → W p l e rm_X9_findFloat s m args below meth c H locs 0 0 Q (F0 m 200 ls [])) (fun sx81 X81 hX81 hin81 hout81 => ?_) _ _ hlp81) _ _ _ hP hD hS (lv_sub hl [0, 1, 2, 3, 4] rfl)
          obtain ⟨x4_484, c_h_now_485⟩ := sx81
          intro H locs ls hP hD hS hl
          replace hP : va_P D vwCl [(h, .inr (9, [.int v_h_thrown, .ref h_now, .ref h_aside, .int v_h_kept, .ref h_books, .ref h_tide, .ref h_rain, .ref h_rule, .int v_h_counted, .ref h_counts, .ref h_begins, .ref h_best, .int v_h_bestWorth, .int v_h_bestPitch, .int v_h_bestBits, .int (-4), .int v_h_leastSet, .int (c_h_now_67 0), .ref h_planks])), (h_now, .inl (cI, 169, .inl c_h_now_485)), (h_aside, .inl (cI, 169, .inl c_h_aside_7)), (h_rain, .inl (cI, 96, .inl f_h_rain)), (h_rule, .inl (cI, 8, .inl f_h_rule)), (h_tide, .inl (cI, 96, .inl f_h_tide))] H := hP
          replace hD : va_D A [(h, .inr (9, [.int v_h_thrown, .ref h_now, .ref h_aside, .int v_h_kept, .ref h_books, .ref h_tide, .ref h_rain, .ref h_rule, .int v_h_counted, .ref h_counts, .ref h_begins, .ref h_best, .int v_h_bestWorth, .int v_h_bestPitch, .int v_h_bestBits, .int (-4), .int v_h_leastSet, .int (c_h_now_67 0), .ref h_planks])), (h_now, .inl (cI, 169, .inl c_h_now_485)), (h_aside, .inl (cI, 169, .inl c_h_aside_7)), (h_rain, .inl (cI, 96, .inl f_h_rain)), (h_rule, .inl (cI, 8, .inl f_h_rule)), (h_tide, .inl (cI, 96, .inl f_h_tide))] := hD
          replace hl : lv_has ls 11 [(4, .int x4_484), (3, .int ((c_h_now_67 0) + t74)), (2, .int t71), (1, .int (f_h_now 0)), (0, .ref h)] := hl
          replace hX81 : lb_X9_findFloat_200 c_h_aside_7 x4_484 c_h_now_485 = some X81 := hX81
          unfold lb_X9_findFloat_200 at hX81
          refine lv_iload hx hb dX9_findFloat_200 (lv_at hl 0 rfl) ?_
          refine lv_sipush (v := 169) hx hb dX9_findFloat_202 (by decide) ?_
          refine lv_icmp_ge (tgt := 228) hx hb dX9_findFloat_205 (by decide) (fun c486 => ?_) (fun c486 => ?_)
          · replace hX81 := k_pos hX81 c486
            exact hE81 _ (hout81 _ (Option.some.inj hX81).symm).symm _ _ _ hP hD hS (lv_sub hl [1, 2, 3, 4] rfl)
          · replace hX81 := k_neg hX81 c486
            refine lv_aload_n hx hb dX9_findFloat_208 rfl (lv_at hl 4 rfl) ?_
            refine k_get (C := RX9) (T := TX9) (N := 19) hx hb hts inX9 hown hK hP 0 rfl rfl 1 (by decide) rfl wl1 rfl dX9_findFloat_209 ?_
            refine lv_iload hx hb dX9_findFloat_212 (lv_at hl 0 rfl) ?_
            refine lv_aload_n hx hb dX9_findFloat_214 rfl (lv_at hl 4 rfl) ?_
            refine k_get (C := RX9) (T := TX9) (N := 19) hx hb hts inX9 hown hK hP 0 rfl rfl 2 (by decide) rfl wl2 rfl dX9_findFloat_215 ?_
            refine lv_iload hx hb dX9_findFloat_218 (lv_at hl 0 rfl) ?_
            obtain ⟨hi487, hX81⟩ := k_ix_some hX81
            refine k_iald (k := x4_484.toNatClampNeg) hx hb hK hP 2 0 rfl rfl hi487 rfl dX9_findFloat_220 ?_
            obtain ⟨hi488, hX81⟩ := k_ix_some hX81
            refine k_iast (ws2 := [(h, .inr (9, [.int v_h_thrown, .ref h_now, .ref h_aside, .int v_h_kept, .ref h_books, .ref h_tide, .ref h_rain, .ref h_rule, .int v_h_counted, .ref h_counts, .ref h_begins, .ref h_best, .int v_h_bestWorth, .int v_h_bestPitch, .int v_h_bestBits, .int (-4), .int v_h_leastSet, .int (c_h_now_67 0), .ref h_planks])), (h_now, .inl (cI, 169, .inl (upd c_h_now_485 x4_484.toNatClampNeg (c_h_aside_7 x4_484.toNatClampNeg)))), (h_aside, .inl (cI, 169, .inl c_h_aside_7)), (h_rain, .inl (cI, 96, .inl f_h_rain)), (h_rule, .inl (cI, 8, .inl f_h_rule)), (h_tide, .inl (cI, 96, .inl f_h_tide))]) (k := x4_484.toNatClampNeg) hx hb hK hP hD hS 1 0 rfl rfl hi488 rfl rfl dX9_findFloat_221 (fun H locs hP hD hS => ?_)
            refine lv_iinc (v := x4_484 + 1) (lv' := [(4, .int (x4_484 + 1)), (3, .int ((c_h_now_67 0) + t74)), (2, .int t71), (1, .int (f_h_now 0)), (0, .ref h)]) hx hb dX9_findFloat_222 hl (k := 0) rfl rfl (by decide) rfl (fun ls hl => ?_)
            refine lv_goto (tgt := 200) hx hb dX9_findFloat_225 (by decide) ?_
            exact hin81 (x4_484 + 1, upd c_h_now_485 x4_484.toNatClampNeg (c_h_aside_7 x4_484.toNatClampNeg)) (Option.some.inj hX81).symm _ _ _ hP hD hS (lv_sub hl [0, 1, 2, 3, 4] rfl)
        refine lv_aload_n hx hb dX9_findFloat_170 rfl (lv_at hl 2 rfl) ?_
        refine k_get (C := RX9) (T := TX9) (N := 19) hx hb hts inX9 hown hK hP 0 rfl rfl 1 (by decide) rfl wl1 rfl dX9_findFloat_171 ?_
        refine lv_iconst (v := 1) hx hb dX9_findFloat_174 (by decide) ?_
        refine k_iald (k := 1) hx hb hK hP 1 0 rfl rfl (by unfold vp_in; decide) (by decide) dX9_findFloat_175 ?_
        refine lv_if_ge (tgt := 189) hx hb dX9_findFloat_176 (by decide) (fun c489 => ?_) (fun c489 => ?_)
        · replace hf := k_pos hf c489
          refine lv_aload_n hx hb dX9_findFloat_189 rfl (lv_at hl 2 rfl) ?_
          refine k_get (C := RX9) (T := TX9) (N := 19) hx hb hts inX9 hown hK hP 0 rfl rfl 1 (by decide) rfl wl1 rfl dX9_findFloat_190 ?_
          refine lv_iconst (v := 1) hx hb dX9_findFloat_193 (by decide) ?_
          refine k_iald (k := 1) hx hb hK hP 1 0 rfl rfl (by unfold vp_in; decide) (by decide) dX9_findFloat_194 ?_
          exact hJ75 _ hf _ _ _ hP hD hS (lv_sub hl [0, 1, 2] rfl)
        · replace hf := k_neg hf c489
          refine lv_aload_n hx hb dX9_findFloat_179 rfl (lv_at hl 2 rfl) ?_
          refine k_get (C := RX9) (T := TX9) (N := 19) hx hb hts inX9 hown hK hP 0 rfl rfl 1 (by decide) rfl wl1 rfl dX9_findFloat_180 ?_
          refine lv_iconst (v := 1) hx hb dX9_findFloat_183 (by decide) ?_
          refine k_iald (k := 1) hx hb hK hP 1 0 rfl rfl (by unfold vp_in; decide) (by decide) dX9_findFloat_184 ?_
          refine lv_ineg hx hb dX9_findFloat_185 ?_
          refine lv_goto (tgt := 195) hx hb dX9_findFloat_186 (by decide) ?_
          exact hJ75 _ hf _ _ _ hP hD hS (lv_sub hl [0, 1, 2] rfl)
      refine lv_iload_n hx hb dX9_findFloat_139 rfl (lv_at hl 0 rfl) ?_
      refine lv_if_eq (tgt := 154) hx hb dX9_findFloat_140 (by decide) (fun c490 => ?_) (fun c490 => ?_)
      · replace hf := k_pos hf c490
        refine lv_iconst (v := 0) hx hb dX9_findFloat_154 (by decide) ?_
        exact hJ72 _ hf _ _ _ hP hD hS (lv_sub hl [1, 2] rfl)
      · replace hf := k_neg hf c490
        refine lv_aload_n hx hb dX9_findFloat_143 rfl (lv_at hl 2 rfl) ?_
        obtain ⟨r491, hc491, hf⟩ := k_b1_some hf
        refine k_ViR (q0 := 0) (As := []) (rest := []) S0 (c_X9_isLost l D cI cZ cJ cS h h_now h_aside h_books h_tide h_rain h_rule h_counts h_begins h_best h_planks v_h_thrown v_h_kept v_h_counted v_h_bestWorth v_h_bestPitch v_h_bestBits (-4) v_h_leastSet v_h_shut c_h_now_67 r491 hc491) (cwV 0 hts gX9_findFloat_X9_isLost rfl rfl rfl hdV_X9_isLost ⟨Nat.le_of_ble_eq_true rfl, Nat.le_of_ble_eq_true rfl⟩) hK hP hD hS hA hN [0, 1] rfl (by decide) rfl rfl rfl rfl hl.1 rfl (Nat.le_of_ble_eq_true rfl) dX9_findFloat_144 (fun H locs hP hS => ?_)
        refine lv_if_ne (tgt := 154) hx hb dX9_findFloat_147 (by decide) (fun c492 => ?_) (fun c492 => ?_)
        · replace hf := k_neg hf c492
          refine lv_iconst (v := 0) hx hb dX9_findFloat_154 (by decide) ?_
          exact hJ72 _ hf _ _ _ hP hD hS (lv_sub hl [1, 2] rfl)
        · replace hf := k_pos hf c492
          refine lv_iconst (v := 1) hx hb dX9_findFloat_150 (by decide) ?_
          refine lv_goto (tgt := 155) hx hb dX9_findFloat_151 (by decide) ?_
          exact hJ72 _ hf _ _ _ hP hD hS (lv_sub hl [1, 2] rfl)
    refine (k_lp_ind (fun sx65 => ∀ (H : Heap) (locs : List Loc) (ls : Array Slot), va_P D vwCl [(h, .inr (9, [.int v_h_thrown, .ref h_now, .ref h_aside, .int v_h_kept, .ref h_books, .ref h_tide, .ref h_rain, .ref h_rule, .int v_h_counted, .ref h_counts, .ref h_begins, .ref h_best, .int v_h_bestWorth, .int v_h_bestPitch, .int v_h_bestBits, .int (-4), .int v_h_leastSet, .int v_h_shut, .ref h_planks])), (h_now, .inl (cI, 169, .inl sx65.2)), (h_aside, .inl (cI, 169, .inl c_h_aside_7)), (h_rain, .inl (cI, 96, .inl f_h_rain)), (h_rule, .inl (cI, 8, .inl f_h_rule)), (h_tide, .inl (cI, 96, .inl f_h_tide))] H → va_D A [(h, .inr (9, [.int v_h_thrown, .ref h_now, .ref h_aside, .int v_h_kept, .ref h_books, .ref h_tide, .ref h_rain, .ref h_rule, .int v_h_counted, .ref h_counts, .ref h_begins, .ref h_best, .int v_h_bestWorth, .int v_h_bestPitch, .int v_h_bestBits, .int (-4), .int v_h_leastSet, .int v_h_shut, .ref h_planks])), (h_now, .inl (cI, 169, .inl sx65.2)), (h_aside, .inl (cI, 169, .inl c_h_aside_7)), (h_rain, .inl (cI, 96, .inl f_h_rain)), (h_rule, .inl (cI, 8, .inl f_h_rule)), (h_tide, .inl (cI, 96, .inl f_h_tide))] → va_S A s.heap H locs → lv_has ls 11 [(2, .int sx65.1), (1, .int (f_h_now 0)), (0, .ref h)] → W p l e rm_X9_findFloat s m args below meth c H locs 0 0 Q (F0 m 42 ls [])) (fun sx65 X65 hX65 hin65 hout65 => ?_) _ _ hlp65) _ _ _ hP hD hS (lv_sub hl [0, 1, 2] rfl)
    obtain ⟨x2_493, c_h_now_494⟩ := sx65
    intro H locs ls hP hD hS hl
    replace hP : va_P D vwCl [(h, .inr (9, [.int v_h_thrown, .ref h_now, .ref h_aside, .int v_h_kept, .ref h_books, .ref h_tide, .ref h_rain, .ref h_rule, .int v_h_counted, .ref h_counts, .ref h_begins, .ref h_best, .int v_h_bestWorth, .int v_h_bestPitch, .int v_h_bestBits, .int (-4), .int v_h_leastSet, .int v_h_shut, .ref h_planks])), (h_now, .inl (cI, 169, .inl c_h_now_494)), (h_aside, .inl (cI, 169, .inl c_h_aside_7)), (h_rain, .inl (cI, 96, .inl f_h_rain)), (h_rule, .inl (cI, 8, .inl f_h_rule)), (h_tide, .inl (cI, 96, .inl f_h_tide))] H := hP
    replace hD : va_D A [(h, .inr (9, [.int v_h_thrown, .ref h_now, .ref h_aside, .int v_h_kept, .ref h_books, .ref h_tide, .ref h_rain, .ref h_rule, .int v_h_counted, .ref h_counts, .ref h_begins, .ref h_best, .int v_h_bestWorth, .int v_h_bestPitch, .int v_h_bestBits, .int (-4), .int v_h_leastSet, .int v_h_shut, .ref h_planks])), (h_now, .inl (cI, 169, .inl c_h_now_494)), (h_aside, .inl (cI, 169, .inl c_h_aside_7)), (h_rain, .inl (cI, 96, .inl f_h_rain)), (h_rule, .inl (cI, 8, .inl f_h_rule)), (h_tide, .inl (cI, 96, .inl f_h_tide))] := hD
    replace hl : lv_has ls 11 [(2, .int x2_493), (1, .int (f_h_now 0)), (0, .ref h)] := hl
    replace hX65 : lb_X9_findFloat_42 f_h_rain f_h_rule f_h_tide x2_493 c_h_now_494 = some X65 := hX65
    unfold lb_X9_findFloat_42 at hX65
    refine lv_iload_n hx hb dX9_findFloat_42 rfl (lv_at hl 0 rfl) ?_
    refine lv_if_eq (tgt := 139) hx hb dX9_findFloat_43 (by decide) (fun c495 => ?_) (fun c495 => ?_)
    · replace hX65 := k_pos hX65 c495
      exact hE65 _ _ (hout65 _ (Option.some.inj hX65).symm).symm _ _ _ hP hD hS (lv_sub hl [0, 1, 2] rfl)
    · replace hX65 := k_neg hX65 c495
      refine lv_aload_n hx hb dX9_findFloat_46 rfl (lv_at hl 2 rfl) ?_
      refine lv_iconst (v := 1) hx hb dX9_findFloat_47 (by decide) ?_
      obtain ⟨r496, hc496, hX65⟩ := k_b1_some hX65
      refine k_ViR (q0 := 0) (As := [.int 1]) (rest := []) S0 (c_X9_states l D cI cZ cJ cS h h_now h_aside h_books h_tide h_rain h_rule h_counts h_begins h_best h_planks v_h_thrown v_h_kept v_h_counted v_h_bestWorth v_h_bestPitch v_h_bestBits (-4) v_h_leastSet v_h_shut c_h_now_494 1 r496 hc496) (cwV 1 hts gX9_findFloat_X9_states rfl rfl rfl hdV_X9_states ⟨Nat.le_of_ble_eq_true rfl, Nat.le_of_ble_eq_true rfl⟩) hK hP hD hS hA hN [0, 1] rfl (by decide) rfl rfl rfl rfl hl.1 rfl (Nat.le_of_ble_eq_true rfl) dX9_findFloat_48 (fun H locs hP hS => ?_)
      refine lv_if_le (tgt := 139) hx hb dX9_findFloat_51 (by decide) (fun c497 => ?_) (fun c497 => ?_)
      · replace hX65 := k_pos hX65 c497
        exact hE65 _ _ (hout65 _ (Option.some.inj hX65).symm).symm _ _ _ hP hD hS (lv_sub hl [0, 1, 2] rfl)
      · replace hX65 := k_neg hX65 c497
        refine lv_iconst (v := 0) hx hb dX9_findFloat_54 (by decide) ?_
        refine lv_istore_n (lv' := [(3, .int 0), (2, .int x2_493), (1, .int (f_h_now 0)), (0, .ref h)]) hx hb dX9_findFloat_55 rfl hl (by decide) rfl (fun ls hl => ?_)
        refine lv_iconst (v := 0) hx hb dX9_findFloat_56 (by decide) ?_
        refine lv_istore (lv' := [(4, .int 0), (3, .int 0), (2, .int x2_493), (1, .int (f_h_now 0)), (0, .ref h)]) hx hb dX9_findFloat_57 hl (by decide) rfl (fun ls hl => ?_)
        obtain ⟨ee506, hlp506, hfr506⟩ := k_b1_ee hX65
        have hE506 : ∀ (x3_507 : Int32), ee506 = x3_507 → ∀ (H : Heap) (locs : List Loc) (ls : Array Slot), va_P D vwCl [(h, .inr (9, [.int v_h_thrown, .ref h_now, .ref h_aside, .int v_h_kept, .ref h_books, .ref h_tide, .ref h_rain, .ref h_rule, .int v_h_counted, .ref h_counts, .ref h_begins, .ref h_best, .int v_h_bestWorth, .int v_h_bestPitch, .int v_h_bestBits, .int (-4), .int v_h_leastSet, .int v_h_shut, .ref h_planks])), (h_now, .inl (cI, 169, .inl c_h_now_494)), (h_aside, .inl (cI, 169, .inl c_h_aside_7)), (h_rain, .inl (cI, 96, .inl f_h_rain)), (h_rule, .inl (cI, 8, .inl f_h_rule)), (h_tide, .inl (cI, 96, .inl f_h_tide))] H → va_D A [(h, .inr (9, [.int v_h_thrown, .ref h_now, .ref h_aside, .int v_h_kept, .ref h_books, .ref h_tide, .ref h_rain, .ref h_rule, .int v_h_counted, .ref h_counts, .ref h_begins, .ref h_best, .int v_h_bestWorth, .int v_h_bestPitch, .int v_h_bestBits, .int (-4), .int v_h_leastSet, .int v_h_shut, .ref h_planks])), (h_now, .inl (cI, 169, .inl c_h_now_494)), (h_aside, .inl (cI, 169, .inl c_h_aside_7)), (h_rain, .inl (cI, 96, .inl f_h_rain)), (h_rule, .inl (cI, 8, .inl f_h_rule)), (h_tide, .inl (cI, 96, .inl f_h_tide))] → va_S A s.heap H locs → lv_has ls 11 [(3, .int x3_507), (1, .int (f_h_now 0)), (0, .ref h)] → W p l e rm_X9_findFloat s m args below meth c H locs 0 0 Q (F0 m 103 ls []) := by
          intro x3_507 he H locs ls hP hD hS hl
          replace hX65 := hfr506 x3_507 he
          have hJ512 : ∀ (t511 : Int32), lj_X9_findFloat_126 c_h_now_494 f_h_rain f_h_rule f_h_tide x3_507 t511 = some X65 → ∀ (H : Heap) (locs : List Loc) (ls : Array Slot), va_P D vwCl [(h, .inr (9, [.int v_h_thrown, .ref h_now, .ref h_aside, .int v_h_kept, .ref h_books, .ref h_tide, .ref h_rain, .ref h_rule, .int v_h_counted, .ref h_counts, .ref h_begins, .ref h_best, .int v_h_bestWorth, .int v_h_bestPitch, .int v_h_bestBits, .int (-4), .int v_h_leastSet, .int v_h_shut, .ref h_planks])), (h_now, .inl (cI, 169, .inl c_h_now_494)), (h_aside, .inl (cI, 169, .inl c_h_aside_7)), (h_rain, .inl (cI, 96, .inl f_h_rain)), (h_rule, .inl (cI, 8, .inl f_h_rule)), (h_tide, .inl (cI, 96, .inl f_h_tide))] H → va_D A [(h, .inr (9, [.int v_h_thrown, .ref h_now, .ref h_aside, .int v_h_kept, .ref h_books, .ref h_tide, .ref h_rain, .ref h_rule, .int v_h_counted, .ref h_counts, .ref h_begins, .ref h_best, .int v_h_bestWorth, .int v_h_bestPitch, .int v_h_bestBits, .int (-4), .int v_h_leastSet, .int v_h_shut, .ref h_planks])), (h_now, .inl (cI, 169, .inl c_h_now_494)), (h_aside, .inl (cI, 169, .inl c_h_aside_7)), (h_rain, .inl (cI, 96, .inl f_h_rain)), (h_rule, .inl (cI, 8, .inl f_h_rule)), (h_tide, .inl (cI, 96, .inl f_h_tide))] → va_S A s.heap H locs → lv_has ls 11 [(3, .int x3_507), (1, .int (f_h_now 0)), (0, .ref h)] → W p l e rm_X9_findFloat s m args below meth c H locs 0 0 Q (F0 m 126 ls [.int t511]) := by
            intro t511 hX65_j H locs ls hP hD hS hl
            replace hX65 := hX65_j
            unfold lj_X9_findFloat_126 at hX65
            refine lv_istore_n (lv' := [(2, .int t511), (3, .int x3_507), (1, .int (f_h_now 0)), (0, .ref h)]) hx hb dX9_findFloat_126 rfl hl (by decide) rfl (fun ls hl => ?_)
            refine lv_iload_n hx hb dX9_findFloat_127 rfl (lv_at hl 0 rfl) ?_
            refine lv_if_eq (tgt := 136) hx hb dX9_findFloat_128 (by decide) (fun c513 => ?_) (fun c513 => ?_)
            · replace hX65 := k_pos hX65 c513
              refine lv_goto (tgt := 42) hx hb dX9_findFloat_136 (by decide) ?_
              exact hin65 (t511, c_h_now_494) (Option.some.inj hX65).symm _ _ _ hP hD hS (lv_sub hl [0, 2, 3] rfl)
            · replace hX65 := k_neg hX65 c513
              refine lv_aload_n hx hb dX9_findFloat_131 rfl (lv_at hl 3 rfl) ?_
              refine lv_iload_n hx hb dX9_findFloat_132 rfl (lv_at hl 1 rfl) ?_
              obtain ⟨w_h_now_514, hc514, hX65⟩ := k_b1_some hX65
              refine k_Vv (ws2 := [(h, .inr (9, [.int v_h_thrown, .ref h_now, .ref h_aside, .int v_h_kept, .ref h_books, .ref h_tide, .ref h_rain, .ref h_rule, .int v_h_counted, .ref h_counts, .ref h_begins, .ref h_best, .int v_h_bestWorth, .int v_h_bestPitch, .int v_h_bestBits, .int (-4), .int v_h_leastSet, .int v_h_shut, .ref h_planks])), (h_now, .inl (cI, 169, .inl w_h_now_514)), (h_aside, .inl (cI, 169, .inl c_h_aside_7)), (h_rain, .inl (cI, 96, .inl f_h_rain)), (h_rule, .inl (cI, 8, .inl f_h_rule)), (h_tide, .inl (cI, 96, .inl f_h_tide))]) (q0 := 0) (As := [.int x3_507]) (rest := []) S0 (c_X9_pass l D cI cZ cJ cS h h_now h_aside h_books h_tide h_rain h_rule h_counts h_begins h_best h_planks v_h_thrown v_h_kept v_h_counted v_h_bestWorth v_h_bestPitch v_h_bestBits (-4) v_h_leastSet v_h_shut c_h_now_494 f_h_rain f_h_rule f_h_tide x3_507 w_h_now_514 hc514) (cwV 1 hts gX9_findFloat_X9_pass rfl rfl rfl hdV_X9_pass ⟨Nat.le_of_ble_eq_true rfl, Nat.le_of_ble_eq_true rfl⟩) hK hP hD hS hA hN [0, 1, 3, 4, 5] rfl (by decide) rfl rfl rfl rfl hl.1 rfl (Nat.le_of_ble_eq_true rfl) rfl rfl rfl dX9_findFloat_133 (fun H locs hP hD hS => ?_)
              refine lv_goto (tgt := 42) hx hb dX9_findFloat_136 (by decide) ?_
              exact hin65 (t511, w_h_now_514) (Option.some.inj hX65).symm _ _ _ hP hD hS (lv_sub hl [0, 2, 3] rfl)
          refine lv_aload_n hx hb dX9_findFloat_103 rfl (lv_at hl 2 rfl) ?_
          obtain ⟨r515, hc515, hX65⟩ := k_b1_some hX65
          refine k_ViR (q0 := 0) (As := []) (rest := []) S0 (c_X9_isLost l D cI cZ cJ cS h h_now h_aside h_books h_tide h_rain h_rule h_counts h_begins h_best h_planks v_h_thrown v_h_kept v_h_counted v_h_bestWorth v_h_bestPitch v_h_bestBits (-4) v_h_leastSet v_h_shut c_h_now_494 r515 hc515) (cwV 0 hts gX9_findFloat_X9_isLost rfl rfl rfl hdV_X9_isLost ⟨Nat.le_of_ble_eq_true rfl, Nat.le_of_ble_eq_true rfl⟩) hK hP hD hS hA hN [0, 1] rfl (by decide) rfl rfl rfl rfl hl.1 rfl (Nat.le_of_ble_eq_true rfl) dX9_findFloat_104 (fun H locs hP hS => ?_)
          refine lv_if_ne (tgt := 125) hx hb dX9_findFloat_107 (by decide) (fun c516 => ?_) (fun c516 => ?_)
          · replace hX65 := k_neg hX65 c516
            refine lv_iconst (v := 0) hx hb dX9_findFloat_125 (by decide) ?_
            exact hJ512 _ hX65 _ _ _ hP hD hS (lv_sub hl [0, 1, 2] rfl)
          · replace hX65 := k_pos hX65 c516
            refine lv_aload_n hx hb dX9_findFloat_110 rfl (lv_at hl 2 rfl) ?_
            refine k_get (C := RX9) (T := TX9) (N := 19) hx hb hts inX9 hown hK hP 0 rfl rfl 1 (by decide) rfl wl1 rfl dX9_findFloat_111 ?_
            refine lv_iconst (v := 0) hx hb dX9_findFloat_114 (by decide) ?_
            refine k_iald (k := 0) hx hb hK hP 1 0 rfl rfl (by unfold vp_in; decide) (by decide) dX9_findFloat_115 ?_
            refine lv_bipush (v := 96) hx hb dX9_findFloat_116 (by decide) ?_
            refine lv_icmp_ge (tgt := 125) hx hb dX9_findFloat_118 (by decide) (fun c517 => ?_) (fun c517 => ?_)
            · replace hX65 := k_pos hX65 c517
              refine lv_iconst (v := 0) hx hb dX9_findFloat_125 (by decide) ?_
              exact hJ512 _ hX65 _ _ _ hP hD hS (lv_sub hl [0, 1, 2] rfl)
            · replace hX65 := k_neg hX65 c517
              refine lv_iconst (v := 1) hx hb dX9_findFloat_121 (by decide) ?_
              refine lv_goto (tgt := 126) hx hb dX9_findFloat_122 (by decide) ?_
              exact hJ512 _ hX65 _ _ _ hP hD hS (lv_sub hl [0, 1, 2] rfl)
        refine (k_lp_ind (fun sx506 => ∀ (H : Heap) (locs : List Loc) (ls : Array Slot), va_P D vwCl [(h, .inr (9, [.int v_h_thrown, .ref h_now, .ref h_aside, .int v_h_kept, .ref h_books, .ref h_tide, .ref h_rain, .ref h_rule, .int v_h_counted, .ref h_counts, .ref h_begins, .ref h_best, .int v_h_bestWorth, .int v_h_bestPitch, .int v_h_bestBits, .int (-4), .int v_h_leastSet, .int v_h_shut, .ref h_planks])), (h_now, .inl (cI, 169, .inl c_h_now_494)), (h_aside, .inl (cI, 169, .inl c_h_aside_7)), (h_rain, .inl (cI, 96, .inl f_h_rain)), (h_rule, .inl (cI, 8, .inl f_h_rule)), (h_tide, .inl (cI, 96, .inl f_h_tide))] H → va_D A [(h, .inr (9, [.int v_h_thrown, .ref h_now, .ref h_aside, .int v_h_kept, .ref h_books, .ref h_tide, .ref h_rain, .ref h_rule, .int v_h_counted, .ref h_counts, .ref h_begins, .ref h_best, .int v_h_bestWorth, .int v_h_bestPitch, .int v_h_bestBits, .int (-4), .int v_h_leastSet, .int v_h_shut, .ref h_planks])), (h_now, .inl (cI, 169, .inl c_h_now_494)), (h_aside, .inl (cI, 169, .inl c_h_aside_7)), (h_rain, .inl (cI, 96, .inl f_h_rain)), (h_rule, .inl (cI, 8, .inl f_h_rule)), (h_tide, .inl (cI, 96, .inl f_h_tide))] → va_S A s.heap H locs → lv_has ls 11 [(4, .int sx506.2), (3, .int sx506.1), (1, .int (f_h_now 0)), (0, .ref h)] → W p l e rm_X9_findFloat s m args below meth c H locs 0 0 Q (F0 m 59 ls [])) (fun sx506 X506 hX506 hin506 hout506 => ?_) _ _ hlp506) _ _ _ hP hD hS (lv_sub hl [0, 1, 3, 4] rfl)
        obtain ⟨x3_518, x4_519⟩ := sx506
        intro H locs ls hP hD hS hl
        replace hP : va_P D vwCl [(h, .inr (9, [.int v_h_thrown, .ref h_now, .ref h_aside, .int v_h_kept, .ref h_books, .ref h_tide, .ref h_rain, .ref h_rule, .int v_h_counted, .ref h_counts, .ref h_begins, .ref h_best, .int v_h_bestWorth, .int v_h_bestPitch, .int v_h_bestBits, .int (-4), .int v_h_leastSet, .int v_h_shut, .ref h_planks])), (h_now, .inl (cI, 169, .inl c_h_now_494)), (h_aside, .inl (cI, 169, .inl c_h_aside_7)), (h_rain, .inl (cI, 96, .inl f_h_rain)), (h_rule, .inl (cI, 8, .inl f_h_rule)), (h_tide, .inl (cI, 96, .inl f_h_tide))] H := hP
        replace hD : va_D A [(h, .inr (9, [.int v_h_thrown, .ref h_now, .ref h_aside, .int v_h_kept, .ref h_books, .ref h_tide, .ref h_rain, .ref h_rule, .int v_h_counted, .ref h_counts, .ref h_begins, .ref h_best, .int v_h_bestWorth, .int v_h_bestPitch, .int v_h_bestBits, .int (-4), .int v_h_leastSet, .int v_h_shut, .ref h_planks])), (h_now, .inl (cI, 169, .inl c_h_now_494)), (h_aside, .inl (cI, 169, .inl c_h_aside_7)), (h_rain, .inl (cI, 96, .inl f_h_rain)), (h_rule, .inl (cI, 8, .inl f_h_rule)), (h_tide, .inl (cI, 96, .inl f_h_tide))] := hD
        replace hl : lv_has ls 11 [(4, .int x4_519), (3, .int x3_518), (1, .int (f_h_now 0)), (0, .ref h)] := hl
        replace hX506 : lb_X9_findFloat_59 c_h_now_494 x3_518 x4_519 = some X506 := hX506
        unfold lb_X9_findFloat_59 at hX506
        refine lv_iload hx hb dX9_findFloat_59 (lv_at hl 0 rfl) ?_
        refine lv_aload_n hx hb dX9_findFloat_61 rfl (lv_at hl 3 rfl) ?_
        refine k_get (C := RX9) (T := TX9) (N := 19) hx hb hts inX9 hown hK hP 0 rfl rfl 1 (by decide) rfl wl1 rfl dX9_findFloat_62 ?_
        refine lv_bipush (v := 12) hx hb dX9_findFloat_65 (by decide) ?_
        refine k_iald (k := 12) hx hb hK hP 1 0 rfl rfl (by unfold vp_in; decide) (by decide) dX9_findFloat_67 ?_
        refine lv_icmp_ge (tgt := 103) hx hb dX9_findFloat_68 (by decide) (fun c520 => ?_) (fun c520 => ?_)
        · replace hX506 := k_pos hX506 c520
          exact hE506 _ (hout506 _ (Option.some.inj hX506).symm).symm _ _ _ hP hD hS (lv_sub hl [1, 2, 3] rfl)
        · replace hX506 := k_neg hX506 c520
          refine lv_iload_n hx hb dX9_findFloat_71 rfl (lv_at hl 1 rfl) ?_
          refine lv_aload_n hx hb dX9_findFloat_72 rfl (lv_at hl 3 rfl) ?_
          refine k_get (C := RX9) (T := TX9) (N := 19) hx hb hts inX9 hown hK hP 0 rfl rfl 1 (by decide) rfl wl1 rfl dX9_findFloat_73 ?_
          refine lv_sipush (v := 145) hx hb dX9_findFloat_76 (by decide) ?_
          refine lv_iload hx hb dX9_findFloat_79 (lv_at hl 0 rfl) ?_
          refine lv_iadd hx hb dX9_findFloat_81 ?_
          obtain ⟨hi521, hX506⟩ := k_ix_some hX506
          refine k_iald (k := (145 + x4_519).toNatClampNeg) hx hb hK hP 1 0 rfl rfl hi521 rfl dX9_findFloat_82 ?_
          refine lv_iconst (v := 1) hx hb dX9_findFloat_83 (by decide) ?_
          refine lv_icmp_ne (tgt := 94) hx hb dX9_findFloat_84 (by decide) (fun c522 => ?_) (fun c522 => ?_)
          · replace hX506 := k_neg hX506 c522
            refine lv_iconst (v := 0) hx hb dX9_findFloat_94 (by decide) ?_
            refine lv_ior hx hb dX9_findFloat_95 ?_
            refine lv_istore_n (lv' := [(3, .int (x3_518 ||| 0)), (4, .int x4_519), (1, .int (f_h_now 0)), (0, .ref h)]) hx hb dX9_findFloat_96 rfl hl (by decide) rfl (fun ls hl => ?_)
            refine lv_iinc (v := x4_519 + 1) (lv' := [(4, .int (x4_519 + 1)), (3, .int (x3_518 ||| 0)), (1, .int (f_h_now 0)), (0, .ref h)]) hx hb dX9_findFloat_97 hl (k := 1) rfl rfl (by decide) rfl (fun ls hl => ?_)
            refine lv_goto (tgt := 59) hx hb dX9_findFloat_100 (by decide) ?_
            exact hin506 (x3_518 ||| 0, x4_519 + 1) (Option.some.inj hX506).symm _ _ _ hP hD hS (lv_sub hl [0, 1, 2, 3] rfl)
          · replace hX506 := k_pos hX506 c522
            refine lv_iconst (v := 1) hx hb dX9_findFloat_87 (by decide) ?_
            refine lv_iload hx hb dX9_findFloat_88 (lv_at hl 0 rfl) ?_
            refine lv_ishl hx hb dX9_findFloat_90 ?_
            refine lv_goto (tgt := 95) hx hb dX9_findFloat_91 (by decide) ?_
            refine lv_ior hx hb dX9_findFloat_95 ?_
            refine lv_istore_n (lv' := [(3, .int (x3_518 ||| (1 <<< (x4_519 &&& 31)))), (4, .int x4_519), (1, .int (f_h_now 0)), (0, .ref h)]) hx hb dX9_findFloat_96 rfl hl (by decide) rfl (fun ls hl => ?_)
            refine lv_iinc (v := x4_519 + 1) (lv' := [(4, .int (x4_519 + 1)), (3, .int (x3_518 ||| (1 <<< (x4_519 &&& 31)))), (1, .int (f_h_now 0)), (0, .ref h)]) hx hb dX9_findFloat_97 hl (k := 1) rfl rfl (by decide) rfl (fun ls hl => ?_)
            refine lv_goto (tgt := 59) hx hb dX9_findFloat_100 (by decide) ?_
            exact hin506 (x3_518 ||| (1 <<< (x4_519 &&& 31)), x4_519 + 1) (Option.some.inj hX506).symm _ _ _ hP hD hS (lv_sub hl [0, 1, 2, 3] rfl)
  refine (k_lp_ind (fun sx6 => ∀ (H : Heap) (locs : List Loc) (ls : Array Slot), va_P D vwCl [(h, .inr (9, [.int v_h_thrown, .ref h_now, .ref h_aside, .int v_h_kept, .ref h_books, .ref h_tide, .ref h_rain, .ref h_rule, .int v_h_counted, .ref h_counts, .ref h_begins, .ref h_best, .int v_h_bestWorth, .int v_h_bestPitch, .int v_h_bestBits, .int v_h_leastHour, .int v_h_leastSet, .int v_h_shut, .ref h_planks])), (h_now, .inl (cI, 169, .inl f_h_now)), (h_aside, .inl (cI, 169, .inl sx6.2)), (h_rain, .inl (cI, 96, .inl f_h_rain)), (h_rule, .inl (cI, 8, .inl f_h_rule)), (h_tide, .inl (cI, 96, .inl f_h_tide))] H → va_D A [(h, .inr (9, [.int v_h_thrown, .ref h_now, .ref h_aside, .int v_h_kept, .ref h_books, .ref h_tide, .ref h_rain, .ref h_rule, .int v_h_counted, .ref h_counts, .ref h_begins, .ref h_best, .int v_h_bestWorth, .int v_h_bestPitch, .int v_h_bestBits, .int v_h_leastHour, .int v_h_leastSet, .int v_h_shut, .ref h_planks])), (h_now, .inl (cI, 169, .inl f_h_now)), (h_aside, .inl (cI, 169, .inl sx6.2)), (h_rain, .inl (cI, 96, .inl f_h_rain)), (h_rule, .inl (cI, 8, .inl f_h_rule)), (h_tide, .inl (cI, 96, .inl f_h_tide))] → va_S A s.heap H locs → lv_has ls 11 [(2, .int sx6.1), (1, .int (f_h_now 0)), (0, .ref h)] → W p l e rm_X9_findFloat s m args below meth c H locs 0 0 Q (F0 m 9 ls [])) (fun sx6 X6 hX6 hin6 hout6 => ?_) _ _ hlp6) _ _ _ hP hD hS (lv_sub hl [0, 1, 2] rfl)
  obtain ⟨x2_523, c_h_aside_524⟩ := sx6
  intro H locs ls hP hD hS hl
  replace hP : va_P D vwCl [(h, .inr (9, [.int v_h_thrown, .ref h_now, .ref h_aside, .int v_h_kept, .ref h_books, .ref h_tide, .ref h_rain, .ref h_rule, .int v_h_counted, .ref h_counts, .ref h_begins, .ref h_best, .int v_h_bestWorth, .int v_h_bestPitch, .int v_h_bestBits, .int v_h_leastHour, .int v_h_leastSet, .int v_h_shut, .ref h_planks])), (h_now, .inl (cI, 169, .inl f_h_now)), (h_aside, .inl (cI, 169, .inl c_h_aside_524)), (h_rain, .inl (cI, 96, .inl f_h_rain)), (h_rule, .inl (cI, 8, .inl f_h_rule)), (h_tide, .inl (cI, 96, .inl f_h_tide))] H := hP
  replace hD : va_D A [(h, .inr (9, [.int v_h_thrown, .ref h_now, .ref h_aside, .int v_h_kept, .ref h_books, .ref h_tide, .ref h_rain, .ref h_rule, .int v_h_counted, .ref h_counts, .ref h_begins, .ref h_best, .int v_h_bestWorth, .int v_h_bestPitch, .int v_h_bestBits, .int v_h_leastHour, .int v_h_leastSet, .int v_h_shut, .ref h_planks])), (h_now, .inl (cI, 169, .inl f_h_now)), (h_aside, .inl (cI, 169, .inl c_h_aside_524)), (h_rain, .inl (cI, 96, .inl f_h_rain)), (h_rule, .inl (cI, 8, .inl f_h_rule)), (h_tide, .inl (cI, 96, .inl f_h_tide))] := hD
  replace hl : lv_has ls 11 [(2, .int x2_523), (1, .int (f_h_now 0)), (0, .ref h)] := hl
  replace hX6 : lb_X9_findFloat_9 f_h_now x2_523 c_h_aside_524 = some X6 := hX6
  unfold lb_X9_findFloat_9 at hX6
  refine lv_iload_n hx hb dX9_findFloat_9 rfl (lv_at hl 0 rfl) ?_
  refine lv_sipush (v := 169) hx hb dX9_findFloat_10 (by decide) ?_
  refine lv_icmp_ge (tgt := 34) hx hb dX9_findFloat_13 (by decide) (fun c525 => ?_) (fun c525 => ?_)
  · replace hX6 := k_pos hX6 c525
    exact hE6 _ (hout6 _ (Option.some.inj hX6).symm).symm _ _ _ hP hD hS (lv_sub hl [1, 2] rfl)
  · replace hX6 := k_neg hX6 c525
    refine lv_aload_n hx hb dX9_findFloat_16 rfl (lv_at hl 2 rfl) ?_
    refine k_get (C := RX9) (T := TX9) (N := 19) hx hb hts inX9 hown hK hP 0 rfl rfl 2 (by decide) rfl wl2 rfl dX9_findFloat_17 ?_
    refine lv_iload_n hx hb dX9_findFloat_20 rfl (lv_at hl 0 rfl) ?_
    refine lv_aload_n hx hb dX9_findFloat_21 rfl (lv_at hl 2 rfl) ?_
    refine k_get (C := RX9) (T := TX9) (N := 19) hx hb hts inX9 hown hK hP 0 rfl rfl 1 (by decide) rfl wl1 rfl dX9_findFloat_22 ?_
    refine lv_iload_n hx hb dX9_findFloat_25 rfl (lv_at hl 0 rfl) ?_
    obtain ⟨hi526, hX6⟩ := k_ix_some hX6
    refine k_iald (k := x2_523.toNatClampNeg) hx hb hK hP 1 0 rfl rfl hi526 rfl dX9_findFloat_26 ?_
    obtain ⟨hi527, hX6⟩ := k_ix_some hX6
    refine k_iast (ws2 := [(h, .inr (9, [.int v_h_thrown, .ref h_now, .ref h_aside, .int v_h_kept, .ref h_books, .ref h_tide, .ref h_rain, .ref h_rule, .int v_h_counted, .ref h_counts, .ref h_begins, .ref h_best, .int v_h_bestWorth, .int v_h_bestPitch, .int v_h_bestBits, .int v_h_leastHour, .int v_h_leastSet, .int v_h_shut, .ref h_planks])), (h_now, .inl (cI, 169, .inl f_h_now)), (h_aside, .inl (cI, 169, .inl (upd c_h_aside_524 x2_523.toNatClampNeg (f_h_now x2_523.toNatClampNeg)))), (h_rain, .inl (cI, 96, .inl f_h_rain)), (h_rule, .inl (cI, 8, .inl f_h_rule)), (h_tide, .inl (cI, 96, .inl f_h_tide))]) (k := x2_523.toNatClampNeg) hx hb hK hP hD hS 2 0 rfl rfl hi527 rfl rfl dX9_findFloat_27 (fun H locs hP hD hS => ?_)
    refine lv_iinc (v := x2_523 + 1) (lv' := [(2, .int (x2_523 + 1)), (1, .int (f_h_now 0)), (0, .ref h)]) hx hb dX9_findFloat_28 hl (k := 0) rfl rfl (by decide) rfl (fun ls hl => ?_)
    refine lv_goto (tgt := 9) hx hb dX9_findFloat_31 (by decide) ?_
    exact hin6 (x2_523 + 1, upd c_h_aside_524 x2_523.toNatClampNeg (f_h_now x2_523.toNatClampNeg)) (Option.some.inj hX6).symm _ _ _ hP hD hS (lv_sub hl [0, 1, 2] rfl)

def lb_X9_toFloat_23 (f_h_now : Nat → Int32) (x2_22 : Int32) (x3_23 : Int32) : Option ((Int32 × Int32) ⊕ (Int32)) :=
  if (f_h_now 10) ≤ x3_23 then
    some (.inr x2_22)
  else
    k_ix (37 + x3_23) 169 (
      some (.inl (x2_22 + (1 - (f_h_now (37 + x3_23).toNatClampNeg)), x3_23 + 1)))
def p_X9_toFloat (v_h_leastHour : Int32) (v_h_leastSet : Int32) (v_h_shut : Int32) (f_h_now : Nat → Int32) (f_h_aside : Nat → Int32) (f_h_rain : Nat → Int32) (f_h_rule : Nat → Int32) (f_h_tide : Nat → Int32) (a1 : Int32) : Option (Int32 × Int32 × Int32 × Int32 × Int32 × (Nat → Int32) × (Nat → Int32)) :=
  k_b1 (p_X9_in ((a1).toInt64) 0 2) fun r1 =>
  if r1 = 0 then
    some ((-1), 0, v_h_leastHour, v_h_leastSet, v_h_shut, f_h_now, f_h_aside)
  else
    k_b1 (k_lp (fun s => lb_X9_toFloat_23 f_h_now s.1 s.2) k_fuel (0, 0)) fun x2_10 =>
    if 8 < x2_10 then
      some ((-2), 0, v_h_leastHour, v_h_leastSet, v_h_shut, f_h_now, f_h_aside)
    else
      k_b1 (p_X9_isLost f_h_now) fun r12 =>
      if r12 = 0 then
        k_b5 (p_X9_findFloat v_h_leastSet f_h_now f_h_aside f_h_rain f_h_rule f_h_tide) fun w_h_leastHour_14 w_h_leastSet_15 w_h_shut_16 w_h_now_17 w_h_aside_18 =>
        if w_h_leastHour_14 = (-4) then
          some ((-4), 0, w_h_leastHour_14, w_h_leastSet_15, w_h_shut_16, w_h_now_17, w_h_aside_18)
        else
          if a1 = 0 then
            some (w_h_leastHour_14, 0, w_h_leastHour_14, w_h_leastSet_15, w_h_shut_16, w_h_now_17, w_h_aside_18)
          else
            if a1 = 1 then
              some (w_h_leastSet_15, 0, w_h_leastHour_14, w_h_leastSet_15, w_h_shut_16, w_h_now_17, w_h_aside_18)
            else
              some (w_h_shut_16, 0, w_h_leastHour_14, w_h_leastSet_15, w_h_shut_16, w_h_now_17, w_h_aside_18)
      else
        some ((-2), 0, v_h_leastHour, v_h_leastSet, v_h_shut, f_h_now, f_h_aside)
abbrev rm_X9_toFloat : Room := { frames := 7, cells := 0, slots := 0, locals := 169 }
theorem hdS_X9_toFloat : yX9_toFloat.cls ≠ "java/lang/invoke/MethodHandle" ∧ yX9_toFloat.cls ≠ "java/lang/invoke/VarHandle" ∧ (parseMethodDescriptor yX9_toFloat.desc).map (fun d => d.parameters.length) = some 1 := by decide +kernel
theorem hdV_X9_toFloat : yX9_toFloat.cls = RX9 ∧ yX9_toFloat.cls ≠ "java/lang/invoke/MethodHandle" ∧ yX9_toFloat.cls ≠ "java/lang/invoke/VarHandle" ∧ (parseMethodDescriptor yX9_toFloat.desc).map (fun d => d.parameters.length) = some 1 := by decide +kernel
set_option maxHeartbeats 4000000 in
set_option maxRecDepth 100000 in
theorem c_X9_toFloat (l : Launch) (D : va_G) (cI cZ cJ cS : ClassId) (h h_now h_aside h_books h_tide h_rain h_rule h_counts h_begins h_best h_planks : Nat) (v_h_thrown : Int32) (v_h_kept : Int32) (v_h_counted : Int32) (v_h_bestWorth : Int32) (v_h_bestPitch : Int32) (v_h_bestBits : Int32) (v_h_leastHour : Int32) (v_h_leastSet : Int32) (v_h_shut : Int32) (f_h_now : Nat → Int32) (f_h_aside : Nat → Int32) (f_h_rain : Nat → Int32) (f_h_rule : Nat → Int32) (f_h_tide : Nat → Int32) (a1 : Int32) (r : Int32) (v_h_thrown' : Int32) (v_h_leastHour' : Int32) (v_h_leastSet' : Int32) (v_h_shut' : Int32) (f_h_now' : Nat → Int32) (f_h_aside' : Nat → Int32) (hf : p_X9_toFloat v_h_leastHour v_h_leastSet v_h_shut f_h_now f_h_aside f_h_rain f_h_rule f_h_tide a1 = some (r, v_h_thrown', v_h_leastHour', v_h_leastSet', v_h_shut', f_h_now', f_h_aside')) : k_MI l yX9_toFloat wsX9_toFloat rm_X9_toFloat D (k_tys cI cZ cJ cS) [.ref h, .int a1] [(h, .inr (9, [.int v_h_thrown, .ref h_now, .ref h_aside, .int v_h_kept, .ref h_books, .ref h_tide, .ref h_rain, .ref h_rule, .int v_h_counted, .ref h_counts, .ref h_begins, .ref h_best, .int v_h_bestWorth, .int v_h_bestPitch, .int v_h_bestBits, .int v_h_leastHour, .int v_h_leastSet, .int v_h_shut, .ref h_planks])), (h_now, .inl (cI, 169, .inl f_h_now)), (h_aside, .inl (cI, 169, .inl f_h_aside)), (h_rain, .inl (cI, 96, .inl f_h_rain)), (h_rule, .inl (cI, 8, .inl f_h_rule)), (h_tide, .inl (cI, 96, .inl f_h_tide))] [(h, .inr (9, [.int v_h_thrown', .ref h_now, .ref h_aside, .int v_h_kept, .ref h_books, .ref h_tide, .ref h_rain, .ref h_rule, .int v_h_counted, .ref h_counts, .ref h_begins, .ref h_best, .int v_h_bestWorth, .int v_h_bestPitch, .int v_h_bestBits, .int v_h_leastHour', .int v_h_leastSet', .int v_h_shut', .ref h_planks])), (h_now, .inl (cI, 169, .inl f_h_now')), (h_aside, .inl (cI, 169, .inl f_h_aside')), (h_rain, .inl (cI, 96, .inl f_h_rain)), (h_rule, .inl (cI, 8, .inl f_h_rule)), (h_tide, .inl (cI, 96, .inl f_h_tide))] r := by
  refine k_enter (y := yX9_toFloat) (wl := wsX9_toFloat) (rm := rm_X9_toFloat) (av := [.ref h, .int a1]) (D := D) (tys := k_tys cI cZ cJ cS) (ws := [(h, .inr (9, [.int v_h_thrown, .ref h_now, .ref h_aside, .int v_h_kept, .ref h_books, .ref h_tide, .ref h_rain, .ref h_rule, .int v_h_counted, .ref h_counts, .ref h_begins, .ref h_best, .int v_h_bestWorth, .int v_h_bestPitch, .int v_h_bestBits, .int v_h_leastHour, .int v_h_leastSet, .int v_h_shut, .ref h_planks])), (h_now, .inl (cI, 169, .inl f_h_now)), (h_aside, .inl (cI, 169, .inl f_h_aside)), (h_rain, .inl (cI, 96, .inl f_h_rain)), (h_rule, .inl (cI, 8, .inl f_h_rule)), (h_tide, .inl (cI, 96, .inl f_h_tide))]) (cc := cX9_toFloat) (maxL := 4) (ret := (some .int)) (Qc := fun A => k_Qi D (k_tys cI cZ cJ cS) [(h, .inr (9, [.int v_h_thrown', .ref h_now, .ref h_aside, .int v_h_kept, .ref h_books, .ref h_tide, .ref h_rain, .ref h_rule, .int v_h_counted, .ref h_counts, .ref h_begins, .ref h_best, .int v_h_bestWorth, .int v_h_bestPitch, .int v_h_bestBits, .int v_h_leastHour', .int v_h_leastSet', .int v_h_shut', .ref h_planks])), (h_now, .inl (cI, 169, .inl f_h_now')), (h_aside, .inl (cI, 169, .inl f_h_aside')), (h_rain, .inl (cI, 96, .inl f_h_rain)), (h_rule, .inl (cI, 8, .inl f_h_rule)), (h_tide, .inl (cI, 96, .inl f_h_tide))] A r) (by decide) rfl (Nat.le_of_ble_eq_true rfl) [(0, .ref h), (1, .int a1)] rfl ?_
  intro p e s m below meth c A hx hb hml hr hlocks hnm hown hK hP hD hA hS hN ls args Q hts hl hQ
  replace hown : s.vm.findClass RX9 = some m.cls := hown
  have S0 : CallFix p m c cX9_toFloat 4 s args wsX9_toFloat RX9 := ⟨hx, hb, hml, hown, hts⟩
  have inX9 : ∀ w ∈ u_ws RX9 TX9 19, w ∈ wsX9_toFloat := fun w h => List.mem_cons_of_mem _ (List.mem_append_right _ h)
  have wl1 : (Cond.fieldLink RX9 1 "BeachedShipModel" "thrown" "I").before args s = true := hts _ (List.mem_of_getElem? (i := 1) rfl)
  have wl2 : (Cond.constantLong RX9 66 (2)).before args s = true := hts _ (List.mem_of_getElem? (i := 2) rfl)
  have wl3 : (Cond.fieldLink RX9 13 "BeachedShipModel" "now" "[I").before args s = true := hts _ (List.mem_of_getElem? (i := 3) rfl)
  have wl4 : (Cond.fieldLink RX9 165 "BeachedShipModel" "leastHour" "I").before args s = true := hts _ (List.mem_of_getElem? (i := 4) rfl)
  have wl6 : (Cond.fieldLink RX9 168 "BeachedShipModel" "shut" "I").before args s = true := hts _ (List.mem_of_getElem? (i := 6) rfl)
  have wl5 : (Cond.fieldLink RX9 171 "BeachedShipModel" "leastSet" "I").before args s = true := hts _ (List.mem_of_getElem? (i := 5) rfl)
  have hRet : ∀ (r_z : Int32) (v_h_thrown_z : Int32) (v_h_leastHour_z : Int32) (v_h_leastSet_z : Int32) (v_h_shut_z : Int32) (f_h_now_z : Nat → Int32) (f_h_aside_z : Nat → Int32), some (r_z, v_h_thrown_z, v_h_leastHour_z, v_h_leastSet_z, v_h_shut_z, f_h_now_z, f_h_aside_z) = some (r, v_h_thrown', v_h_leastHour', v_h_leastSet', v_h_shut', f_h_now', f_h_aside') → ∀ (H : Heap) (locs : List Loc) (ls : Array Slot) (pc : Nat), va_P D vwCl [(h, .inr (9, [.int v_h_thrown_z, .ref h_now, .ref h_aside, .int v_h_kept, .ref h_books, .ref h_tide, .ref h_rain, .ref h_rule, .int v_h_counted, .ref h_counts, .ref h_begins, .ref h_best, .int v_h_bestWorth, .int v_h_bestPitch, .int v_h_bestBits, .int v_h_leastHour_z, .int v_h_leastSet_z, .int v_h_shut_z, .ref h_planks])), (h_now, .inl (cI, 169, .inl f_h_now_z)), (h_aside, .inl (cI, 169, .inl f_h_aside_z)), (h_rain, .inl (cI, 96, .inl f_h_rain)), (h_rule, .inl (cI, 8, .inl f_h_rule)), (h_tide, .inl (cI, 96, .inl f_h_tide))] H → va_D A [(h, .inr (9, [.int v_h_thrown_z, .ref h_now, .ref h_aside, .int v_h_kept, .ref h_books, .ref h_tide, .ref h_rain, .ref h_rule, .int v_h_counted, .ref h_counts, .ref h_begins, .ref h_best, .int v_h_bestWorth, .int v_h_bestPitch, .int v_h_bestBits, .int v_h_leastHour_z, .int v_h_leastSet_z, .int v_h_shut_z, .ref h_planks])), (h_now, .inl (cI, 169, .inl f_h_now_z)), (h_aside, .inl (cI, 169, .inl f_h_aside_z)), (h_rain, .inl (cI, 96, .inl f_h_rain)), (h_rule, .inl (cI, 8, .inl f_h_rule)), (h_tide, .inl (cI, 96, .inl f_h_tide))] → va_S A s.heap H locs → narrow .int (.int r_z) = .int r_z → decode cX9_toFloat pc = .ok (.ireturn, 1) → W p l e rm_X9_toFloat s m args below meth c H locs 0 0 Q (F0 m pc ls [.int r_z]) := by
    intro r_z v_h_thrown_z v_h_leastHour_z v_h_leastSet_z v_h_shut_z f_h_now_z f_h_aside_z hz H locs ls pc hP hD hS hn hd
    cases hz
    exact k_iret hx hb hr hlocks hn hK hP hD hS hQ rfl hd
  unfold p_X9_toFloat at hf
  refine lv_aload_n hx hb dX9_toFloat_0 rfl (lv_at hl 0 rfl) ?_
  refine lv_iconst (v := 0) hx hb dX9_toFloat_1 (by decide) ?_
  refine k_putf (ws2 := [(h, .inr (9, [.int 0, .ref h_now, .ref h_aside, .int v_h_kept, .ref h_books, .ref h_tide, .ref h_rain, .ref h_rule, .int v_h_counted, .ref h_counts, .ref h_begins, .ref h_best, .int v_h_bestWorth, .int v_h_bestPitch, .int v_h_bestBits, .int v_h_leastHour, .int v_h_leastSet, .int v_h_shut, .ref h_planks])), (h_now, .inl (cI, 169, .inl f_h_now)), (h_aside, .inl (cI, 169, .inl f_h_aside)), (h_rain, .inl (cI, 96, .inl f_h_rain)), (h_rule, .inl (cI, 8, .inl f_h_rule)), (h_tide, .inl (cI, 96, .inl f_h_tide))]) (C := RX9) (T := TX9) (N := 19) hx hb hts inX9 tyX9 tyX9_ok nmX9 hown hK hP hD hS 0 rfl rfl 0 (by decide) rfl wl1 rfl rfl rfl (Nat.le_of_ble_eq_true rfl) rfl dX9_toFloat_2 (fun H locs hP hD hS => ?_)
  refine lv_iload_n hx hb dX9_toFloat_5 rfl (lv_at hl 1 rfl) ?_
  refine lv_i2l (v := (a1).toInt64) hx hb dX9_toFloat_6 rfl ?_
  refine lv_lconst (v := 0) hx hb dX9_toFloat_7 (by decide) ?_
  refine lv_ldc2 hx hb hown wl2 dX9_toFloat_8 ?_
  obtain ⟨r1, hc1, hf⟩ := k_b1_some hf
  refine k_SiR (As := [.long ((a1).toInt64), .long 0, .long 2]) (rest := []) S0 (c_X9_in l D cI cZ cJ cS ((a1).toInt64) 0 2 r1 hc1) (va_cwS 3 hts gX9_toFloat_X9_in rfl rfl rfl hdS_X9_in ⟨Nat.le_of_ble_eq_true rfl, Nat.le_of_ble_eq_true rfl⟩) hK hP hD hS hA hN [] rfl (by decide) rfl hl.1 rfl (Nat.le_of_ble_eq_true rfl) dX9_toFloat_11 (fun H locs hP hS => ?_)
  refine lv_if_ne (tgt := 19) hx hb dX9_toFloat_14 (by decide) (fun c2 => ?_) (fun c2 => ?_)
  · replace hf := k_neg hf c2
    refine lv_iconst (v := 0) hx hb dX9_toFloat_19 (by decide) ?_
    refine lv_istore_n (lv' := [(2, .int 0), (0, .ref h), (1, .int a1)]) hx hb dX9_toFloat_20 rfl hl (by decide) rfl (fun ls hl => ?_)
    refine lv_iconst (v := 0) hx hb dX9_toFloat_21 (by decide) ?_
    refine lv_istore_n (lv' := [(3, .int 0), (2, .int 0), (0, .ref h), (1, .int a1)]) hx hb dX9_toFloat_22 rfl hl (by decide) rfl (fun ls hl => ?_)
    obtain ⟨ee9, hlp9, hfr9⟩ := k_b1_ee hf
    have hE9 : ∀ (x2_10 : Int32), ee9 = x2_10 → ∀ (H : Heap) (locs : List Loc) (ls : Array Slot), va_P D vwCl [(h, .inr (9, [.int 0, .ref h_now, .ref h_aside, .int v_h_kept, .ref h_books, .ref h_tide, .ref h_rain, .ref h_rule, .int v_h_counted, .ref h_counts, .ref h_begins, .ref h_best, .int v_h_bestWorth, .int v_h_bestPitch, .int v_h_bestBits, .int v_h_leastHour, .int v_h_leastSet, .int v_h_shut, .ref h_planks])), (h_now, .inl (cI, 169, .inl f_h_now)), (h_aside, .inl (cI, 169, .inl f_h_aside)), (h_rain, .inl (cI, 96, .inl f_h_rain)), (h_rule, .inl (cI, 8, .inl f_h_rule)), (h_tide, .inl (cI, 96, .inl f_h_tide))] H → va_D A [(h, .inr (9, [.int 0, .ref h_now, .ref h_aside, .int v_h_kept, .ref h_books, .ref h_tide, .ref h_rain, .ref h_rule, .int v_h_counted, .ref h_counts, .ref h_begins, .ref h_best, .int v_h_bestWorth, .int v_h_bestPitch, .int v_h_bestBits, .int v_h_leastHour, .int v_h_leastSet, .int v_h_shut, .ref h_planks])), (h_now, .inl (cI, 169, .inl f_h_now)), (h_aside, .inl (cI, 169, .inl f_h_aside)), (h_rain, .inl (cI, 96, .inl f_h_rain)), (h_rule, .inl (cI, 8, .inl f_h_rule)), (h_tide, .inl (cI, 96, .inl f_h_tide))] → va_S A s.heap H locs → lv_has ls 4 [(2, .int x2_10), (0, .ref h), (1, .int a1)] → W p l e rm_X9_toFloat s m args below meth c H locs 0 0 Q (F0 m 54 ls []) := by
      intro x2_10 he H locs ls hP hD hS hl
      replace hf := hfr9 x2_10 he
      refine lv_iload_n hx hb dX9_toFloat_54 rfl (lv_at hl 0 rfl) ?_
      refine lv_bipush (v := 8) hx hb dX9_toFloat_55 (by decide) ?_
      refine lv_icmp_gt (tgt := 67) hx hb dX9_toFloat_57 (by decide) (fun c11 => ?_) (fun c11 => ?_)
      · replace hf := k_pos hf c11
        refine lv_bipush (v := (-2)) hx hb dX9_toFloat_67 (by decide) ?_
        exact hRet _ _ _ _ _ _ _ hf _ _ _ _ hP hD hS rfl dX9_toFloat_69
      · replace hf := k_neg hf c11
        refine lv_aload_n hx hb dX9_toFloat_60 rfl (lv_at hl 1 rfl) ?_
        obtain ⟨r12, hc12, hf⟩ := k_b1_some hf
        refine k_ViR (q0 := 0) (As := []) (rest := []) S0 (c_X9_isLost l D cI cZ cJ cS h h_now h_aside h_books h_tide h_rain h_rule h_counts h_begins h_best h_planks 0 v_h_kept v_h_counted v_h_bestWorth v_h_bestPitch v_h_bestBits v_h_leastHour v_h_leastSet v_h_shut f_h_now r12 hc12) (cwV 0 hts gX9_toFloat_X9_isLost rfl rfl rfl hdV_X9_isLost ⟨Nat.le_of_ble_eq_true rfl, Nat.le_of_ble_eq_true rfl⟩) hK hP hD hS hA hN [0, 1] rfl (by decide) rfl rfl rfl rfl hl.1 rfl (Nat.le_of_ble_eq_true rfl) dX9_toFloat_61 (fun H locs hP hS => ?_)
        refine lv_if_eq (tgt := 70) hx hb dX9_toFloat_64 (by decide) (fun c13 => ?_) (fun c13 => ?_)
        · replace hf := k_pos hf c13
          refine lv_aload_n hx hb dX9_toFloat_70 rfl (lv_at hl 1 rfl) ?_
          obtain ⟨w_h_leastHour_14, w_h_leastSet_15, w_h_shut_16, w_h_now_17, w_h_aside_18, hc18, hf⟩ := k_b5_some hf
          refine k_Vv (ws2 := [(h, .inr (9, [.int 0, .ref h_now, .ref h_aside, .int v_h_kept, .ref h_books, .ref h_tide, .ref h_rain, .ref h_rule, .int v_h_counted, .ref h_counts, .ref h_begins, .ref h_best, .int v_h_bestWorth, .int v_h_bestPitch, .int v_h_bestBits, .int w_h_leastHour_14, .int w_h_leastSet_15, .int w_h_shut_16, .ref h_planks])), (h_now, .inl (cI, 169, .inl w_h_now_17)), (h_aside, .inl (cI, 169, .inl w_h_aside_18)), (h_rain, .inl (cI, 96, .inl f_h_rain)), (h_rule, .inl (cI, 8, .inl f_h_rule)), (h_tide, .inl (cI, 96, .inl f_h_tide))]) (q0 := 0) (As := []) (rest := []) S0 (c_X9_findFloat l D cI cZ cJ cS h h_now h_aside h_books h_tide h_rain h_rule h_counts h_begins h_best h_planks 0 v_h_kept v_h_counted v_h_bestWorth v_h_bestPitch v_h_bestBits v_h_leastHour v_h_leastSet v_h_shut f_h_now f_h_aside f_h_rain f_h_rule f_h_tide w_h_leastHour_14 w_h_leastSet_15 w_h_shut_16 w_h_now_17 w_h_aside_18 hc18) (cwV 0 hts gX9_toFloat_X9_findFloat rfl rfl rfl hdV_X9_findFloat ⟨Nat.le_of_ble_eq_true rfl, Nat.le_of_ble_eq_true rfl⟩) hK hP hD hS hA hN [0, 1, 2, 3, 4, 5] rfl (by decide) rfl rfl rfl rfl hl.1 rfl (Nat.le_of_ble_eq_true rfl) rfl rfl rfl dX9_toFloat_71 (fun H locs hP hD hS => ?_)
          refine lv_aload_n hx hb dX9_toFloat_74 rfl (lv_at hl 1 rfl) ?_
          refine k_get (C := RX9) (T := TX9) (N := 19) hx hb hts inX9 hown hK hP 0 rfl rfl 15 (by decide) rfl wl4 rfl dX9_toFloat_75 ?_
          refine lv_bipush (v := (-4)) hx hb dX9_toFloat_78 (by decide) ?_
          refine lv_icmp_ne (tgt := 88) hx hb dX9_toFloat_80 (by decide) (fun c19 => ?_) (fun c19 => ?_)
          · replace hf := k_neg hf c19
            refine lv_iload_n hx hb dX9_toFloat_88 rfl (lv_at hl 2 rfl) ?_
            refine lv_if_ne (tgt := 99) hx hb dX9_toFloat_89 (by decide) (fun c20 => ?_) (fun c20 => ?_)
            · replace hf := k_neg hf c20
              refine lv_iload_n hx hb dX9_toFloat_99 rfl (lv_at hl 2 rfl) ?_
              refine lv_iconst (v := 1) hx hb dX9_toFloat_100 (by decide) ?_
              refine lv_icmp_ne (tgt := 111) hx hb dX9_toFloat_101 (by decide) (fun c21 => ?_) (fun c21 => ?_)
              · replace hf := k_neg hf c21
                refine lv_aload_n hx hb dX9_toFloat_111 rfl (lv_at hl 1 rfl) ?_
                refine k_get (C := RX9) (T := TX9) (N := 19) hx hb hts inX9 hown hK hP 0 rfl rfl 17 (by decide) rfl wl6 rfl dX9_toFloat_112 ?_
                exact hRet _ _ _ _ _ _ _ hf _ _ _ _ hP hD hS rfl dX9_toFloat_115
              · replace hf := k_pos hf c21
                refine lv_aload_n hx hb dX9_toFloat_104 rfl (lv_at hl 1 rfl) ?_
                refine k_get (C := RX9) (T := TX9) (N := 19) hx hb hts inX9 hown hK hP 0 rfl rfl 16 (by decide) rfl wl5 rfl dX9_toFloat_105 ?_
                refine lv_goto (tgt := 115) hx hb dX9_toFloat_108 (by decide) ?_
                exact hRet _ _ _ _ _ _ _ hf _ _ _ _ hP hD hS rfl dX9_toFloat_115
            · replace hf := k_pos hf c20
              refine lv_aload_n hx hb dX9_toFloat_92 rfl (lv_at hl 1 rfl) ?_
              refine k_get (C := RX9) (T := TX9) (N := 19) hx hb hts inX9 hown hK hP 0 rfl rfl 15 (by decide) rfl wl4 rfl dX9_toFloat_93 ?_
              refine lv_goto (tgt := 115) hx hb dX9_toFloat_96 (by decide) ?_
              exact hRet _ _ _ _ _ _ _ hf _ _ _ _ hP hD hS rfl dX9_toFloat_115
          · replace hf := k_pos hf c19
            refine lv_bipush (v := (-4)) hx hb dX9_toFloat_83 (by decide) ?_
            refine lv_goto (tgt := 115) hx hb dX9_toFloat_85 (by decide) ?_
            exact hRet _ _ _ _ _ _ _ hf _ _ _ _ hP hD hS rfl dX9_toFloat_115
        · replace hf := k_neg hf c13
          refine lv_bipush (v := (-2)) hx hb dX9_toFloat_67 (by decide) ?_
          exact hRet _ _ _ _ _ _ _ hf _ _ _ _ hP hD hS rfl dX9_toFloat_69
    refine (k_lp_ind (fun sx9 => ∀ (H : Heap) (locs : List Loc) (ls : Array Slot), va_P D vwCl [(h, .inr (9, [.int 0, .ref h_now, .ref h_aside, .int v_h_kept, .ref h_books, .ref h_tide, .ref h_rain, .ref h_rule, .int v_h_counted, .ref h_counts, .ref h_begins, .ref h_best, .int v_h_bestWorth, .int v_h_bestPitch, .int v_h_bestBits, .int v_h_leastHour, .int v_h_leastSet, .int v_h_shut, .ref h_planks])), (h_now, .inl (cI, 169, .inl f_h_now)), (h_aside, .inl (cI, 169, .inl f_h_aside)), (h_rain, .inl (cI, 96, .inl f_h_rain)), (h_rule, .inl (cI, 8, .inl f_h_rule)), (h_tide, .inl (cI, 96, .inl f_h_tide))] H → va_D A [(h, .inr (9, [.int 0, .ref h_now, .ref h_aside, .int v_h_kept, .ref h_books, .ref h_tide, .ref h_rain, .ref h_rule, .int v_h_counted, .ref h_counts, .ref h_begins, .ref h_best, .int v_h_bestWorth, .int v_h_bestPitch, .int v_h_bestBits, .int v_h_leastHour, .int v_h_leastSet, .int v_h_shut, .ref h_planks])), (h_now, .inl (cI, 169, .inl f_h_now)), (h_aside, .inl (cI, 169, .inl f_h_aside)), (h_rain, .inl (cI, 96, .inl f_h_rain)), (h_rule, .inl (cI, 8, .inl f_h_rule)), (h_tide, .inl (cI, 96, .inl f_h_tide))] → va_S A s.heap H locs → lv_has ls 4 [(3, .int sx9.2), (2, .int sx9.1), (0, .ref h), (1, .int a1)] → W p l e rm_X9_toFloat s m args below meth c H locs 0 0 Q (F0 m 23 ls [])) (fun sx9 X9 hX9 hin9 hout9 => ?_) _ _ hlp9) _ _ _ hP hD hS (lv_sub hl [0, 1, 2, 3] rfl)
    obtain ⟨x2_22, x3_23⟩ := sx9
    intro H locs ls hP hD hS hl
    replace hP : va_P D vwCl [(h, .inr (9, [.int 0, .ref h_now, .ref h_aside, .int v_h_kept, .ref h_books, .ref h_tide, .ref h_rain, .ref h_rule, .int v_h_counted, .ref h_counts, .ref h_begins, .ref h_best, .int v_h_bestWorth, .int v_h_bestPitch, .int v_h_bestBits, .int v_h_leastHour, .int v_h_leastSet, .int v_h_shut, .ref h_planks])), (h_now, .inl (cI, 169, .inl f_h_now)), (h_aside, .inl (cI, 169, .inl f_h_aside)), (h_rain, .inl (cI, 96, .inl f_h_rain)), (h_rule, .inl (cI, 8, .inl f_h_rule)), (h_tide, .inl (cI, 96, .inl f_h_tide))] H := hP
    replace hD : va_D A [(h, .inr (9, [.int 0, .ref h_now, .ref h_aside, .int v_h_kept, .ref h_books, .ref h_tide, .ref h_rain, .ref h_rule, .int v_h_counted, .ref h_counts, .ref h_begins, .ref h_best, .int v_h_bestWorth, .int v_h_bestPitch, .int v_h_bestBits, .int v_h_leastHour, .int v_h_leastSet, .int v_h_shut, .ref h_planks])), (h_now, .inl (cI, 169, .inl f_h_now)), (h_aside, .inl (cI, 169, .inl f_h_aside)), (h_rain, .inl (cI, 96, .inl f_h_rain)), (h_rule, .inl (cI, 8, .inl f_h_rule)), (h_tide, .inl (cI, 96, .inl f_h_tide))] := hD
    replace hl : lv_has ls 4 [(3, .int x3_23), (2, .int x2_22), (0, .ref h), (1, .int a1)] := hl
    replace hX9 : lb_X9_toFloat_23 f_h_now x2_22 x3_23 = some X9 := hX9
    unfold lb_X9_toFloat_23 at hX9
    refine lv_iload_n hx hb dX9_toFloat_23 rfl (lv_at hl 0 rfl) ?_
    refine lv_aload_n hx hb dX9_toFloat_24 rfl (lv_at hl 2 rfl) ?_
    refine k_get (C := RX9) (T := TX9) (N := 19) hx hb hts inX9 hown hK hP 0 rfl rfl 1 (by decide) rfl wl3 rfl dX9_toFloat_25 ?_
    refine lv_bipush (v := 10) hx hb dX9_toFloat_28 (by decide) ?_
    refine k_iald (k := 10) hx hb hK hP 1 0 rfl rfl (by unfold vp_in; decide) (by decide) dX9_toFloat_30 ?_
    refine lv_icmp_ge (tgt := 54) hx hb dX9_toFloat_31 (by decide) (fun c24 => ?_) (fun c24 => ?_)
    · replace hX9 := k_pos hX9 c24
      exact hE9 _ (hout9 _ (Option.some.inj hX9).symm).symm _ _ _ hP hD hS (lv_sub hl [1, 2, 3] rfl)
    · replace hX9 := k_neg hX9 c24
      refine lv_iload_n hx hb dX9_toFloat_34 rfl (lv_at hl 1 rfl) ?_
      refine lv_iconst (v := 1) hx hb dX9_toFloat_35 (by decide) ?_
      refine lv_aload_n hx hb dX9_toFloat_36 rfl (lv_at hl 2 rfl) ?_
      refine k_get (C := RX9) (T := TX9) (N := 19) hx hb hts inX9 hown hK hP 0 rfl rfl 1 (by decide) rfl wl3 rfl dX9_toFloat_37 ?_
      refine lv_bipush (v := 37) hx hb dX9_toFloat_40 (by decide) ?_
      refine lv_iload_n hx hb dX9_toFloat_42 rfl (lv_at hl 0 rfl) ?_
      refine lv_iadd hx hb dX9_toFloat_43 ?_
      obtain ⟨hi25, hX9⟩ := k_ix_some hX9
      refine k_iald (k := (37 + x3_23).toNatClampNeg) hx hb hK hP 1 0 rfl rfl hi25 rfl dX9_toFloat_44 ?_
      refine lv_isub hx hb dX9_toFloat_45 ?_
      refine lv_iadd hx hb dX9_toFloat_46 ?_
      refine lv_istore_n (lv' := [(2, .int (x2_22 + (1 - (f_h_now (37 + x3_23).toNatClampNeg)))), (3, .int x3_23), (0, .ref h), (1, .int a1)]) hx hb dX9_toFloat_47 rfl hl (by decide) rfl (fun ls hl => ?_)
      refine lv_iinc (v := x3_23 + 1) (lv' := [(3, .int (x3_23 + 1)), (2, .int (x2_22 + (1 - (f_h_now (37 + x3_23).toNatClampNeg)))), (0, .ref h), (1, .int a1)]) hx hb dX9_toFloat_48 hl (k := 1) rfl rfl (by decide) rfl (fun ls hl => ?_)
      refine lv_goto (tgt := 23) hx hb dX9_toFloat_51 (by decide) ?_
      exact hin9 (x2_22 + (1 - (f_h_now (37 + x3_23).toNatClampNeg)), x3_23 + 1) (Option.some.inj hX9).symm _ _ _ hP hD hS (lv_sub hl [0, 1, 2, 3] rfl)
  · replace hf := k_pos hf c2
    refine lv_iconst (v := (-1)) hx hb dX9_toFloat_17 (by decide) ?_
    exact hRet _ _ _ _ _ _ _ hf _ _ _ _ hP hD hS rfl dX9_toFloat_18

def p_X9_tap (f_h_planks : Nat → Int32) (a1 : Int32) (a2 : Int32) : Option (Int32 × Int32 × (Nat → Int32)) :=
  k_b1 (p_X9_in ((a1).toInt64) 0 29) fun r1 =>
  if r1 = 0 then
    some ((-100), 0, f_h_planks)
  else
    k_b1 (p_X9_in ((a2).toInt64) (-1) 1) fun r3 =>
    if r3 = 0 then
      some ((-100), 0, f_h_planks)
    else
      k_ix a1 30 (
        k_ix a1 30 (
          some (f_h_planks a1.toNatClampNeg, 0, upd f_h_planks a1.toNatClampNeg a2)))
abbrev rm_X9_tap : Room := { frames := 1, cells := 0, slots := 0, locals := 25 }
theorem hdS_X9_tap : yX9_tap.cls ≠ "java/lang/invoke/MethodHandle" ∧ yX9_tap.cls ≠ "java/lang/invoke/VarHandle" ∧ (parseMethodDescriptor yX9_tap.desc).map (fun d => d.parameters.length) = some 2 := by decide +kernel
theorem hdV_X9_tap : yX9_tap.cls = RX9 ∧ yX9_tap.cls ≠ "java/lang/invoke/MethodHandle" ∧ yX9_tap.cls ≠ "java/lang/invoke/VarHandle" ∧ (parseMethodDescriptor yX9_tap.desc).map (fun d => d.parameters.length) = some 2 := by decide +kernel
set_option maxHeartbeats 4000000 in
set_option maxRecDepth 100000 in
theorem c_X9_tap (l : Launch) (D : va_G) (cI cZ cJ cS : ClassId) (h h_now h_aside h_books h_tide h_rain h_rule h_counts h_begins h_best h_planks : Nat) (v_h_thrown : Int32) (v_h_kept : Int32) (v_h_counted : Int32) (v_h_bestWorth : Int32) (v_h_bestPitch : Int32) (v_h_bestBits : Int32) (v_h_leastHour : Int32) (v_h_leastSet : Int32) (v_h_shut : Int32) (f_h_planks : Nat → Int32) (a1 : Int32) (a2 : Int32) (r : Int32) (v_h_thrown' : Int32) (f_h_planks' : Nat → Int32) (hf : p_X9_tap f_h_planks a1 a2 = some (r, v_h_thrown', f_h_planks')) : k_MI l yX9_tap wsX9_tap rm_X9_tap D (k_tys cI cZ cJ cS) [.ref h, .int a1, .int a2] [(h, .inr (9, [.int v_h_thrown, .ref h_now, .ref h_aside, .int v_h_kept, .ref h_books, .ref h_tide, .ref h_rain, .ref h_rule, .int v_h_counted, .ref h_counts, .ref h_begins, .ref h_best, .int v_h_bestWorth, .int v_h_bestPitch, .int v_h_bestBits, .int v_h_leastHour, .int v_h_leastSet, .int v_h_shut, .ref h_planks])), (h_planks, .inl (cI, 30, .inl f_h_planks))] [(h, .inr (9, [.int v_h_thrown', .ref h_now, .ref h_aside, .int v_h_kept, .ref h_books, .ref h_tide, .ref h_rain, .ref h_rule, .int v_h_counted, .ref h_counts, .ref h_begins, .ref h_best, .int v_h_bestWorth, .int v_h_bestPitch, .int v_h_bestBits, .int v_h_leastHour, .int v_h_leastSet, .int v_h_shut, .ref h_planks])), (h_planks, .inl (cI, 30, .inl f_h_planks'))] r := by
  refine k_enter (y := yX9_tap) (wl := wsX9_tap) (rm := rm_X9_tap) (av := [.ref h, .int a1, .int a2]) (D := D) (tys := k_tys cI cZ cJ cS) (ws := [(h, .inr (9, [.int v_h_thrown, .ref h_now, .ref h_aside, .int v_h_kept, .ref h_books, .ref h_tide, .ref h_rain, .ref h_rule, .int v_h_counted, .ref h_counts, .ref h_begins, .ref h_best, .int v_h_bestWorth, .int v_h_bestPitch, .int v_h_bestBits, .int v_h_leastHour, .int v_h_leastSet, .int v_h_shut, .ref h_planks])), (h_planks, .inl (cI, 30, .inl f_h_planks))]) (cc := cX9_tap) (maxL := 4) (ret := (some .int)) (Qc := fun A => k_Qi D (k_tys cI cZ cJ cS) [(h, .inr (9, [.int v_h_thrown', .ref h_now, .ref h_aside, .int v_h_kept, .ref h_books, .ref h_tide, .ref h_rain, .ref h_rule, .int v_h_counted, .ref h_counts, .ref h_begins, .ref h_best, .int v_h_bestWorth, .int v_h_bestPitch, .int v_h_bestBits, .int v_h_leastHour, .int v_h_leastSet, .int v_h_shut, .ref h_planks])), (h_planks, .inl (cI, 30, .inl f_h_planks'))] A r) (by decide) rfl (Nat.le_of_ble_eq_true rfl) [(0, .ref h), (1, .int a1), (2, .int a2)] rfl ?_
  intro p e s m below meth c A hx hb hml hr hlocks hnm hown hK hP hD hA hS hN ls args Q hts hl hQ
  replace hown : s.vm.findClass RX9 = some m.cls := hown
  have S0 : CallFix p m c cX9_tap 4 s args wsX9_tap RX9 := ⟨hx, hb, hml, hown, hts⟩
  have inX9 : ∀ w ∈ u_ws RX9 TX9 19, w ∈ wsX9_tap := fun w h => List.mem_cons_of_mem _ (List.mem_append_right _ h)
  have wl1 : (Cond.fieldLink RX9 1 "BeachedShipModel" "thrown" "I").before args s = true := hts _ (List.mem_of_getElem? (i := 1) rfl)
  have wl2 : (Cond.constantLong RX9 177 (29)).before args s = true := hts _ (List.mem_of_getElem? (i := 2) rfl)
  have wl3 : (Cond.constantLong RX9 64 (-1)).before args s = true := hts _ (List.mem_of_getElem? (i := 3) rfl)
  have wl4 : (Cond.fieldLink RX9 41 "BeachedShipModel" "planks" "[I").before args s = true := hts _ (List.mem_of_getElem? (i := 4) rfl)
  have hRet : ∀ (r_z : Int32) (v_h_thrown_z : Int32) (f_h_planks_z : Nat → Int32), some (r_z, v_h_thrown_z, f_h_planks_z) = some (r, v_h_thrown', f_h_planks') → ∀ (H : Heap) (locs : List Loc) (ls : Array Slot) (pc : Nat), va_P D vwCl [(h, .inr (9, [.int v_h_thrown_z, .ref h_now, .ref h_aside, .int v_h_kept, .ref h_books, .ref h_tide, .ref h_rain, .ref h_rule, .int v_h_counted, .ref h_counts, .ref h_begins, .ref h_best, .int v_h_bestWorth, .int v_h_bestPitch, .int v_h_bestBits, .int v_h_leastHour, .int v_h_leastSet, .int v_h_shut, .ref h_planks])), (h_planks, .inl (cI, 30, .inl f_h_planks_z))] H → va_D A [(h, .inr (9, [.int v_h_thrown_z, .ref h_now, .ref h_aside, .int v_h_kept, .ref h_books, .ref h_tide, .ref h_rain, .ref h_rule, .int v_h_counted, .ref h_counts, .ref h_begins, .ref h_best, .int v_h_bestWorth, .int v_h_bestPitch, .int v_h_bestBits, .int v_h_leastHour, .int v_h_leastSet, .int v_h_shut, .ref h_planks])), (h_planks, .inl (cI, 30, .inl f_h_planks_z))] → va_S A s.heap H locs → narrow .int (.int r_z) = .int r_z → decode cX9_tap pc = .ok (.ireturn, 1) → W p l e rm_X9_tap s m args below meth c H locs 0 0 Q (F0 m pc ls [.int r_z]) := by
    intro r_z v_h_thrown_z f_h_planks_z hz H locs ls pc hP hD hS hn hd
    cases hz
    exact k_iret hx hb hr hlocks hn hK hP hD hS hQ rfl hd
  unfold p_X9_tap at hf
  refine lv_aload_n hx hb dX9_tap_0 rfl (lv_at hl 0 rfl) ?_
  refine lv_iconst (v := 0) hx hb dX9_tap_1 (by decide) ?_
  refine k_putf (ws2 := [(h, .inr (9, [.int 0, .ref h_now, .ref h_aside, .int v_h_kept, .ref h_books, .ref h_tide, .ref h_rain, .ref h_rule, .int v_h_counted, .ref h_counts, .ref h_begins, .ref h_best, .int v_h_bestWorth, .int v_h_bestPitch, .int v_h_bestBits, .int v_h_leastHour, .int v_h_leastSet, .int v_h_shut, .ref h_planks])), (h_planks, .inl (cI, 30, .inl f_h_planks))]) (C := RX9) (T := TX9) (N := 19) hx hb hts inX9 tyX9 tyX9_ok nmX9 hown hK hP hD hS 0 rfl rfl 0 (by decide) rfl wl1 rfl rfl rfl (Nat.le_of_ble_eq_true rfl) rfl dX9_tap_2 (fun H locs hP hD hS => ?_)
  refine lv_iload_n hx hb dX9_tap_5 rfl (lv_at hl 1 rfl) ?_
  refine lv_i2l (v := (a1).toInt64) hx hb dX9_tap_6 rfl ?_
  refine lv_lconst (v := 0) hx hb dX9_tap_7 (by decide) ?_
  refine lv_ldc2 hx hb hown wl2 dX9_tap_8 ?_
  obtain ⟨r1, hc1, hf⟩ := k_b1_some hf
  refine k_SiR (As := [.long ((a1).toInt64), .long 0, .long 29]) (rest := []) S0 (c_X9_in l D cI cZ cJ cS ((a1).toInt64) 0 29 r1 hc1) (va_cwS 3 hts gX9_tap_X9_in rfl rfl rfl hdS_X9_in ⟨Nat.le_of_ble_eq_true rfl, Nat.le_of_ble_eq_true rfl⟩) hK hP hD hS hA hN [] rfl (by decide) rfl hl.1 rfl (Nat.le_of_ble_eq_true rfl) dX9_tap_11 (fun H locs hP hS => ?_)
  refine lv_if_eq (tgt := 29) hx hb dX9_tap_14 (by decide) (fun c2 => ?_) (fun c2 => ?_)
  · replace hf := k_pos hf c2
    refine lv_bipush (v := (-100)) hx hb dX9_tap_29 (by decide) ?_
    exact hRet _ _ _ hf _ _ _ _ hP hD hS rfl dX9_tap_31
  · replace hf := k_neg hf c2
    refine lv_iload_n hx hb dX9_tap_17 rfl (lv_at hl 2 rfl) ?_
    refine lv_i2l (v := (a2).toInt64) hx hb dX9_tap_18 rfl ?_
    refine lv_ldc2 hx hb hown wl3 dX9_tap_19 ?_
    refine lv_lconst (v := 1) hx hb dX9_tap_22 (by decide) ?_
    obtain ⟨r3, hc3, hf⟩ := k_b1_some hf
    refine k_SiR (As := [.long ((a2).toInt64), .long (-1), .long 1]) (rest := []) S0 (c_X9_in l D cI cZ cJ cS ((a2).toInt64) (-1) 1 r3 hc3) (va_cwS 3 hts gX9_tap_X9_in rfl rfl rfl hdS_X9_in ⟨Nat.le_of_ble_eq_true rfl, Nat.le_of_ble_eq_true rfl⟩) hK hP hD hS hA hN [] rfl (by decide) rfl hl.1 rfl (Nat.le_of_ble_eq_true rfl) dX9_tap_23 (fun H locs hP hS => ?_)
    refine lv_if_ne (tgt := 32) hx hb dX9_tap_26 (by decide) (fun c4 => ?_) (fun c4 => ?_)
    · replace hf := k_neg hf c4
      refine lv_aload_n hx hb dX9_tap_32 rfl (lv_at hl 0 rfl) ?_
      refine k_get (C := RX9) (T := TX9) (N := 19) hx hb hts inX9 hown hK hP 0 rfl rfl 18 (by decide) rfl wl4 rfl dX9_tap_33 ?_
      refine lv_iload_n hx hb dX9_tap_36 rfl (lv_at hl 1 rfl) ?_
      obtain ⟨hi5, hf⟩ := k_ix_some hf
      refine k_iald (k := a1.toNatClampNeg) hx hb hK hP 1 0 rfl rfl hi5 rfl dX9_tap_37 ?_
      refine lv_istore_n (lv' := [(3, .int (f_h_planks a1.toNatClampNeg)), (0, .ref h), (1, .int a1), (2, .int a2)]) hx hb dX9_tap_38 rfl hl (by decide) rfl (fun ls hl => ?_)
      refine lv_aload_n hx hb dX9_tap_39 rfl (lv_at hl 1 rfl) ?_
      refine k_get (C := RX9) (T := TX9) (N := 19) hx hb hts inX9 hown hK hP 0 rfl rfl 18 (by decide) rfl wl4 rfl dX9_tap_40 ?_
      refine lv_iload_n hx hb dX9_tap_43 rfl (lv_at hl 2 rfl) ?_
      refine lv_iload_n hx hb dX9_tap_44 rfl (lv_at hl 3 rfl) ?_
      obtain ⟨hi6, hf⟩ := k_ix_some hf
      refine k_iast (ws2 := [(h, .inr (9, [.int 0, .ref h_now, .ref h_aside, .int v_h_kept, .ref h_books, .ref h_tide, .ref h_rain, .ref h_rule, .int v_h_counted, .ref h_counts, .ref h_begins, .ref h_best, .int v_h_bestWorth, .int v_h_bestPitch, .int v_h_bestBits, .int v_h_leastHour, .int v_h_leastSet, .int v_h_shut, .ref h_planks])), (h_planks, .inl (cI, 30, .inl (upd f_h_planks a1.toNatClampNeg a2)))]) (k := a1.toNatClampNeg) hx hb hK hP hD hS 1 0 rfl rfl hi6 rfl rfl dX9_tap_45 (fun H locs hP hD hS => ?_)
      refine lv_iload_n hx hb dX9_tap_46 rfl (lv_at hl 0 rfl) ?_
      exact hRet _ _ _ hf _ _ _ _ hP hD hS rfl dX9_tap_47
    · replace hf := k_pos hf c4
      refine lv_bipush (v := (-100)) hx hb dX9_tap_29 (by decide) ?_
      exact hRet _ _ _ hf _ _ _ _ hP hD hS rfl dX9_tap_31

def lj_X9_worm_298 (t74 : Int32) : Option (Int32 × Int32) :=
  some (t74, 0)
def lj_X9_worm_259 (t96 : Int32) (x5_81 : Int32) (t101 : Int32) : Option ((Int32 × Int32 × Int32) ⊕ (Int32 × Int32)) :=
  some (.inl (t101, t96, x5_81 + 1))
def lj_X9_worm_227 (x5_81 : Int32) (f_h_planks : Nat → Int32) (a2 : Int32) (t91 : Int32) (t96 : Int32) : Option ((Int32 × Int32 × Int32) ⊕ (Int32 × Int32)) :=
  k_ix x5_81 30 (
    if (f_h_planks x5_81.toNatClampNeg) = 1 then
      if a2 = 2 then
        lj_X9_worm_259 t96 x5_81 1000
      else
        lj_X9_worm_259 t96 x5_81 (-1000)
    else
      lj_X9_worm_259 t96 x5_81 t91)
def lj_X9_worm_196 (x5_81 : Int32) (f_h_planks : Nat → Int32) (a2 : Int32) (t86 : Int32) (t91 : Int32) : Option ((Int32 × Int32 × Int32) ⊕ (Int32 × Int32)) :=
  k_ix x5_81 30 (
    if (f_h_planks x5_81.toNatClampNeg) = 0 then
      if a2 = 2 then
        lj_X9_worm_227 x5_81 f_h_planks a2 t91 1000
      else
        lj_X9_worm_227 x5_81 f_h_planks a2 t91 (-1000)
    else
      lj_X9_worm_227 x5_81 f_h_planks a2 t91 t86)
def lj_X9_worm_162 (a2 : Int32) (x3_79 : Int32) (x4_80 : Int32) (x5_81 : Int32) (f_h_planks : Nat → Int32) (t86 : Int32) : Option ((Int32 × Int32 × Int32) ⊕ (Int32 × Int32)) :=
  if a2 = 2 then
    if x3_79 ≤ x4_80 then
      lj_X9_worm_196 x5_81 f_h_planks a2 t86 x3_79
    else
      lj_X9_worm_196 x5_81 f_h_planks a2 t86 x4_80
  else
    if x4_80 ≤ x3_79 then
      lj_X9_worm_196 x5_81 f_h_planks a2 t86 x3_79
    else
      lj_X9_worm_196 x5_81 f_h_planks a2 t86 x4_80
def lb_X9_worm_111 (a1 : Int32) (a2 : Int32) (f_h_planks : Nat → Int32) (x3_79 : Int32) (x4_80 : Int32) (x5_81 : Int32) : Option ((Int32 × Int32 × Int32) ⊕ (Int32 × Int32)) :=
  if a1 ≤ x5_81 then
    some (.inr (x3_79, x4_80))
  else
    if a2 = 2 then
      if x4_80 ≤ (x3_79 + 1) then
        lj_X9_worm_162 a2 x3_79 x4_80 x5_81 f_h_planks x4_80
      else
        lj_X9_worm_162 a2 x3_79 x4_80 x5_81 f_h_planks (x3_79 + 1)
    else
      if (x3_79 + 1) ≤ x4_80 then
        lj_X9_worm_162 a2 x3_79 x4_80 x5_81 f_h_planks x4_80
      else
        lj_X9_worm_162 a2 x3_79 x4_80 x5_81 f_h_planks (x3_79 + 1)
def lj_X9_worm_298_1 (t182 : Int32) : Option (Int32 × Int32) :=
  some (t182, 0)
def lj_X9_worm_259_1 (t204 : Int32) (x5_189 : Int32) (t209 : Int32) : Option ((Int32 × Int32 × Int32) ⊕ (Int32 × Int32)) :=
  some (.inl (t209, t204, x5_189 + 1))
def lj_X9_worm_227_1 (x5_189 : Int32) (f_h_planks : Nat → Int32) (a2 : Int32) (t199 : Int32) (t204 : Int32) : Option ((Int32 × Int32 × Int32) ⊕ (Int32 × Int32)) :=
  k_ix x5_189 30 (
    if (f_h_planks x5_189.toNatClampNeg) = 1 then
      if a2 = 2 then
        lj_X9_worm_259_1 t204 x5_189 1000
      else
        lj_X9_worm_259_1 t204 x5_189 (-1000)
    else
      lj_X9_worm_259_1 t204 x5_189 t199)
def lj_X9_worm_196_1 (x5_189 : Int32) (f_h_planks : Nat → Int32) (a2 : Int32) (t194 : Int32) (t199 : Int32) : Option ((Int32 × Int32 × Int32) ⊕ (Int32 × Int32)) :=
  k_ix x5_189 30 (
    if (f_h_planks x5_189.toNatClampNeg) = 0 then
      if a2 = 2 then
        lj_X9_worm_227_1 x5_189 f_h_planks a2 t199 1000
      else
        lj_X9_worm_227_1 x5_189 f_h_planks a2 t199 (-1000)
    else
      lj_X9_worm_227_1 x5_189 f_h_planks a2 t199 t194)
def lj_X9_worm_162_1 (a2 : Int32) (x3_187 : Int32) (x4_188 : Int32) (x5_189 : Int32) (f_h_planks : Nat → Int32) (t194 : Int32) : Option ((Int32 × Int32 × Int32) ⊕ (Int32 × Int32)) :=
  if a2 = 2 then
    if x3_187 ≤ x4_188 then
      lj_X9_worm_196_1 x5_189 f_h_planks a2 t194 x3_187
    else
      lj_X9_worm_196_1 x5_189 f_h_planks a2 t194 x4_188
  else
    if x4_188 ≤ x3_187 then
      lj_X9_worm_196_1 x5_189 f_h_planks a2 t194 x3_187
    else
      lj_X9_worm_196_1 x5_189 f_h_planks a2 t194 x4_188
def lb_X9_worm_111_1 (a1 : Int32) (a2 : Int32) (f_h_planks : Nat → Int32) (x3_187 : Int32) (x4_188 : Int32) (x5_189 : Int32) : Option ((Int32 × Int32 × Int32) ⊕ (Int32 × Int32)) :=
  if a1 ≤ x5_189 then
    some (.inr (x3_187, x4_188))
  else
    if a2 = 2 then
      if x4_188 ≤ (x3_187 + 1) then
        lj_X9_worm_162_1 a2 x3_187 x4_188 x5_189 f_h_planks x4_188
      else
        lj_X9_worm_162_1 a2 x3_187 x4_188 x5_189 f_h_planks (x3_187 + 1)
    else
      if (x3_187 + 1) ≤ x4_188 then
        lj_X9_worm_162_1 a2 x3_187 x4_188 x5_189 f_h_planks x4_188
      else
        lj_X9_worm_162_1 a2 x3_187 x4_188 x5_189 f_h_planks (x3_187 + 1)
def lb_X9_worm_41 (a1 : Int32) (f_h_planks : Nat → Int32) (a2 : Int32) (x3_237 : Int32) (x4_238 : Int32) : Option ((Int32 × Int32) ⊕ (Int32)) :=
  if a1 ≤ x4_238 then
    some (.inr x3_237)
  else
    k_ix x4_238 30 (
      if (f_h_planks x4_238.toNatClampNeg) = 1 then
        some (.inl (x3_237 + 1, x4_238 + 1))
      else
        if a2 = 1 then
          k_ix x4_238 30 (
            if (f_h_planks x4_238.toNatClampNeg) = (-1) then
              some (.inl (x3_237 + 1, x4_238 + 1))
            else
              some (.inl (x3_237 + 0, x4_238 + 1)))
        else
          some (.inl (x3_237 + 0, x4_238 + 1)))
def p_X9_worm (f_h_planks : Nat → Int32) (a1 : Int32) (a2 : Int32) : Option (Int32 × Int32) :=
  k_b1 (p_X9_in ((a1).toInt64) 1 30) fun r1 =>
  if r1 = 0 then
    some ((-1), 0)
  else
    k_b1 (p_X9_in ((a2).toInt64) 0 3) fun r3 =>
    if r3 = 0 then
      some ((-1), 0)
    else
      if 2 ≤ a2 then
        if a2 = 2 then
          k_b2 (k_lp (fun s => lb_X9_worm_111_1 a1 a2 f_h_planks s.1 s.2.1 s.2.2) k_fuel (0, 1000, 0)) fun x3_177 x4_178 =>
          if a2 = 2 then
            if x4_178 ≤ x3_177 then
              lj_X9_worm_298_1 x4_178
            else
              lj_X9_worm_298_1 x3_177
          else
            if x3_177 ≤ x4_178 then
              lj_X9_worm_298_1 x4_178
            else
              lj_X9_worm_298_1 x3_177
        else
          k_b2 (k_lp (fun s => lb_X9_worm_111 a1 a2 f_h_planks s.1 s.2.1 s.2.2) k_fuel (0, (-1000), 0)) fun x3_69 x4_70 =>
          if a2 = 2 then
            if x4_70 ≤ x3_69 then
              lj_X9_worm_298 x4_70
            else
              lj_X9_worm_298 x3_69
          else
            if x3_69 ≤ x4_70 then
              lj_X9_worm_298 x4_70
            else
              lj_X9_worm_298 x3_69
      else
        k_b1 (k_lp (fun s => lb_X9_worm_41 a1 f_h_planks a2 s.1 s.2) k_fuel (0, 0)) fun x3_236 =>
        some (x3_236, 0)
abbrev rm_X9_worm : Room := { frames := 1, cells := 0, slots := 0, locals := 25 }
theorem hdS_X9_worm : yX9_worm.cls ≠ "java/lang/invoke/MethodHandle" ∧ yX9_worm.cls ≠ "java/lang/invoke/VarHandle" ∧ (parseMethodDescriptor yX9_worm.desc).map (fun d => d.parameters.length) = some 2 := by decide +kernel
theorem hdV_X9_worm : yX9_worm.cls = RX9 ∧ yX9_worm.cls ≠ "java/lang/invoke/MethodHandle" ∧ yX9_worm.cls ≠ "java/lang/invoke/VarHandle" ∧ (parseMethodDescriptor yX9_worm.desc).map (fun d => d.parameters.length) = some 2 := by decide +kernel
set_option maxHeartbeats 4000000 in
set_option maxRecDepth 100000 in
theorem c_X9_worm (l : Launch) (D : va_G) (cI cZ cJ cS : ClassId) (h h_now h_aside h_books h_tide h_rain h_rule h_counts h_begins h_best h_planks : Nat) (v_h_thrown : Int32) (v_h_kept : Int32) (v_h_counted : Int32) (v_h_bestWorth : Int32) (v_h_bestPitch : Int32) (v_h_bestBits : Int32) (v_h_leastHour : Int32) (v_h_leastSet : Int32) (v_h_shut : Int32) (f_h_planks : Nat → Int32) (a1 : Int32) (a2 : Int32) (r : Int32) (v_h_thrown' : Int32) (hf : p_X9_worm f_h_planks a1 a2 = some (r, v_h_thrown')) : k_MI l yX9_worm wsX9_worm rm_X9_worm D (k_tys cI cZ cJ cS) [.ref h, .int a1, .int a2] [(h, .inr (9, [.int v_h_thrown, .ref h_now, .ref h_aside, .int v_h_kept, .ref h_books, .ref h_tide, .ref h_rain, .ref h_rule, .int v_h_counted, .ref h_counts, .ref h_begins, .ref h_best, .int v_h_bestWorth, .int v_h_bestPitch, .int v_h_bestBits, .int v_h_leastHour, .int v_h_leastSet, .int v_h_shut, .ref h_planks])), (h_planks, .inl (cI, 30, .inl f_h_planks))] [(h, .inr (9, [.int v_h_thrown', .ref h_now, .ref h_aside, .int v_h_kept, .ref h_books, .ref h_tide, .ref h_rain, .ref h_rule, .int v_h_counted, .ref h_counts, .ref h_begins, .ref h_best, .int v_h_bestWorth, .int v_h_bestPitch, .int v_h_bestBits, .int v_h_leastHour, .int v_h_leastSet, .int v_h_shut, .ref h_planks])), (h_planks, .inl (cI, 30, .inl f_h_planks))] r := by
  refine k_enter (y := yX9_worm) (wl := wsX9_worm) (rm := rm_X9_worm) (av := [.ref h, .int a1, .int a2]) (D := D) (tys := k_tys cI cZ cJ cS) (ws := [(h, .inr (9, [.int v_h_thrown, .ref h_now, .ref h_aside, .int v_h_kept, .ref h_books, .ref h_tide, .ref h_rain, .ref h_rule, .int v_h_counted, .ref h_counts, .ref h_begins, .ref h_best, .int v_h_bestWorth, .int v_h_bestPitch, .int v_h_bestBits, .int v_h_leastHour, .int v_h_leastSet, .int v_h_shut, .ref h_planks])), (h_planks, .inl (cI, 30, .inl f_h_planks))]) (cc := cX9_worm) (maxL := 10) (ret := (some .int)) (Qc := fun A => k_Qi D (k_tys cI cZ cJ cS) [(h, .inr (9, [.int v_h_thrown', .ref h_now, .ref h_aside, .int v_h_kept, .ref h_books, .ref h_tide, .ref h_rain, .ref h_rule, .int v_h_counted, .ref h_counts, .ref h_begins, .ref h_best, .int v_h_bestWorth, .int v_h_bestPitch, .int v_h_bestBits, .int v_h_leastHour, .int v_h_leastSet, .int v_h_shut, .ref h_planks])), (h_planks, .inl (cI, 30, .inl f_h_planks))] A r) (by decide) rfl (Nat.le_of_ble_eq_true rfl) [(0, .ref h), (1, .int a1), (2, .int a2)] rfl ?_
  intro p e s m below meth c A hx hb hml hr hlocks hnm hown hK hP hD hA hS hN ls args Q hts hl hQ
  replace hown : s.vm.findClass RX9 = some m.cls := hown
  have S0 : CallFix p m c cX9_worm 10 s args wsX9_worm RX9 := ⟨hx, hb, hml, hown, hts⟩
  have inX9 : ∀ w ∈ u_ws RX9 TX9 19, w ∈ wsX9_worm := fun w h => List.mem_cons_of_mem _ (List.mem_append_right _ h)
  have wl1 : (Cond.fieldLink RX9 1 "BeachedShipModel" "thrown" "I").before args s = true := hts _ (List.mem_of_getElem? (i := 1) rfl)
  have wl2 : (Cond.constantLong RX9 179 (30)).before args s = true := hts _ (List.mem_of_getElem? (i := 2) rfl)
  have wl3 : (Cond.constantLong RX9 127 (3)).before args s = true := hts _ (List.mem_of_getElem? (i := 3) rfl)
  have wl4 : (Cond.fieldLink RX9 41 "BeachedShipModel" "planks" "[I").before args s = true := hts _ (List.mem_of_getElem? (i := 4) rfl)
  have hRet : ∀ (r_z : Int32) (v_h_thrown_z : Int32), some (r_z, v_h_thrown_z) = some (r, v_h_thrown') → ∀ (H : Heap) (locs : List Loc) (ls : Array Slot) (pc : Nat), va_P D vwCl [(h, .inr (9, [.int v_h_thrown_z, .ref h_now, .ref h_aside, .int v_h_kept, .ref h_books, .ref h_tide, .ref h_rain, .ref h_rule, .int v_h_counted, .ref h_counts, .ref h_begins, .ref h_best, .int v_h_bestWorth, .int v_h_bestPitch, .int v_h_bestBits, .int v_h_leastHour, .int v_h_leastSet, .int v_h_shut, .ref h_planks])), (h_planks, .inl (cI, 30, .inl f_h_planks))] H → va_D A [(h, .inr (9, [.int v_h_thrown_z, .ref h_now, .ref h_aside, .int v_h_kept, .ref h_books, .ref h_tide, .ref h_rain, .ref h_rule, .int v_h_counted, .ref h_counts, .ref h_begins, .ref h_best, .int v_h_bestWorth, .int v_h_bestPitch, .int v_h_bestBits, .int v_h_leastHour, .int v_h_leastSet, .int v_h_shut, .ref h_planks])), (h_planks, .inl (cI, 30, .inl f_h_planks))] → va_S A s.heap H locs → narrow .int (.int r_z) = .int r_z → decode cX9_worm pc = .ok (.ireturn, 1) → W p l e rm_X9_worm s m args below meth c H locs 0 0 Q (F0 m pc ls [.int r_z]) := by
    intro r_z v_h_thrown_z hz H locs ls pc hP hD hS hn hd
    cases hz
    exact k_iret hx hb hr hlocks hn hK hP hD hS hQ rfl hd
  unfold p_X9_worm at hf
  refine lv_aload_n hx hb dX9_worm_0 rfl (lv_at hl 0 rfl) ?_
  refine lv_iconst (v := 0) hx hb dX9_worm_1 (by decide) ?_
  refine k_putf (ws2 := [(h, .inr (9, [.int 0, .ref h_now, .ref h_aside, .int v_h_kept, .ref h_books, .ref h_tide, .ref h_rain, .ref h_rule, .int v_h_counted, .ref h_counts, .ref h_begins, .ref h_best, .int v_h_bestWorth, .int v_h_bestPitch, .int v_h_bestBits, .int v_h_leastHour, .int v_h_leastSet, .int v_h_shut, .ref h_planks])), (h_planks, .inl (cI, 30, .inl f_h_planks))]) (C := RX9) (T := TX9) (N := 19) hx hb hts inX9 tyX9 tyX9_ok nmX9 hown hK hP hD hS 0 rfl rfl 0 (by decide) rfl wl1 rfl rfl rfl (Nat.le_of_ble_eq_true rfl) rfl dX9_worm_2 (fun H locs hP hD hS => ?_)
  refine lv_iload_n hx hb dX9_worm_5 rfl (lv_at hl 1 rfl) ?_
  refine lv_i2l (v := (a1).toInt64) hx hb dX9_worm_6 rfl ?_
  refine lv_lconst (v := 1) hx hb dX9_worm_7 (by decide) ?_
  refine lv_ldc2 hx hb hown wl2 dX9_worm_8 ?_
  obtain ⟨r1, hc1, hf⟩ := k_b1_some hf
  refine k_SiR (As := [.long ((a1).toInt64), .long 1, .long 30]) (rest := []) S0 (c_X9_in l D cI cZ cJ cS ((a1).toInt64) 1 30 r1 hc1) (va_cwS 3 hts gX9_worm_X9_in rfl rfl rfl hdS_X9_in ⟨Nat.le_of_ble_eq_true rfl, Nat.le_of_ble_eq_true rfl⟩) hK hP hD hS hA hN [] rfl (by decide) rfl hl.1 rfl (Nat.le_of_ble_eq_true rfl) dX9_worm_11 (fun H locs hP hS => ?_)
  refine lv_if_eq (tgt := 29) hx hb dX9_worm_14 (by decide) (fun c2 => ?_) (fun c2 => ?_)
  · replace hf := k_pos hf c2
    refine lv_iconst (v := (-1)) hx hb dX9_worm_29 (by decide) ?_
    exact hRet _ _ hf _ _ _ _ hP hD hS rfl dX9_worm_30
  · replace hf := k_neg hf c2
    refine lv_iload_n hx hb dX9_worm_17 rfl (lv_at hl 2 rfl) ?_
    refine lv_i2l (v := (a2).toInt64) hx hb dX9_worm_18 rfl ?_
    refine lv_lconst (v := 0) hx hb dX9_worm_19 (by decide) ?_
    refine lv_ldc2 hx hb hown wl3 dX9_worm_20 ?_
    obtain ⟨r3, hc3, hf⟩ := k_b1_some hf
    refine k_SiR (As := [.long ((a2).toInt64), .long 0, .long 3]) (rest := []) S0 (c_X9_in l D cI cZ cJ cS ((a2).toInt64) 0 3 r3 hc3) (va_cwS 3 hts gX9_worm_X9_in rfl rfl rfl hdS_X9_in ⟨Nat.le_of_ble_eq_true rfl, Nat.le_of_ble_eq_true rfl⟩) hK hP hD hS hA hN [] rfl (by decide) rfl hl.1 rfl (Nat.le_of_ble_eq_true rfl) dX9_worm_23 (fun H locs hP hS => ?_)
    refine lv_if_ne (tgt := 31) hx hb dX9_worm_26 (by decide) (fun c4 => ?_) (fun c4 => ?_)
    · replace hf := k_neg hf c4
      refine lv_iload_n hx hb dX9_worm_31 rfl (lv_at hl 2 rfl) ?_
      refine lv_iconst (v := 2) hx hb dX9_worm_32 (by decide) ?_
      refine lv_icmp_ge (tgt := 90) hx hb dX9_worm_33 (by decide) (fun c5 => ?_) (fun c5 => ?_)
      · replace hf := k_pos hf c5
        refine lv_iconst (v := 0) hx hb dX9_worm_90 (by decide) ?_
        refine lv_istore_n (lv' := [(3, .int 0), (0, .ref h), (1, .int a1), (2, .int a2)]) hx hb dX9_worm_91 rfl hl (by decide) rfl (fun ls hl => ?_)
        refine lv_iload_n hx hb dX9_worm_92 rfl (lv_at hl 3 rfl) ?_
        refine lv_iconst (v := 2) hx hb dX9_worm_93 (by decide) ?_
        refine lv_icmp_ne (tgt := 103) hx hb dX9_worm_94 (by decide) (fun c6 => ?_) (fun c6 => ?_)
        · replace hf := k_neg hf c6
          refine lv_sipush (v := (-1000)) hx hb dX9_worm_103 (by decide) ?_
          refine lv_istore (lv' := [(4, .int (-1000)), (3, .int 0), (0, .ref h), (1, .int a1), (2, .int a2)]) hx hb dX9_worm_106 hl (by decide) rfl (fun ls hl => ?_)
          refine lv_iconst (v := 0) hx hb dX9_worm_108 (by decide) ?_
          refine lv_istore (lv' := [(5, .int 0), (4, .int (-1000)), (3, .int 0), (0, .ref h), (1, .int a1), (2, .int a2)]) hx hb dX9_worm_109 hl (by decide) rfl (fun ls hl => ?_)
          obtain ⟨ee68, hlp68, hfr68⟩ := k_b2_ee hf
          have hE68 : ∀ (x3_69 : Int32) (x4_70 : Int32), ee68 = (x3_69, x4_70) → ∀ (H : Heap) (locs : List Loc) (ls : Array Slot), va_P D vwCl [(h, .inr (9, [.int 0, .ref h_now, .ref h_aside, .int v_h_kept, .ref h_books, .ref h_tide, .ref h_rain, .ref h_rule, .int v_h_counted, .ref h_counts, .ref h_begins, .ref h_best, .int v_h_bestWorth, .int v_h_bestPitch, .int v_h_bestBits, .int v_h_leastHour, .int v_h_leastSet, .int v_h_shut, .ref h_planks])), (h_planks, .inl (cI, 30, .inl f_h_planks))] H → va_D A [(h, .inr (9, [.int 0, .ref h_now, .ref h_aside, .int v_h_kept, .ref h_books, .ref h_tide, .ref h_rain, .ref h_rule, .int v_h_counted, .ref h_counts, .ref h_begins, .ref h_best, .int v_h_bestWorth, .int v_h_bestPitch, .int v_h_bestBits, .int v_h_leastHour, .int v_h_leastSet, .int v_h_shut, .ref h_planks])), (h_planks, .inl (cI, 30, .inl f_h_planks))] → va_S A s.heap H locs → lv_has ls 10 [(4, .int x4_70), (3, .int x3_69), (2, .int a2)] → W p l e rm_X9_worm s m args below meth c H locs 0 0 Q (F0 m 266 ls []) := by
            intro x3_69 x4_70 he H locs ls hP hD hS hl
            replace hf := hfr68 x3_69 x4_70 he
            have hJ75 : ∀ (t74 : Int32), lj_X9_worm_298 t74 = some (r, v_h_thrown') → ∀ (H : Heap) (locs : List Loc) (ls : Array Slot), va_P D vwCl [(h, .inr (9, [.int 0, .ref h_now, .ref h_aside, .int v_h_kept, .ref h_books, .ref h_tide, .ref h_rain, .ref h_rule, .int v_h_counted, .ref h_counts, .ref h_begins, .ref h_best, .int v_h_bestWorth, .int v_h_bestPitch, .int v_h_bestBits, .int v_h_leastHour, .int v_h_leastSet, .int v_h_shut, .ref h_planks])), (h_planks, .inl (cI, 30, .inl f_h_planks))] H → va_D A [(h, .inr (9, [.int 0, .ref h_now, .ref h_aside, .int v_h_kept, .ref h_books, .ref h_tide, .ref h_rain, .ref h_rule, .int v_h_counted, .ref h_counts, .ref h_begins, .ref h_best, .int v_h_bestWorth, .int v_h_bestPitch, .int v_h_bestBits, .int v_h_leastHour, .int v_h_leastSet, .int v_h_shut, .ref h_planks])), (h_planks, .inl (cI, 30, .inl f_h_planks))] → va_S A s.heap H locs → lv_has ls 10 [] → W p l e rm_X9_worm s m args below meth c H locs 0 0 Q (F0 m 298 ls [.int t74]) := by
              intro t74 hf_j H locs ls hP hD hS hl
              replace hf := hf_j
              unfold lj_X9_worm_298 at hf
              exact hRet _ _ hf _ _ _ _ hP hD hS rfl dX9_worm_298
            refine lv_iload_n hx hb dX9_worm_266 rfl (lv_at hl 2 rfl) ?_
            refine lv_iconst (v := 2) hx hb dX9_worm_267 (by decide) ?_
            refine lv_icmp_ne (tgt := 286) hx hb dX9_worm_268 (by decide) (fun c76 => ?_) (fun c76 => ?_)
            · replace hf := k_neg hf c76
              refine lv_iload_n hx hb dX9_worm_286 rfl (lv_at hl 1 rfl) ?_
              refine lv_iload hx hb dX9_worm_287 (lv_at hl 0 rfl) ?_
              refine lv_icmp_le (tgt := 296) hx hb dX9_worm_289 (by decide) (fun c77 => ?_) (fun c77 => ?_)
              · replace hf := k_pos hf c77
                refine lv_iload hx hb dX9_worm_296 (lv_at hl 0 rfl) ?_
                exact hJ75 _ hf _ _ _ hP hD hS (lv_sub hl [] rfl)
              · replace hf := k_neg hf c77
                refine lv_iload_n hx hb dX9_worm_292 rfl (lv_at hl 1 rfl) ?_
                refine lv_goto (tgt := 298) hx hb dX9_worm_293 (by decide) ?_
                exact hJ75 _ hf _ _ _ hP hD hS (lv_sub hl [] rfl)
            · replace hf := k_pos hf c76
              refine lv_iload_n hx hb dX9_worm_271 rfl (lv_at hl 1 rfl) ?_
              refine lv_iload hx hb dX9_worm_272 (lv_at hl 0 rfl) ?_
              refine lv_icmp_ge (tgt := 281) hx hb dX9_worm_274 (by decide) (fun c78 => ?_) (fun c78 => ?_)
              · replace hf := k_pos hf c78
                refine lv_iload hx hb dX9_worm_281 (lv_at hl 0 rfl) ?_
                refine lv_goto (tgt := 298) hx hb dX9_worm_283 (by decide) ?_
                exact hJ75 _ hf _ _ _ hP hD hS (lv_sub hl [] rfl)
              · replace hf := k_neg hf c78
                refine lv_iload_n hx hb dX9_worm_277 rfl (lv_at hl 1 rfl) ?_
                refine lv_goto (tgt := 298) hx hb dX9_worm_278 (by decide) ?_
                exact hJ75 _ hf _ _ _ hP hD hS (lv_sub hl [] rfl)
          refine (k_lp_ind (fun sx68 => ∀ (H : Heap) (locs : List Loc) (ls : Array Slot), va_P D vwCl [(h, .inr (9, [.int 0, .ref h_now, .ref h_aside, .int v_h_kept, .ref h_books, .ref h_tide, .ref h_rain, .ref h_rule, .int v_h_counted, .ref h_counts, .ref h_begins, .ref h_best, .int v_h_bestWorth, .int v_h_bestPitch, .int v_h_bestBits, .int v_h_leastHour, .int v_h_leastSet, .int v_h_shut, .ref h_planks])), (h_planks, .inl (cI, 30, .inl f_h_planks))] H → va_D A [(h, .inr (9, [.int 0, .ref h_now, .ref h_aside, .int v_h_kept, .ref h_books, .ref h_tide, .ref h_rain, .ref h_rule, .int v_h_counted, .ref h_counts, .ref h_begins, .ref h_best, .int v_h_bestWorth, .int v_h_bestPitch, .int v_h_bestBits, .int v_h_leastHour, .int v_h_leastSet, .int v_h_shut, .ref h_planks])), (h_planks, .inl (cI, 30, .inl f_h_planks))] → va_S A s.heap H locs → lv_has ls 10 [(5, .int sx68.2.2), (4, .int sx68.2.1), (3, .int sx68.1), (0, .ref h), (1, .int a1), (2, .int a2)] → W p l e rm_X9_worm s m args below meth c H locs 0 0 Q (F0 m 111 ls [])) (fun sx68 X68 hX68 hin68 hout68 => ?_) _ _ hlp68) _ _ _ hP hD hS (lv_sub hl [0, 1, 2, 3, 4, 5] rfl)
          obtain ⟨x3_79, x4_80, x5_81⟩ := sx68
          intro H locs ls hP hD hS hl
          replace hP : va_P D vwCl [(h, .inr (9, [.int 0, .ref h_now, .ref h_aside, .int v_h_kept, .ref h_books, .ref h_tide, .ref h_rain, .ref h_rule, .int v_h_counted, .ref h_counts, .ref h_begins, .ref h_best, .int v_h_bestWorth, .int v_h_bestPitch, .int v_h_bestBits, .int v_h_leastHour, .int v_h_leastSet, .int v_h_shut, .ref h_planks])), (h_planks, .inl (cI, 30, .inl f_h_planks))] H := hP
          replace hD : va_D A [(h, .inr (9, [.int 0, .ref h_now, .ref h_aside, .int v_h_kept, .ref h_books, .ref h_tide, .ref h_rain, .ref h_rule, .int v_h_counted, .ref h_counts, .ref h_begins, .ref h_best, .int v_h_bestWorth, .int v_h_bestPitch, .int v_h_bestBits, .int v_h_leastHour, .int v_h_leastSet, .int v_h_shut, .ref h_planks])), (h_planks, .inl (cI, 30, .inl f_h_planks))] := hD
          replace hl : lv_has ls 10 [(5, .int x5_81), (4, .int x4_80), (3, .int x3_79), (0, .ref h), (1, .int a1), (2, .int a2)] := hl
          replace hX68 : lb_X9_worm_111 a1 a2 f_h_planks x3_79 x4_80 x5_81 = some X68 := hX68
          unfold lb_X9_worm_111 at hX68
          refine lv_iload hx hb dX9_worm_111 (lv_at hl 0 rfl) ?_
          refine lv_iload_n hx hb dX9_worm_113 rfl (lv_at hl 4 rfl) ?_
          refine lv_icmp_ge (tgt := 266) hx hb dX9_worm_114 (by decide) (fun c82 => ?_) (fun c82 => ?_)
          · replace hX68 := k_pos hX68 c82
            exact hE68 _ _ (hout68 _ (Option.some.inj hX68).symm).symm _ _ _ hP hD hS (lv_sub hl [1, 2, 5] rfl)
          · replace hX68 := k_neg hX68 c82
            refine lv_iload_n hx hb dX9_worm_117 rfl (lv_at hl 2 rfl) ?_
            refine lv_iconst (v := 1) hx hb dX9_worm_118 (by decide) ?_
            refine lv_iadd hx hb dX9_worm_119 ?_
            refine lv_istore (lv' := [(6, .int (x3_79 + 1)), (5, .int x5_81), (4, .int x4_80), (3, .int x3_79), (0, .ref h), (1, .int a1), (2, .int a2)]) hx hb dX9_worm_120 hl (by decide) rfl (fun ls hl => ?_)
            refine lv_iload hx hb dX9_worm_122 (lv_at hl 2 rfl) ?_
            refine lv_istore (lv' := [(7, .int x4_80), (6, .int (x3_79 + 1)), (5, .int x5_81), (4, .int x4_80), (3, .int x3_79), (0, .ref h), (1, .int a1), (2, .int a2)]) hx hb dX9_worm_124 hl (by decide) rfl (fun ls hl => ?_)
            have hJ87 : ∀ (t86 : Int32), lj_X9_worm_162 a2 x3_79 x4_80 x5_81 f_h_planks t86 = some X68 → ∀ (H : Heap) (locs : List Loc) (ls : Array Slot), va_P D vwCl [(h, .inr (9, [.int 0, .ref h_now, .ref h_aside, .int v_h_kept, .ref h_books, .ref h_tide, .ref h_rain, .ref h_rule, .int v_h_counted, .ref h_counts, .ref h_begins, .ref h_best, .int v_h_bestWorth, .int v_h_bestPitch, .int v_h_bestBits, .int v_h_leastHour, .int v_h_leastSet, .int v_h_shut, .ref h_planks])), (h_planks, .inl (cI, 30, .inl f_h_planks))] H → va_D A [(h, .inr (9, [.int 0, .ref h_now, .ref h_aside, .int v_h_kept, .ref h_books, .ref h_tide, .ref h_rain, .ref h_rule, .int v_h_counted, .ref h_counts, .ref h_begins, .ref h_best, .int v_h_bestWorth, .int v_h_bestPitch, .int v_h_bestBits, .int v_h_leastHour, .int v_h_leastSet, .int v_h_shut, .ref h_planks])), (h_planks, .inl (cI, 30, .inl f_h_planks))] → va_S A s.heap H locs → lv_has ls 10 [(7, .int x4_80), (5, .int x5_81), (3, .int x3_79), (0, .ref h), (1, .int a1), (2, .int a2)] → W p l e rm_X9_worm s m args below meth c H locs 0 0 Q (F0 m 162 ls [.int t86]) := by
              intro t86 hX68_j H locs ls hP hD hS hl
              replace hX68 := hX68_j
              unfold lj_X9_worm_162 at hX68
              refine lv_istore (lv' := [(8, .int t86), (7, .int x4_80), (5, .int x5_81), (3, .int x3_79), (0, .ref h), (1, .int a1), (2, .int a2)]) hx hb dX9_worm_162 hl (by decide) rfl (fun ls hl => ?_)
              have hJ92 : ∀ (t91 : Int32), lj_X9_worm_196 x5_81 f_h_planks a2 t86 t91 = some X68 → ∀ (H : Heap) (locs : List Loc) (ls : Array Slot), va_P D vwCl [(h, .inr (9, [.int 0, .ref h_now, .ref h_aside, .int v_h_kept, .ref h_books, .ref h_tide, .ref h_rain, .ref h_rule, .int v_h_counted, .ref h_counts, .ref h_begins, .ref h_best, .int v_h_bestWorth, .int v_h_bestPitch, .int v_h_bestBits, .int v_h_leastHour, .int v_h_leastSet, .int v_h_shut, .ref h_planks])), (h_planks, .inl (cI, 30, .inl f_h_planks))] H → va_D A [(h, .inr (9, [.int 0, .ref h_now, .ref h_aside, .int v_h_kept, .ref h_books, .ref h_tide, .ref h_rain, .ref h_rule, .int v_h_counted, .ref h_counts, .ref h_begins, .ref h_best, .int v_h_bestWorth, .int v_h_bestPitch, .int v_h_bestBits, .int v_h_leastHour, .int v_h_leastSet, .int v_h_shut, .ref h_planks])), (h_planks, .inl (cI, 30, .inl f_h_planks))] → va_S A s.heap H locs → lv_has ls 10 [(8, .int t86), (5, .int x5_81), (0, .ref h), (1, .int a1), (2, .int a2)] → W p l e rm_X9_worm s m args below meth c H locs 0 0 Q (F0 m 196 ls [.int t91]) := by
                intro t91 hX68_j H locs ls hP hD hS hl
                replace hX68 := hX68_j
                unfold lj_X9_worm_196 at hX68
                refine lv_istore (lv' := [(9, .int t91), (8, .int t86), (5, .int x5_81), (0, .ref h), (1, .int a1), (2, .int a2)]) hx hb dX9_worm_196 hl (by decide) rfl (fun ls hl => ?_)
                have hJ97 : ∀ (t96 : Int32), lj_X9_worm_227 x5_81 f_h_planks a2 t91 t96 = some X68 → ∀ (H : Heap) (locs : List Loc) (ls : Array Slot), va_P D vwCl [(h, .inr (9, [.int 0, .ref h_now, .ref h_aside, .int v_h_kept, .ref h_books, .ref h_tide, .ref h_rain, .ref h_rule, .int v_h_counted, .ref h_counts, .ref h_begins, .ref h_best, .int v_h_bestWorth, .int v_h_bestPitch, .int v_h_bestBits, .int v_h_leastHour, .int v_h_leastSet, .int v_h_shut, .ref h_planks])), (h_planks, .inl (cI, 30, .inl f_h_planks))] H → va_D A [(h, .inr (9, [.int 0, .ref h_now, .ref h_aside, .int v_h_kept, .ref h_books, .ref h_tide, .ref h_rain, .ref h_rule, .int v_h_counted, .ref h_counts, .ref h_begins, .ref h_best, .int v_h_bestWorth, .int v_h_bestPitch, .int v_h_bestBits, .int v_h_leastHour, .int v_h_leastSet, .int v_h_shut, .ref h_planks])), (h_planks, .inl (cI, 30, .inl f_h_planks))] → va_S A s.heap H locs → lv_has ls 10 [(9, .int t91), (5, .int x5_81), (0, .ref h), (1, .int a1), (2, .int a2)] → W p l e rm_X9_worm s m args below meth c H locs 0 0 Q (F0 m 227 ls [.int t96]) := by
                  intro t96 hX68_j H locs ls hP hD hS hl
                  replace hX68 := hX68_j
                  unfold lj_X9_worm_227 at hX68
                  refine lv_istore (lv' := [(4, .int t96), (9, .int t91), (5, .int x5_81), (0, .ref h), (1, .int a1), (2, .int a2)]) hx hb dX9_worm_227 hl (by decide) rfl (fun ls hl => ?_)
                  have hJ102 : ∀ (t101 : Int32), lj_X9_worm_259 t96 x5_81 t101 = some X68 → ∀ (H : Heap) (locs : List Loc) (ls : Array Slot), va_P D vwCl [(h, .inr (9, [.int 0, .ref h_now, .ref h_aside, .int v_h_kept, .ref h_books, .ref h_tide, .ref h_rain, .ref h_rule, .int v_h_counted, .ref h_counts, .ref h_begins, .ref h_best, .int v_h_bestWorth, .int v_h_bestPitch, .int v_h_bestBits, .int v_h_leastHour, .int v_h_leastSet, .int v_h_shut, .ref h_planks])), (h_planks, .inl (cI, 30, .inl f_h_planks))] H → va_D A [(h, .inr (9, [.int 0, .ref h_now, .ref h_aside, .int v_h_kept, .ref h_books, .ref h_tide, .ref h_rain, .ref h_rule, .int v_h_counted, .ref h_counts, .ref h_begins, .ref h_best, .int v_h_bestWorth, .int v_h_bestPitch, .int v_h_bestBits, .int v_h_leastHour, .int v_h_leastSet, .int v_h_shut, .ref h_planks])), (h_planks, .inl (cI, 30, .inl f_h_planks))] → va_S A s.heap H locs → lv_has ls 10 [(4, .int t96), (5, .int x5_81), (0, .ref h), (1, .int a1), (2, .int a2)] → W p l e rm_X9_worm s m args below meth c H locs 0 0 Q (F0 m 259 ls [.int t101]) := by
                    intro t101 hX68_j H locs ls hP hD hS hl
                    replace hX68 := hX68_j
                    unfold lj_X9_worm_259 at hX68
                    refine lv_istore_n (lv' := [(3, .int t101), (4, .int t96), (5, .int x5_81), (0, .ref h), (1, .int a1), (2, .int a2)]) hx hb dX9_worm_259 rfl hl (by decide) rfl (fun ls hl => ?_)
                    refine lv_iinc (v := x5_81 + 1) (lv' := [(5, .int (x5_81 + 1)), (3, .int t101), (4, .int t96), (0, .ref h), (1, .int a1), (2, .int a2)]) hx hb dX9_worm_260 hl (k := 2) rfl rfl (by decide) rfl (fun ls hl => ?_)
                    refine lv_goto (tgt := 111) hx hb dX9_worm_263 (by decide) ?_
                    exact hin68 (t101, t96, x5_81 + 1) (Option.some.inj hX68).symm _ _ _ hP hD hS (lv_sub hl [0, 2, 1, 3, 4, 5] rfl)
                  refine lv_aload_n hx hb dX9_worm_229 rfl (lv_at hl 3 rfl) ?_
                  refine k_get (C := RX9) (T := TX9) (N := 19) hx hb hts inX9 hown hK hP 0 rfl rfl 18 (by decide) rfl wl4 rfl dX9_worm_230 ?_
                  refine lv_iload hx hb dX9_worm_233 (lv_at hl 2 rfl) ?_
                  obtain ⟨hi103, hX68⟩ := k_ix_some hX68
                  refine k_iald (k := x5_81.toNatClampNeg) hx hb hK hP 1 0 rfl rfl hi103 rfl dX9_worm_235 ?_
                  refine lv_iconst (v := 1) hx hb dX9_worm_236 (by decide) ?_
                  refine lv_icmp_ne (tgt := 257) hx hb dX9_worm_237 (by decide) (fun c104 => ?_) (fun c104 => ?_)
                  · replace hX68 := k_neg hX68 c104
                    refine lv_iload hx hb dX9_worm_257 (lv_at hl 1 rfl) ?_
                    exact hJ102 _ hX68 _ _ _ hP hD hS (lv_sub hl [0, 2, 3, 4, 5] rfl)
                  · replace hX68 := k_pos hX68 c104
                    refine lv_iload_n hx hb dX9_worm_240 rfl (lv_at hl 5 rfl) ?_
                    refine lv_iconst (v := 2) hx hb dX9_worm_241 (by decide) ?_
                    refine lv_icmp_ne (tgt := 251) hx hb dX9_worm_242 (by decide) (fun c105 => ?_) (fun c105 => ?_)
                    · replace hX68 := k_neg hX68 c105
                      refine lv_sipush (v := (-1000)) hx hb dX9_worm_251 (by decide) ?_
                      refine lv_goto (tgt := 259) hx hb dX9_worm_254 (by decide) ?_
                      exact hJ102 _ hX68 _ _ _ hP hD hS (lv_sub hl [0, 2, 3, 4, 5] rfl)
                    · replace hX68 := k_pos hX68 c105
                      refine lv_sipush (v := 1000) hx hb dX9_worm_245 (by decide) ?_
                      refine lv_goto (tgt := 259) hx hb dX9_worm_248 (by decide) ?_
                      exact hJ102 _ hX68 _ _ _ hP hD hS (lv_sub hl [0, 2, 3, 4, 5] rfl)
                refine lv_aload_n hx hb dX9_worm_198 rfl (lv_at hl 3 rfl) ?_
                refine k_get (C := RX9) (T := TX9) (N := 19) hx hb hts inX9 hown hK hP 0 rfl rfl 18 (by decide) rfl wl4 rfl dX9_worm_199 ?_
                refine lv_iload hx hb dX9_worm_202 (lv_at hl 2 rfl) ?_
                obtain ⟨hi106, hX68⟩ := k_ix_some hX68
                refine k_iald (k := x5_81.toNatClampNeg) hx hb hK hP 1 0 rfl rfl hi106 rfl dX9_worm_204 ?_
                refine lv_if_ne (tgt := 225) hx hb dX9_worm_205 (by decide) (fun c107 => ?_) (fun c107 => ?_)
                · replace hX68 := k_neg hX68 c107
                  refine lv_iload hx hb dX9_worm_225 (lv_at hl 1 rfl) ?_
                  exact hJ97 _ hX68 _ _ _ hP hD hS (lv_sub hl [0, 2, 3, 4, 5] rfl)
                · replace hX68 := k_pos hX68 c107
                  refine lv_iload_n hx hb dX9_worm_208 rfl (lv_at hl 5 rfl) ?_
                  refine lv_iconst (v := 2) hx hb dX9_worm_209 (by decide) ?_
                  refine lv_icmp_ne (tgt := 219) hx hb dX9_worm_210 (by decide) (fun c108 => ?_) (fun c108 => ?_)
                  · replace hX68 := k_neg hX68 c108
                    refine lv_sipush (v := (-1000)) hx hb dX9_worm_219 (by decide) ?_
                    refine lv_goto (tgt := 227) hx hb dX9_worm_222 (by decide) ?_
                    exact hJ97 _ hX68 _ _ _ hP hD hS (lv_sub hl [0, 2, 3, 4, 5] rfl)
                  · replace hX68 := k_pos hX68 c108
                    refine lv_sipush (v := 1000) hx hb dX9_worm_213 (by decide) ?_
                    refine lv_goto (tgt := 227) hx hb dX9_worm_216 (by decide) ?_
                    exact hJ97 _ hX68 _ _ _ hP hD hS (lv_sub hl [0, 2, 3, 4, 5] rfl)
              refine lv_iload_n hx hb dX9_worm_164 rfl (lv_at hl 6 rfl) ?_
              refine lv_iconst (v := 2) hx hb dX9_worm_165 (by decide) ?_
              refine lv_icmp_ne (tgt := 184) hx hb dX9_worm_166 (by decide) (fun c109 => ?_) (fun c109 => ?_)
              · replace hX68 := k_neg hX68 c109
                refine lv_iload hx hb dX9_worm_184 (lv_at hl 1 rfl) ?_
                refine lv_iload_n hx hb dX9_worm_186 rfl (lv_at hl 3 rfl) ?_
                refine lv_icmp_le (tgt := 195) hx hb dX9_worm_187 (by decide) (fun c110 => ?_) (fun c110 => ?_)
                · replace hX68 := k_pos hX68 c110
                  refine lv_iload_n hx hb dX9_worm_195 rfl (lv_at hl 3 rfl) ?_
                  exact hJ92 _ hX68 _ _ _ hP hD hS (lv_sub hl [0, 2, 4, 5, 6] rfl)
                · replace hX68 := k_neg hX68 c110
                  refine lv_iload hx hb dX9_worm_190 (lv_at hl 1 rfl) ?_
                  refine lv_goto (tgt := 196) hx hb dX9_worm_192 (by decide) ?_
                  exact hJ92 _ hX68 _ _ _ hP hD hS (lv_sub hl [0, 2, 4, 5, 6] rfl)
              · replace hX68 := k_pos hX68 c109
                refine lv_iload hx hb dX9_worm_169 (lv_at hl 1 rfl) ?_
                refine lv_iload_n hx hb dX9_worm_171 rfl (lv_at hl 3 rfl) ?_
                refine lv_icmp_ge (tgt := 180) hx hb dX9_worm_172 (by decide) (fun c111 => ?_) (fun c111 => ?_)
                · replace hX68 := k_pos hX68 c111
                  refine lv_iload_n hx hb dX9_worm_180 rfl (lv_at hl 3 rfl) ?_
                  refine lv_goto (tgt := 196) hx hb dX9_worm_181 (by decide) ?_
                  exact hJ92 _ hX68 _ _ _ hP hD hS (lv_sub hl [0, 2, 4, 5, 6] rfl)
                · replace hX68 := k_neg hX68 c111
                  refine lv_iload hx hb dX9_worm_175 (lv_at hl 1 rfl) ?_
                  refine lv_goto (tgt := 196) hx hb dX9_worm_177 (by decide) ?_
                  exact hJ92 _ hX68 _ _ _ hP hD hS (lv_sub hl [0, 2, 4, 5, 6] rfl)
            refine lv_iload_n hx hb dX9_worm_126 rfl (lv_at hl 7 rfl) ?_
            refine lv_iconst (v := 2) hx hb dX9_worm_127 (by decide) ?_
            refine lv_icmp_ne (tgt := 148) hx hb dX9_worm_128 (by decide) (fun c112 => ?_) (fun c112 => ?_)
            · replace hX68 := k_neg hX68 c112
              refine lv_iload hx hb dX9_worm_148 (lv_at hl 1 rfl) ?_
              refine lv_iload hx hb dX9_worm_150 (lv_at hl 3 rfl) ?_
              refine lv_icmp_le (tgt := 160) hx hb dX9_worm_152 (by decide) (fun c113 => ?_) (fun c113 => ?_)
              · replace hX68 := k_pos hX68 c113
                refine lv_iload hx hb dX9_worm_160 (lv_at hl 3 rfl) ?_
                exact hJ87 _ hX68 _ _ _ hP hD hS (lv_sub hl [0, 2, 4, 5, 6, 7] rfl)
              · replace hX68 := k_neg hX68 c113
                refine lv_iload hx hb dX9_worm_155 (lv_at hl 1 rfl) ?_
                refine lv_goto (tgt := 162) hx hb dX9_worm_157 (by decide) ?_
                exact hJ87 _ hX68 _ _ _ hP hD hS (lv_sub hl [0, 2, 4, 5, 6, 7] rfl)
            · replace hX68 := k_pos hX68 c112
              refine lv_iload hx hb dX9_worm_131 (lv_at hl 1 rfl) ?_
              refine lv_iload hx hb dX9_worm_133 (lv_at hl 3 rfl) ?_
              refine lv_icmp_ge (tgt := 143) hx hb dX9_worm_135 (by decide) (fun c114 => ?_) (fun c114 => ?_)
              · replace hX68 := k_pos hX68 c114
                refine lv_iload hx hb dX9_worm_143 (lv_at hl 3 rfl) ?_
                refine lv_goto (tgt := 162) hx hb dX9_worm_145 (by decide) ?_
                exact hJ87 _ hX68 _ _ _ hP hD hS (lv_sub hl [0, 2, 4, 5, 6, 7] rfl)
              · replace hX68 := k_neg hX68 c114
                refine lv_iload hx hb dX9_worm_138 (lv_at hl 1 rfl) ?_
                refine lv_goto (tgt := 162) hx hb dX9_worm_140 (by decide) ?_
                exact hJ87 _ hX68 _ _ _ hP hD hS (lv_sub hl [0, 2, 4, 5, 6, 7] rfl)
        · replace hf := k_pos hf c6
          refine lv_sipush (v := 1000) hx hb dX9_worm_97 (by decide) ?_
          refine lv_goto (tgt := 106) hx hb dX9_worm_100 (by decide) ?_
          refine lv_istore (lv' := [(4, .int 1000), (3, .int 0), (0, .ref h), (1, .int a1), (2, .int a2)]) hx hb dX9_worm_106 hl (by decide) rfl (fun ls hl => ?_)
          refine lv_iconst (v := 0) hx hb dX9_worm_108 (by decide) ?_
          refine lv_istore (lv' := [(5, .int 0), (4, .int 1000), (3, .int 0), (0, .ref h), (1, .int a1), (2, .int a2)]) hx hb dX9_worm_109 hl (by decide) rfl (fun ls hl => ?_)
          obtain ⟨ee176, hlp176, hfr176⟩ := k_b2_ee hf
          have hE176 : ∀ (x3_177 : Int32) (x4_178 : Int32), ee176 = (x3_177, x4_178) → ∀ (H : Heap) (locs : List Loc) (ls : Array Slot), va_P D vwCl [(h, .inr (9, [.int 0, .ref h_now, .ref h_aside, .int v_h_kept, .ref h_books, .ref h_tide, .ref h_rain, .ref h_rule, .int v_h_counted, .ref h_counts, .ref h_begins, .ref h_best, .int v_h_bestWorth, .int v_h_bestPitch, .int v_h_bestBits, .int v_h_leastHour, .int v_h_leastSet, .int v_h_shut, .ref h_planks])), (h_planks, .inl (cI, 30, .inl f_h_planks))] H → va_D A [(h, .inr (9, [.int 0, .ref h_now, .ref h_aside, .int v_h_kept, .ref h_books, .ref h_tide, .ref h_rain, .ref h_rule, .int v_h_counted, .ref h_counts, .ref h_begins, .ref h_best, .int v_h_bestWorth, .int v_h_bestPitch, .int v_h_bestBits, .int v_h_leastHour, .int v_h_leastSet, .int v_h_shut, .ref h_planks])), (h_planks, .inl (cI, 30, .inl f_h_planks))] → va_S A s.heap H locs → lv_has ls 10 [(4, .int x4_178), (3, .int x3_177), (2, .int a2)] → W p l e rm_X9_worm s m args below meth c H locs 0 0 Q (F0 m 266 ls []) := by
            intro x3_177 x4_178 he H locs ls hP hD hS hl
            replace hf := hfr176 x3_177 x4_178 he
            have hJ183 : ∀ (t182 : Int32), lj_X9_worm_298_1 t182 = some (r, v_h_thrown') → ∀ (H : Heap) (locs : List Loc) (ls : Array Slot), va_P D vwCl [(h, .inr (9, [.int 0, .ref h_now, .ref h_aside, .int v_h_kept, .ref h_books, .ref h_tide, .ref h_rain, .ref h_rule, .int v_h_counted, .ref h_counts, .ref h_begins, .ref h_best, .int v_h_bestWorth, .int v_h_bestPitch, .int v_h_bestBits, .int v_h_leastHour, .int v_h_leastSet, .int v_h_shut, .ref h_planks])), (h_planks, .inl (cI, 30, .inl f_h_planks))] H → va_D A [(h, .inr (9, [.int 0, .ref h_now, .ref h_aside, .int v_h_kept, .ref h_books, .ref h_tide, .ref h_rain, .ref h_rule, .int v_h_counted, .ref h_counts, .ref h_begins, .ref h_best, .int v_h_bestWorth, .int v_h_bestPitch, .int v_h_bestBits, .int v_h_leastHour, .int v_h_leastSet, .int v_h_shut, .ref h_planks])), (h_planks, .inl (cI, 30, .inl f_h_planks))] → va_S A s.heap H locs → lv_has ls 10 [] → W p l e rm_X9_worm s m args below meth c H locs 0 0 Q (F0 m 298 ls [.int t182]) := by
              intro t182 hf_j H locs ls hP hD hS hl
              replace hf := hf_j
              unfold lj_X9_worm_298_1 at hf
              exact hRet _ _ hf _ _ _ _ hP hD hS rfl dX9_worm_298
            refine lv_iload_n hx hb dX9_worm_266 rfl (lv_at hl 2 rfl) ?_
            refine lv_iconst (v := 2) hx hb dX9_worm_267 (by decide) ?_
            refine lv_icmp_ne (tgt := 286) hx hb dX9_worm_268 (by decide) (fun c184 => ?_) (fun c184 => ?_)
            · replace hf := k_neg hf c184
              refine lv_iload_n hx hb dX9_worm_286 rfl (lv_at hl 1 rfl) ?_
              refine lv_iload hx hb dX9_worm_287 (lv_at hl 0 rfl) ?_
              refine lv_icmp_le (tgt := 296) hx hb dX9_worm_289 (by decide) (fun c185 => ?_) (fun c185 => ?_)
              · replace hf := k_pos hf c185
                refine lv_iload hx hb dX9_worm_296 (lv_at hl 0 rfl) ?_
                exact hJ183 _ hf _ _ _ hP hD hS (lv_sub hl [] rfl)
              · replace hf := k_neg hf c185
                refine lv_iload_n hx hb dX9_worm_292 rfl (lv_at hl 1 rfl) ?_
                refine lv_goto (tgt := 298) hx hb dX9_worm_293 (by decide) ?_
                exact hJ183 _ hf _ _ _ hP hD hS (lv_sub hl [] rfl)
            · replace hf := k_pos hf c184
              refine lv_iload_n hx hb dX9_worm_271 rfl (lv_at hl 1 rfl) ?_
              refine lv_iload hx hb dX9_worm_272 (lv_at hl 0 rfl) ?_
              refine lv_icmp_ge (tgt := 281) hx hb dX9_worm_274 (by decide) (fun c186 => ?_) (fun c186 => ?_)
              · replace hf := k_pos hf c186
                refine lv_iload hx hb dX9_worm_281 (lv_at hl 0 rfl) ?_
                refine lv_goto (tgt := 298) hx hb dX9_worm_283 (by decide) ?_
                exact hJ183 _ hf _ _ _ hP hD hS (lv_sub hl [] rfl)
              · replace hf := k_neg hf c186
                refine lv_iload_n hx hb dX9_worm_277 rfl (lv_at hl 1 rfl) ?_
                refine lv_goto (tgt := 298) hx hb dX9_worm_278 (by decide) ?_
                exact hJ183 _ hf _ _ _ hP hD hS (lv_sub hl [] rfl)
          refine (k_lp_ind (fun sx176 => ∀ (H : Heap) (locs : List Loc) (ls : Array Slot), va_P D vwCl [(h, .inr (9, [.int 0, .ref h_now, .ref h_aside, .int v_h_kept, .ref h_books, .ref h_tide, .ref h_rain, .ref h_rule, .int v_h_counted, .ref h_counts, .ref h_begins, .ref h_best, .int v_h_bestWorth, .int v_h_bestPitch, .int v_h_bestBits, .int v_h_leastHour, .int v_h_leastSet, .int v_h_shut, .ref h_planks])), (h_planks, .inl (cI, 30, .inl f_h_planks))] H → va_D A [(h, .inr (9, [.int 0, .ref h_now, .ref h_aside, .int v_h_kept, .ref h_books, .ref h_tide, .ref h_rain, .ref h_rule, .int v_h_counted, .ref h_counts, .ref h_begins, .ref h_best, .int v_h_bestWorth, .int v_h_bestPitch, .int v_h_bestBits, .int v_h_leastHour, .int v_h_leastSet, .int v_h_shut, .ref h_planks])), (h_planks, .inl (cI, 30, .inl f_h_planks))] → va_S A s.heap H locs → lv_has ls 10 [(5, .int sx176.2.2), (4, .int sx176.2.1), (3, .int sx176.1), (0, .ref h), (1, .int a1), (2, .int a2)] → W p l e rm_X9_worm s m args below meth c H locs 0 0 Q (F0 m 111 ls [])) (fun sx176 X176 hX176 hin176 hout176 => ?_) _ _ hlp176) _ _ _ hP hD hS (lv_sub hl [0, 1, 2, 3, 4, 5] rfl)
          obtain ⟨x3_187, x4_188, x5_189⟩ := sx176
          intro H locs ls hP hD hS hl
          replace hP : va_P D vwCl [(h, .inr (9, [.int 0, .ref h_now, .ref h_aside, .int v_h_kept, .ref h_books, .ref h_tide, .ref h_rain, .ref h_rule, .int v_h_counted, .ref h_counts, .ref h_begins, .ref h_best, .int v_h_bestWorth, .int v_h_bestPitch, .int v_h_bestBits, .int v_h_leastHour, .int v_h_leastSet, .int v_h_shut, .ref h_planks])), (h_planks, .inl (cI, 30, .inl f_h_planks))] H := hP
          replace hD : va_D A [(h, .inr (9, [.int 0, .ref h_now, .ref h_aside, .int v_h_kept, .ref h_books, .ref h_tide, .ref h_rain, .ref h_rule, .int v_h_counted, .ref h_counts, .ref h_begins, .ref h_best, .int v_h_bestWorth, .int v_h_bestPitch, .int v_h_bestBits, .int v_h_leastHour, .int v_h_leastSet, .int v_h_shut, .ref h_planks])), (h_planks, .inl (cI, 30, .inl f_h_planks))] := hD
          replace hl : lv_has ls 10 [(5, .int x5_189), (4, .int x4_188), (3, .int x3_187), (0, .ref h), (1, .int a1), (2, .int a2)] := hl
          replace hX176 : lb_X9_worm_111_1 a1 a2 f_h_planks x3_187 x4_188 x5_189 = some X176 := hX176
          unfold lb_X9_worm_111_1 at hX176
          refine lv_iload hx hb dX9_worm_111 (lv_at hl 0 rfl) ?_
          refine lv_iload_n hx hb dX9_worm_113 rfl (lv_at hl 4 rfl) ?_
          refine lv_icmp_ge (tgt := 266) hx hb dX9_worm_114 (by decide) (fun c190 => ?_) (fun c190 => ?_)
          · replace hX176 := k_pos hX176 c190
            exact hE176 _ _ (hout176 _ (Option.some.inj hX176).symm).symm _ _ _ hP hD hS (lv_sub hl [1, 2, 5] rfl)
          · replace hX176 := k_neg hX176 c190
            refine lv_iload_n hx hb dX9_worm_117 rfl (lv_at hl 2 rfl) ?_
            refine lv_iconst (v := 1) hx hb dX9_worm_118 (by decide) ?_
            refine lv_iadd hx hb dX9_worm_119 ?_
            refine lv_istore (lv' := [(6, .int (x3_187 + 1)), (5, .int x5_189), (4, .int x4_188), (3, .int x3_187), (0, .ref h), (1, .int a1), (2, .int a2)]) hx hb dX9_worm_120 hl (by decide) rfl (fun ls hl => ?_)
            refine lv_iload hx hb dX9_worm_122 (lv_at hl 2 rfl) ?_
            refine lv_istore (lv' := [(7, .int x4_188), (6, .int (x3_187 + 1)), (5, .int x5_189), (4, .int x4_188), (3, .int x3_187), (0, .ref h), (1, .int a1), (2, .int a2)]) hx hb dX9_worm_124 hl (by decide) rfl (fun ls hl => ?_)
            have hJ195 : ∀ (t194 : Int32), lj_X9_worm_162_1 a2 x3_187 x4_188 x5_189 f_h_planks t194 = some X176 → ∀ (H : Heap) (locs : List Loc) (ls : Array Slot), va_P D vwCl [(h, .inr (9, [.int 0, .ref h_now, .ref h_aside, .int v_h_kept, .ref h_books, .ref h_tide, .ref h_rain, .ref h_rule, .int v_h_counted, .ref h_counts, .ref h_begins, .ref h_best, .int v_h_bestWorth, .int v_h_bestPitch, .int v_h_bestBits, .int v_h_leastHour, .int v_h_leastSet, .int v_h_shut, .ref h_planks])), (h_planks, .inl (cI, 30, .inl f_h_planks))] H → va_D A [(h, .inr (9, [.int 0, .ref h_now, .ref h_aside, .int v_h_kept, .ref h_books, .ref h_tide, .ref h_rain, .ref h_rule, .int v_h_counted, .ref h_counts, .ref h_begins, .ref h_best, .int v_h_bestWorth, .int v_h_bestPitch, .int v_h_bestBits, .int v_h_leastHour, .int v_h_leastSet, .int v_h_shut, .ref h_planks])), (h_planks, .inl (cI, 30, .inl f_h_planks))] → va_S A s.heap H locs → lv_has ls 10 [(7, .int x4_188), (5, .int x5_189), (3, .int x3_187), (0, .ref h), (1, .int a1), (2, .int a2)] → W p l e rm_X9_worm s m args below meth c H locs 0 0 Q (F0 m 162 ls [.int t194]) := by
              intro t194 hX176_j H locs ls hP hD hS hl
              replace hX176 := hX176_j
              unfold lj_X9_worm_162_1 at hX176
              refine lv_istore (lv' := [(8, .int t194), (7, .int x4_188), (5, .int x5_189), (3, .int x3_187), (0, .ref h), (1, .int a1), (2, .int a2)]) hx hb dX9_worm_162 hl (by decide) rfl (fun ls hl => ?_)
              have hJ200 : ∀ (t199 : Int32), lj_X9_worm_196_1 x5_189 f_h_planks a2 t194 t199 = some X176 → ∀ (H : Heap) (locs : List Loc) (ls : Array Slot), va_P D vwCl [(h, .inr (9, [.int 0, .ref h_now, .ref h_aside, .int v_h_kept, .ref h_books, .ref h_tide, .ref h_rain, .ref h_rule, .int v_h_counted, .ref h_counts, .ref h_begins, .ref h_best, .int v_h_bestWorth, .int v_h_bestPitch, .int v_h_bestBits, .int v_h_leastHour, .int v_h_leastSet, .int v_h_shut, .ref h_planks])), (h_planks, .inl (cI, 30, .inl f_h_planks))] H → va_D A [(h, .inr (9, [.int 0, .ref h_now, .ref h_aside, .int v_h_kept, .ref h_books, .ref h_tide, .ref h_rain, .ref h_rule, .int v_h_counted, .ref h_counts, .ref h_begins, .ref h_best, .int v_h_bestWorth, .int v_h_bestPitch, .int v_h_bestBits, .int v_h_leastHour, .int v_h_leastSet, .int v_h_shut, .ref h_planks])), (h_planks, .inl (cI, 30, .inl f_h_planks))] → va_S A s.heap H locs → lv_has ls 10 [(8, .int t194), (5, .int x5_189), (0, .ref h), (1, .int a1), (2, .int a2)] → W p l e rm_X9_worm s m args below meth c H locs 0 0 Q (F0 m 196 ls [.int t199]) := by
                intro t199 hX176_j H locs ls hP hD hS hl
                replace hX176 := hX176_j
                unfold lj_X9_worm_196_1 at hX176
                refine lv_istore (lv' := [(9, .int t199), (8, .int t194), (5, .int x5_189), (0, .ref h), (1, .int a1), (2, .int a2)]) hx hb dX9_worm_196 hl (by decide) rfl (fun ls hl => ?_)
                have hJ205 : ∀ (t204 : Int32), lj_X9_worm_227_1 x5_189 f_h_planks a2 t199 t204 = some X176 → ∀ (H : Heap) (locs : List Loc) (ls : Array Slot), va_P D vwCl [(h, .inr (9, [.int 0, .ref h_now, .ref h_aside, .int v_h_kept, .ref h_books, .ref h_tide, .ref h_rain, .ref h_rule, .int v_h_counted, .ref h_counts, .ref h_begins, .ref h_best, .int v_h_bestWorth, .int v_h_bestPitch, .int v_h_bestBits, .int v_h_leastHour, .int v_h_leastSet, .int v_h_shut, .ref h_planks])), (h_planks, .inl (cI, 30, .inl f_h_planks))] H → va_D A [(h, .inr (9, [.int 0, .ref h_now, .ref h_aside, .int v_h_kept, .ref h_books, .ref h_tide, .ref h_rain, .ref h_rule, .int v_h_counted, .ref h_counts, .ref h_begins, .ref h_best, .int v_h_bestWorth, .int v_h_bestPitch, .int v_h_bestBits, .int v_h_leastHour, .int v_h_leastSet, .int v_h_shut, .ref h_planks])), (h_planks, .inl (cI, 30, .inl f_h_planks))] → va_S A s.heap H locs → lv_has ls 10 [(9, .int t199), (5, .int x5_189), (0, .ref h), (1, .int a1), (2, .int a2)] → W p l e rm_X9_worm s m args below meth c H locs 0 0 Q (F0 m 227 ls [.int t204]) := by
                  intro t204 hX176_j H locs ls hP hD hS hl
                  replace hX176 := hX176_j
                  unfold lj_X9_worm_227_1 at hX176
                  refine lv_istore (lv' := [(4, .int t204), (9, .int t199), (5, .int x5_189), (0, .ref h), (1, .int a1), (2, .int a2)]) hx hb dX9_worm_227 hl (by decide) rfl (fun ls hl => ?_)
                  have hJ210 : ∀ (t209 : Int32), lj_X9_worm_259_1 t204 x5_189 t209 = some X176 → ∀ (H : Heap) (locs : List Loc) (ls : Array Slot), va_P D vwCl [(h, .inr (9, [.int 0, .ref h_now, .ref h_aside, .int v_h_kept, .ref h_books, .ref h_tide, .ref h_rain, .ref h_rule, .int v_h_counted, .ref h_counts, .ref h_begins, .ref h_best, .int v_h_bestWorth, .int v_h_bestPitch, .int v_h_bestBits, .int v_h_leastHour, .int v_h_leastSet, .int v_h_shut, .ref h_planks])), (h_planks, .inl (cI, 30, .inl f_h_planks))] H → va_D A [(h, .inr (9, [.int 0, .ref h_now, .ref h_aside, .int v_h_kept, .ref h_books, .ref h_tide, .ref h_rain, .ref h_rule, .int v_h_counted, .ref h_counts, .ref h_begins, .ref h_best, .int v_h_bestWorth, .int v_h_bestPitch, .int v_h_bestBits, .int v_h_leastHour, .int v_h_leastSet, .int v_h_shut, .ref h_planks])), (h_planks, .inl (cI, 30, .inl f_h_planks))] → va_S A s.heap H locs → lv_has ls 10 [(4, .int t204), (5, .int x5_189), (0, .ref h), (1, .int a1), (2, .int a2)] → W p l e rm_X9_worm s m args below meth c H locs 0 0 Q (F0 m 259 ls [.int t209]) := by
                    intro t209 hX176_j H locs ls hP hD hS hl
                    replace hX176 := hX176_j
                    unfold lj_X9_worm_259_1 at hX176
                    refine lv_istore_n (lv' := [(3, .int t209), (4, .int t204), (5, .int x5_189), (0, .ref h), (1, .int a1), (2, .int a2)]) hx hb dX9_worm_259 rfl hl (by decide) rfl (fun ls hl => ?_)
                    refine lv_iinc (v := x5_189 + 1) (lv' := [(5, .int (x5_189 + 1)), (3, .int t209), (4, .int t204), (0, .ref h), (1, .int a1), (2, .int a2)]) hx hb dX9_worm_260 hl (k := 2) rfl rfl (by decide) rfl (fun ls hl => ?_)
                    refine lv_goto (tgt := 111) hx hb dX9_worm_263 (by decide) ?_
                    exact hin176 (t209, t204, x5_189 + 1) (Option.some.inj hX176).symm _ _ _ hP hD hS (lv_sub hl [0, 2, 1, 3, 4, 5] rfl)
                  refine lv_aload_n hx hb dX9_worm_229 rfl (lv_at hl 3 rfl) ?_
                  refine k_get (C := RX9) (T := TX9) (N := 19) hx hb hts inX9 hown hK hP 0 rfl rfl 18 (by decide) rfl wl4 rfl dX9_worm_230 ?_
                  refine lv_iload hx hb dX9_worm_233 (lv_at hl 2 rfl) ?_
                  obtain ⟨hi211, hX176⟩ := k_ix_some hX176
                  refine k_iald (k := x5_189.toNatClampNeg) hx hb hK hP 1 0 rfl rfl hi211 rfl dX9_worm_235 ?_
                  refine lv_iconst (v := 1) hx hb dX9_worm_236 (by decide) ?_
                  refine lv_icmp_ne (tgt := 257) hx hb dX9_worm_237 (by decide) (fun c212 => ?_) (fun c212 => ?_)
                  · replace hX176 := k_neg hX176 c212
                    refine lv_iload hx hb dX9_worm_257 (lv_at hl 1 rfl) ?_
                    exact hJ210 _ hX176 _ _ _ hP hD hS (lv_sub hl [0, 2, 3, 4, 5] rfl)
                  · replace hX176 := k_pos hX176 c212
                    refine lv_iload_n hx hb dX9_worm_240 rfl (lv_at hl 5 rfl) ?_
                    refine lv_iconst (v := 2) hx hb dX9_worm_241 (by decide) ?_
                    refine lv_icmp_ne (tgt := 251) hx hb dX9_worm_242 (by decide) (fun c213 => ?_) (fun c213 => ?_)
                    · replace hX176 := k_neg hX176 c213
                      refine lv_sipush (v := (-1000)) hx hb dX9_worm_251 (by decide) ?_
                      refine lv_goto (tgt := 259) hx hb dX9_worm_254 (by decide) ?_
                      exact hJ210 _ hX176 _ _ _ hP hD hS (lv_sub hl [0, 2, 3, 4, 5] rfl)
                    · replace hX176 := k_pos hX176 c213
                      refine lv_sipush (v := 1000) hx hb dX9_worm_245 (by decide) ?_
                      refine lv_goto (tgt := 259) hx hb dX9_worm_248 (by decide) ?_
                      exact hJ210 _ hX176 _ _ _ hP hD hS (lv_sub hl [0, 2, 3, 4, 5] rfl)
                refine lv_aload_n hx hb dX9_worm_198 rfl (lv_at hl 3 rfl) ?_
                refine k_get (C := RX9) (T := TX9) (N := 19) hx hb hts inX9 hown hK hP 0 rfl rfl 18 (by decide) rfl wl4 rfl dX9_worm_199 ?_
                refine lv_iload hx hb dX9_worm_202 (lv_at hl 2 rfl) ?_
                obtain ⟨hi214, hX176⟩ := k_ix_some hX176
                refine k_iald (k := x5_189.toNatClampNeg) hx hb hK hP 1 0 rfl rfl hi214 rfl dX9_worm_204 ?_
                refine lv_if_ne (tgt := 225) hx hb dX9_worm_205 (by decide) (fun c215 => ?_) (fun c215 => ?_)
                · replace hX176 := k_neg hX176 c215
                  refine lv_iload hx hb dX9_worm_225 (lv_at hl 1 rfl) ?_
                  exact hJ205 _ hX176 _ _ _ hP hD hS (lv_sub hl [0, 2, 3, 4, 5] rfl)
                · replace hX176 := k_pos hX176 c215
                  refine lv_iload_n hx hb dX9_worm_208 rfl (lv_at hl 5 rfl) ?_
                  refine lv_iconst (v := 2) hx hb dX9_worm_209 (by decide) ?_
                  refine lv_icmp_ne (tgt := 219) hx hb dX9_worm_210 (by decide) (fun c216 => ?_) (fun c216 => ?_)
                  · replace hX176 := k_neg hX176 c216
                    refine lv_sipush (v := (-1000)) hx hb dX9_worm_219 (by decide) ?_
                    refine lv_goto (tgt := 227) hx hb dX9_worm_222 (by decide) ?_
                    exact hJ205 _ hX176 _ _ _ hP hD hS (lv_sub hl [0, 2, 3, 4, 5] rfl)
                  · replace hX176 := k_pos hX176 c216
                    refine lv_sipush (v := 1000) hx hb dX9_worm_213 (by decide) ?_
                    refine lv_goto (tgt := 227) hx hb dX9_worm_216 (by decide) ?_
                    exact hJ205 _ hX176 _ _ _ hP hD hS (lv_sub hl [0, 2, 3, 4, 5] rfl)
              refine lv_iload_n hx hb dX9_worm_164 rfl (lv_at hl 6 rfl) ?_
              refine lv_iconst (v := 2) hx hb dX9_worm_165 (by decide) ?_
              refine lv_icmp_ne (tgt := 184) hx hb dX9_worm_166 (by decide) (fun c217 => ?_) (fun c217 => ?_)
              · replace hX176 := k_neg hX176 c217
                refine lv_iload hx hb dX9_worm_184 (lv_at hl 1 rfl) ?_
                refine lv_iload_n hx hb dX9_worm_186 rfl (lv_at hl 3 rfl) ?_
                refine lv_icmp_le (tgt := 195) hx hb dX9_worm_187 (by decide) (fun c218 => ?_) (fun c218 => ?_)
                · replace hX176 := k_pos hX176 c218
                  refine lv_iload_n hx hb dX9_worm_195 rfl (lv_at hl 3 rfl) ?_
                  exact hJ200 _ hX176 _ _ _ hP hD hS (lv_sub hl [0, 2, 4, 5, 6] rfl)
                · replace hX176 := k_neg hX176 c218
                  refine lv_iload hx hb dX9_worm_190 (lv_at hl 1 rfl) ?_
                  refine lv_goto (tgt := 196) hx hb dX9_worm_192 (by decide) ?_
                  exact hJ200 _ hX176 _ _ _ hP hD hS (lv_sub hl [0, 2, 4, 5, 6] rfl)
              · replace hX176 := k_pos hX176 c217
                refine lv_iload hx hb dX9_worm_169 (lv_at hl 1 rfl) ?_
                refine lv_iload_n hx hb dX9_worm_171 rfl (lv_at hl 3 rfl) ?_
                refine lv_icmp_ge (tgt := 180) hx hb dX9_worm_172 (by decide) (fun c219 => ?_) (fun c219 => ?_)
                · replace hX176 := k_pos hX176 c219
                  refine lv_iload_n hx hb dX9_worm_180 rfl (lv_at hl 3 rfl) ?_
                  refine lv_goto (tgt := 196) hx hb dX9_worm_181 (by decide) ?_
                  exact hJ200 _ hX176 _ _ _ hP hD hS (lv_sub hl [0, 2, 4, 5, 6] rfl)
                · replace hX176 := k_neg hX176 c219
                  refine lv_iload hx hb dX9_worm_175 (lv_at hl 1 rfl) ?_
                  refine lv_goto (tgt := 196) hx hb dX9_worm_177 (by decide) ?_
                  exact hJ200 _ hX176 _ _ _ hP hD hS (lv_sub hl [0, 2, 4, 5, 6] rfl)
            refine lv_iload_n hx hb dX9_worm_126 rfl (lv_at hl 7 rfl) ?_
            refine lv_iconst (v := 2) hx hb dX9_worm_127 (by decide) ?_
            refine lv_icmp_ne (tgt := 148) hx hb dX9_worm_128 (by decide) (fun c220 => ?_) (fun c220 => ?_)
            · replace hX176 := k_neg hX176 c220
              refine lv_iload hx hb dX9_worm_148 (lv_at hl 1 rfl) ?_
              refine lv_iload hx hb dX9_worm_150 (lv_at hl 3 rfl) ?_
              refine lv_icmp_le (tgt := 160) hx hb dX9_worm_152 (by decide) (fun c221 => ?_) (fun c221 => ?_)
              · replace hX176 := k_pos hX176 c221
                refine lv_iload hx hb dX9_worm_160 (lv_at hl 3 rfl) ?_
                exact hJ195 _ hX176 _ _ _ hP hD hS (lv_sub hl [0, 2, 4, 5, 6, 7] rfl)
              · replace hX176 := k_neg hX176 c221
                refine lv_iload hx hb dX9_worm_155 (lv_at hl 1 rfl) ?_
                refine lv_goto (tgt := 162) hx hb dX9_worm_157 (by decide) ?_
                exact hJ195 _ hX176 _ _ _ hP hD hS (lv_sub hl [0, 2, 4, 5, 6, 7] rfl)
            · replace hX176 := k_pos hX176 c220
              refine lv_iload hx hb dX9_worm_131 (lv_at hl 1 rfl) ?_
              refine lv_iload hx hb dX9_worm_133 (lv_at hl 3 rfl) ?_
              refine lv_icmp_ge (tgt := 143) hx hb dX9_worm_135 (by decide) (fun c222 => ?_) (fun c222 => ?_)
              · replace hX176 := k_pos hX176 c222
                refine lv_iload hx hb dX9_worm_143 (lv_at hl 3 rfl) ?_
                refine lv_goto (tgt := 162) hx hb dX9_worm_145 (by decide) ?_
                exact hJ195 _ hX176 _ _ _ hP hD hS (lv_sub hl [0, 2, 4, 5, 6, 7] rfl)
              · replace hX176 := k_neg hX176 c222
                refine lv_iload hx hb dX9_worm_138 (lv_at hl 1 rfl) ?_
                refine lv_goto (tgt := 162) hx hb dX9_worm_140 (by decide) ?_
                exact hJ195 _ hX176 _ _ _ hP hD hS (lv_sub hl [0, 2, 4, 5, 6, 7] rfl)
      · replace hf := k_neg hf c5
        refine lv_iconst (v := 0) hx hb dX9_worm_36 (by decide) ?_
        refine lv_istore_n (lv' := [(3, .int 0), (0, .ref h), (1, .int a1), (2, .int a2)]) hx hb dX9_worm_37 rfl hl (by decide) rfl (fun ls hl => ?_)
        refine lv_iconst (v := 0) hx hb dX9_worm_38 (by decide) ?_
        refine lv_istore (lv' := [(4, .int 0), (3, .int 0), (0, .ref h), (1, .int a1), (2, .int a2)]) hx hb dX9_worm_39 hl (by decide) rfl (fun ls hl => ?_)
        obtain ⟨ee235, hlp235, hfr235⟩ := k_b1_ee hf
        have hE235 : ∀ (x3_236 : Int32), ee235 = x3_236 → ∀ (H : Heap) (locs : List Loc) (ls : Array Slot), va_P D vwCl [(h, .inr (9, [.int 0, .ref h_now, .ref h_aside, .int v_h_kept, .ref h_books, .ref h_tide, .ref h_rain, .ref h_rule, .int v_h_counted, .ref h_counts, .ref h_begins, .ref h_best, .int v_h_bestWorth, .int v_h_bestPitch, .int v_h_bestBits, .int v_h_leastHour, .int v_h_leastSet, .int v_h_shut, .ref h_planks])), (h_planks, .inl (cI, 30, .inl f_h_planks))] H → va_D A [(h, .inr (9, [.int 0, .ref h_now, .ref h_aside, .int v_h_kept, .ref h_books, .ref h_tide, .ref h_rain, .ref h_rule, .int v_h_counted, .ref h_counts, .ref h_begins, .ref h_best, .int v_h_bestWorth, .int v_h_bestPitch, .int v_h_bestBits, .int v_h_leastHour, .int v_h_leastSet, .int v_h_shut, .ref h_planks])), (h_planks, .inl (cI, 30, .inl f_h_planks))] → va_S A s.heap H locs → lv_has ls 10 [(3, .int x3_236)] → W p l e rm_X9_worm s m args below meth c H locs 0 0 Q (F0 m 88 ls []) := by
          intro x3_236 he H locs ls hP hD hS hl
          replace hf := hfr235 x3_236 he
          refine lv_iload_n hx hb dX9_worm_88 rfl (lv_at hl 0 rfl) ?_
          exact hRet _ _ hf _ _ _ _ hP hD hS rfl dX9_worm_89
        refine (k_lp_ind (fun sx235 => ∀ (H : Heap) (locs : List Loc) (ls : Array Slot), va_P D vwCl [(h, .inr (9, [.int 0, .ref h_now, .ref h_aside, .int v_h_kept, .ref h_books, .ref h_tide, .ref h_rain, .ref h_rule, .int v_h_counted, .ref h_counts, .ref h_begins, .ref h_best, .int v_h_bestWorth, .int v_h_bestPitch, .int v_h_bestBits, .int v_h_leastHour, .int v_h_leastSet, .int v_h_shut, .ref h_planks])), (h_planks, .inl (cI, 30, .inl f_h_planks))] H → va_D A [(h, .inr (9, [.int 0, .ref h_now, .ref h_aside, .int v_h_kept, .ref h_books, .ref h_tide, .ref h_rain, .ref h_rule, .int v_h_counted, .ref h_counts, .ref h_begins, .ref h_best, .int v_h_bestWorth, .int v_h_bestPitch, .int v_h_bestBits, .int v_h_leastHour, .int v_h_leastSet, .int v_h_shut, .ref h_planks])), (h_planks, .inl (cI, 30, .inl f_h_planks))] → va_S A s.heap H locs → lv_has ls 10 [(4, .int sx235.2), (3, .int sx235.1), (0, .ref h), (1, .int a1), (2, .int a2)] → W p l e rm_X9_worm s m args below meth c H locs 0 0 Q (F0 m 41 ls [])) (fun sx235 X235 hX235 hin235 hout235 => ?_) _ _ hlp235) _ _ _ hP hD hS (lv_sub hl [0, 1, 2, 3, 4] rfl)
        obtain ⟨x3_237, x4_238⟩ := sx235
        intro H locs ls hP hD hS hl
        replace hP : va_P D vwCl [(h, .inr (9, [.int 0, .ref h_now, .ref h_aside, .int v_h_kept, .ref h_books, .ref h_tide, .ref h_rain, .ref h_rule, .int v_h_counted, .ref h_counts, .ref h_begins, .ref h_best, .int v_h_bestWorth, .int v_h_bestPitch, .int v_h_bestBits, .int v_h_leastHour, .int v_h_leastSet, .int v_h_shut, .ref h_planks])), (h_planks, .inl (cI, 30, .inl f_h_planks))] H := hP
        replace hD : va_D A [(h, .inr (9, [.int 0, .ref h_now, .ref h_aside, .int v_h_kept, .ref h_books, .ref h_tide, .ref h_rain, .ref h_rule, .int v_h_counted, .ref h_counts, .ref h_begins, .ref h_best, .int v_h_bestWorth, .int v_h_bestPitch, .int v_h_bestBits, .int v_h_leastHour, .int v_h_leastSet, .int v_h_shut, .ref h_planks])), (h_planks, .inl (cI, 30, .inl f_h_planks))] := hD
        replace hl : lv_has ls 10 [(4, .int x4_238), (3, .int x3_237), (0, .ref h), (1, .int a1), (2, .int a2)] := hl
        replace hX235 : lb_X9_worm_41 a1 f_h_planks a2 x3_237 x4_238 = some X235 := hX235
        unfold lb_X9_worm_41 at hX235
        refine lv_iload hx hb dX9_worm_41 (lv_at hl 0 rfl) ?_
        refine lv_iload_n hx hb dX9_worm_43 rfl (lv_at hl 3 rfl) ?_
        refine lv_icmp_ge (tgt := 88) hx hb dX9_worm_44 (by decide) (fun c239 => ?_) (fun c239 => ?_)
        · replace hX235 := k_pos hX235 c239
          exact hE235 _ (hout235 _ (Option.some.inj hX235).symm).symm _ _ _ hP hD hS (lv_sub hl [1] rfl)
        · replace hX235 := k_neg hX235 c239
          refine lv_iload_n hx hb dX9_worm_47 rfl (lv_at hl 1 rfl) ?_
          refine lv_aload_n hx hb dX9_worm_48 rfl (lv_at hl 2 rfl) ?_
          refine k_get (C := RX9) (T := TX9) (N := 19) hx hb hts inX9 hown hK hP 0 rfl rfl 18 (by decide) rfl wl4 rfl dX9_worm_49 ?_
          refine lv_iload hx hb dX9_worm_52 (lv_at hl 0 rfl) ?_
          obtain ⟨hi240, hX235⟩ := k_ix_some hX235
          refine k_iald (k := x4_238.toNatClampNeg) hx hb hK hP 1 0 rfl rfl hi240 rfl dX9_worm_54 ?_
          refine lv_iconst (v := 1) hx hb dX9_worm_55 (by decide) ?_
          refine lv_icmp_eq (tgt := 75) hx hb dX9_worm_56 (by decide) (fun c241 => ?_) (fun c241 => ?_)
          · replace hX235 := k_pos hX235 c241
            refine lv_iconst (v := 1) hx hb dX9_worm_75 (by decide) ?_
            refine lv_goto (tgt := 80) hx hb dX9_worm_76 (by decide) ?_
            refine lv_iadd hx hb dX9_worm_80 ?_
            refine lv_istore_n (lv' := [(3, .int (x3_237 + 1)), (4, .int x4_238), (0, .ref h), (1, .int a1), (2, .int a2)]) hx hb dX9_worm_81 rfl hl (by decide) rfl (fun ls hl => ?_)
            refine lv_iinc (v := x4_238 + 1) (lv' := [(4, .int (x4_238 + 1)), (3, .int (x3_237 + 1)), (0, .ref h), (1, .int a1), (2, .int a2)]) hx hb dX9_worm_82 hl (k := 1) rfl rfl (by decide) rfl (fun ls hl => ?_)
            refine lv_goto (tgt := 41) hx hb dX9_worm_85 (by decide) ?_
            exact hin235 (x3_237 + 1, x4_238 + 1) (Option.some.inj hX235).symm _ _ _ hP hD hS (lv_sub hl [0, 1, 2, 3, 4] rfl)
          · replace hX235 := k_neg hX235 c241
            refine lv_iload_n hx hb dX9_worm_59 rfl (lv_at hl 4 rfl) ?_
            refine lv_iconst (v := 1) hx hb dX9_worm_60 (by decide) ?_
            refine lv_icmp_ne (tgt := 79) hx hb dX9_worm_61 (by decide) (fun c242 => ?_) (fun c242 => ?_)
            · replace hX235 := k_neg hX235 c242
              refine lv_iconst (v := 0) hx hb dX9_worm_79 (by decide) ?_
              refine lv_iadd hx hb dX9_worm_80 ?_
              refine lv_istore_n (lv' := [(3, .int (x3_237 + 0)), (4, .int x4_238), (0, .ref h), (1, .int a1), (2, .int a2)]) hx hb dX9_worm_81 rfl hl (by decide) rfl (fun ls hl => ?_)
              refine lv_iinc (v := x4_238 + 1) (lv' := [(4, .int (x4_238 + 1)), (3, .int (x3_237 + 0)), (0, .ref h), (1, .int a1), (2, .int a2)]) hx hb dX9_worm_82 hl (k := 1) rfl rfl (by decide) rfl (fun ls hl => ?_)
              refine lv_goto (tgt := 41) hx hb dX9_worm_85 (by decide) ?_
              exact hin235 (x3_237 + 0, x4_238 + 1) (Option.some.inj hX235).symm _ _ _ hP hD hS (lv_sub hl [0, 1, 2, 3, 4] rfl)
            · replace hX235 := k_pos hX235 c242
              refine lv_aload_n hx hb dX9_worm_64 rfl (lv_at hl 2 rfl) ?_
              refine k_get (C := RX9) (T := TX9) (N := 19) hx hb hts inX9 hown hK hP 0 rfl rfl 18 (by decide) rfl wl4 rfl dX9_worm_65 ?_
              refine lv_iload hx hb dX9_worm_68 (lv_at hl 0 rfl) ?_
              obtain ⟨hi243, hX235⟩ := k_ix_some hX235
              refine k_iald (k := x4_238.toNatClampNeg) hx hb hK hP 1 0 rfl rfl hi243 rfl dX9_worm_70 ?_
              refine lv_iconst (v := (-1)) hx hb dX9_worm_71 (by decide) ?_
              refine lv_icmp_ne (tgt := 79) hx hb dX9_worm_72 (by decide) (fun c244 => ?_) (fun c244 => ?_)
              · replace hX235 := k_neg hX235 c244
                refine lv_iconst (v := 0) hx hb dX9_worm_79 (by decide) ?_
                refine lv_iadd hx hb dX9_worm_80 ?_
                refine lv_istore_n (lv' := [(3, .int (x3_237 + 0)), (4, .int x4_238), (0, .ref h), (1, .int a1), (2, .int a2)]) hx hb dX9_worm_81 rfl hl (by decide) rfl (fun ls hl => ?_)
                refine lv_iinc (v := x4_238 + 1) (lv' := [(4, .int (x4_238 + 1)), (3, .int (x3_237 + 0)), (0, .ref h), (1, .int a1), (2, .int a2)]) hx hb dX9_worm_82 hl (k := 1) rfl rfl (by decide) rfl (fun ls hl => ?_)
                refine lv_goto (tgt := 41) hx hb dX9_worm_85 (by decide) ?_
                exact hin235 (x3_237 + 0, x4_238 + 1) (Option.some.inj hX235).symm _ _ _ hP hD hS (lv_sub hl [0, 1, 2, 3, 4] rfl)
              · replace hX235 := k_pos hX235 c244
                refine lv_iconst (v := 1) hx hb dX9_worm_75 (by decide) ?_
                refine lv_goto (tgt := 80) hx hb dX9_worm_76 (by decide) ?_
                refine lv_iadd hx hb dX9_worm_80 ?_
                refine lv_istore_n (lv' := [(3, .int (x3_237 + 1)), (4, .int x4_238), (0, .ref h), (1, .int a1), (2, .int a2)]) hx hb dX9_worm_81 rfl hl (by decide) rfl (fun ls hl => ?_)
                refine lv_iinc (v := x4_238 + 1) (lv' := [(4, .int (x4_238 + 1)), (3, .int (x3_237 + 1)), (0, .ref h), (1, .int a1), (2, .int a2)]) hx hb dX9_worm_82 hl (k := 1) rfl rfl (by decide) rfl (fun ls hl => ?_)
                refine lv_goto (tgt := 41) hx hb dX9_worm_85 (by decide) ?_
                exact hin235 (x3_237 + 1, x4_238 + 1) (Option.some.inj hX235).symm _ _ _ hP hD hS (lv_sub hl [0, 1, 2, 3, 4] rfl)
    · replace hf := k_pos hf c4
      refine lv_iconst (v := (-1)) hx hb dX9_worm_29 (by decide) ?_
      exact hRet _ _ hf _ _ _ _ hP hD hS rfl dX9_worm_30

def lb_X9_book_80 (f_h_now : Nat → Int32) (x2_18 : Int32) (x3_19 : Int32) : Option ((Int32 × Int32) ⊕ (Int32)) :=
  if (f_h_now 12) ≤ x3_19 then
    some (.inr x2_18)
  else
    k_ix (145 + x3_19) 169 (
      if (f_h_now (145 + x3_19).toNatClampNeg) = 2 then
        k_ix (133 + x3_19) 169 (
          some (.inl (x2_18 + (f_h_now (133 + x3_19).toNatClampNeg), x3_19 + 1)))
      else
        some (.inl (x2_18 + 0, x3_19 + 1)))
def p_X9_book (f_h_now : Nat → Int32) (a1 : Int32) : Option (Int32 × Int32) :=
  if a1 = 0 then
    some (f_h_now 6, 0)
  else
  if a1 = 1 then
    some (f_h_now 7, 0)
  else
  if a1 = 2 then
    some (f_h_now 8, 0)
  else
  if a1 = 3 then
    some (f_h_now 9, 0)
  else
  if a1 = 4 then
    k_b1 (k_lp (fun s => lb_X9_book_80 f_h_now s.1 s.2) k_fuel (0, 0)) fun x2_17 =>
    some (x2_17, 0)
  else
  if a1 = 5 then
    some (f_h_now 5, 0)
  else
    some ((-1), 0)
abbrev rm_X9_book : Room := { frames := 0, cells := 0, slots := 0, locals := 0 }
theorem hdS_X9_book : yX9_book.cls ≠ "java/lang/invoke/MethodHandle" ∧ yX9_book.cls ≠ "java/lang/invoke/VarHandle" ∧ (parseMethodDescriptor yX9_book.desc).map (fun d => d.parameters.length) = some 1 := by decide +kernel
theorem hdV_X9_book : yX9_book.cls = RX9 ∧ yX9_book.cls ≠ "java/lang/invoke/MethodHandle" ∧ yX9_book.cls ≠ "java/lang/invoke/VarHandle" ∧ (parseMethodDescriptor yX9_book.desc).map (fun d => d.parameters.length) = some 1 := by decide +kernel
set_option maxHeartbeats 4000000 in
set_option maxRecDepth 100000 in
theorem c_X9_book (l : Launch) (D : va_G) (cI cZ cJ cS : ClassId) (h h_now h_aside h_books h_tide h_rain h_rule h_counts h_begins h_best h_planks : Nat) (v_h_thrown : Int32) (v_h_kept : Int32) (v_h_counted : Int32) (v_h_bestWorth : Int32) (v_h_bestPitch : Int32) (v_h_bestBits : Int32) (v_h_leastHour : Int32) (v_h_leastSet : Int32) (v_h_shut : Int32) (f_h_now : Nat → Int32) (a1 : Int32) (r : Int32) (v_h_thrown' : Int32) (hf : p_X9_book f_h_now a1 = some (r, v_h_thrown')) : k_MI l yX9_book wsX9_book rm_X9_book D (k_tys cI cZ cJ cS) [.ref h, .int a1] [(h, .inr (9, [.int v_h_thrown, .ref h_now, .ref h_aside, .int v_h_kept, .ref h_books, .ref h_tide, .ref h_rain, .ref h_rule, .int v_h_counted, .ref h_counts, .ref h_begins, .ref h_best, .int v_h_bestWorth, .int v_h_bestPitch, .int v_h_bestBits, .int v_h_leastHour, .int v_h_leastSet, .int v_h_shut, .ref h_planks])), (h_now, .inl (cI, 169, .inl f_h_now))] [(h, .inr (9, [.int v_h_thrown', .ref h_now, .ref h_aside, .int v_h_kept, .ref h_books, .ref h_tide, .ref h_rain, .ref h_rule, .int v_h_counted, .ref h_counts, .ref h_begins, .ref h_best, .int v_h_bestWorth, .int v_h_bestPitch, .int v_h_bestBits, .int v_h_leastHour, .int v_h_leastSet, .int v_h_shut, .ref h_planks])), (h_now, .inl (cI, 169, .inl f_h_now))] r := by
  refine k_enter (y := yX9_book) (wl := wsX9_book) (rm := rm_X9_book) (av := [.ref h, .int a1]) (D := D) (tys := k_tys cI cZ cJ cS) (ws := [(h, .inr (9, [.int v_h_thrown, .ref h_now, .ref h_aside, .int v_h_kept, .ref h_books, .ref h_tide, .ref h_rain, .ref h_rule, .int v_h_counted, .ref h_counts, .ref h_begins, .ref h_best, .int v_h_bestWorth, .int v_h_bestPitch, .int v_h_bestBits, .int v_h_leastHour, .int v_h_leastSet, .int v_h_shut, .ref h_planks])), (h_now, .inl (cI, 169, .inl f_h_now))]) (cc := cX9_book) (maxL := 4) (ret := (some .int)) (Qc := fun A => k_Qi D (k_tys cI cZ cJ cS) [(h, .inr (9, [.int v_h_thrown', .ref h_now, .ref h_aside, .int v_h_kept, .ref h_books, .ref h_tide, .ref h_rain, .ref h_rule, .int v_h_counted, .ref h_counts, .ref h_begins, .ref h_best, .int v_h_bestWorth, .int v_h_bestPitch, .int v_h_bestBits, .int v_h_leastHour, .int v_h_leastSet, .int v_h_shut, .ref h_planks])), (h_now, .inl (cI, 169, .inl f_h_now))] A r) (by decide) rfl (Nat.le_of_ble_eq_true rfl) [(0, .ref h), (1, .int a1)] rfl ?_
  intro p e s m below meth c A hx hb hml hr hlocks hnm hown hK hP hD hA hS hN ls args Q hts hl hQ
  replace hown : s.vm.findClass RX9 = some m.cls := hown
  have inX9 : ∀ w ∈ u_ws RX9 TX9 19, w ∈ wsX9_book := fun w h => List.mem_cons_of_mem _ (List.mem_append_right _ h)
  have wl1 : (Cond.fieldLink RX9 1 "BeachedShipModel" "thrown" "I").before args s = true := hts _ (List.mem_of_getElem? (i := 1) rfl)
  have wl2 : (Cond.fieldLink RX9 13 "BeachedShipModel" "now" "[I").before args s = true := hts _ (List.mem_of_getElem? (i := 2) rfl)
  have hRet : ∀ (r_z : Int32) (v_h_thrown_z : Int32), some (r_z, v_h_thrown_z) = some (r, v_h_thrown') → ∀ (H : Heap) (locs : List Loc) (ls : Array Slot) (pc : Nat), va_P D vwCl [(h, .inr (9, [.int v_h_thrown_z, .ref h_now, .ref h_aside, .int v_h_kept, .ref h_books, .ref h_tide, .ref h_rain, .ref h_rule, .int v_h_counted, .ref h_counts, .ref h_begins, .ref h_best, .int v_h_bestWorth, .int v_h_bestPitch, .int v_h_bestBits, .int v_h_leastHour, .int v_h_leastSet, .int v_h_shut, .ref h_planks])), (h_now, .inl (cI, 169, .inl f_h_now))] H → va_D A [(h, .inr (9, [.int v_h_thrown_z, .ref h_now, .ref h_aside, .int v_h_kept, .ref h_books, .ref h_tide, .ref h_rain, .ref h_rule, .int v_h_counted, .ref h_counts, .ref h_begins, .ref h_best, .int v_h_bestWorth, .int v_h_bestPitch, .int v_h_bestBits, .int v_h_leastHour, .int v_h_leastSet, .int v_h_shut, .ref h_planks])), (h_now, .inl (cI, 169, .inl f_h_now))] → va_S A s.heap H locs → narrow .int (.int r_z) = .int r_z → decode cX9_book pc = .ok (.ireturn, 1) → W p l e rm_X9_book s m args below meth c H locs 0 0 Q (F0 m pc ls [.int r_z]) := by
    intro r_z v_h_thrown_z hz H locs ls pc hP hD hS hn hd
    cases hz
    exact k_iret hx hb hr hlocks hn hK hP hD hS hQ rfl hd
  unfold p_X9_book at hf
  refine lv_aload_n hx hb dX9_book_0 rfl (lv_at hl 0 rfl) ?_
  refine lv_iconst (v := 0) hx hb dX9_book_1 (by decide) ?_
  refine k_putf (ws2 := [(h, .inr (9, [.int 0, .ref h_now, .ref h_aside, .int v_h_kept, .ref h_books, .ref h_tide, .ref h_rain, .ref h_rule, .int v_h_counted, .ref h_counts, .ref h_begins, .ref h_best, .int v_h_bestWorth, .int v_h_bestPitch, .int v_h_bestBits, .int v_h_leastHour, .int v_h_leastSet, .int v_h_shut, .ref h_planks])), (h_now, .inl (cI, 169, .inl f_h_now))]) (C := RX9) (T := TX9) (N := 19) hx hb hts inX9 tyX9 tyX9_ok nmX9 hown hK hP hD hS 0 rfl rfl 0 (by decide) rfl wl1 rfl rfl rfl (Nat.le_of_ble_eq_true rfl) rfl dX9_book_2 (fun H locs hP hD hS => ?_)
  refine lv_iload_n hx hb dX9_book_5 rfl (lv_at hl 1 rfl) ?_
  by_cases c1 : a1 = 0
  · replace hf := k_pos hf c1
    refine k_tsw (k := 0) (j := 0) (off := 38) (tgt := 44) hx hb dX9_book_6 c1 (by decide) (by decide) (by decide) rfl (by decide) ?_
    refine lv_aload_n hx hb dX9_book_44 rfl (lv_at hl 0 rfl) ?_
    refine k_get (C := RX9) (T := TX9) (N := 19) hx hb hts inX9 hown hK hP 0 rfl rfl 1 (by decide) rfl wl2 rfl dX9_book_45 ?_
    refine lv_bipush (v := 6) hx hb dX9_book_48 (by decide) ?_
    refine k_iald (k := 6) hx hb hK hP 1 0 rfl rfl (by unfold vp_in; decide) (by decide) dX9_book_50 ?_
    exact hRet _ _ hf _ _ _ _ hP hD hS rfl dX9_book_51
  · replace hf := k_neg hf c1
    by_cases c2 : a1 = 1
    · replace hf := k_pos hf c2
      refine k_tsw (k := 1) (j := 1) (off := 46) (tgt := 52) hx hb dX9_book_6 c2 (by decide) (by decide) (by decide) rfl (by decide) ?_
      refine lv_aload_n hx hb dX9_book_52 rfl (lv_at hl 0 rfl) ?_
      refine k_get (C := RX9) (T := TX9) (N := 19) hx hb hts inX9 hown hK hP 0 rfl rfl 1 (by decide) rfl wl2 rfl dX9_book_53 ?_
      refine lv_bipush (v := 7) hx hb dX9_book_56 (by decide) ?_
      refine k_iald (k := 7) hx hb hK hP 1 0 rfl rfl (by unfold vp_in; decide) (by decide) dX9_book_58 ?_
      exact hRet _ _ hf _ _ _ _ hP hD hS rfl dX9_book_59
    · replace hf := k_neg hf c2
      by_cases c3 : a1 = 2
      · replace hf := k_pos hf c3
        refine k_tsw (k := 2) (j := 2) (off := 54) (tgt := 60) hx hb dX9_book_6 c3 (by decide) (by decide) (by decide) rfl (by decide) ?_
        refine lv_aload_n hx hb dX9_book_60 rfl (lv_at hl 0 rfl) ?_
        refine k_get (C := RX9) (T := TX9) (N := 19) hx hb hts inX9 hown hK hP 0 rfl rfl 1 (by decide) rfl wl2 rfl dX9_book_61 ?_
        refine lv_bipush (v := 8) hx hb dX9_book_64 (by decide) ?_
        refine k_iald (k := 8) hx hb hK hP 1 0 rfl rfl (by unfold vp_in; decide) (by decide) dX9_book_66 ?_
        exact hRet _ _ hf _ _ _ _ hP hD hS rfl dX9_book_67
      · replace hf := k_neg hf c3
        by_cases c4 : a1 = 3
        · replace hf := k_pos hf c4
          refine k_tsw (k := 3) (j := 3) (off := 62) (tgt := 68) hx hb dX9_book_6 c4 (by decide) (by decide) (by decide) rfl (by decide) ?_
          refine lv_aload_n hx hb dX9_book_68 rfl (lv_at hl 0 rfl) ?_
          refine k_get (C := RX9) (T := TX9) (N := 19) hx hb hts inX9 hown hK hP 0 rfl rfl 1 (by decide) rfl wl2 rfl dX9_book_69 ?_
          refine lv_bipush (v := 9) hx hb dX9_book_72 (by decide) ?_
          refine k_iald (k := 9) hx hb hK hP 1 0 rfl rfl (by unfold vp_in; decide) (by decide) dX9_book_74 ?_
          exact hRet _ _ hf _ _ _ _ hP hD hS rfl dX9_book_75
        · replace hf := k_neg hf c4
          by_cases c5 : a1 = 4
          · replace hf := k_pos hf c5
            refine k_tsw (k := 4) (j := 4) (off := 70) (tgt := 76) hx hb dX9_book_6 c5 (by decide) (by decide) (by decide) rfl (by decide) ?_
            refine lv_iconst (v := 0) hx hb dX9_book_76 (by decide) ?_
            refine lv_istore_n (lv' := [(2, .int 0), (0, .ref h), (1, .int a1)]) hx hb dX9_book_77 rfl hl (by decide) rfl (fun ls hl => ?_)
            refine lv_iconst (v := 0) hx hb dX9_book_78 (by decide) ?_
            refine lv_istore_n (lv' := [(3, .int 0), (2, .int 0), (0, .ref h), (1, .int a1)]) hx hb dX9_book_79 rfl hl (by decide) rfl (fun ls hl => ?_)
            obtain ⟨ee16, hlp16, hfr16⟩ := k_b1_ee hf
            have hE16 : ∀ (x2_17 : Int32), ee16 = x2_17 → ∀ (H : Heap) (locs : List Loc) (ls : Array Slot), va_P D vwCl [(h, .inr (9, [.int 0, .ref h_now, .ref h_aside, .int v_h_kept, .ref h_books, .ref h_tide, .ref h_rain, .ref h_rule, .int v_h_counted, .ref h_counts, .ref h_begins, .ref h_best, .int v_h_bestWorth, .int v_h_bestPitch, .int v_h_bestBits, .int v_h_leastHour, .int v_h_leastSet, .int v_h_shut, .ref h_planks])), (h_now, .inl (cI, 169, .inl f_h_now))] H → va_D A [(h, .inr (9, [.int 0, .ref h_now, .ref h_aside, .int v_h_kept, .ref h_books, .ref h_tide, .ref h_rain, .ref h_rule, .int v_h_counted, .ref h_counts, .ref h_begins, .ref h_best, .int v_h_bestWorth, .int v_h_bestPitch, .int v_h_bestBits, .int v_h_leastHour, .int v_h_leastSet, .int v_h_shut, .ref h_planks])), (h_now, .inl (cI, 169, .inl f_h_now))] → va_S A s.heap H locs → lv_has ls 4 [(2, .int x2_17)] → W p l e rm_X9_book s m args below meth c H locs 0 0 Q (F0 m 128 ls []) := by
              intro x2_17 he H locs ls hP hD hS hl
              replace hf := hfr16 x2_17 he
              refine lv_iload_n hx hb dX9_book_128 rfl (lv_at hl 0 rfl) ?_
              exact hRet _ _ hf _ _ _ _ hP hD hS rfl dX9_book_129
            refine (k_lp_ind (fun sx16 => ∀ (H : Heap) (locs : List Loc) (ls : Array Slot), va_P D vwCl [(h, .inr (9, [.int 0, .ref h_now, .ref h_aside, .int v_h_kept, .ref h_books, .ref h_tide, .ref h_rain, .ref h_rule, .int v_h_counted, .ref h_counts, .ref h_begins, .ref h_best, .int v_h_bestWorth, .int v_h_bestPitch, .int v_h_bestBits, .int v_h_leastHour, .int v_h_leastSet, .int v_h_shut, .ref h_planks])), (h_now, .inl (cI, 169, .inl f_h_now))] H → va_D A [(h, .inr (9, [.int 0, .ref h_now, .ref h_aside, .int v_h_kept, .ref h_books, .ref h_tide, .ref h_rain, .ref h_rule, .int v_h_counted, .ref h_counts, .ref h_begins, .ref h_best, .int v_h_bestWorth, .int v_h_bestPitch, .int v_h_bestBits, .int v_h_leastHour, .int v_h_leastSet, .int v_h_shut, .ref h_planks])), (h_now, .inl (cI, 169, .inl f_h_now))] → va_S A s.heap H locs → lv_has ls 4 [(3, .int sx16.2), (2, .int sx16.1), (0, .ref h)] → W p l e rm_X9_book s m args below meth c H locs 0 0 Q (F0 m 80 ls [])) (fun sx16 X16 hX16 hin16 hout16 => ?_) _ _ hlp16) _ _ _ hP hD hS (lv_sub hl [0, 1, 2] rfl)
            obtain ⟨x2_18, x3_19⟩ := sx16
            intro H locs ls hP hD hS hl
            replace hP : va_P D vwCl [(h, .inr (9, [.int 0, .ref h_now, .ref h_aside, .int v_h_kept, .ref h_books, .ref h_tide, .ref h_rain, .ref h_rule, .int v_h_counted, .ref h_counts, .ref h_begins, .ref h_best, .int v_h_bestWorth, .int v_h_bestPitch, .int v_h_bestBits, .int v_h_leastHour, .int v_h_leastSet, .int v_h_shut, .ref h_planks])), (h_now, .inl (cI, 169, .inl f_h_now))] H := hP
            replace hD : va_D A [(h, .inr (9, [.int 0, .ref h_now, .ref h_aside, .int v_h_kept, .ref h_books, .ref h_tide, .ref h_rain, .ref h_rule, .int v_h_counted, .ref h_counts, .ref h_begins, .ref h_best, .int v_h_bestWorth, .int v_h_bestPitch, .int v_h_bestBits, .int v_h_leastHour, .int v_h_leastSet, .int v_h_shut, .ref h_planks])), (h_now, .inl (cI, 169, .inl f_h_now))] := hD
            replace hl : lv_has ls 4 [(3, .int x3_19), (2, .int x2_18), (0, .ref h)] := hl
            replace hX16 : lb_X9_book_80 f_h_now x2_18 x3_19 = some X16 := hX16
            unfold lb_X9_book_80 at hX16
            refine lv_iload_n hx hb dX9_book_80 rfl (lv_at hl 0 rfl) ?_
            refine lv_aload_n hx hb dX9_book_81 rfl (lv_at hl 2 rfl) ?_
            refine k_get (C := RX9) (T := TX9) (N := 19) hx hb hts inX9 hown hK hP 0 rfl rfl 1 (by decide) rfl wl2 rfl dX9_book_82 ?_
            refine lv_bipush (v := 12) hx hb dX9_book_85 (by decide) ?_
            refine k_iald (k := 12) hx hb hK hP 1 0 rfl rfl (by unfold vp_in; decide) (by decide) dX9_book_87 ?_
            refine lv_icmp_ge (tgt := 128) hx hb dX9_book_88 (by decide) (fun c20 => ?_) (fun c20 => ?_)
            · replace hX16 := k_pos hX16 c20
              exact hE16 _ (hout16 _ (Option.some.inj hX16).symm).symm _ _ _ hP hD hS (lv_sub hl [1] rfl)
            · replace hX16 := k_neg hX16 c20
              refine lv_iload_n hx hb dX9_book_91 rfl (lv_at hl 1 rfl) ?_
              refine lv_aload_n hx hb dX9_book_92 rfl (lv_at hl 2 rfl) ?_
              refine k_get (C := RX9) (T := TX9) (N := 19) hx hb hts inX9 hown hK hP 0 rfl rfl 1 (by decide) rfl wl2 rfl dX9_book_93 ?_
              refine lv_sipush (v := 145) hx hb dX9_book_96 (by decide) ?_
              refine lv_iload_n hx hb dX9_book_99 rfl (lv_at hl 0 rfl) ?_
              refine lv_iadd hx hb dX9_book_100 ?_
              obtain ⟨hi21, hX16⟩ := k_ix_some hX16
              refine k_iald (k := (145 + x3_19).toNatClampNeg) hx hb hK hP 1 0 rfl rfl hi21 rfl dX9_book_101 ?_
              refine lv_iconst (v := 2) hx hb dX9_book_102 (by decide) ?_
              refine lv_icmp_ne (tgt := 119) hx hb dX9_book_103 (by decide) (fun c22 => ?_) (fun c22 => ?_)
              · replace hX16 := k_neg hX16 c22
                refine lv_iconst (v := 0) hx hb dX9_book_119 (by decide) ?_
                refine lv_iadd hx hb dX9_book_120 ?_
                refine lv_istore_n (lv' := [(2, .int (x2_18 + 0)), (3, .int x3_19), (0, .ref h)]) hx hb dX9_book_121 rfl hl (by decide) rfl (fun ls hl => ?_)
                refine lv_iinc (v := x3_19 + 1) (lv' := [(3, .int (x3_19 + 1)), (2, .int (x2_18 + 0)), (0, .ref h)]) hx hb dX9_book_122 hl (k := 1) rfl rfl (by decide) rfl (fun ls hl => ?_)
                refine lv_goto (tgt := 80) hx hb dX9_book_125 (by decide) ?_
                exact hin16 (x2_18 + 0, x3_19 + 1) (Option.some.inj hX16).symm _ _ _ hP hD hS (lv_sub hl [0, 1, 2] rfl)
              · replace hX16 := k_pos hX16 c22
                refine lv_aload_n hx hb dX9_book_106 rfl (lv_at hl 2 rfl) ?_
                refine k_get (C := RX9) (T := TX9) (N := 19) hx hb hts inX9 hown hK hP 0 rfl rfl 1 (by decide) rfl wl2 rfl dX9_book_107 ?_
                refine lv_sipush (v := 133) hx hb dX9_book_110 (by decide) ?_
                refine lv_iload_n hx hb dX9_book_113 rfl (lv_at hl 0 rfl) ?_
                refine lv_iadd hx hb dX9_book_114 ?_
                obtain ⟨hi23, hX16⟩ := k_ix_some hX16
                refine k_iald (k := (133 + x3_19).toNatClampNeg) hx hb hK hP 1 0 rfl rfl hi23 rfl dX9_book_115 ?_
                refine lv_goto (tgt := 120) hx hb dX9_book_116 (by decide) ?_
                refine lv_iadd hx hb dX9_book_120 ?_
                refine lv_istore_n (lv' := [(2, .int (x2_18 + (f_h_now (133 + x3_19).toNatClampNeg))), (3, .int x3_19), (0, .ref h)]) hx hb dX9_book_121 rfl hl (by decide) rfl (fun ls hl => ?_)
                refine lv_iinc (v := x3_19 + 1) (lv' := [(3, .int (x3_19 + 1)), (2, .int (x2_18 + (f_h_now (133 + x3_19).toNatClampNeg))), (0, .ref h)]) hx hb dX9_book_122 hl (k := 1) rfl rfl (by decide) rfl (fun ls hl => ?_)
                refine lv_goto (tgt := 80) hx hb dX9_book_125 (by decide) ?_
                exact hin16 (x2_18 + (f_h_now (133 + x3_19).toNatClampNeg), x3_19 + 1) (Option.some.inj hX16).symm _ _ _ hP hD hS (lv_sub hl [0, 1, 2] rfl)
          · replace hf := k_neg hf c5
            by_cases c24 : a1 = 5
            · replace hf := k_pos hf c24
              refine k_tsw (k := 5) (j := 5) (off := 124) (tgt := 130) hx hb dX9_book_6 c24 (by decide) (by decide) (by decide) rfl (by decide) ?_
              refine lv_aload_n hx hb dX9_book_130 rfl (lv_at hl 0 rfl) ?_
              refine k_get (C := RX9) (T := TX9) (N := 19) hx hb hts inX9 hown hK hP 0 rfl rfl 1 (by decide) rfl wl2 rfl dX9_book_131 ?_
              refine lv_iconst (v := 5) hx hb dX9_book_134 (by decide) ?_
              refine k_iald (k := 5) hx hb hK hP 1 0 rfl rfl (by unfold vp_in; decide) (by decide) dX9_book_135 ?_
              exact hRet _ _ hf _ _ _ _ hP hD hS rfl dX9_book_136
            · replace hf := k_neg hf c24
              refine lv_tableOut (tgt := 137) hx hb dX9_book_6 (by have := k_ne_toInt c1; have e0 : (0 : Int32).toInt = 0 := (by decide); have := k_ne_toInt c2; have e1 : (1 : Int32).toInt = 1 := (by decide); have := k_ne_toInt c3; have e2 : (2 : Int32).toInt = 2 := (by decide); have := k_ne_toInt c4; have e3 : (3 : Int32).toInt = 3 := (by decide); have := k_ne_toInt c5; have e4 : (4 : Int32).toInt = 4 := (by decide); have := k_ne_toInt c24; have e5 : (5 : Int32).toInt = 5 := (by decide); omega) (by decide) ?_
              refine lv_iconst (v := (-1)) hx hb dX9_book_137 (by decide) ?_
              exact hRet _ _ hf _ _ _ _ hP hD hS rfl dX9_book_138

def lb_X9_keep_18 (v_h_kept : Int32) (f_h_now : Nat → Int32) (x1_10 : Int32) (c_h_books_11 : Nat → Int32) : Option ((Int32 × (Nat → Int32)) ⊕ ((Nat → Int32))) :=
  if 169 ≤ x1_10 then
    some (.inr c_h_books_11)
  else
    k_ix x1_10 169 (
      k_ix ((169 * v_h_kept) + x1_10) 507 (
        some (.inl (x1_10 + 1, upd c_h_books_11 ((169 * v_h_kept) + x1_10).toNatClampNeg (f_h_now x1_10.toNatClampNeg)))))
def p_X9_keep (v_h_kept : Int32) (f_h_now : Nat → Int32) (f_h_books : Nat → Int32) : Option (Int32 × Int32 × Int32 × (Nat → Int32)) :=
  if v_h_kept = 3 then
    some ((-3), 0, v_h_kept, f_h_books)
  else
    k_b1 (k_lp (fun s => lb_X9_keep_18 v_h_kept f_h_now s.1 s.2) k_fuel (0, f_h_books)) fun c_h_books_9 =>
    some (v_h_kept + 1, 0, v_h_kept + 1, c_h_books_9)
abbrev rm_X9_keep : Room := { frames := 0, cells := 0, slots := 0, locals := 0 }
theorem hdS_X9_keep : yX9_keep.cls ≠ "java/lang/invoke/MethodHandle" ∧ yX9_keep.cls ≠ "java/lang/invoke/VarHandle" ∧ (parseMethodDescriptor yX9_keep.desc).map (fun d => d.parameters.length) = some 0 := by decide +kernel
theorem hdV_X9_keep : yX9_keep.cls = RX9 ∧ yX9_keep.cls ≠ "java/lang/invoke/MethodHandle" ∧ yX9_keep.cls ≠ "java/lang/invoke/VarHandle" ∧ (parseMethodDescriptor yX9_keep.desc).map (fun d => d.parameters.length) = some 0 := by decide +kernel
set_option maxHeartbeats 4000000 in
set_option maxRecDepth 100000 in
theorem c_X9_keep (l : Launch) (D : va_G) (cI cZ cJ cS : ClassId) (h h_now h_aside h_books h_tide h_rain h_rule h_counts h_begins h_best h_planks : Nat) (v_h_thrown : Int32) (v_h_kept : Int32) (v_h_counted : Int32) (v_h_bestWorth : Int32) (v_h_bestPitch : Int32) (v_h_bestBits : Int32) (v_h_leastHour : Int32) (v_h_leastSet : Int32) (v_h_shut : Int32) (f_h_now : Nat → Int32) (f_h_books : Nat → Int32) (r : Int32) (v_h_thrown' : Int32) (v_h_kept' : Int32) (f_h_books' : Nat → Int32) (hf : p_X9_keep v_h_kept f_h_now f_h_books = some (r, v_h_thrown', v_h_kept', f_h_books')) : k_MI l yX9_keep wsX9_keep rm_X9_keep D (k_tys cI cZ cJ cS) [.ref h] [(h, .inr (9, [.int v_h_thrown, .ref h_now, .ref h_aside, .int v_h_kept, .ref h_books, .ref h_tide, .ref h_rain, .ref h_rule, .int v_h_counted, .ref h_counts, .ref h_begins, .ref h_best, .int v_h_bestWorth, .int v_h_bestPitch, .int v_h_bestBits, .int v_h_leastHour, .int v_h_leastSet, .int v_h_shut, .ref h_planks])), (h_now, .inl (cI, 169, .inl f_h_now)), (h_books, .inl (cI, 507, .inl f_h_books))] [(h, .inr (9, [.int v_h_thrown', .ref h_now, .ref h_aside, .int v_h_kept', .ref h_books, .ref h_tide, .ref h_rain, .ref h_rule, .int v_h_counted, .ref h_counts, .ref h_begins, .ref h_best, .int v_h_bestWorth, .int v_h_bestPitch, .int v_h_bestBits, .int v_h_leastHour, .int v_h_leastSet, .int v_h_shut, .ref h_planks])), (h_now, .inl (cI, 169, .inl f_h_now)), (h_books, .inl (cI, 507, .inl f_h_books'))] r := by
  refine k_enter (y := yX9_keep) (wl := wsX9_keep) (rm := rm_X9_keep) (av := [.ref h]) (D := D) (tys := k_tys cI cZ cJ cS) (ws := [(h, .inr (9, [.int v_h_thrown, .ref h_now, .ref h_aside, .int v_h_kept, .ref h_books, .ref h_tide, .ref h_rain, .ref h_rule, .int v_h_counted, .ref h_counts, .ref h_begins, .ref h_best, .int v_h_bestWorth, .int v_h_bestPitch, .int v_h_bestBits, .int v_h_leastHour, .int v_h_leastSet, .int v_h_shut, .ref h_planks])), (h_now, .inl (cI, 169, .inl f_h_now)), (h_books, .inl (cI, 507, .inl f_h_books))]) (cc := cX9_keep) (maxL := 2) (ret := (some .int)) (Qc := fun A => k_Qi D (k_tys cI cZ cJ cS) [(h, .inr (9, [.int v_h_thrown', .ref h_now, .ref h_aside, .int v_h_kept', .ref h_books, .ref h_tide, .ref h_rain, .ref h_rule, .int v_h_counted, .ref h_counts, .ref h_begins, .ref h_best, .int v_h_bestWorth, .int v_h_bestPitch, .int v_h_bestBits, .int v_h_leastHour, .int v_h_leastSet, .int v_h_shut, .ref h_planks])), (h_now, .inl (cI, 169, .inl f_h_now)), (h_books, .inl (cI, 507, .inl f_h_books'))] A r) (by decide) rfl (Nat.le_of_ble_eq_true rfl) [(0, .ref h)] rfl ?_
  intro p e s m below meth c A hx hb hml hr hlocks hnm hown hK hP hD hA hS hN ls args Q hts hl hQ
  replace hown : s.vm.findClass RX9 = some m.cls := hown
  have inX9 : ∀ w ∈ u_ws RX9 TX9 19, w ∈ wsX9_keep := fun w h => List.mem_cons_of_mem _ (List.mem_append_right _ h)
  have wl1 : (Cond.fieldLink RX9 1 "BeachedShipModel" "thrown" "I").before args s = true := hts _ (List.mem_of_getElem? (i := 1) rfl)
  have wl2 : (Cond.fieldLink RX9 181 "BeachedShipModel" "kept" "I").before args s = true := hts _ (List.mem_of_getElem? (i := 2) rfl)
  have wl3 : (Cond.fieldLink RX9 20 "BeachedShipModel" "books" "[I").before args s = true := hts _ (List.mem_of_getElem? (i := 3) rfl)
  have wl4 : (Cond.fieldLink RX9 13 "BeachedShipModel" "now" "[I").before args s = true := hts _ (List.mem_of_getElem? (i := 4) rfl)
  have hRet : ∀ (r_z : Int32) (v_h_thrown_z : Int32) (v_h_kept_z : Int32) (f_h_books_z : Nat → Int32), some (r_z, v_h_thrown_z, v_h_kept_z, f_h_books_z) = some (r, v_h_thrown', v_h_kept', f_h_books') → ∀ (H : Heap) (locs : List Loc) (ls : Array Slot) (pc : Nat), va_P D vwCl [(h, .inr (9, [.int v_h_thrown_z, .ref h_now, .ref h_aside, .int v_h_kept_z, .ref h_books, .ref h_tide, .ref h_rain, .ref h_rule, .int v_h_counted, .ref h_counts, .ref h_begins, .ref h_best, .int v_h_bestWorth, .int v_h_bestPitch, .int v_h_bestBits, .int v_h_leastHour, .int v_h_leastSet, .int v_h_shut, .ref h_planks])), (h_now, .inl (cI, 169, .inl f_h_now)), (h_books, .inl (cI, 507, .inl f_h_books_z))] H → va_D A [(h, .inr (9, [.int v_h_thrown_z, .ref h_now, .ref h_aside, .int v_h_kept_z, .ref h_books, .ref h_tide, .ref h_rain, .ref h_rule, .int v_h_counted, .ref h_counts, .ref h_begins, .ref h_best, .int v_h_bestWorth, .int v_h_bestPitch, .int v_h_bestBits, .int v_h_leastHour, .int v_h_leastSet, .int v_h_shut, .ref h_planks])), (h_now, .inl (cI, 169, .inl f_h_now)), (h_books, .inl (cI, 507, .inl f_h_books_z))] → va_S A s.heap H locs → narrow .int (.int r_z) = .int r_z → decode cX9_keep pc = .ok (.ireturn, 1) → W p l e rm_X9_keep s m args below meth c H locs 0 0 Q (F0 m pc ls [.int r_z]) := by
    intro r_z v_h_thrown_z v_h_kept_z f_h_books_z hz H locs ls pc hP hD hS hn hd
    cases hz
    exact k_iret hx hb hr hlocks hn hK hP hD hS hQ rfl hd
  unfold p_X9_keep at hf
  refine lv_aload_n hx hb dX9_keep_0 rfl (lv_at hl 0 rfl) ?_
  refine lv_iconst (v := 0) hx hb dX9_keep_1 (by decide) ?_
  refine k_putf (ws2 := [(h, .inr (9, [.int 0, .ref h_now, .ref h_aside, .int v_h_kept, .ref h_books, .ref h_tide, .ref h_rain, .ref h_rule, .int v_h_counted, .ref h_counts, .ref h_begins, .ref h_best, .int v_h_bestWorth, .int v_h_bestPitch, .int v_h_bestBits, .int v_h_leastHour, .int v_h_leastSet, .int v_h_shut, .ref h_planks])), (h_now, .inl (cI, 169, .inl f_h_now)), (h_books, .inl (cI, 507, .inl f_h_books))]) (C := RX9) (T := TX9) (N := 19) hx hb hts inX9 tyX9 tyX9_ok nmX9 hown hK hP hD hS 0 rfl rfl 0 (by decide) rfl wl1 rfl rfl rfl (Nat.le_of_ble_eq_true rfl) rfl dX9_keep_2 (fun H locs hP hD hS => ?_)
  refine lv_aload_n hx hb dX9_keep_5 rfl (lv_at hl 0 rfl) ?_
  refine k_get (C := RX9) (T := TX9) (N := 19) hx hb hts inX9 hown hK hP 0 rfl rfl 3 (by decide) rfl wl2 rfl dX9_keep_6 ?_
  refine lv_iconst (v := 3) hx hb dX9_keep_9 (by decide) ?_
  refine lv_icmp_ne (tgt := 16) hx hb dX9_keep_10 (by decide) (fun c1 => ?_) (fun c1 => ?_)
  · replace hf := k_neg hf c1
    refine lv_iconst (v := 0) hx hb dX9_keep_16 (by decide) ?_
    refine lv_istore_n (lv' := [(1, .int 0), (0, .ref h)]) hx hb dX9_keep_17 rfl hl (by decide) rfl (fun ls hl => ?_)
    obtain ⟨ee8, hlp8, hfr8⟩ := k_b1_ee hf
    have hE8 : ∀ (c_h_books_9 : Nat → Int32), ee8 = c_h_books_9 → ∀ (H : Heap) (locs : List Loc) (ls : Array Slot), va_P D vwCl [(h, .inr (9, [.int 0, .ref h_now, .ref h_aside, .int v_h_kept, .ref h_books, .ref h_tide, .ref h_rain, .ref h_rule, .int v_h_counted, .ref h_counts, .ref h_begins, .ref h_best, .int v_h_bestWorth, .int v_h_bestPitch, .int v_h_bestBits, .int v_h_leastHour, .int v_h_leastSet, .int v_h_shut, .ref h_planks])), (h_now, .inl (cI, 169, .inl f_h_now)), (h_books, .inl (cI, 507, .inl c_h_books_9))] H → va_D A [(h, .inr (9, [.int 0, .ref h_now, .ref h_aside, .int v_h_kept, .ref h_books, .ref h_tide, .ref h_rain, .ref h_rule, .int v_h_counted, .ref h_counts, .ref h_begins, .ref h_best, .int v_h_bestWorth, .int v_h_bestPitch, .int v_h_bestBits, .int v_h_leastHour, .int v_h_leastSet, .int v_h_shut, .ref h_planks])), (h_now, .inl (cI, 169, .inl f_h_now)), (h_books, .inl (cI, 507, .inl c_h_books_9))] → va_S A s.heap H locs → lv_has ls 2 [(0, .ref h)] → W p l e rm_X9_keep s m args below meth c H locs 0 0 Q (F0 m 52 ls []) := by
      intro c_h_books_9 he H locs ls hP hD hS hl
      replace hf := hfr8 c_h_books_9 he
      refine lv_aload_n hx hb dX9_keep_52 rfl (lv_at hl 0 rfl) ?_
      refine lv_dup hx hb dX9_keep_53 rfl ?_
      refine k_get (C := RX9) (T := TX9) (N := 19) hx hb hts inX9 hown hK hP 0 rfl rfl 3 (by decide) rfl wl2 rfl dX9_keep_54 ?_
      refine lv_iconst (v := 1) hx hb dX9_keep_57 (by decide) ?_
      refine lv_iadd hx hb dX9_keep_58 ?_
      refine k_putf (ws2 := [(h, .inr (9, [.int 0, .ref h_now, .ref h_aside, .int (v_h_kept + 1), .ref h_books, .ref h_tide, .ref h_rain, .ref h_rule, .int v_h_counted, .ref h_counts, .ref h_begins, .ref h_best, .int v_h_bestWorth, .int v_h_bestPitch, .int v_h_bestBits, .int v_h_leastHour, .int v_h_leastSet, .int v_h_shut, .ref h_planks])), (h_now, .inl (cI, 169, .inl f_h_now)), (h_books, .inl (cI, 507, .inl c_h_books_9))]) (C := RX9) (T := TX9) (N := 19) hx hb hts inX9 tyX9 tyX9_ok nmX9 hown hK hP hD hS 0 rfl rfl 3 (by decide) rfl wl2 rfl rfl rfl (Nat.le_of_ble_eq_true rfl) rfl dX9_keep_59 (fun H locs hP hD hS => ?_)
      refine lv_aload_n hx hb dX9_keep_62 rfl (lv_at hl 0 rfl) ?_
      refine k_get (C := RX9) (T := TX9) (N := 19) hx hb hts inX9 hown hK hP 0 rfl rfl 3 (by decide) rfl wl2 rfl dX9_keep_63 ?_
      exact hRet _ _ _ _ hf _ _ _ _ hP hD hS rfl dX9_keep_66
    refine (k_lp_ind (fun sx8 => ∀ (H : Heap) (locs : List Loc) (ls : Array Slot), va_P D vwCl [(h, .inr (9, [.int 0, .ref h_now, .ref h_aside, .int v_h_kept, .ref h_books, .ref h_tide, .ref h_rain, .ref h_rule, .int v_h_counted, .ref h_counts, .ref h_begins, .ref h_best, .int v_h_bestWorth, .int v_h_bestPitch, .int v_h_bestBits, .int v_h_leastHour, .int v_h_leastSet, .int v_h_shut, .ref h_planks])), (h_now, .inl (cI, 169, .inl f_h_now)), (h_books, .inl (cI, 507, .inl sx8.2))] H → va_D A [(h, .inr (9, [.int 0, .ref h_now, .ref h_aside, .int v_h_kept, .ref h_books, .ref h_tide, .ref h_rain, .ref h_rule, .int v_h_counted, .ref h_counts, .ref h_begins, .ref h_best, .int v_h_bestWorth, .int v_h_bestPitch, .int v_h_bestBits, .int v_h_leastHour, .int v_h_leastSet, .int v_h_shut, .ref h_planks])), (h_now, .inl (cI, 169, .inl f_h_now)), (h_books, .inl (cI, 507, .inl sx8.2))] → va_S A s.heap H locs → lv_has ls 2 [(1, .int sx8.1), (0, .ref h)] → W p l e rm_X9_keep s m args below meth c H locs 0 0 Q (F0 m 18 ls [])) (fun sx8 X8 hX8 hin8 hout8 => ?_) _ _ hlp8) _ _ _ hP hD hS (lv_sub hl [0, 1] rfl)
    obtain ⟨x1_10, c_h_books_11⟩ := sx8
    intro H locs ls hP hD hS hl
    replace hP : va_P D vwCl [(h, .inr (9, [.int 0, .ref h_now, .ref h_aside, .int v_h_kept, .ref h_books, .ref h_tide, .ref h_rain, .ref h_rule, .int v_h_counted, .ref h_counts, .ref h_begins, .ref h_best, .int v_h_bestWorth, .int v_h_bestPitch, .int v_h_bestBits, .int v_h_leastHour, .int v_h_leastSet, .int v_h_shut, .ref h_planks])), (h_now, .inl (cI, 169, .inl f_h_now)), (h_books, .inl (cI, 507, .inl c_h_books_11))] H := hP
    replace hD : va_D A [(h, .inr (9, [.int 0, .ref h_now, .ref h_aside, .int v_h_kept, .ref h_books, .ref h_tide, .ref h_rain, .ref h_rule, .int v_h_counted, .ref h_counts, .ref h_begins, .ref h_best, .int v_h_bestWorth, .int v_h_bestPitch, .int v_h_bestBits, .int v_h_leastHour, .int v_h_leastSet, .int v_h_shut, .ref h_planks])), (h_now, .inl (cI, 169, .inl f_h_now)), (h_books, .inl (cI, 507, .inl c_h_books_11))] := hD
    replace hl : lv_has ls 2 [(1, .int x1_10), (0, .ref h)] := hl
    replace hX8 : lb_X9_keep_18 v_h_kept f_h_now x1_10 c_h_books_11 = some X8 := hX8
    unfold lb_X9_keep_18 at hX8
    refine lv_iload_n hx hb dX9_keep_18 rfl (lv_at hl 0 rfl) ?_
    refine lv_sipush (v := 169) hx hb dX9_keep_19 (by decide) ?_
    refine lv_icmp_ge (tgt := 52) hx hb dX9_keep_22 (by decide) (fun c12 => ?_) (fun c12 => ?_)
    · replace hX8 := k_pos hX8 c12
      exact hE8 _ (hout8 _ (Option.some.inj hX8).symm).symm _ _ _ hP hD hS (lv_sub hl [1] rfl)
    · replace hX8 := k_neg hX8 c12
      refine lv_aload_n hx hb dX9_keep_25 rfl (lv_at hl 1 rfl) ?_
      refine k_get (C := RX9) (T := TX9) (N := 19) hx hb hts inX9 hown hK hP 0 rfl rfl 4 (by decide) rfl wl3 rfl dX9_keep_26 ?_
      refine lv_sipush (v := 169) hx hb dX9_keep_29 (by decide) ?_
      refine lv_aload_n hx hb dX9_keep_32 rfl (lv_at hl 1 rfl) ?_
      refine k_get (C := RX9) (T := TX9) (N := 19) hx hb hts inX9 hown hK hP 0 rfl rfl 3 (by decide) rfl wl2 rfl dX9_keep_33 ?_
      refine lv_imul hx hb dX9_keep_36 ?_
      refine lv_iload_n hx hb dX9_keep_37 rfl (lv_at hl 0 rfl) ?_
      refine lv_iadd hx hb dX9_keep_38 ?_
      refine lv_aload_n hx hb dX9_keep_39 rfl (lv_at hl 1 rfl) ?_
      refine k_get (C := RX9) (T := TX9) (N := 19) hx hb hts inX9 hown hK hP 0 rfl rfl 1 (by decide) rfl wl4 rfl dX9_keep_40 ?_
      refine lv_iload_n hx hb dX9_keep_43 rfl (lv_at hl 0 rfl) ?_
      obtain ⟨hi13, hX8⟩ := k_ix_some hX8
      refine k_iald (k := x1_10.toNatClampNeg) hx hb hK hP 1 0 rfl rfl hi13 rfl dX9_keep_44 ?_
      obtain ⟨hi14, hX8⟩ := k_ix_some hX8
      refine k_iast (ws2 := [(h, .inr (9, [.int 0, .ref h_now, .ref h_aside, .int v_h_kept, .ref h_books, .ref h_tide, .ref h_rain, .ref h_rule, .int v_h_counted, .ref h_counts, .ref h_begins, .ref h_best, .int v_h_bestWorth, .int v_h_bestPitch, .int v_h_bestBits, .int v_h_leastHour, .int v_h_leastSet, .int v_h_shut, .ref h_planks])), (h_now, .inl (cI, 169, .inl f_h_now)), (h_books, .inl (cI, 507, .inl (upd c_h_books_11 ((169 * v_h_kept) + x1_10).toNatClampNeg (f_h_now x1_10.toNatClampNeg))))]) (k := ((169 * v_h_kept) + x1_10).toNatClampNeg) hx hb hK hP hD hS 2 0 rfl rfl hi14 rfl rfl dX9_keep_45 (fun H locs hP hD hS => ?_)
      refine lv_iinc (v := x1_10 + 1) (lv' := [(1, .int (x1_10 + 1)), (0, .ref h)]) hx hb dX9_keep_46 hl (k := 0) rfl rfl (by decide) rfl (fun ls hl => ?_)
      refine lv_goto (tgt := 18) hx hb dX9_keep_49 (by decide) ?_
      exact hin8 (x1_10 + 1, upd c_h_books_11 ((169 * v_h_kept) + x1_10).toNatClampNeg (f_h_now x1_10.toNatClampNeg)) (Option.some.inj hX8).symm _ _ _ hP hD hS (lv_sub hl [0, 1] rfl)
  · replace hf := k_pos hf c1
    refine lv_bipush (v := (-3)) hx hb dX9_keep_13 (by decide) ?_
    exact hRet _ _ _ _ hf _ _ _ _ hP hD hS rfl dX9_keep_15

def lb_X9_back_27 (v_h_kept : Int32) (f_h_books : Nat → Int32) (x1_10 : Int32) (c_h_now_11 : Nat → Int32) : Option ((Int32 × (Nat → Int32)) ⊕ ((Nat → Int32))) :=
  if 169 ≤ x1_10 then
    some (.inr c_h_now_11)
  else
    k_ix ((169 * (v_h_kept - 1)) + x1_10) 507 (
      k_ix x1_10 169 (
        some (.inl (x1_10 + 1, upd c_h_now_11 x1_10.toNatClampNeg (f_h_books ((169 * (v_h_kept - 1)) + x1_10).toNatClampNeg)))))
def p_X9_back (v_h_kept : Int32) (f_h_books : Nat → Int32) (f_h_now : Nat → Int32) : Option (Int32 × Int32 × Int32 × (Nat → Int32)) :=
  if v_h_kept = 0 then
    some ((-2), 0, v_h_kept, f_h_now)
  else
    k_b1 (k_lp (fun s => lb_X9_back_27 v_h_kept f_h_books s.1 s.2) k_fuel (0, f_h_now)) fun c_h_now_9 =>
    some (v_h_kept - 1, 0, v_h_kept - 1, c_h_now_9)
abbrev rm_X9_back : Room := { frames := 0, cells := 0, slots := 0, locals := 0 }
theorem hdS_X9_back : yX9_back.cls ≠ "java/lang/invoke/MethodHandle" ∧ yX9_back.cls ≠ "java/lang/invoke/VarHandle" ∧ (parseMethodDescriptor yX9_back.desc).map (fun d => d.parameters.length) = some 0 := by decide +kernel
theorem hdV_X9_back : yX9_back.cls = RX9 ∧ yX9_back.cls ≠ "java/lang/invoke/MethodHandle" ∧ yX9_back.cls ≠ "java/lang/invoke/VarHandle" ∧ (parseMethodDescriptor yX9_back.desc).map (fun d => d.parameters.length) = some 0 := by decide +kernel
set_option maxHeartbeats 4000000 in
set_option maxRecDepth 100000 in
theorem c_X9_back (l : Launch) (D : va_G) (cI cZ cJ cS : ClassId) (h h_now h_aside h_books h_tide h_rain h_rule h_counts h_begins h_best h_planks : Nat) (v_h_thrown : Int32) (v_h_kept : Int32) (v_h_counted : Int32) (v_h_bestWorth : Int32) (v_h_bestPitch : Int32) (v_h_bestBits : Int32) (v_h_leastHour : Int32) (v_h_leastSet : Int32) (v_h_shut : Int32) (f_h_books : Nat → Int32) (f_h_now : Nat → Int32) (r : Int32) (v_h_thrown' : Int32) (v_h_kept' : Int32) (f_h_now' : Nat → Int32) (hf : p_X9_back v_h_kept f_h_books f_h_now = some (r, v_h_thrown', v_h_kept', f_h_now')) : k_MI l yX9_back wsX9_back rm_X9_back D (k_tys cI cZ cJ cS) [.ref h] [(h, .inr (9, [.int v_h_thrown, .ref h_now, .ref h_aside, .int v_h_kept, .ref h_books, .ref h_tide, .ref h_rain, .ref h_rule, .int v_h_counted, .ref h_counts, .ref h_begins, .ref h_best, .int v_h_bestWorth, .int v_h_bestPitch, .int v_h_bestBits, .int v_h_leastHour, .int v_h_leastSet, .int v_h_shut, .ref h_planks])), (h_books, .inl (cI, 507, .inl f_h_books)), (h_now, .inl (cI, 169, .inl f_h_now))] [(h, .inr (9, [.int v_h_thrown', .ref h_now, .ref h_aside, .int v_h_kept', .ref h_books, .ref h_tide, .ref h_rain, .ref h_rule, .int v_h_counted, .ref h_counts, .ref h_begins, .ref h_best, .int v_h_bestWorth, .int v_h_bestPitch, .int v_h_bestBits, .int v_h_leastHour, .int v_h_leastSet, .int v_h_shut, .ref h_planks])), (h_books, .inl (cI, 507, .inl f_h_books)), (h_now, .inl (cI, 169, .inl f_h_now'))] r := by
  refine k_enter (y := yX9_back) (wl := wsX9_back) (rm := rm_X9_back) (av := [.ref h]) (D := D) (tys := k_tys cI cZ cJ cS) (ws := [(h, .inr (9, [.int v_h_thrown, .ref h_now, .ref h_aside, .int v_h_kept, .ref h_books, .ref h_tide, .ref h_rain, .ref h_rule, .int v_h_counted, .ref h_counts, .ref h_begins, .ref h_best, .int v_h_bestWorth, .int v_h_bestPitch, .int v_h_bestBits, .int v_h_leastHour, .int v_h_leastSet, .int v_h_shut, .ref h_planks])), (h_books, .inl (cI, 507, .inl f_h_books)), (h_now, .inl (cI, 169, .inl f_h_now))]) (cc := cX9_back) (maxL := 2) (ret := (some .int)) (Qc := fun A => k_Qi D (k_tys cI cZ cJ cS) [(h, .inr (9, [.int v_h_thrown', .ref h_now, .ref h_aside, .int v_h_kept', .ref h_books, .ref h_tide, .ref h_rain, .ref h_rule, .int v_h_counted, .ref h_counts, .ref h_begins, .ref h_best, .int v_h_bestWorth, .int v_h_bestPitch, .int v_h_bestBits, .int v_h_leastHour, .int v_h_leastSet, .int v_h_shut, .ref h_planks])), (h_books, .inl (cI, 507, .inl f_h_books)), (h_now, .inl (cI, 169, .inl f_h_now'))] A r) (by decide) rfl (Nat.le_of_ble_eq_true rfl) [(0, .ref h)] rfl ?_
  intro p e s m below meth c A hx hb hml hr hlocks hnm hown hK hP hD hA hS hN ls args Q hts hl hQ
  replace hown : s.vm.findClass RX9 = some m.cls := hown
  have inX9 : ∀ w ∈ u_ws RX9 TX9 19, w ∈ wsX9_back := fun w h => List.mem_cons_of_mem _ (List.mem_append_right _ h)
  have wl1 : (Cond.fieldLink RX9 1 "BeachedShipModel" "thrown" "I").before args s = true := hts _ (List.mem_of_getElem? (i := 1) rfl)
  have wl2 : (Cond.fieldLink RX9 181 "BeachedShipModel" "kept" "I").before args s = true := hts _ (List.mem_of_getElem? (i := 2) rfl)
  have wl3 : (Cond.fieldLink RX9 13 "BeachedShipModel" "now" "[I").before args s = true := hts _ (List.mem_of_getElem? (i := 3) rfl)
  have wl4 : (Cond.fieldLink RX9 20 "BeachedShipModel" "books" "[I").before args s = true := hts _ (List.mem_of_getElem? (i := 4) rfl)
  have hRet : ∀ (r_z : Int32) (v_h_thrown_z : Int32) (v_h_kept_z : Int32) (f_h_now_z : Nat → Int32), some (r_z, v_h_thrown_z, v_h_kept_z, f_h_now_z) = some (r, v_h_thrown', v_h_kept', f_h_now') → ∀ (H : Heap) (locs : List Loc) (ls : Array Slot) (pc : Nat), va_P D vwCl [(h, .inr (9, [.int v_h_thrown_z, .ref h_now, .ref h_aside, .int v_h_kept_z, .ref h_books, .ref h_tide, .ref h_rain, .ref h_rule, .int v_h_counted, .ref h_counts, .ref h_begins, .ref h_best, .int v_h_bestWorth, .int v_h_bestPitch, .int v_h_bestBits, .int v_h_leastHour, .int v_h_leastSet, .int v_h_shut, .ref h_planks])), (h_books, .inl (cI, 507, .inl f_h_books)), (h_now, .inl (cI, 169, .inl f_h_now_z))] H → va_D A [(h, .inr (9, [.int v_h_thrown_z, .ref h_now, .ref h_aside, .int v_h_kept_z, .ref h_books, .ref h_tide, .ref h_rain, .ref h_rule, .int v_h_counted, .ref h_counts, .ref h_begins, .ref h_best, .int v_h_bestWorth, .int v_h_bestPitch, .int v_h_bestBits, .int v_h_leastHour, .int v_h_leastSet, .int v_h_shut, .ref h_planks])), (h_books, .inl (cI, 507, .inl f_h_books)), (h_now, .inl (cI, 169, .inl f_h_now_z))] → va_S A s.heap H locs → narrow .int (.int r_z) = .int r_z → decode cX9_back pc = .ok (.ireturn, 1) → W p l e rm_X9_back s m args below meth c H locs 0 0 Q (F0 m pc ls [.int r_z]) := by
    intro r_z v_h_thrown_z v_h_kept_z f_h_now_z hz H locs ls pc hP hD hS hn hd
    cases hz
    exact k_iret hx hb hr hlocks hn hK hP hD hS hQ rfl hd
  unfold p_X9_back at hf
  refine lv_aload_n hx hb dX9_back_0 rfl (lv_at hl 0 rfl) ?_
  refine lv_iconst (v := 0) hx hb dX9_back_1 (by decide) ?_
  refine k_putf (ws2 := [(h, .inr (9, [.int 0, .ref h_now, .ref h_aside, .int v_h_kept, .ref h_books, .ref h_tide, .ref h_rain, .ref h_rule, .int v_h_counted, .ref h_counts, .ref h_begins, .ref h_best, .int v_h_bestWorth, .int v_h_bestPitch, .int v_h_bestBits, .int v_h_leastHour, .int v_h_leastSet, .int v_h_shut, .ref h_planks])), (h_books, .inl (cI, 507, .inl f_h_books)), (h_now, .inl (cI, 169, .inl f_h_now))]) (C := RX9) (T := TX9) (N := 19) hx hb hts inX9 tyX9 tyX9_ok nmX9 hown hK hP hD hS 0 rfl rfl 0 (by decide) rfl wl1 rfl rfl rfl (Nat.le_of_ble_eq_true rfl) rfl dX9_back_2 (fun H locs hP hD hS => ?_)
  refine lv_aload_n hx hb dX9_back_5 rfl (lv_at hl 0 rfl) ?_
  refine k_get (C := RX9) (T := TX9) (N := 19) hx hb hts inX9 hown hK hP 0 rfl rfl 3 (by decide) rfl wl2 rfl dX9_back_6 ?_
  refine lv_if_ne (tgt := 15) hx hb dX9_back_9 (by decide) (fun c1 => ?_) (fun c1 => ?_)
  · replace hf := k_neg hf c1
    refine lv_aload_n hx hb dX9_back_15 rfl (lv_at hl 0 rfl) ?_
    refine lv_dup hx hb dX9_back_16 rfl ?_
    refine k_get (C := RX9) (T := TX9) (N := 19) hx hb hts inX9 hown hK hP 0 rfl rfl 3 (by decide) rfl wl2 rfl dX9_back_17 ?_
    refine lv_iconst (v := 1) hx hb dX9_back_20 (by decide) ?_
    refine lv_isub hx hb dX9_back_21 ?_
    refine k_putf (ws2 := [(h, .inr (9, [.int 0, .ref h_now, .ref h_aside, .int (v_h_kept - 1), .ref h_books, .ref h_tide, .ref h_rain, .ref h_rule, .int v_h_counted, .ref h_counts, .ref h_begins, .ref h_best, .int v_h_bestWorth, .int v_h_bestPitch, .int v_h_bestBits, .int v_h_leastHour, .int v_h_leastSet, .int v_h_shut, .ref h_planks])), (h_books, .inl (cI, 507, .inl f_h_books)), (h_now, .inl (cI, 169, .inl f_h_now))]) (C := RX9) (T := TX9) (N := 19) hx hb hts inX9 tyX9 tyX9_ok nmX9 hown hK hP hD hS 0 rfl rfl 3 (by decide) rfl wl2 rfl rfl rfl (Nat.le_of_ble_eq_true rfl) rfl dX9_back_22 (fun H locs hP hD hS => ?_)
    refine lv_iconst (v := 0) hx hb dX9_back_25 (by decide) ?_
    refine lv_istore_n (lv' := [(1, .int 0), (0, .ref h)]) hx hb dX9_back_26 rfl hl (by decide) rfl (fun ls hl => ?_)
    obtain ⟨ee8, hlp8, hfr8⟩ := k_b1_ee hf
    have hE8 : ∀ (c_h_now_9 : Nat → Int32), ee8 = c_h_now_9 → ∀ (H : Heap) (locs : List Loc) (ls : Array Slot), va_P D vwCl [(h, .inr (9, [.int 0, .ref h_now, .ref h_aside, .int (v_h_kept - 1), .ref h_books, .ref h_tide, .ref h_rain, .ref h_rule, .int v_h_counted, .ref h_counts, .ref h_begins, .ref h_best, .int v_h_bestWorth, .int v_h_bestPitch, .int v_h_bestBits, .int v_h_leastHour, .int v_h_leastSet, .int v_h_shut, .ref h_planks])), (h_books, .inl (cI, 507, .inl f_h_books)), (h_now, .inl (cI, 169, .inl c_h_now_9))] H → va_D A [(h, .inr (9, [.int 0, .ref h_now, .ref h_aside, .int (v_h_kept - 1), .ref h_books, .ref h_tide, .ref h_rain, .ref h_rule, .int v_h_counted, .ref h_counts, .ref h_begins, .ref h_best, .int v_h_bestWorth, .int v_h_bestPitch, .int v_h_bestBits, .int v_h_leastHour, .int v_h_leastSet, .int v_h_shut, .ref h_planks])), (h_books, .inl (cI, 507, .inl f_h_books)), (h_now, .inl (cI, 169, .inl c_h_now_9))] → va_S A s.heap H locs → lv_has ls 2 [(0, .ref h)] → W p l e rm_X9_back s m args below meth c H locs 0 0 Q (F0 m 61 ls []) := by
      intro c_h_now_9 he H locs ls hP hD hS hl
      replace hf := hfr8 c_h_now_9 he
      refine lv_aload_n hx hb dX9_back_61 rfl (lv_at hl 0 rfl) ?_
      refine k_get (C := RX9) (T := TX9) (N := 19) hx hb hts inX9 hown hK hP 0 rfl rfl 3 (by decide) rfl wl2 rfl dX9_back_62 ?_
      exact hRet _ _ _ _ hf _ _ _ _ hP hD hS rfl dX9_back_65
    refine (k_lp_ind (fun sx8 => ∀ (H : Heap) (locs : List Loc) (ls : Array Slot), va_P D vwCl [(h, .inr (9, [.int 0, .ref h_now, .ref h_aside, .int (v_h_kept - 1), .ref h_books, .ref h_tide, .ref h_rain, .ref h_rule, .int v_h_counted, .ref h_counts, .ref h_begins, .ref h_best, .int v_h_bestWorth, .int v_h_bestPitch, .int v_h_bestBits, .int v_h_leastHour, .int v_h_leastSet, .int v_h_shut, .ref h_planks])), (h_books, .inl (cI, 507, .inl f_h_books)), (h_now, .inl (cI, 169, .inl sx8.2))] H → va_D A [(h, .inr (9, [.int 0, .ref h_now, .ref h_aside, .int (v_h_kept - 1), .ref h_books, .ref h_tide, .ref h_rain, .ref h_rule, .int v_h_counted, .ref h_counts, .ref h_begins, .ref h_best, .int v_h_bestWorth, .int v_h_bestPitch, .int v_h_bestBits, .int v_h_leastHour, .int v_h_leastSet, .int v_h_shut, .ref h_planks])), (h_books, .inl (cI, 507, .inl f_h_books)), (h_now, .inl (cI, 169, .inl sx8.2))] → va_S A s.heap H locs → lv_has ls 2 [(1, .int sx8.1), (0, .ref h)] → W p l e rm_X9_back s m args below meth c H locs 0 0 Q (F0 m 27 ls [])) (fun sx8 X8 hX8 hin8 hout8 => ?_) _ _ hlp8) _ _ _ hP hD hS (lv_sub hl [0, 1] rfl)
    obtain ⟨x1_10, c_h_now_11⟩ := sx8
    intro H locs ls hP hD hS hl
    replace hP : va_P D vwCl [(h, .inr (9, [.int 0, .ref h_now, .ref h_aside, .int (v_h_kept - 1), .ref h_books, .ref h_tide, .ref h_rain, .ref h_rule, .int v_h_counted, .ref h_counts, .ref h_begins, .ref h_best, .int v_h_bestWorth, .int v_h_bestPitch, .int v_h_bestBits, .int v_h_leastHour, .int v_h_leastSet, .int v_h_shut, .ref h_planks])), (h_books, .inl (cI, 507, .inl f_h_books)), (h_now, .inl (cI, 169, .inl c_h_now_11))] H := hP
    replace hD : va_D A [(h, .inr (9, [.int 0, .ref h_now, .ref h_aside, .int (v_h_kept - 1), .ref h_books, .ref h_tide, .ref h_rain, .ref h_rule, .int v_h_counted, .ref h_counts, .ref h_begins, .ref h_best, .int v_h_bestWorth, .int v_h_bestPitch, .int v_h_bestBits, .int v_h_leastHour, .int v_h_leastSet, .int v_h_shut, .ref h_planks])), (h_books, .inl (cI, 507, .inl f_h_books)), (h_now, .inl (cI, 169, .inl c_h_now_11))] := hD
    replace hl : lv_has ls 2 [(1, .int x1_10), (0, .ref h)] := hl
    replace hX8 : lb_X9_back_27 v_h_kept f_h_books x1_10 c_h_now_11 = some X8 := hX8
    unfold lb_X9_back_27 at hX8
    refine lv_iload_n hx hb dX9_back_27 rfl (lv_at hl 0 rfl) ?_
    refine lv_sipush (v := 169) hx hb dX9_back_28 (by decide) ?_
    refine lv_icmp_ge (tgt := 61) hx hb dX9_back_31 (by decide) (fun c12 => ?_) (fun c12 => ?_)
    · replace hX8 := k_pos hX8 c12
      exact hE8 _ (hout8 _ (Option.some.inj hX8).symm).symm _ _ _ hP hD hS (lv_sub hl [1] rfl)
    · replace hX8 := k_neg hX8 c12
      refine lv_aload_n hx hb dX9_back_34 rfl (lv_at hl 1 rfl) ?_
      refine k_get (C := RX9) (T := TX9) (N := 19) hx hb hts inX9 hown hK hP 0 rfl rfl 1 (by decide) rfl wl3 rfl dX9_back_35 ?_
      refine lv_iload_n hx hb dX9_back_38 rfl (lv_at hl 0 rfl) ?_
      refine lv_aload_n hx hb dX9_back_39 rfl (lv_at hl 1 rfl) ?_
      refine k_get (C := RX9) (T := TX9) (N := 19) hx hb hts inX9 hown hK hP 0 rfl rfl 4 (by decide) rfl wl4 rfl dX9_back_40 ?_
      refine lv_sipush (v := 169) hx hb dX9_back_43 (by decide) ?_
      refine lv_aload_n hx hb dX9_back_46 rfl (lv_at hl 1 rfl) ?_
      refine k_get (C := RX9) (T := TX9) (N := 19) hx hb hts inX9 hown hK hP 0 rfl rfl 3 (by decide) rfl wl2 rfl dX9_back_47 ?_
      refine lv_imul hx hb dX9_back_50 ?_
      refine lv_iload_n hx hb dX9_back_51 rfl (lv_at hl 0 rfl) ?_
      refine lv_iadd hx hb dX9_back_52 ?_
      obtain ⟨hi13, hX8⟩ := k_ix_some hX8
      refine k_iald (k := ((169 * (v_h_kept - 1)) + x1_10).toNatClampNeg) hx hb hK hP 1 0 rfl rfl hi13 rfl dX9_back_53 ?_
      obtain ⟨hi14, hX8⟩ := k_ix_some hX8
      refine k_iast (ws2 := [(h, .inr (9, [.int 0, .ref h_now, .ref h_aside, .int (v_h_kept - 1), .ref h_books, .ref h_tide, .ref h_rain, .ref h_rule, .int v_h_counted, .ref h_counts, .ref h_begins, .ref h_best, .int v_h_bestWorth, .int v_h_bestPitch, .int v_h_bestBits, .int v_h_leastHour, .int v_h_leastSet, .int v_h_shut, .ref h_planks])), (h_books, .inl (cI, 507, .inl f_h_books)), (h_now, .inl (cI, 169, .inl (upd c_h_now_11 x1_10.toNatClampNeg (f_h_books ((169 * (v_h_kept - 1)) + x1_10).toNatClampNeg))))]) (k := x1_10.toNatClampNeg) hx hb hK hP hD hS 2 0 rfl rfl hi14 rfl rfl dX9_back_54 (fun H locs hP hD hS => ?_)
      refine lv_iinc (v := x1_10 + 1) (lv' := [(1, .int (x1_10 + 1)), (0, .ref h)]) hx hb dX9_back_55 hl (k := 0) rfl rfl (by decide) rfl (fun ls hl => ?_)
      refine lv_goto (tgt := 27) hx hb dX9_back_58 (by decide) ?_
      exact hin8 (x1_10 + 1, upd c_h_now_11 x1_10.toNatClampNeg (f_h_books ((169 * (v_h_kept - 1)) + x1_10).toNatClampNeg)) (Option.some.inj hX8).symm _ _ _ hP hD hS (lv_sub hl [0, 1] rfl)
  · replace hf := k_pos hf c1
    refine lv_bipush (v := (-2)) hx hb dX9_back_12 (by decide) ?_
    exact hRet _ _ _ _ hf _ _ _ _ hP hD hS rfl dX9_back_14

def lb_X9_count_70 (f_h_now : Nat → Int32) (x2_11 : Int32) (x3_12 : Int32) : Option ((Int32 × Int32) ⊕ (Int32)) :=
  if (f_h_now 10) ≤ x3_12 then
    some (.inr x2_11)
  else
    k_ix (37 + x3_12) 169 (
      some (.inl (x2_11 + (f_h_now (37 + x3_12).toNatClampNeg), x3_12 + 1)))
def p_X9_count (v_h_kept : Int32) (f_h_now : Nat → Int32) (a1 : Int32) : Option (Int32 × Int32) :=
  if a1 = 0 then
    some (f_h_now 10, 0)
  else
  if a1 = 1 then
    k_b1 (k_lp (fun s => lb_X9_count_70 f_h_now s.1 s.2) k_fuel (0, 0)) fun x2_10 =>
    some (x2_10, 0)
  else
  if a1 = 2 then
    some (f_h_now 11, 0)
  else
  if a1 = 3 then
    k_b1 (p_X9_wholes f_h_now) fun r17 =>
    some (r17, 0)
  else
  if a1 = 4 then
    some (f_h_now 12, 0)
  else
  if a1 = 5 then
    k_b1 (p_X9_states f_h_now 1) fun r20 =>
    some (r20, 0)
  else
  if a1 = 6 then
    k_b1 (p_X9_states f_h_now 2) fun r22 =>
    some (r22, 0)
  else
  if a1 = 7 then
    some (f_h_now 0, 0)
  else
  if a1 = 8 then
    some (v_h_kept, 0)
  else
    some ((-1), 0)
abbrev rm_X9_count : Room := { frames := 1, cells := 0, slots := 0, locals := 23 }
theorem hdS_X9_count : yX9_count.cls ≠ "java/lang/invoke/MethodHandle" ∧ yX9_count.cls ≠ "java/lang/invoke/VarHandle" ∧ (parseMethodDescriptor yX9_count.desc).map (fun d => d.parameters.length) = some 1 := by decide +kernel
theorem hdV_X9_count : yX9_count.cls = RX9 ∧ yX9_count.cls ≠ "java/lang/invoke/MethodHandle" ∧ yX9_count.cls ≠ "java/lang/invoke/VarHandle" ∧ (parseMethodDescriptor yX9_count.desc).map (fun d => d.parameters.length) = some 1 := by decide +kernel
set_option maxHeartbeats 4000000 in
set_option maxRecDepth 100000 in
theorem c_X9_count (l : Launch) (D : va_G) (cI cZ cJ cS : ClassId) (h h_now h_aside h_books h_tide h_rain h_rule h_counts h_begins h_best h_planks : Nat) (v_h_thrown : Int32) (v_h_kept : Int32) (v_h_counted : Int32) (v_h_bestWorth : Int32) (v_h_bestPitch : Int32) (v_h_bestBits : Int32) (v_h_leastHour : Int32) (v_h_leastSet : Int32) (v_h_shut : Int32) (f_h_now : Nat → Int32) (a1 : Int32) (r : Int32) (v_h_thrown' : Int32) (hf : p_X9_count v_h_kept f_h_now a1 = some (r, v_h_thrown')) : k_MI l yX9_count wsX9_count rm_X9_count D (k_tys cI cZ cJ cS) [.ref h, .int a1] [(h, .inr (9, [.int v_h_thrown, .ref h_now, .ref h_aside, .int v_h_kept, .ref h_books, .ref h_tide, .ref h_rain, .ref h_rule, .int v_h_counted, .ref h_counts, .ref h_begins, .ref h_best, .int v_h_bestWorth, .int v_h_bestPitch, .int v_h_bestBits, .int v_h_leastHour, .int v_h_leastSet, .int v_h_shut, .ref h_planks])), (h_now, .inl (cI, 169, .inl f_h_now))] [(h, .inr (9, [.int v_h_thrown', .ref h_now, .ref h_aside, .int v_h_kept, .ref h_books, .ref h_tide, .ref h_rain, .ref h_rule, .int v_h_counted, .ref h_counts, .ref h_begins, .ref h_best, .int v_h_bestWorth, .int v_h_bestPitch, .int v_h_bestBits, .int v_h_leastHour, .int v_h_leastSet, .int v_h_shut, .ref h_planks])), (h_now, .inl (cI, 169, .inl f_h_now))] r := by
  refine k_enter (y := yX9_count) (wl := wsX9_count) (rm := rm_X9_count) (av := [.ref h, .int a1]) (D := D) (tys := k_tys cI cZ cJ cS) (ws := [(h, .inr (9, [.int v_h_thrown, .ref h_now, .ref h_aside, .int v_h_kept, .ref h_books, .ref h_tide, .ref h_rain, .ref h_rule, .int v_h_counted, .ref h_counts, .ref h_begins, .ref h_best, .int v_h_bestWorth, .int v_h_bestPitch, .int v_h_bestBits, .int v_h_leastHour, .int v_h_leastSet, .int v_h_shut, .ref h_planks])), (h_now, .inl (cI, 169, .inl f_h_now))]) (cc := cX9_count) (maxL := 4) (ret := (some .int)) (Qc := fun A => k_Qi D (k_tys cI cZ cJ cS) [(h, .inr (9, [.int v_h_thrown', .ref h_now, .ref h_aside, .int v_h_kept, .ref h_books, .ref h_tide, .ref h_rain, .ref h_rule, .int v_h_counted, .ref h_counts, .ref h_begins, .ref h_best, .int v_h_bestWorth, .int v_h_bestPitch, .int v_h_bestBits, .int v_h_leastHour, .int v_h_leastSet, .int v_h_shut, .ref h_planks])), (h_now, .inl (cI, 169, .inl f_h_now))] A r) (by decide) rfl (Nat.le_of_ble_eq_true rfl) [(0, .ref h), (1, .int a1)] rfl ?_
  intro p e s m below meth c A hx hb hml hr hlocks hnm hown hK hP hD hA hS hN ls args Q hts hl hQ
  replace hown : s.vm.findClass RX9 = some m.cls := hown
  have S0 : CallFix p m c cX9_count 4 s args wsX9_count RX9 := ⟨hx, hb, hml, hown, hts⟩
  have inX9 : ∀ w ∈ u_ws RX9 TX9 19, w ∈ wsX9_count := fun w h => List.mem_cons_of_mem _ (List.mem_append_right _ h)
  have wl1 : (Cond.fieldLink RX9 1 "BeachedShipModel" "thrown" "I").before args s = true := hts _ (List.mem_of_getElem? (i := 1) rfl)
  have wl2 : (Cond.fieldLink RX9 13 "BeachedShipModel" "now" "[I").before args s = true := hts _ (List.mem_of_getElem? (i := 2) rfl)
  have wl3 : (Cond.fieldLink RX9 181 "BeachedShipModel" "kept" "I").before args s = true := hts _ (List.mem_of_getElem? (i := 3) rfl)
  have hRet : ∀ (r_z : Int32) (v_h_thrown_z : Int32), some (r_z, v_h_thrown_z) = some (r, v_h_thrown') → ∀ (H : Heap) (locs : List Loc) (ls : Array Slot) (pc : Nat), va_P D vwCl [(h, .inr (9, [.int v_h_thrown_z, .ref h_now, .ref h_aside, .int v_h_kept, .ref h_books, .ref h_tide, .ref h_rain, .ref h_rule, .int v_h_counted, .ref h_counts, .ref h_begins, .ref h_best, .int v_h_bestWorth, .int v_h_bestPitch, .int v_h_bestBits, .int v_h_leastHour, .int v_h_leastSet, .int v_h_shut, .ref h_planks])), (h_now, .inl (cI, 169, .inl f_h_now))] H → va_D A [(h, .inr (9, [.int v_h_thrown_z, .ref h_now, .ref h_aside, .int v_h_kept, .ref h_books, .ref h_tide, .ref h_rain, .ref h_rule, .int v_h_counted, .ref h_counts, .ref h_begins, .ref h_best, .int v_h_bestWorth, .int v_h_bestPitch, .int v_h_bestBits, .int v_h_leastHour, .int v_h_leastSet, .int v_h_shut, .ref h_planks])), (h_now, .inl (cI, 169, .inl f_h_now))] → va_S A s.heap H locs → narrow .int (.int r_z) = .int r_z → decode cX9_count pc = .ok (.ireturn, 1) → W p l e rm_X9_count s m args below meth c H locs 0 0 Q (F0 m pc ls [.int r_z]) := by
    intro r_z v_h_thrown_z hz H locs ls pc hP hD hS hn hd
    cases hz
    exact k_iret hx hb hr hlocks hn hK hP hD hS hQ rfl hd
  unfold p_X9_count at hf
  refine lv_aload_n hx hb dX9_count_0 rfl (lv_at hl 0 rfl) ?_
  refine lv_iconst (v := 0) hx hb dX9_count_1 (by decide) ?_
  refine k_putf (ws2 := [(h, .inr (9, [.int 0, .ref h_now, .ref h_aside, .int v_h_kept, .ref h_books, .ref h_tide, .ref h_rain, .ref h_rule, .int v_h_counted, .ref h_counts, .ref h_begins, .ref h_best, .int v_h_bestWorth, .int v_h_bestPitch, .int v_h_bestBits, .int v_h_leastHour, .int v_h_leastSet, .int v_h_shut, .ref h_planks])), (h_now, .inl (cI, 169, .inl f_h_now))]) (C := RX9) (T := TX9) (N := 19) hx hb hts inX9 tyX9 tyX9_ok nmX9 hown hK hP hD hS 0 rfl rfl 0 (by decide) rfl wl1 rfl rfl rfl (Nat.le_of_ble_eq_true rfl) rfl dX9_count_2 (fun H locs hP hD hS => ?_)
  refine lv_iconst (v := 0) hx hb dX9_count_5 (by decide) ?_
  refine lv_istore_n (lv' := [(2, .int 0), (0, .ref h), (1, .int a1)]) hx hb dX9_count_6 rfl hl (by decide) rfl (fun ls hl => ?_)
  refine lv_iload_n hx hb dX9_count_7 rfl (lv_at hl 2 rfl) ?_
  by_cases c1 : a1 = 0
  · replace hf := k_pos hf c1
    refine k_tsw (k := 0) (j := 0) (off := 52) (tgt := 60) hx hb dX9_count_8 c1 (by decide) (by decide) (by decide) rfl (by decide) ?_
    refine lv_aload_n hx hb dX9_count_60 rfl (lv_at hl 1 rfl) ?_
    refine k_get (C := RX9) (T := TX9) (N := 19) hx hb hts inX9 hown hK hP 0 rfl rfl 1 (by decide) rfl wl2 rfl dX9_count_61 ?_
    refine lv_bipush (v := 10) hx hb dX9_count_64 (by decide) ?_
    refine k_iald (k := 10) hx hb hK hP 1 0 rfl rfl (by unfold vp_in; decide) (by decide) dX9_count_66 ?_
    exact hRet _ _ hf _ _ _ _ hP hD hS rfl dX9_count_67
  · replace hf := k_neg hf c1
    by_cases c2 : a1 = 1
    · replace hf := k_pos hf c2
      refine k_tsw (k := 1) (j := 1) (off := 60) (tgt := 68) hx hb dX9_count_8 c2 (by decide) (by decide) (by decide) rfl (by decide) ?_
      refine lv_iconst (v := 0) hx hb dX9_count_68 (by decide) ?_
      refine lv_istore_n (lv' := [(3, .int 0), (2, .int 0), (0, .ref h), (1, .int a1)]) hx hb dX9_count_69 rfl hl (by decide) rfl (fun ls hl => ?_)
      obtain ⟨ee9, hlp9, hfr9⟩ := k_b1_ee hf
      have hE9 : ∀ (x2_10 : Int32), ee9 = x2_10 → ∀ (H : Heap) (locs : List Loc) (ls : Array Slot), va_P D vwCl [(h, .inr (9, [.int 0, .ref h_now, .ref h_aside, .int v_h_kept, .ref h_books, .ref h_tide, .ref h_rain, .ref h_rule, .int v_h_counted, .ref h_counts, .ref h_begins, .ref h_best, .int v_h_bestWorth, .int v_h_bestPitch, .int v_h_bestBits, .int v_h_leastHour, .int v_h_leastSet, .int v_h_shut, .ref h_planks])), (h_now, .inl (cI, 169, .inl f_h_now))] H → va_D A [(h, .inr (9, [.int 0, .ref h_now, .ref h_aside, .int v_h_kept, .ref h_books, .ref h_tide, .ref h_rain, .ref h_rule, .int v_h_counted, .ref h_counts, .ref h_begins, .ref h_best, .int v_h_bestWorth, .int v_h_bestPitch, .int v_h_bestBits, .int v_h_leastHour, .int v_h_leastSet, .int v_h_shut, .ref h_planks])), (h_now, .inl (cI, 169, .inl f_h_now))] → va_S A s.heap H locs → lv_has ls 4 [(2, .int x2_10)] → W p l e rm_X9_count s m args below meth c H locs 0 0 Q (F0 m 99 ls []) := by
        intro x2_10 he H locs ls hP hD hS hl
        replace hf := hfr9 x2_10 he
        refine lv_iload_n hx hb dX9_count_99 rfl (lv_at hl 0 rfl) ?_
        exact hRet _ _ hf _ _ _ _ hP hD hS rfl dX9_count_100
      refine (k_lp_ind (fun sx9 => ∀ (H : Heap) (locs : List Loc) (ls : Array Slot), va_P D vwCl [(h, .inr (9, [.int 0, .ref h_now, .ref h_aside, .int v_h_kept, .ref h_books, .ref h_tide, .ref h_rain, .ref h_rule, .int v_h_counted, .ref h_counts, .ref h_begins, .ref h_best, .int v_h_bestWorth, .int v_h_bestPitch, .int v_h_bestBits, .int v_h_leastHour, .int v_h_leastSet, .int v_h_shut, .ref h_planks])), (h_now, .inl (cI, 169, .inl f_h_now))] H → va_D A [(h, .inr (9, [.int 0, .ref h_now, .ref h_aside, .int v_h_kept, .ref h_books, .ref h_tide, .ref h_rain, .ref h_rule, .int v_h_counted, .ref h_counts, .ref h_begins, .ref h_best, .int v_h_bestWorth, .int v_h_bestPitch, .int v_h_bestBits, .int v_h_leastHour, .int v_h_leastSet, .int v_h_shut, .ref h_planks])), (h_now, .inl (cI, 169, .inl f_h_now))] → va_S A s.heap H locs → lv_has ls 4 [(3, .int sx9.2), (2, .int sx9.1), (0, .ref h)] → W p l e rm_X9_count s m args below meth c H locs 0 0 Q (F0 m 70 ls [])) (fun sx9 X9 hX9 hin9 hout9 => ?_) _ _ hlp9) _ _ _ hP hD hS (lv_sub hl [0, 1, 2] rfl)
      obtain ⟨x2_11, x3_12⟩ := sx9
      intro H locs ls hP hD hS hl
      replace hP : va_P D vwCl [(h, .inr (9, [.int 0, .ref h_now, .ref h_aside, .int v_h_kept, .ref h_books, .ref h_tide, .ref h_rain, .ref h_rule, .int v_h_counted, .ref h_counts, .ref h_begins, .ref h_best, .int v_h_bestWorth, .int v_h_bestPitch, .int v_h_bestBits, .int v_h_leastHour, .int v_h_leastSet, .int v_h_shut, .ref h_planks])), (h_now, .inl (cI, 169, .inl f_h_now))] H := hP
      replace hD : va_D A [(h, .inr (9, [.int 0, .ref h_now, .ref h_aside, .int v_h_kept, .ref h_books, .ref h_tide, .ref h_rain, .ref h_rule, .int v_h_counted, .ref h_counts, .ref h_begins, .ref h_best, .int v_h_bestWorth, .int v_h_bestPitch, .int v_h_bestBits, .int v_h_leastHour, .int v_h_leastSet, .int v_h_shut, .ref h_planks])), (h_now, .inl (cI, 169, .inl f_h_now))] := hD
      replace hl : lv_has ls 4 [(3, .int x3_12), (2, .int x2_11), (0, .ref h)] := hl
      replace hX9 : lb_X9_count_70 f_h_now x2_11 x3_12 = some X9 := hX9
      unfold lb_X9_count_70 at hX9
      refine lv_iload_n hx hb dX9_count_70 rfl (lv_at hl 0 rfl) ?_
      refine lv_aload_n hx hb dX9_count_71 rfl (lv_at hl 2 rfl) ?_
      refine k_get (C := RX9) (T := TX9) (N := 19) hx hb hts inX9 hown hK hP 0 rfl rfl 1 (by decide) rfl wl2 rfl dX9_count_72 ?_
      refine lv_bipush (v := 10) hx hb dX9_count_75 (by decide) ?_
      refine k_iald (k := 10) hx hb hK hP 1 0 rfl rfl (by unfold vp_in; decide) (by decide) dX9_count_77 ?_
      refine lv_icmp_ge (tgt := 99) hx hb dX9_count_78 (by decide) (fun c13 => ?_) (fun c13 => ?_)
      · replace hX9 := k_pos hX9 c13
        exact hE9 _ (hout9 _ (Option.some.inj hX9).symm).symm _ _ _ hP hD hS (lv_sub hl [1] rfl)
      · replace hX9 := k_neg hX9 c13
        refine lv_iload_n hx hb dX9_count_81 rfl (lv_at hl 1 rfl) ?_
        refine lv_aload_n hx hb dX9_count_82 rfl (lv_at hl 2 rfl) ?_
        refine k_get (C := RX9) (T := TX9) (N := 19) hx hb hts inX9 hown hK hP 0 rfl rfl 1 (by decide) rfl wl2 rfl dX9_count_83 ?_
        refine lv_bipush (v := 37) hx hb dX9_count_86 (by decide) ?_
        refine lv_iload_n hx hb dX9_count_88 rfl (lv_at hl 0 rfl) ?_
        refine lv_iadd hx hb dX9_count_89 ?_
        obtain ⟨hi14, hX9⟩ := k_ix_some hX9
        refine k_iald (k := (37 + x3_12).toNatClampNeg) hx hb hK hP 1 0 rfl rfl hi14 rfl dX9_count_90 ?_
        refine lv_iadd hx hb dX9_count_91 ?_
        refine lv_istore_n (lv' := [(2, .int (x2_11 + (f_h_now (37 + x3_12).toNatClampNeg))), (3, .int x3_12), (0, .ref h)]) hx hb dX9_count_92 rfl hl (by decide) rfl (fun ls hl => ?_)
        refine lv_iinc (v := x3_12 + 1) (lv' := [(3, .int (x3_12 + 1)), (2, .int (x2_11 + (f_h_now (37 + x3_12).toNatClampNeg))), (0, .ref h)]) hx hb dX9_count_93 hl (k := 1) rfl rfl (by decide) rfl (fun ls hl => ?_)
        refine lv_goto (tgt := 70) hx hb dX9_count_96 (by decide) ?_
        exact hin9 (x2_11 + (f_h_now (37 + x3_12).toNatClampNeg), x3_12 + 1) (Option.some.inj hX9).symm _ _ _ hP hD hS (lv_sub hl [0, 1, 2] rfl)
    · replace hf := k_neg hf c2
      by_cases c15 : a1 = 2
      · replace hf := k_pos hf c15
        refine k_tsw (k := 2) (j := 2) (off := 93) (tgt := 101) hx hb dX9_count_8 c15 (by decide) (by decide) (by decide) rfl (by decide) ?_
        refine lv_aload_n hx hb dX9_count_101 rfl (lv_at hl 1 rfl) ?_
        refine k_get (C := RX9) (T := TX9) (N := 19) hx hb hts inX9 hown hK hP 0 rfl rfl 1 (by decide) rfl wl2 rfl dX9_count_102 ?_
        refine lv_bipush (v := 11) hx hb dX9_count_105 (by decide) ?_
        refine k_iald (k := 11) hx hb hK hP 1 0 rfl rfl (by unfold vp_in; decide) (by decide) dX9_count_107 ?_
        exact hRet _ _ hf _ _ _ _ hP hD hS rfl dX9_count_108
      · replace hf := k_neg hf c15
        by_cases c16 : a1 = 3
        · replace hf := k_pos hf c16
          refine k_tsw (k := 3) (j := 3) (off := 101) (tgt := 109) hx hb dX9_count_8 c16 (by decide) (by decide) (by decide) rfl (by decide) ?_
          refine lv_aload_n hx hb dX9_count_109 rfl (lv_at hl 1 rfl) ?_
          obtain ⟨r17, hc17, hf⟩ := k_b1_some hf
          refine k_ViR (q0 := 0) (As := []) (rest := []) S0 (c_X9_wholes l D cI cZ cJ cS h h_now h_aside h_books h_tide h_rain h_rule h_counts h_begins h_best h_planks 0 v_h_kept v_h_counted v_h_bestWorth v_h_bestPitch v_h_bestBits v_h_leastHour v_h_leastSet v_h_shut f_h_now r17 hc17) (cwV 0 hts gX9_count_X9_wholes rfl rfl rfl hdV_X9_wholes ⟨Nat.le_of_ble_eq_true rfl, Nat.le_of_ble_eq_true rfl⟩) hK hP hD hS hA hN [0, 1] rfl (by decide) rfl rfl rfl rfl hl.1 rfl (Nat.le_of_ble_eq_true rfl) dX9_count_110 (fun H locs hP hS => ?_)
          exact hRet _ _ hf _ _ _ _ hP hD hS rfl dX9_count_113
        · replace hf := k_neg hf c16
          by_cases c18 : a1 = 4
          · replace hf := k_pos hf c18
            refine k_tsw (k := 4) (j := 4) (off := 106) (tgt := 114) hx hb dX9_count_8 c18 (by decide) (by decide) (by decide) rfl (by decide) ?_
            refine lv_aload_n hx hb dX9_count_114 rfl (lv_at hl 1 rfl) ?_
            refine k_get (C := RX9) (T := TX9) (N := 19) hx hb hts inX9 hown hK hP 0 rfl rfl 1 (by decide) rfl wl2 rfl dX9_count_115 ?_
            refine lv_bipush (v := 12) hx hb dX9_count_118 (by decide) ?_
            refine k_iald (k := 12) hx hb hK hP 1 0 rfl rfl (by unfold vp_in; decide) (by decide) dX9_count_120 ?_
            exact hRet _ _ hf _ _ _ _ hP hD hS rfl dX9_count_121
          · replace hf := k_neg hf c18
            by_cases c19 : a1 = 5
            · replace hf := k_pos hf c19
              refine k_tsw (k := 5) (j := 5) (off := 114) (tgt := 122) hx hb dX9_count_8 c19 (by decide) (by decide) (by decide) rfl (by decide) ?_
              refine lv_aload_n hx hb dX9_count_122 rfl (lv_at hl 1 rfl) ?_
              refine lv_iconst (v := 1) hx hb dX9_count_123 (by decide) ?_
              obtain ⟨r20, hc20, hf⟩ := k_b1_some hf
              refine k_ViR (q0 := 0) (As := [.int 1]) (rest := []) S0 (c_X9_states l D cI cZ cJ cS h h_now h_aside h_books h_tide h_rain h_rule h_counts h_begins h_best h_planks 0 v_h_kept v_h_counted v_h_bestWorth v_h_bestPitch v_h_bestBits v_h_leastHour v_h_leastSet v_h_shut f_h_now 1 r20 hc20) (cwV 1 hts gX9_count_X9_states rfl rfl rfl hdV_X9_states ⟨Nat.le_of_ble_eq_true rfl, Nat.le_of_ble_eq_true rfl⟩) hK hP hD hS hA hN [0, 1] rfl (by decide) rfl rfl rfl rfl hl.1 rfl (Nat.le_of_ble_eq_true rfl) dX9_count_124 (fun H locs hP hS => ?_)
              exact hRet _ _ hf _ _ _ _ hP hD hS rfl dX9_count_127
            · replace hf := k_neg hf c19
              by_cases c21 : a1 = 6
              · replace hf := k_pos hf c21
                refine k_tsw (k := 6) (j := 6) (off := 120) (tgt := 128) hx hb dX9_count_8 c21 (by decide) (by decide) (by decide) rfl (by decide) ?_
                refine lv_aload_n hx hb dX9_count_128 rfl (lv_at hl 1 rfl) ?_
                refine lv_iconst (v := 2) hx hb dX9_count_129 (by decide) ?_
                obtain ⟨r22, hc22, hf⟩ := k_b1_some hf
                refine k_ViR (q0 := 0) (As := [.int 2]) (rest := []) S0 (c_X9_states l D cI cZ cJ cS h h_now h_aside h_books h_tide h_rain h_rule h_counts h_begins h_best h_planks 0 v_h_kept v_h_counted v_h_bestWorth v_h_bestPitch v_h_bestBits v_h_leastHour v_h_leastSet v_h_shut f_h_now 2 r22 hc22) (cwV 1 hts gX9_count_X9_states rfl rfl rfl hdV_X9_states ⟨Nat.le_of_ble_eq_true rfl, Nat.le_of_ble_eq_true rfl⟩) hK hP hD hS hA hN [0, 1] rfl (by decide) rfl rfl rfl rfl hl.1 rfl (Nat.le_of_ble_eq_true rfl) dX9_count_130 (fun H locs hP hS => ?_)
                exact hRet _ _ hf _ _ _ _ hP hD hS rfl dX9_count_133
              · replace hf := k_neg hf c21
                by_cases c23 : a1 = 7
                · replace hf := k_pos hf c23
                  refine k_tsw (k := 7) (j := 7) (off := 126) (tgt := 134) hx hb dX9_count_8 c23 (by decide) (by decide) (by decide) rfl (by decide) ?_
                  refine lv_aload_n hx hb dX9_count_134 rfl (lv_at hl 1 rfl) ?_
                  refine k_get (C := RX9) (T := TX9) (N := 19) hx hb hts inX9 hown hK hP 0 rfl rfl 1 (by decide) rfl wl2 rfl dX9_count_135 ?_
                  refine lv_iconst (v := 0) hx hb dX9_count_138 (by decide) ?_
                  refine k_iald (k := 0) hx hb hK hP 1 0 rfl rfl (by unfold vp_in; decide) (by decide) dX9_count_139 ?_
                  exact hRet _ _ hf _ _ _ _ hP hD hS rfl dX9_count_140
                · replace hf := k_neg hf c23
                  by_cases c24 : a1 = 8
                  · replace hf := k_pos hf c24
                    refine k_tsw (k := 8) (j := 8) (off := 133) (tgt := 141) hx hb dX9_count_8 c24 (by decide) (by decide) (by decide) rfl (by decide) ?_
                    refine lv_aload_n hx hb dX9_count_141 rfl (lv_at hl 1 rfl) ?_
                    refine k_get (C := RX9) (T := TX9) (N := 19) hx hb hts inX9 hown hK hP 0 rfl rfl 3 (by decide) rfl wl3 rfl dX9_count_142 ?_
                    exact hRet _ _ hf _ _ _ _ hP hD hS rfl dX9_count_145
                  · replace hf := k_neg hf c24
                    refine lv_tableOut (tgt := 146) hx hb dX9_count_8 (by have := k_ne_toInt c1; have e0 : (0 : Int32).toInt = 0 := (by decide); have := k_ne_toInt c2; have e1 : (1 : Int32).toInt = 1 := (by decide); have := k_ne_toInt c15; have e2 : (2 : Int32).toInt = 2 := (by decide); have := k_ne_toInt c16; have e3 : (3 : Int32).toInt = 3 := (by decide); have := k_ne_toInt c18; have e4 : (4 : Int32).toInt = 4 := (by decide); have := k_ne_toInt c19; have e5 : (5 : Int32).toInt = 5 := (by decide); have := k_ne_toInt c21; have e6 : (6 : Int32).toInt = 6 := (by decide); have := k_ne_toInt c23; have e7 : (7 : Int32).toInt = 7 := (by decide); have := k_ne_toInt c24; have e8 : (8 : Int32).toInt = 8 := (by decide); omega) (by decide) ?_
                    refine lv_iconst (v := (-1)) hx hb dX9_count_146 (by decide) ?_
                    exact hRet _ _ hf _ _ _ _ hP hD hS rfl dX9_count_147

