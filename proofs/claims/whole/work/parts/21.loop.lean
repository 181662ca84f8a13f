/-! THE CLAIM OUT OF ONE WALK OF THE LAW'S BODY. Your part is whole_start (and what it stands on); all else here is the same for every law, but numbers. -/
def R_law : String := "BeachedShipLaw"
def lw_P (b : Addr) (xs : List Int32) (args : Array Value) (s : State) : Prop := args = #[.ref b] ∧ s.IntsAt b xs ∧ xs.length ≤ 3584 ∧ (Jvm.Cond.and given_1 narrow_1).before args s = true
def lw_Q (_ : Array Value) (s : State) (o : Outcome) (t : State) : Prop := o = .returned (some (.int 1)) ∧ Framed s o t [] 600000 7302250
def lw_Z (below : List Frame) (a : Array Value) (s : State) : State → Prop := fun t => ∃ o, t.status = .running ∧ Ended t below o ∧ lw_Q a s o t
/-- the law's own end, with 1 on the stack, nothing written that was there before, its room as the claim has it -/
theorem lw_ret {p : Program} {l : Launch} {e : Env} {s : State} {m : MethodId} {below : List Frame} {meth : Method} {c : Code} {b : Nat} (hx : p.tables.exec = Jvm.exec) (hb : c.code = code) (hr : meth.sig.returnType = ret) (hlocks : meth.locks = false) {pc : Nat} {H : Heap} {ls : Array Slot} (hdg : decode code pc = .ok (.ireturn, 1)) : W p l e room_1 s m #[Value.ref b] below meth c H [] 600000 7302250 (lw_Z below #[Value.ref b] s) (F0 m pc ls [.int 1]) := by
  intro T hT X
  obtain ⟨fs, hret, hrun, hended, hW, hframe⟩ := X.leave (v := some (.int 1)) (hlocks := hlocks) (fun h => by rw [hr] at h; cases h)
  have hmeth' : T.vm.method? m = some meth := X.method'
  refine ⟨T.setFrames fs, ?_, .returned (some (.int 1)), hrun, hended, rfl, ⟨_, rfl⟩, hW, hframe⟩
  jvm_step X.here [X.here.top, hx, hb, hdg, hmeth', hr, ret, narrow_b1]
  (try refine ⟨rfl, ?_⟩); (try refine ⟨rfl, ?_⟩)
  first | (intro acts; rw [hret _ acts rfl rfl rfl]) | rw [hret _ _ rfl rfl rfl]
  exact Steps.refl _
/-- what holds at the law's entry: the machine, the code, the tables' words (any of lw_tbl by 'hts w (by decide +kernel)'), the script of L ints xs at the cell b, what the Statement gives of the start (any of its parts by flat_of_before) -/
def lw_At (p : Program) (s : State) (m : MethodId) (meth : Method) (c : Code) (b L : Nat) (xs : Nat → Int32) : Prop :=
  p.tables.exec = Jvm.exec ∧ c.code = code ∧ meth.sig.returnType = ret ∧ c.maxLocals = 4 ∧ s.vm.findClass R_law = some m.cls ∧ (∀ w ∈ lw_tbl, w.before #[Value.ref b] s = true) ∧ va_X b L xs s s.heap ∧ b < s.heap.size ∧ meth.locks = false ∧ (Jvm.Cond.and given_1 narrow_1).before #[Value.ref b] s = true
theorem k_lend {j L0 : Nat} (h : L0 < 7 * j + 7) (hL0 : L0 ≤ 3584) (hj : 7 * j ≤ L0 + 7) : Int32.ofNat L0 - 7 < nI (7 * j) := by
  rw [Int32.lt_iff_toInt_lt, show (Int32.ofNat L0 - 7 : Int32) = nI L0 - nI 7 from rfl, pk_sub_toInt (by omega) (by omega), nI_toInt (by omega)]
  omega
theorem k_lgo {j L0 : Nat} (h : 7 * j + 7 ≤ L0) (hL0 : L0 ≤ 3584) : ¬ Int32.ofNat L0 - 7 < nI (7 * j) := by
  rw [Int32.lt_iff_toInt_lt, show (Int32.ofNat L0 - 7 : Int32) = nI L0 - nI 7 from rfl, pk_sub_toInt (by omega) (by omega), nI_toInt (by omega)]
  omega
set_option maxHeartbeats 4000000 in
set_option maxRecDepth 100000 in
/-- THE LAW'S LOOP -/
theorem law_loop {p : Program} {l : Launch} {e : Env} {s : State} {m : MethodId} {below : List Frame} {meth : Method} {c : Code} {D : va_G} {cI cZ cJ cS : ClassId} {b L0 : Nat} {xs : Nat → Int32} {x y : Nat} {u v : Nat → Nat} {Rel : (Nat → Nat → Int32) → (Nat → Nat → Int64) → (Nat → Nat → Int32) → Prop} (hx : p.tables.exec = Jvm.exec) (hb : c.code = code) (hml : c.maxLocals = 4) (hown : s.vm.findClass RL = some m.cls) (hts : ∀ w ∈ lw_tbl, w.before #[Value.ref b] s = true) (hX : va_X b L0 xs s s.heap) (hbl : b < s.heap.size) (hbA : ¬ s.heap.size ≤ b) (hK : va_K D vwCl (k_tys cI cZ cJ cS) s) (hN : k_Nest s) (hZ : k_Z (fun q : Nat => s.heap.size ≤ q) s s.heap) (hr : meth.sig.returnType = ret) (hlocks : meth.locks = false) (hL0 : L0 ≤ 3584) (hs_tide : k_Sim_tide Rel) (hs_tides : k_Sim_tides Rel) (hs_rain : k_Sim_rain Rel) (hs_rule : k_Sim_rule Rel) (hs_thing : k_Sim_thing Rel) (hs_tackle : k_Sim_tackle Rel) (hs_seam : k_Sim_seam Rel) (hs_ship : k_Sim_ship Rel) (hs_tackleTold : k_Sim_tackleTold Rel) (hs_greatest : k_Sim_greatest Rel) (hs_seamTold : k_Sim_seamTold Rel) (hs_move : k_Sim_move Rel) (hs_heel : k_Sim_heel Rel) (hs_hour : k_Sim_hour Rel) (hs_rig : k_Sim_rig Rel) (hs_plan : k_Sim_plan Rel) (hs_orders : k_Sim_orders Rel) (hs_toFloat : k_Sim_toFloat Rel) (hs_tap : k_Sim_tap Rel) (hs_worm : k_Sim_worm Rel) (hs_book : k_Sim_book Rel) (hs_keep : k_Sim_keep Rel) (hs_back : k_Sim_back Rel) (hs_count : k_Sim_count Rel) : ∀ (n j : Nat), L0 < 7 * (j + n) → 7 * j ≤ L0 + 7 → ∀ (S : Nat → Nat → Int32) (L : Nat → Nat → Int64) (M : Nat → Nat → Int32) (H : Heap) (locs : List Loc) (ls : Array Slot), Rel S L M → va_P D vwCl (k_wX x u cI cZ cJ cS S L ++ k_wM y v cI cZ cJ cS M) H → va_D (fun q : Nat => s.heap.size ≤ q) (k_wX x u cI cZ cJ cS S L ++ k_wM y v cI cZ cJ cS M) → va_S (fun q : Nat => s.heap.size ≤ q) s.heap H locs → lv_has ls 4 [(0, .ref b), (1, .ref x), (2, .ref y), (3, .int (nI (7 * j)))] → W p l e room_1 s m #[Value.ref b] below meth c H locs 112 2248 (lw_Z below #[Value.ref b] s) (F0 m 18 ls []) := by
  have hA : ∀ q : Nat, s.heap.size ≤ q → (fun q : Nat => s.heap.size ≤ q) q := fun _ h => h
  intro n
  induction n with
  | zero =>
    intro j h1 h2 S L M H locs ls hR hP hD hS hl
    refine lv_iload_n hx hb dL_law_18 rfl (lv_at hl 3 rfl) ?_
    refine lv_aload_n hx hb dL_law_19 rfl (lv_at hl 0 rfl) ?_
    refine va_slen hx hb hX hbl hbA hS dL_law_20 ?_
    refine lv_bipush (v := 7) hx hb dL_law_21 (by decide) ?_
    refine lv_isub hx hb dL_law_23 ?_
    refine lv_icmp_gt (tgt := 962) hx hb dL_law_24 (by decide) (fun c1 => ?_) (fun c1 => absurd (k_lend (by omega) hL0 h2) c1)
    refine lv_iconst (v := 1) hx hb dL_law_962 (by decide) ?_
    refine va_forget (fun q hq => hS.2.2 q hq) ?_
    refine W.widen (k := 600000) (n := 7302250) (Nat.le_of_ble_eq_true rfl) (Nat.le_of_ble_eq_true rfl) ?_
    exact lw_ret hx hb hr hlocks dL_law_963
  | succ n ih =>
    intro j h1 h2 S L M H locs ls hR hP hD hS hl
    refine lv_iload_n hx hb dL_law_18 rfl (lv_at hl 3 rfl) ?_
    refine lv_aload_n hx hb dL_law_19 rfl (lv_at hl 0 rfl) ?_
    refine va_slen hx hb hX hbl hbA hS dL_law_20 ?_
    refine lv_bipush (v := 7) hx hb dL_law_21 (by decide) ?_
    refine lv_isub hx hb dL_law_23 ?_
    by_cases hj : 7 * j + 7 ≤ L0
    · refine lv_icmp_gt (tgt := 962) hx hb dL_law_24 (by decide) (fun c1 => absurd c1 (k_lgo hj hL0)) (fun c1 => ?_)
      have next : ∀ (S : Nat → Nat → Int32) (L : Nat → Nat → Int64) (M : Nat → Nat → Int32) (H : Heap) (locs : List Loc) (ls : Array Slot), Rel S L M → va_P D vwCl (k_wX x u cI cZ cJ cS S L ++ k_wM y v cI cZ cJ cS M) H → va_D (fun q : Nat => s.heap.size ≤ q) (k_wX x u cI cZ cJ cS S L ++ k_wM y v cI cZ cJ cS M) → va_S (fun q : Nat => s.heap.size ≤ q) s.heap H locs → lv_has ls 4 [(0, .ref b), (1, .ref x), (2, .ref y), (3, .int (nI (7 * j)))] → W p l e room_1 s m #[Value.ref b] below meth c H locs 112 2248 (lw_Z below #[Value.ref b] s) (F0 m 956 ls []) := by
        intro S L M H locs ls hR hP hD hS hl
        refine lv_iinc (v := nI (7 * (j + 1))) (lv' := [(3, .int (nI (7 * (j + 1)))), (0, .ref b), (1, .ref x), (2, .ref y)]) hx hb dL_law_956 hl (k := 3) rfl (by rw [show nI (7 * j) + Int32.ofInt 7 = nI (7 * j) + nI 7 from rfl, nI_add]; rfl) (by decide) rfl (fun ls hl => ?_)
        refine lv_goto (tgt := 18) hx hb dL_law_959 (by decide) ?_
        exact ih (j + 1) (by omega) (by omega) S L M H locs ls hR hP hD hS (lv_sub hl [1, 2, 3, 0] rfl)
      refine lv_aload_n hx hb dL_law_27 rfl (lv_at hl 0 rfl) ?_
      refine lv_iload_n hx hb dL_law_28 rfl (lv_at hl 3 rfl) ?_
      refine k_sld (k := 7 * j) hx hb hX hbl hbA hS (vp_in_nI (by omega) (by omega)) (nI_clamp (by omega)) dL_law_29 ?_
      refine lv_bipush (v := 31) hx hb dL_law_30 (by decide) ?_
      refine lv_iand hx hb dL_law_32 ?_
      by_cases hk0 : (xs (7 * j) &&& 31) = 0
      · refine k_tswG (k := 0) (j := 0) (off := 111) (tgt := 144) hx hb dL_law_33 hk0 (by decide) (by decide) (by decide) rfl (by decide) ?_
        exact law_case_0 hx hb hml hown hts hX hbl hbA hA hK hN hZ hj hL0 hs_tide next S L M H locs ls hR hP hD hS hl
      by_cases hk1 : (xs (7 * j) &&& 31) = 1
      · refine k_tswG (k := 1) (j := 1) (off := 144) (tgt := 177) hx hb dL_law_33 hk1 (by decide) (by decide) (by decide) rfl (by decide) ?_
        exact law_case_1 hx hb hml hown hts hX hbl hbA hA hK hN hZ hj hL0 hs_tides next S L M H locs ls hR hP hD hS hl
      by_cases hk2 : (xs (7 * j) &&& 31) = 2
      · refine k_tswG (k := 2) (j := 2) (off := 217) (tgt := 250) hx hb dL_law_33 hk2 (by decide) (by decide) (by decide) rfl (by decide) ?_
        exact law_case_2 hx hb hml hown hts hX hbl hbA hA hK hN hZ hj hL0 hs_rain next S L M H locs ls hR hP hD hS hl
      by_cases hk3 : (xs (7 * j) &&& 31) = 3
      · refine k_tswG (k := 3) (j := 3) (off := 266) (tgt := 299) hx hb dL_law_33 hk3 (by decide) (by decide) (by decide) rfl (by decide) ?_
        exact law_case_3 hx hb hml hown hts hX hbl hbA hA hK hN hZ hj hL0 hs_rule next S L M H locs ls hR hP hD hS hl
      by_cases hk4 : (xs (7 * j) &&& 31) = 4
      · refine k_tswG (k := 4) (j := 4) (off := 299) (tgt := 332) hx hb dL_law_33 hk4 (by decide) (by decide) (by decide) rfl (by decide) ?_
        exact law_case_4 hx hb hml hown hts hX hbl hbA hA hK hN hZ hj hL0 hs_thing next S L M H locs ls hR hP hD hS hl
      by_cases hk5 : (xs (7 * j) &&& 31) = 5
      · refine k_tswG (k := 5) (j := 5) (off := 332) (tgt := 365) hx hb dL_law_33 hk5 (by decide) (by decide) (by decide) rfl (by decide) ?_
        exact law_case_5 hx hb hml hown hts hX hbl hbA hA hK hN hZ hj hL0 hs_tackle next S L M H locs ls hR hP hD hS hl
      by_cases hk6 : (xs (7 * j) &&& 31) = 6
      · refine k_tswG (k := 6) (j := 6) (off := 375) (tgt := 408) hx hb dL_law_33 hk6 (by decide) (by decide) (by decide) rfl (by decide) ?_
        exact law_case_6 hx hb hml hown hts hX hbl hbA hA hK hN hZ hj hL0 hs_seam next S L M H locs ls hR hP hD hS hl
      by_cases hk7 : (xs (7 * j) &&& 31) = 7
      · refine k_tswG (k := 7) (j := 7) (off := 450) (tgt := 483) hx hb dL_law_33 hk7 (by decide) (by decide) (by decide) rfl (by decide) ?_
        exact law_case_7 hx hb hml hown hts hX hbl hbA hA hK hN hZ hj hL0 hs_ship next S L M H locs ls hR hP hD hS hl
      by_cases hk8 : (xs (7 * j) &&& 31) = 8
      · refine k_tswG (k := 8) (j := 8) (off := 473) (tgt := 506) hx hb dL_law_33 hk8 (by decide) (by decide) (by decide) rfl (by decide) ?_
        exact law_case_8 hx hb hml hown hts hX hbl hbA hA hK hN hZ hj hL0 hs_tackleTold next S L M H locs ls hR hP hD hS hl
      by_cases hk9 : (xs (7 * j) &&& 31) = 9
      · refine k_tswG (k := 9) (j := 9) (off := 506) (tgt := 539) hx hb dL_law_33 hk9 (by decide) (by decide) (by decide) rfl (by decide) ?_
        exact law_case_9 hx hb hml hown hts hX hbl hbA hA hK hN hZ hj hL0 hs_greatest next S L M H locs ls hR hP hD hS hl
      by_cases hk10 : (xs (7 * j) &&& 31) = 10
      · refine k_tswG (k := 10) (j := 10) (off := 545) (tgt := 578) hx hb dL_law_33 hk10 (by decide) (by decide) (by decide) rfl (by decide) ?_
        exact law_case_10 hx hb hml hown hts hX hbl hbA hA hK hN hZ hj hL0 hs_seamTold next S L M H locs ls hR hP hD hS hl
      by_cases hk11 : (xs (7 * j) &&& 31) = 11
      · refine k_tswG (k := 11) (j := 11) (off := 578) (tgt := 611) hx hb dL_law_33 hk11 (by decide) (by decide) (by decide) rfl (by decide) ?_
        exact law_case_11 hx hb hml hown hts hX hbl hbA hA hK hN hZ hj hL0 hs_move next S L M H locs ls hR hP hD hS hl
      by_cases hk12 : (xs (7 * j) &&& 31) = 12
      · refine k_tswG (k := 12) (j := 12) (off := 601) (tgt := 634) hx hb dL_law_33 hk12 (by decide) (by decide) (by decide) rfl (by decide) ?_
        exact law_case_12 hx hb hml hown hts hX hbl hbA hA hK hN hZ hj hL0 hs_heel next S L M H locs ls hR hP hD hS hl
      by_cases hk13 : (xs (7 * j) &&& 31) = 13
      · refine k_tswG (k := 13) (j := 13) (off := 624) (tgt := 657) hx hb dL_law_33 hk13 (by decide) (by decide) (by decide) rfl (by decide) ?_
        exact law_case_13 hx hb hml hown hts hX hbl hbA hA hK hN hZ hj hL0 hs_hour next S L M H locs ls hR hP hD hS hl
      by_cases hk14 : (xs (7 * j) &&& 31) = 14
      · refine k_tswG (k := 14) (j := 14) (off := 647) (tgt := 680) hx hb dL_law_33 hk14 (by decide) (by decide) (by decide) rfl (by decide) ?_
        exact law_case_14 hx hb hml hown hts hX hbl hbA hA hK hN hZ hj hL0 hs_rig next S L M H locs ls hR hP hD hS hl
      by_cases hk15 : (xs (7 * j) &&& 31) = 15
      · refine k_tswG (k := 15) (j := 15) (off := 696) (tgt := 729) hx hb dL_law_33 hk15 (by decide) (by decide) (by decide) rfl (by decide) ?_
        exact law_case_15 hx hb hml hown hts hX hbl hbA hA hK hN hZ hj hL0 hs_plan next S L M H locs ls hR hP hD hS hl
      by_cases hk16 : (xs (7 * j) &&& 31) = 16
      · refine k_tswG (k := 16) (j := 16) (off := 729) (tgt := 762) hx hb dL_law_33 hk16 (by decide) (by decide) (by decide) rfl (by decide) ?_
        exact law_case_16 hx hb hml hown hts hX hbl hbA hA hK hN hZ hj hL0 hs_orders next S L M H locs ls hR hP hD hS hl
      by_cases hk17 : (xs (7 * j) &&& 31) = 17
      · refine k_tswG (k := 17) (j := 17) (off := 762) (tgt := 795) hx hb dL_law_33 hk17 (by decide) (by decide) (by decide) rfl (by decide) ?_
        exact law_case_17 hx hb hml hown hts hX hbl hbA hA hK hN hZ hj hL0 hs_toFloat next S L M H locs ls hR hP hD hS hl
      by_cases hk18 : (xs (7 * j) &&& 31) = 18
      · refine k_tswG (k := 18) (j := 18) (off := 785) (tgt := 818) hx hb dL_law_33 hk18 (by decide) (by decide) (by decide) rfl (by decide) ?_
        exact law_case_18 hx hb hml hown hts hX hbl hbA hA hK hN hZ hj hL0 hs_tap next S L M H locs ls hR hP hD hS hl
      by_cases hk19 : (xs (7 * j) &&& 31) = 19
      · refine k_tswG (k := 19) (j := 19) (off := 818) (tgt := 851) hx hb dL_law_33 hk19 (by decide) (by decide) (by decide) rfl (by decide) ?_
        exact law_case_19 hx hb hml hown hts hX hbl hbA hA hK hN hZ hj hL0 hs_worm next S L M H locs ls hR hP hD hS hl
      by_cases hk20 : (xs (7 * j) &&& 31) = 20
      · refine k_tswG (k := 20) (j := 20) (off := 851) (tgt := 884) hx hb dL_law_33 hk20 (by decide) (by decide) (by decide) rfl (by decide) ?_
        exact law_case_20 hx hb hml hown hts hX hbl hbA hA hK hN hZ hj hL0 hs_book next S L M H locs ls hR hP hD hS hl
      by_cases hk21 : (xs (7 * j) &&& 31) = 21
      · refine k_tswG (k := 21) (j := 21) (off := 874) (tgt := 907) hx hb dL_law_33 hk21 (by decide) (by decide) (by decide) rfl (by decide) ?_
        exact law_case_21 hx hb hml hown hts hX hbl hbA hA hK hN hZ hj hL0 hs_keep next S L M H locs ls hR hP hD hS hl
      by_cases hk22 : (xs (7 * j) &&& 31) = 22
      · refine k_tswG (k := 22) (j := 22) (off := 887) (tgt := 920) hx hb dL_law_33 hk22 (by decide) (by decide) (by decide) rfl (by decide) ?_
        exact law_case_22 hx hb hml hown hts hX hbl hbA hA hK hN hZ hj hL0 hs_back next S L M H locs ls hR hP hD hS hl
      by_cases hk23 : (xs (7 * j) &&& 31) = 23
      · refine k_tswG (k := 23) (j := 23) (off := 900) (tgt := 933) hx hb dL_law_33 hk23 (by decide) (by decide) (by decide) rfl (by decide) ?_
        exact law_case_23 hx hb hml hown hts hX hbl hbA hA hK hN hZ hj hL0 hs_count next S L M H locs ls hR hP hD hS hl
      refine lv_tableOut (tgt := 956) hx hb dL_law_33 (by have := k_ne_toInt hk0; have e0 : (0 : Int32).toInt = 0 := (by decide); have := k_ne_toInt hk1; have e1 : (1 : Int32).toInt = 1 := (by decide); have := k_ne_toInt hk2; have e2 : (2 : Int32).toInt = 2 := (by decide); have := k_ne_toInt hk3; have e3 : (3 : Int32).toInt = 3 := (by decide); have := k_ne_toInt hk4; have e4 : (4 : Int32).toInt = 4 := (by decide); have := k_ne_toInt hk5; have e5 : (5 : Int32).toInt = 5 := (by decide); have := k_ne_toInt hk6; have e6 : (6 : Int32).toInt = 6 := (by decide); have := k_ne_toInt hk7; have e7 : (7 : Int32).toInt = 7 := (by decide); have := k_ne_toInt hk8; have e8 : (8 : Int32).toInt = 8 := (by decide); have := k_ne_toInt hk9; have e9 : (9 : Int32).toInt = 9 := (by decide); have := k_ne_toInt hk10; have e10 : (10 : Int32).toInt = 10 := (by decide); have := k_ne_toInt hk11; have e11 : (11 : Int32).toInt = 11 := (by decide); have := k_ne_toInt hk12; have e12 : (12 : Int32).toInt = 12 := (by decide); have := k_ne_toInt hk13; have e13 : (13 : Int32).toInt = 13 := (by decide); have := k_ne_toInt hk14; have e14 : (14 : Int32).toInt = 14 := (by decide); have := k_ne_toInt hk15; have e15 : (15 : Int32).toInt = 15 := (by decide); have := k_ne_toInt hk16; have e16 : (16 : Int32).toInt = 16 := (by decide); have := k_ne_toInt hk17; have e17 : (17 : Int32).toInt = 17 := (by decide); have := k_ne_toInt hk18; have e18 : (18 : Int32).toInt = 18 := (by decide); have := k_ne_toInt hk19; have e19 : (19 : Int32).toInt = 19 := (by decide); have := k_ne_toInt hk20; have e20 : (20 : Int32).toInt = 20 := (by decide); have := k_ne_toInt hk21; have e21 : (21 : Int32).toInt = 21 := (by decide); have := k_ne_toInt hk22; have e22 : (22 : Int32).toInt = 22 := (by decide); have := k_ne_toInt hk23; have e23 : (23 : Int32).toInt = 23 := (by decide); omega) (by decide) ?_
      exact next S L M H locs ls hR hP hD hS hl
    · refine lv_icmp_gt (tgt := 962) hx hb dL_law_24 (by decide) (fun c1 => ?_) (fun c1 => absurd (k_lend (by omega) hL0 h2) c1)
      refine lv_iconst (v := 1) hx hb dL_law_962 (by decide) ?_
      refine va_forget (fun q hq => hS.2.2 q hq) ?_
      refine W.widen (k := 600000) (n := 7302250) (Nat.le_of_ble_eq_true rfl) (Nat.le_of_ble_eq_true rfl) ?_
      exact lw_ret hx hb hr hlocks dL_law_963
