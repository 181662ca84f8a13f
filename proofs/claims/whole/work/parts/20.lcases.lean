theorem k_lin1 {j L0 : Nat} (hj : 7 * j + 7 ≤ L0) (hL0 : L0 ≤ 3584) : vp_in (nI (7 * j) + 1) L0 := by rw [show nI (7 * j) + 1 = nI (7 * j + 1) from nI_add (7 * j) 1]; exact vp_in_nI (by omega) (by omega)
theorem k_lcl1 {j L0 : Nat} (hj : 7 * j + 7 ≤ L0) (hL0 : L0 ≤ 3584) : (nI (7 * j) + 1).toNatClampNeg = 7 * j + 1 := by rw [show nI (7 * j) + 1 = nI (7 * j + 1) from nI_add (7 * j) 1]; exact nI_clamp (by omega)
theorem k_lin2 {j L0 : Nat} (hj : 7 * j + 7 ≤ L0) (hL0 : L0 ≤ 3584) : vp_in (nI (7 * j) + 2) L0 := by rw [show nI (7 * j) + 2 = nI (7 * j + 2) from nI_add (7 * j) 2]; exact vp_in_nI (by omega) (by omega)
theorem k_lcl2 {j L0 : Nat} (hj : 7 * j + 7 ≤ L0) (hL0 : L0 ≤ 3584) : (nI (7 * j) + 2).toNatClampNeg = 7 * j + 2 := by rw [show nI (7 * j) + 2 = nI (7 * j + 2) from nI_add (7 * j) 2]; exact nI_clamp (by omega)
theorem k_lin3 {j L0 : Nat} (hj : 7 * j + 7 ≤ L0) (hL0 : L0 ≤ 3584) : vp_in (nI (7 * j) + 3) L0 := by rw [show nI (7 * j) + 3 = nI (7 * j + 3) from nI_add (7 * j) 3]; exact vp_in_nI (by omega) (by omega)
theorem k_lcl3 {j L0 : Nat} (hj : 7 * j + 7 ≤ L0) (hL0 : L0 ≤ 3584) : (nI (7 * j) + 3).toNatClampNeg = 7 * j + 3 := by rw [show nI (7 * j) + 3 = nI (7 * j + 3) from nI_add (7 * j) 3]; exact nI_clamp (by omega)
theorem k_lin4 {j L0 : Nat} (hj : 7 * j + 7 ≤ L0) (hL0 : L0 ≤ 3584) : vp_in (nI (7 * j) + 4) L0 := by rw [show nI (7 * j) + 4 = nI (7 * j + 4) from nI_add (7 * j) 4]; exact vp_in_nI (by omega) (by omega)
theorem k_lcl4 {j L0 : Nat} (hj : 7 * j + 7 ≤ L0) (hL0 : L0 ≤ 3584) : (nI (7 * j) + 4).toNatClampNeg = 7 * j + 4 := by rw [show nI (7 * j) + 4 = nI (7 * j + 4) from nI_add (7 * j) 4]; exact nI_clamp (by omega)
theorem k_lin5 {j L0 : Nat} (hj : 7 * j + 7 ≤ L0) (hL0 : L0 ≤ 3584) : vp_in (nI (7 * j) + 5) L0 := by rw [show nI (7 * j) + 5 = nI (7 * j + 5) from nI_add (7 * j) 5]; exact vp_in_nI (by omega) (by omega)
theorem k_lcl5 {j L0 : Nat} (hj : 7 * j + 7 ≤ L0) (hL0 : L0 ≤ 3584) : (nI (7 * j) + 5).toNatClampNeg = 7 * j + 5 := by rw [show nI (7 * j) + 5 = nI (7 * j + 5) from nI_add (7 * j) 5]; exact nI_clamp (by omega)
theorem k_lin6 {j L0 : Nat} (hj : 7 * j + 7 ≤ L0) (hL0 : L0 ≤ 3584) : vp_in (nI (7 * j) + 6) L0 := by rw [show nI (7 * j) + 6 = nI (7 * j + 6) from nI_add (7 * j) 6]; exact vp_in_nI (by omega) (by omega)
theorem k_lcl6 {j L0 : Nat} (hj : 7 * j + 7 ≤ L0) (hL0 : L0 ≤ 3584) : (nI (7 * j) + 6).toNatClampNeg = 7 * j + 6 := by rw [show nI (7 * j) + 6 = nI (7 * j + 6) from nI_add (7 * j) 6]; exact nI_clamp (by omega)
set_option maxHeartbeats 4000000 in
set_option maxRecDepth 100000 in
theorem law_case_0 {p : Program} {l : Launch} {e : Env} {s : State} {m : MethodId} {args : Array Value} {below : List Frame} {meth : Method} {c : Code} {Q : State → Prop} {D : va_G} {cI cZ cJ cS : ClassId} {b L0 : Nat} {xs : Nat → Int32} {A : Nat → Prop} {x y : Nat} {u v : Nat → Nat} {Rel : (Nat → Nat → Int32) → (Nat → Nat → Int64) → (Nat → Nat → Int32) → Prop} (hx : p.tables.exec = Jvm.exec) (hb : c.code = code) (hml : c.maxLocals = 4) (hown : s.vm.findClass RL = some m.cls) (hts : ∀ w ∈ lw_tbl, w.before args s = true) (hX : va_X b L0 xs s s.heap) (hbl : b < s.heap.size) (hbA : ¬ A b) (hA : ∀ q, s.heap.size ≤ q → A q) (hK : va_K D vwCl (k_tys cI cZ cJ cS) s) (hN : k_Nest s) (hZ : k_Z A s s.heap) {j : Nat} (hj : 7 * j + 7 ≤ L0) (hL0 : L0 ≤ 3584) (hsim : k_Sim_tide Rel) (next : ∀ (S : Nat → Nat → Int32) (L : Nat → Nat → Int64) (M : Nat → Nat → Int32) (H : Heap) (locs : List Loc) (ls : Array Slot), Rel S L M → va_P D vwCl (k_wX x u cI cZ cJ cS S L ++ k_wM y v cI cZ cJ cS M) H → va_D A (k_wX x u cI cZ cJ cS S L ++ k_wM y v cI cZ cJ cS M) → va_S A s.heap H locs → lv_has ls 4 [(0, .ref b), (1, .ref x), (2, .ref y), (3, .int (nI (7 * j)))] → W p l e room_1 s m args below meth c H locs 112 2248 Q (F0 m 956 ls [])) (S : Nat → Nat → Int32) (L : Nat → Nat → Int64) (M : Nat → Nat → Int32) (H : Heap) (locs : List Loc) (ls : Array Slot) (hR : Rel S L M) (hP : va_P D vwCl (k_wX x u cI cZ cJ cS S L ++ k_wM y v cI cZ cJ cS M) H) (hD : va_D A (k_wX x u cI cZ cJ cS S L ++ k_wM y v cI cZ cJ cS M)) (hS : va_S A s.heap H locs) (hl : lv_has ls 4 [(0, .ref b), (1, .ref x), (2, .ref y), (3, .int (nI (7 * j)))]) : W p l e room_1 s m args below meth c H locs 112 2248 Q (F0 m 144 ls []) := by
  have S0 : CallFix p m c code 4 s args lw_tbl RL := ⟨hx, hb, hml, hown, hts⟩
  refine lv_aload_n hx hb dL_law_144 rfl (lv_at hl 1 rfl) ?_
  refine lv_aload_n hx hb dL_law_145 rfl (lv_at hl 0 rfl) ?_
  refine lv_iload_n hx hb dL_law_146 rfl (lv_at hl 3 rfl) ?_
  refine lv_iconst (v := 1) hx hb dL_law_147 (by decide) ?_
  refine lv_iadd hx hb dL_law_148 ?_
  refine k_sld (k := 7 * j + 1) hx hb hX hbl hbA hS (k_lin1 hj hL0) (k_lcl1 hj hL0) dL_law_149 ?_
  refine lv_aload_n hx hb dL_law_150 rfl (lv_at hl 0 rfl) ?_
  refine lv_iload_n hx hb dL_law_151 rfl (lv_at hl 3 rfl) ?_
  refine lv_iconst (v := 2) hx hb dL_law_152 (by decide) ?_
  refine lv_iadd hx hb dL_law_153 ?_
  refine k_sld (k := 7 * j + 2) hx hb hX hbl hbA hS (k_lin2 hj hL0) (k_lcl2 hj hL0) dL_law_154 ?_
  obtain ⟨r1, S1, L1, M1, hX1, hM1, hR1⟩ := hsim S L M (xs (7 * j + 1)) (xs (7 * j + 2)) hR 
  refine k_lawL (q0 := 0) (As := [.int (xs (7 * j + 1)), .int (xs (7 * j + 2))]) (rest := []) S0 (k_MIZ (b_X8_tide l D cI cZ cJ cS x u S S1 L L1 (xs (7 * j + 1)) (xs (7 * j + 2)) r1 hX1)) (cwV 2 hts lg_X8_tide rfl rfl rfl hdV_X8_tide ⟨Nat.le_of_ble_eq_true rfl, Nat.le_of_ble_eq_true rfl⟩) hK hP hD hS hA hN hZ rfl rfl rfl rfl hl.1 rfl (Nat.le_of_ble_eq_true rfl) k_wX_adr ⟨Nat.le_of_ble_eq_true rfl, Nat.le_of_ble_eq_true rfl⟩ dL_law_155 (fun H locs hP hD hS => ?_)
  refine lv_aload_n hx hb dL_law_158 rfl (lv_at hl 2 rfl) ?_
  refine lv_aload_n hx hb dL_law_159 rfl (lv_at hl 0 rfl) ?_
  refine lv_iload_n hx hb dL_law_160 rfl (lv_at hl 3 rfl) ?_
  refine lv_iconst (v := 1) hx hb dL_law_161 (by decide) ?_
  refine lv_iadd hx hb dL_law_162 ?_
  refine k_sld (k := 7 * j + 1) hx hb hX hbl hbA hS (k_lin1 hj hL0) (k_lcl1 hj hL0) dL_law_163 ?_
  refine lv_aload_n hx hb dL_law_164 rfl (lv_at hl 0 rfl) ?_
  refine lv_iload_n hx hb dL_law_165 rfl (lv_at hl 3 rfl) ?_
  refine lv_iconst (v := 2) hx hb dL_law_166 (by decide) ?_
  refine lv_iadd hx hb dL_law_167 ?_
  refine k_sld (k := 7 * j + 2) hx hb hX hbl hbA hS (k_lin2 hj hL0) (k_lcl2 hj hL0) dL_law_168 ?_
  refine k_lawL (q0 := 0) (As := [.int (xs (7 * j + 1)), .int (xs (7 * j + 2))]) (rest := [.int r1]) S0 (k_MIZ (b_X9_tide l D cI cZ cJ cS y v M M1 (xs (7 * j + 1)) (xs (7 * j + 2)) r1 hM1)) (cwV 2 hts lg_X9_tide rfl rfl rfl hdV_X9_tide ⟨Nat.le_of_ble_eq_true rfl, Nat.le_of_ble_eq_true rfl⟩) hK (k_swapP hP) (k_swapD hD) hS hA hN hZ rfl rfl rfl rfl hl.1 rfl (Nat.le_of_ble_eq_true rfl) k_wM_adr ⟨Nat.le_of_ble_eq_true rfl, Nat.le_of_ble_eq_true rfl⟩ dL_law_169 (fun H locs hP hD hS => ?_)
  replace hP := k_swapP hP
  replace hD := k_swapD hD
  refine lv_icmp_eq (tgt := 956) hx hb dL_law_172 (by decide) (fun _ => ?_) (fun h => absurd rfl h)
  exact next S1 L1 M1 _ _ _ hR1 hP hD hS hl

set_option maxHeartbeats 4000000 in
set_option maxRecDepth 100000 in
theorem law_case_1 {p : Program} {l : Launch} {e : Env} {s : State} {m : MethodId} {args : Array Value} {below : List Frame} {meth : Method} {c : Code} {Q : State → Prop} {D : va_G} {cI cZ cJ cS : ClassId} {b L0 : Nat} {xs : Nat → Int32} {A : Nat → Prop} {x y : Nat} {u v : Nat → Nat} {Rel : (Nat → Nat → Int32) → (Nat → Nat → Int64) → (Nat → Nat → Int32) → Prop} (hx : p.tables.exec = Jvm.exec) (hb : c.code = code) (hml : c.maxLocals = 4) (hown : s.vm.findClass RL = some m.cls) (hts : ∀ w ∈ lw_tbl, w.before args s = true) (hX : va_X b L0 xs s s.heap) (hbl : b < s.heap.size) (hbA : ¬ A b) (hA : ∀ q, s.heap.size ≤ q → A q) (hK : va_K D vwCl (k_tys cI cZ cJ cS) s) (hN : k_Nest s) (hZ : k_Z A s s.heap) {j : Nat} (hj : 7 * j + 7 ≤ L0) (hL0 : L0 ≤ 3584) (hsim : k_Sim_tides Rel) (next : ∀ (S : Nat → Nat → Int32) (L : Nat → Nat → Int64) (M : Nat → Nat → Int32) (H : Heap) (locs : List Loc) (ls : Array Slot), Rel S L M → va_P D vwCl (k_wX x u cI cZ cJ cS S L ++ k_wM y v cI cZ cJ cS M) H → va_D A (k_wX x u cI cZ cJ cS S L ++ k_wM y v cI cZ cJ cS M) → va_S A s.heap H locs → lv_has ls 4 [(0, .ref b), (1, .ref x), (2, .ref y), (3, .int (nI (7 * j)))] → W p l e room_1 s m args below meth c H locs 112 2248 Q (F0 m 956 ls [])) (S : Nat → Nat → Int32) (L : Nat → Nat → Int64) (M : Nat → Nat → Int32) (H : Heap) (locs : List Loc) (ls : Array Slot) (hR : Rel S L M) (hP : va_P D vwCl (k_wX x u cI cZ cJ cS S L ++ k_wM y v cI cZ cJ cS M) H) (hD : va_D A (k_wX x u cI cZ cJ cS S L ++ k_wM y v cI cZ cJ cS M)) (hS : va_S A s.heap H locs) (hl : lv_has ls 4 [(0, .ref b), (1, .ref x), (2, .ref y), (3, .int (nI (7 * j)))]) : W p l e room_1 s m args below meth c H locs 112 2248 Q (F0 m 177 ls []) := by
  have S0 : CallFix p m c code 4 s args lw_tbl RL := ⟨hx, hb, hml, hown, hts⟩
  refine lv_aload_n hx hb dL_law_177 rfl (lv_at hl 1 rfl) ?_
  refine lv_aload_n hx hb dL_law_178 rfl (lv_at hl 0 rfl) ?_
  refine lv_iload_n hx hb dL_law_179 rfl (lv_at hl 3 rfl) ?_
  refine lv_iconst (v := 1) hx hb dL_law_180 (by decide) ?_
  refine lv_iadd hx hb dL_law_181 ?_
  refine k_sld (k := 7 * j + 1) hx hb hX hbl hbA hS (k_lin1 hj hL0) (k_lcl1 hj hL0) dL_law_182 ?_
  refine lv_aload_n hx hb dL_law_183 rfl (lv_at hl 0 rfl) ?_
  refine lv_iload_n hx hb dL_law_184 rfl (lv_at hl 3 rfl) ?_
  refine lv_iconst (v := 2) hx hb dL_law_185 (by decide) ?_
  refine lv_iadd hx hb dL_law_186 ?_
  refine k_sld (k := 7 * j + 2) hx hb hX hbl hbA hS (k_lin2 hj hL0) (k_lcl2 hj hL0) dL_law_187 ?_
  refine lv_aload_n hx hb dL_law_188 rfl (lv_at hl 0 rfl) ?_
  refine lv_iload_n hx hb dL_law_189 rfl (lv_at hl 3 rfl) ?_
  refine lv_iconst (v := 3) hx hb dL_law_190 (by decide) ?_
  refine lv_iadd hx hb dL_law_191 ?_
  refine k_sld (k := 7 * j + 3) hx hb hX hbl hbA hS (k_lin3 hj hL0) (k_lcl3 hj hL0) dL_law_192 ?_
  refine lv_i2l (v := (xs (7 * j + 3)).toInt64) hx hb dL_law_193 rfl ?_
  refine lv_bipush (v := 32) hx hb dL_law_194 (by decide) ?_
  refine lv_lshl (v := ((xs (7 * j + 3)).toInt64) <<< ((32 : Int32).toInt64 &&& 63)) hx hb dL_law_196 rfl ?_
  refine lv_aload_n hx hb dL_law_197 rfl (lv_at hl 0 rfl) ?_
  refine lv_iload_n hx hb dL_law_198 rfl (lv_at hl 3 rfl) ?_
  refine lv_iconst (v := 4) hx hb dL_law_199 (by decide) ?_
  refine lv_iadd hx hb dL_law_200 ?_
  refine k_sld (k := 7 * j + 4) hx hb hX hbl hbA hS (k_lin4 hj hL0) (k_lcl4 hj hL0) dL_law_201 ?_
  refine lv_i2l (v := (xs (7 * j + 4)).toInt64) hx hb dL_law_202 rfl ?_
  refine lv_ldc2 hx hb hown (hts (.constantLong RL 18 (4294967295)) (List.mem_of_getElem? (i := 1013) (by decide +kernel))) dL_law_203 ?_
  refine lv_land hx hb dL_law_206 ?_
  refine lv_lor hx hb dL_law_207 ?_
  obtain ⟨r1, S1, L1, M1, hX1, hM1, hR1⟩ := hsim S L M (xs (7 * j + 1)) (xs (7 * j + 2)) ((((xs (7 * j + 3)).toInt64) <<< ((32 : Int32).toInt64 &&& 63)) ||| (((xs (7 * j + 4)).toInt64) &&& 4294967295)) hR 
  refine k_lawL (q0 := 0) (As := [.int (xs (7 * j + 1)), .int (xs (7 * j + 2)), .long ((((xs (7 * j + 3)).toInt64) <<< ((32 : Int32).toInt64 &&& 63)) ||| (((xs (7 * j + 4)).toInt64) &&& 4294967295))]) (rest := []) S0 (k_MIZ (b_X8_tides l D cI cZ cJ cS x u S S1 L L1 (xs (7 * j + 1)) (xs (7 * j + 2)) ((((xs (7 * j + 3)).toInt64) <<< ((32 : Int32).toInt64 &&& 63)) ||| (((xs (7 * j + 4)).toInt64) &&& 4294967295)) r1 hX1)) (cwV 3 hts lg_X8_tides rfl rfl rfl hdV_X8_tides ⟨Nat.le_of_ble_eq_true rfl, Nat.le_of_ble_eq_true rfl⟩) hK hP hD hS hA hN hZ rfl rfl rfl rfl hl.1 rfl (Nat.le_of_ble_eq_true rfl) k_wX_adr ⟨Nat.le_of_ble_eq_true rfl, Nat.le_of_ble_eq_true rfl⟩ dL_law_208 (fun H locs hP hD hS => ?_)
  refine lv_aload_n hx hb dL_law_211 rfl (lv_at hl 2 rfl) ?_
  refine lv_aload_n hx hb dL_law_212 rfl (lv_at hl 0 rfl) ?_
  refine lv_iload_n hx hb dL_law_213 rfl (lv_at hl 3 rfl) ?_
  refine lv_iconst (v := 1) hx hb dL_law_214 (by decide) ?_
  refine lv_iadd hx hb dL_law_215 ?_
  refine k_sld (k := 7 * j + 1) hx hb hX hbl hbA hS (k_lin1 hj hL0) (k_lcl1 hj hL0) dL_law_216 ?_
  refine lv_aload_n hx hb dL_law_217 rfl (lv_at hl 0 rfl) ?_
  refine lv_iload_n hx hb dL_law_218 rfl (lv_at hl 3 rfl) ?_
  refine lv_iconst (v := 2) hx hb dL_law_219 (by decide) ?_
  refine lv_iadd hx hb dL_law_220 ?_
  refine k_sld (k := 7 * j + 2) hx hb hX hbl hbA hS (k_lin2 hj hL0) (k_lcl2 hj hL0) dL_law_221 ?_
  refine lv_aload_n hx hb dL_law_222 rfl (lv_at hl 0 rfl) ?_
  refine lv_iload_n hx hb dL_law_223 rfl (lv_at hl 3 rfl) ?_
  refine lv_iconst (v := 3) hx hb dL_law_224 (by decide) ?_
  refine lv_iadd hx hb dL_law_225 ?_
  refine k_sld (k := 7 * j + 3) hx hb hX hbl hbA hS (k_lin3 hj hL0) (k_lcl3 hj hL0) dL_law_226 ?_
  refine lv_i2l (v := (xs (7 * j + 3)).toInt64) hx hb dL_law_227 rfl ?_
  refine lv_bipush (v := 32) hx hb dL_law_228 (by decide) ?_
  refine lv_lshl (v := ((xs (7 * j + 3)).toInt64) <<< ((32 : Int32).toInt64 &&& 63)) hx hb dL_law_230 rfl ?_
  refine lv_aload_n hx hb dL_law_231 rfl (lv_at hl 0 rfl) ?_
  refine lv_iload_n hx hb dL_law_232 rfl (lv_at hl 3 rfl) ?_
  refine lv_iconst (v := 4) hx hb dL_law_233 (by decide) ?_
  refine lv_iadd hx hb dL_law_234 ?_
  refine k_sld (k := 7 * j + 4) hx hb hX hbl hbA hS (k_lin4 hj hL0) (k_lcl4 hj hL0) dL_law_235 ?_
  refine lv_i2l (v := (xs (7 * j + 4)).toInt64) hx hb dL_law_236 rfl ?_
  refine lv_ldc2 hx hb hown (hts (.constantLong RL 18 (4294967295)) (List.mem_of_getElem? (i := 1013) (by decide +kernel))) dL_law_237 ?_
  refine lv_land hx hb dL_law_240 ?_
  refine lv_lor hx hb dL_law_241 ?_
  refine k_lawL (q0 := 0) (As := [.int (xs (7 * j + 1)), .int (xs (7 * j + 2)), .long ((((xs (7 * j + 3)).toInt64) <<< ((32 : Int32).toInt64 &&& 63)) ||| (((xs (7 * j + 4)).toInt64) &&& 4294967295))]) (rest := [.int r1]) S0 (k_MIZ (b_X9_tides l D cI cZ cJ cS y v M M1 (xs (7 * j + 1)) (xs (7 * j + 2)) ((((xs (7 * j + 3)).toInt64) <<< ((32 : Int32).toInt64 &&& 63)) ||| (((xs (7 * j + 4)).toInt64) &&& 4294967295)) r1 hM1)) (cwV 3 hts lg_X9_tides rfl rfl rfl hdV_X9_tides ⟨Nat.le_of_ble_eq_true rfl, Nat.le_of_ble_eq_true rfl⟩) hK (k_swapP hP) (k_swapD hD) hS hA hN hZ rfl rfl rfl rfl hl.1 rfl (Nat.le_of_ble_eq_true rfl) k_wM_adr ⟨Nat.le_of_ble_eq_true rfl, Nat.le_of_ble_eq_true rfl⟩ dL_law_242 (fun H locs hP hD hS => ?_)
  replace hP := k_swapP hP
  replace hD := k_swapD hD
  refine lv_icmp_eq (tgt := 956) hx hb dL_law_245 (by decide) (fun _ => ?_) (fun h => absurd rfl h)
  exact next S1 L1 M1 _ _ _ hR1 hP hD hS hl

set_option maxHeartbeats 4000000 in
set_option maxRecDepth 100000 in
theorem law_case_2 {p : Program} {l : Launch} {e : Env} {s : State} {m : MethodId} {args : Array Value} {below : List Frame} {meth : Method} {c : Code} {Q : State → Prop} {D : va_G} {cI cZ cJ cS : ClassId} {b L0 : Nat} {xs : Nat → Int32} {A : Nat → Prop} {x y : Nat} {u v : Nat → Nat} {Rel : (Nat → Nat → Int32) → (Nat → Nat → Int64) → (Nat → Nat → Int32) → Prop} (hx : p.tables.exec = Jvm.exec) (hb : c.code = code) (hml : c.maxLocals = 4) (hown : s.vm.findClass RL = some m.cls) (hts : ∀ w ∈ lw_tbl, w.before args s = true) (hX : va_X b L0 xs s s.heap) (hbl : b < s.heap.size) (hbA : ¬ A b) (hA : ∀ q, s.heap.size ≤ q → A q) (hK : va_K D vwCl (k_tys cI cZ cJ cS) s) (hN : k_Nest s) (hZ : k_Z A s s.heap) {j : Nat} (hj : 7 * j + 7 ≤ L0) (hL0 : L0 ≤ 3584) (hsim : k_Sim_rain Rel) (next : ∀ (S : Nat → Nat → Int32) (L : Nat → Nat → Int64) (M : Nat → Nat → Int32) (H : Heap) (locs : List Loc) (ls : Array Slot), Rel S L M → va_P D vwCl (k_wX x u cI cZ cJ cS S L ++ k_wM y v cI cZ cJ cS M) H → va_D A (k_wX x u cI cZ cJ cS S L ++ k_wM y v cI cZ cJ cS M) → va_S A s.heap H locs → lv_has ls 4 [(0, .ref b), (1, .ref x), (2, .ref y), (3, .int (nI (7 * j)))] → W p l e room_1 s m args below meth c H locs 112 2248 Q (F0 m 956 ls [])) (S : Nat → Nat → Int32) (L : Nat → Nat → Int64) (M : Nat → Nat → Int32) (H : Heap) (locs : List Loc) (ls : Array Slot) (hR : Rel S L M) (hP : va_P D vwCl (k_wX x u cI cZ cJ cS S L ++ k_wM y v cI cZ cJ cS M) H) (hD : va_D A (k_wX x u cI cZ cJ cS S L ++ k_wM y v cI cZ cJ cS M)) (hS : va_S A s.heap H locs) (hl : lv_has ls 4 [(0, .ref b), (1, .ref x), (2, .ref y), (3, .int (nI (7 * j)))]) : W p l e room_1 s m args below meth c H locs 112 2248 Q (F0 m 250 ls []) := by
  have S0 : CallFix p m c code 4 s args lw_tbl RL := ⟨hx, hb, hml, hown, hts⟩
  refine lv_aload_n hx hb dL_law_250 rfl (lv_at hl 1 rfl) ?_
  refine lv_aload_n hx hb dL_law_251 rfl (lv_at hl 0 rfl) ?_
  refine lv_iload_n hx hb dL_law_252 rfl (lv_at hl 3 rfl) ?_
  refine lv_iconst (v := 1) hx hb dL_law_253 (by decide) ?_
  refine lv_iadd hx hb dL_law_254 ?_
  refine k_sld (k := 7 * j + 1) hx hb hX hbl hbA hS (k_lin1 hj hL0) (k_lcl1 hj hL0) dL_law_255 ?_
  refine lv_aload_n hx hb dL_law_256 rfl (lv_at hl 0 rfl) ?_
  refine lv_iload_n hx hb dL_law_257 rfl (lv_at hl 3 rfl) ?_
  refine lv_iconst (v := 2) hx hb dL_law_258 (by decide) ?_
  refine lv_iadd hx hb dL_law_259 ?_
  refine k_sld (k := 7 * j + 2) hx hb hX hbl hbA hS (k_lin2 hj hL0) (k_lcl2 hj hL0) dL_law_260 ?_
  refine lv_if_eq (tgt := 268) hx hb dL_law_261 (by decide) (fun hb1 => ?_) (fun hb1 => ?_)
  · skip
    refine lv_iconst (v := 0) hx hb dL_law_268 (by decide) ?_
    obtain ⟨r1, S1, L1, M1, hX1, hM1, hR1⟩ := hsim S L M (xs (7 * j + 1)) 0 hR (by decide)
    refine k_lawL (q0 := 0) (As := [.int (xs (7 * j + 1)), .int 0]) (rest := []) S0 (k_MIZ (b_X8_rain l D cI cZ cJ cS x u S S1 L L1 (xs (7 * j + 1)) 0 r1 hX1)) (cwV 2 hts lg_X8_rain rfl rfl rfl hdV_X8_rain ⟨Nat.le_of_ble_eq_true rfl, Nat.le_of_ble_eq_true rfl⟩) hK hP hD hS hA hN hZ rfl rfl rfl rfl hl.1 rfl (Nat.le_of_ble_eq_true rfl) k_wX_adr ⟨Nat.le_of_ble_eq_true rfl, Nat.le_of_ble_eq_true rfl⟩ dL_law_269 (fun H locs hP hD hS => ?_)
    refine lv_aload_n hx hb dL_law_272 rfl (lv_at hl 2 rfl) ?_
    refine lv_aload_n hx hb dL_law_273 rfl (lv_at hl 0 rfl) ?_
    refine lv_iload_n hx hb dL_law_274 rfl (lv_at hl 3 rfl) ?_
    refine lv_iconst (v := 1) hx hb dL_law_275 (by decide) ?_
    refine lv_iadd hx hb dL_law_276 ?_
    refine k_sld (k := 7 * j + 1) hx hb hX hbl hbA hS (k_lin1 hj hL0) (k_lcl1 hj hL0) dL_law_277 ?_
    refine lv_aload_n hx hb dL_law_278 rfl (lv_at hl 0 rfl) ?_
    refine lv_iload_n hx hb dL_law_279 rfl (lv_at hl 3 rfl) ?_
    refine lv_iconst (v := 2) hx hb dL_law_280 (by decide) ?_
    refine lv_iadd hx hb dL_law_281 ?_
    refine k_sld (k := 7 * j + 2) hx hb hX hbl hbA hS (k_lin2 hj hL0) (k_lcl2 hj hL0) dL_law_282 ?_
    refine lv_if_eq (tgt := 290) hx hb dL_law_283 (by decide) (fun _ => ?_) (fun h => absurd hb1 h)
    refine lv_iconst (v := 0) hx hb dL_law_290 (by decide) ?_
    refine k_lawL (q0 := 0) (As := [.int (xs (7 * j + 1)), .int 0]) (rest := [.int r1]) S0 (k_MIZ (b_X9_rain l D cI cZ cJ cS y v M M1 (xs (7 * j + 1)) 0 r1 hM1)) (cwV 2 hts lg_X9_rain rfl rfl rfl hdV_X9_rain ⟨Nat.le_of_ble_eq_true rfl, Nat.le_of_ble_eq_true rfl⟩) hK (k_swapP hP) (k_swapD hD) hS hA hN hZ rfl rfl rfl rfl hl.1 rfl (Nat.le_of_ble_eq_true rfl) k_wM_adr ⟨Nat.le_of_ble_eq_true rfl, Nat.le_of_ble_eq_true rfl⟩ dL_law_291 (fun H locs hP hD hS => ?_)
    replace hP := k_swapP hP
    replace hD := k_swapD hD
    refine lv_icmp_eq (tgt := 956) hx hb dL_law_294 (by decide) (fun _ => ?_) (fun h => absurd rfl h)
    exact next S1 L1 M1 _ _ _ hR1 hP hD hS hl
  · skip
    refine lv_iconst (v := 1) hx hb dL_law_264 (by decide) ?_
    refine lv_goto (tgt := 269) hx hb dL_law_265 (by decide) ?_
    obtain ⟨r1, S1, L1, M1, hX1, hM1, hR1⟩ := hsim S L M (xs (7 * j + 1)) 1 hR (by decide)
    refine k_lawL (q0 := 0) (As := [.int (xs (7 * j + 1)), .int 1]) (rest := []) S0 (k_MIZ (b_X8_rain l D cI cZ cJ cS x u S S1 L L1 (xs (7 * j + 1)) 1 r1 hX1)) (cwV 2 hts lg_X8_rain rfl rfl rfl hdV_X8_rain ⟨Nat.le_of_ble_eq_true rfl, Nat.le_of_ble_eq_true rfl⟩) hK hP hD hS hA hN hZ rfl rfl rfl rfl hl.1 rfl (Nat.le_of_ble_eq_true rfl) k_wX_adr ⟨Nat.le_of_ble_eq_true rfl, Nat.le_of_ble_eq_true rfl⟩ dL_law_269 (fun H locs hP hD hS => ?_)
    refine lv_aload_n hx hb dL_law_272 rfl (lv_at hl 2 rfl) ?_
    refine lv_aload_n hx hb dL_law_273 rfl (lv_at hl 0 rfl) ?_
    refine lv_iload_n hx hb dL_law_274 rfl (lv_at hl 3 rfl) ?_
    refine lv_iconst (v := 1) hx hb dL_law_275 (by decide) ?_
    refine lv_iadd hx hb dL_law_276 ?_
    refine k_sld (k := 7 * j + 1) hx hb hX hbl hbA hS (k_lin1 hj hL0) (k_lcl1 hj hL0) dL_law_277 ?_
    refine lv_aload_n hx hb dL_law_278 rfl (lv_at hl 0 rfl) ?_
    refine lv_iload_n hx hb dL_law_279 rfl (lv_at hl 3 rfl) ?_
    refine lv_iconst (v := 2) hx hb dL_law_280 (by decide) ?_
    refine lv_iadd hx hb dL_law_281 ?_
    refine k_sld (k := 7 * j + 2) hx hb hX hbl hbA hS (k_lin2 hj hL0) (k_lcl2 hj hL0) dL_law_282 ?_
    refine lv_if_eq (tgt := 290) hx hb dL_law_283 (by decide) (fun h => absurd h hb1) (fun _ => ?_)
    refine lv_iconst (v := 1) hx hb dL_law_286 (by decide) ?_
    refine lv_goto (tgt := 291) hx hb dL_law_287 (by decide) ?_
    refine k_lawL (q0 := 0) (As := [.int (xs (7 * j + 1)), .int 1]) (rest := [.int r1]) S0 (k_MIZ (b_X9_rain l D cI cZ cJ cS y v M M1 (xs (7 * j + 1)) 1 r1 hM1)) (cwV 2 hts lg_X9_rain rfl rfl rfl hdV_X9_rain ⟨Nat.le_of_ble_eq_true rfl, Nat.le_of_ble_eq_true rfl⟩) hK (k_swapP hP) (k_swapD hD) hS hA hN hZ rfl rfl rfl rfl hl.1 rfl (Nat.le_of_ble_eq_true rfl) k_wM_adr ⟨Nat.le_of_ble_eq_true rfl, Nat.le_of_ble_eq_true rfl⟩ dL_law_291 (fun H locs hP hD hS => ?_)
    replace hP := k_swapP hP
    replace hD := k_swapD hD
    refine lv_icmp_eq (tgt := 956) hx hb dL_law_294 (by decide) (fun _ => ?_) (fun h => absurd rfl h)
    exact next S1 L1 M1 _ _ _ hR1 hP hD hS hl

set_option maxHeartbeats 4000000 in
set_option maxRecDepth 100000 in
theorem law_case_3 {p : Program} {l : Launch} {e : Env} {s : State} {m : MethodId} {args : Array Value} {below : List Frame} {meth : Method} {c : Code} {Q : State → Prop} {D : va_G} {cI cZ cJ cS : ClassId} {b L0 : Nat} {xs : Nat → Int32} {A : Nat → Prop} {x y : Nat} {u v : Nat → Nat} {Rel : (Nat → Nat → Int32) → (Nat → Nat → Int64) → (Nat → Nat → Int32) → Prop} (hx : p.tables.exec = Jvm.exec) (hb : c.code = code) (hml : c.maxLocals = 4) (hown : s.vm.findClass RL = some m.cls) (hts : ∀ w ∈ lw_tbl, w.before args s = true) (hX : va_X b L0 xs s s.heap) (hbl : b < s.heap.size) (hbA : ¬ A b) (hA : ∀ q, s.heap.size ≤ q → A q) (hK : va_K D vwCl (k_tys cI cZ cJ cS) s) (hN : k_Nest s) (hZ : k_Z A s s.heap) {j : Nat} (hj : 7 * j + 7 ≤ L0) (hL0 : L0 ≤ 3584) (hsim : k_Sim_rule Rel) (next : ∀ (S : Nat → Nat → Int32) (L : Nat → Nat → Int64) (M : Nat → Nat → Int32) (H : Heap) (locs : List Loc) (ls : Array Slot), Rel S L M → va_P D vwCl (k_wX x u cI cZ cJ cS S L ++ k_wM y v cI cZ cJ cS M) H → va_D A (k_wX x u cI cZ cJ cS S L ++ k_wM y v cI cZ cJ cS M) → va_S A s.heap H locs → lv_has ls 4 [(0, .ref b), (1, .ref x), (2, .ref y), (3, .int (nI (7 * j)))] → W p l e room_1 s m args below meth c H locs 112 2248 Q (F0 m 956 ls [])) (S : Nat → Nat → Int32) (L : Nat → Nat → Int64) (M : Nat → Nat → Int32) (H : Heap) (locs : List Loc) (ls : Array Slot) (hR : Rel S L M) (hP : va_P D vwCl (k_wX x u cI cZ cJ cS S L ++ k_wM y v cI cZ cJ cS M) H) (hD : va_D A (k_wX x u cI cZ cJ cS S L ++ k_wM y v cI cZ cJ cS M)) (hS : va_S A s.heap H locs) (hl : lv_has ls 4 [(0, .ref b), (1, .ref x), (2, .ref y), (3, .int (nI (7 * j)))]) : W p l e room_1 s m args below meth c H locs 112 2248 Q (F0 m 299 ls []) := by
  have S0 : CallFix p m c code 4 s args lw_tbl RL := ⟨hx, hb, hml, hown, hts⟩
  refine lv_aload_n hx hb dL_law_299 rfl (lv_at hl 1 rfl) ?_
  refine lv_aload_n hx hb dL_law_300 rfl (lv_at hl 0 rfl) ?_
  refine lv_iload_n hx hb dL_law_301 rfl (lv_at hl 3 rfl) ?_
  refine lv_iconst (v := 1) hx hb dL_law_302 (by decide) ?_
  refine lv_iadd hx hb dL_law_303 ?_
  refine k_sld (k := 7 * j + 1) hx hb hX hbl hbA hS (k_lin1 hj hL0) (k_lcl1 hj hL0) dL_law_304 ?_
  refine lv_aload_n hx hb dL_law_305 rfl (lv_at hl 0 rfl) ?_
  refine lv_iload_n hx hb dL_law_306 rfl (lv_at hl 3 rfl) ?_
  refine lv_iconst (v := 2) hx hb dL_law_307 (by decide) ?_
  refine lv_iadd hx hb dL_law_308 ?_
  refine k_sld (k := 7 * j + 2) hx hb hX hbl hbA hS (k_lin2 hj hL0) (k_lcl2 hj hL0) dL_law_309 ?_
  obtain ⟨r1, S1, L1, M1, hX1, hM1, hR1⟩ := hsim S L M (xs (7 * j + 1)) (xs (7 * j + 2)) hR 
  refine k_lawL (q0 := 0) (As := [.int (xs (7 * j + 1)), .int (xs (7 * j + 2))]) (rest := []) S0 (b_X8_rule l D cI cZ cJ cS x u S S1 L L1 (xs (7 * j + 1)) (xs (7 * j + 2)) r1 hX1) (cwV 2 hts lg_X8_rule rfl rfl rfl hdV_X8_rule ⟨Nat.le_of_ble_eq_true rfl, Nat.le_of_ble_eq_true rfl⟩) hK hP hD hS hA hN hZ rfl rfl rfl rfl hl.1 rfl (Nat.le_of_ble_eq_true rfl) k_wX_adr ⟨Nat.le_of_ble_eq_true rfl, Nat.le_of_ble_eq_true rfl⟩ dL_law_310 (fun H locs hP hD hS => ?_)
  refine lv_aload_n hx hb dL_law_313 rfl (lv_at hl 2 rfl) ?_
  refine lv_aload_n hx hb dL_law_314 rfl (lv_at hl 0 rfl) ?_
  refine lv_iload_n hx hb dL_law_315 rfl (lv_at hl 3 rfl) ?_
  refine lv_iconst (v := 1) hx hb dL_law_316 (by decide) ?_
  refine lv_iadd hx hb dL_law_317 ?_
  refine k_sld (k := 7 * j + 1) hx hb hX hbl hbA hS (k_lin1 hj hL0) (k_lcl1 hj hL0) dL_law_318 ?_
  refine lv_aload_n hx hb dL_law_319 rfl (lv_at hl 0 rfl) ?_
  refine lv_iload_n hx hb dL_law_320 rfl (lv_at hl 3 rfl) ?_
  refine lv_iconst (v := 2) hx hb dL_law_321 (by decide) ?_
  refine lv_iadd hx hb dL_law_322 ?_
  refine k_sld (k := 7 * j + 2) hx hb hX hbl hbA hS (k_lin2 hj hL0) (k_lcl2 hj hL0) dL_law_323 ?_
  refine k_lawL (q0 := 0) (As := [.int (xs (7 * j + 1)), .int (xs (7 * j + 2))]) (rest := [.int r1]) S0 (k_MIZ (b_X9_rule l D cI cZ cJ cS y v M M1 (xs (7 * j + 1)) (xs (7 * j + 2)) r1 hM1)) (cwV 2 hts lg_X9_rule rfl rfl rfl hdV_X9_rule ⟨Nat.le_of_ble_eq_true rfl, Nat.le_of_ble_eq_true rfl⟩) hK (k_swapP hP) (k_swapD hD) hS hA hN hZ rfl rfl rfl rfl hl.1 rfl (Nat.le_of_ble_eq_true rfl) k_wM_adr ⟨Nat.le_of_ble_eq_true rfl, Nat.le_of_ble_eq_true rfl⟩ dL_law_324 (fun H locs hP hD hS => ?_)
  replace hP := k_swapP hP
  replace hD := k_swapD hD
  refine lv_icmp_eq (tgt := 956) hx hb dL_law_327 (by decide) (fun _ => ?_) (fun h => absurd rfl h)
  exact next S1 L1 M1 _ _ _ hR1 hP hD hS hl

set_option maxHeartbeats 4000000 in
set_option maxRecDepth 100000 in
theorem law_case_4 {p : Program} {l : Launch} {e : Env} {s : State} {m : MethodId} {args : Array Value} {below : List Frame} {meth : Method} {c : Code} {Q : State → Prop} {D : va_G} {cI cZ cJ cS : ClassId} {b L0 : Nat} {xs : Nat → Int32} {A : Nat → Prop} {x y : Nat} {u v : Nat → Nat} {Rel : (Nat → Nat → Int32) → (Nat → Nat → Int64) → (Nat → Nat → Int32) → Prop} (hx : p.tables.exec = Jvm.exec) (hb : c.code = code) (hml : c.maxLocals = 4) (hown : s.vm.findClass RL = some m.cls) (hts : ∀ w ∈ lw_tbl, w.before args s = true) (hX : va_X b L0 xs s s.heap) (hbl : b < s.heap.size) (hbA : ¬ A b) (hA : ∀ q, s.heap.size ≤ q → A q) (hK : va_K D vwCl (k_tys cI cZ cJ cS) s) (hN : k_Nest s) (hZ : k_Z A s s.heap) {j : Nat} (hj : 7 * j + 7 ≤ L0) (hL0 : L0 ≤ 3584) (hsim : k_Sim_thing Rel) (next : ∀ (S : Nat → Nat → Int32) (L : Nat → Nat → Int64) (M : Nat → Nat → Int32) (H : Heap) (locs : List Loc) (ls : Array Slot), Rel S L M → va_P D vwCl (k_wX x u cI cZ cJ cS S L ++ k_wM y v cI cZ cJ cS M) H → va_D A (k_wX x u cI cZ cJ cS S L ++ k_wM y v cI cZ cJ cS M) → va_S A s.heap H locs → lv_has ls 4 [(0, .ref b), (1, .ref x), (2, .ref y), (3, .int (nI (7 * j)))] → W p l e room_1 s m args below meth c H locs 112 2248 Q (F0 m 956 ls [])) (S : Nat → Nat → Int32) (L : Nat → Nat → Int64) (M : Nat → Nat → Int32) (H : Heap) (locs : List Loc) (ls : Array Slot) (hR : Rel S L M) (hP : va_P D vwCl (k_wX x u cI cZ cJ cS S L ++ k_wM y v cI cZ cJ cS M) H) (hD : va_D A (k_wX x u cI cZ cJ cS S L ++ k_wM y v cI cZ cJ cS M)) (hS : va_S A s.heap H locs) (hl : lv_has ls 4 [(0, .ref b), (1, .ref x), (2, .ref y), (3, .int (nI (7 * j)))]) : W p l e room_1 s m args below meth c H locs 112 2248 Q (F0 m 332 ls []) := by
  have S0 : CallFix p m c code 4 s args lw_tbl RL := ⟨hx, hb, hml, hown, hts⟩
  refine lv_aload_n hx hb dL_law_332 rfl (lv_at hl 1 rfl) ?_
  refine lv_aload_n hx hb dL_law_333 rfl (lv_at hl 0 rfl) ?_
  refine lv_iload_n hx hb dL_law_334 rfl (lv_at hl 3 rfl) ?_
  refine lv_iconst (v := 1) hx hb dL_law_335 (by decide) ?_
  refine lv_iadd hx hb dL_law_336 ?_
  refine k_sld (k := 7 * j + 1) hx hb hX hbl hbA hS (k_lin1 hj hL0) (k_lcl1 hj hL0) dL_law_337 ?_
  refine lv_aload_n hx hb dL_law_338 rfl (lv_at hl 0 rfl) ?_
  refine lv_iload_n hx hb dL_law_339 rfl (lv_at hl 3 rfl) ?_
  refine lv_iconst (v := 2) hx hb dL_law_340 (by decide) ?_
  refine lv_iadd hx hb dL_law_341 ?_
  refine k_sld (k := 7 * j + 2) hx hb hX hbl hbA hS (k_lin2 hj hL0) (k_lcl2 hj hL0) dL_law_342 ?_
  obtain ⟨r1, S1, L1, M1, hX1, hM1, hR1⟩ := hsim S L M (xs (7 * j + 1)) (xs (7 * j + 2)) hR 
  refine k_lawL (q0 := 0) (As := [.int (xs (7 * j + 1)), .int (xs (7 * j + 2))]) (rest := []) S0 (k_MIZ (b_X8_thing l D cI cZ cJ cS x u S S1 L L1 (xs (7 * j + 1)) (xs (7 * j + 2)) r1 hX1)) (cwV 2 hts lg_X8_thing rfl rfl rfl hdV_X8_thing ⟨Nat.le_of_ble_eq_true rfl, Nat.le_of_ble_eq_true rfl⟩) hK hP hD hS hA hN hZ rfl rfl rfl rfl hl.1 rfl (Nat.le_of_ble_eq_true rfl) k_wX_adr ⟨Nat.le_of_ble_eq_true rfl, Nat.le_of_ble_eq_true rfl⟩ dL_law_343 (fun H locs hP hD hS => ?_)
  refine lv_aload_n hx hb dL_law_346 rfl (lv_at hl 2 rfl) ?_
  refine lv_aload_n hx hb dL_law_347 rfl (lv_at hl 0 rfl) ?_
  refine lv_iload_n hx hb dL_law_348 rfl (lv_at hl 3 rfl) ?_
  refine lv_iconst (v := 1) hx hb dL_law_349 (by decide) ?_
  refine lv_iadd hx hb dL_law_350 ?_
  refine k_sld (k := 7 * j + 1) hx hb hX hbl hbA hS (k_lin1 hj hL0) (k_lcl1 hj hL0) dL_law_351 ?_
  refine lv_aload_n hx hb dL_law_352 rfl (lv_at hl 0 rfl) ?_
  refine lv_iload_n hx hb dL_law_353 rfl (lv_at hl 3 rfl) ?_
  refine lv_iconst (v := 2) hx hb dL_law_354 (by decide) ?_
  refine lv_iadd hx hb dL_law_355 ?_
  refine k_sld (k := 7 * j + 2) hx hb hX hbl hbA hS (k_lin2 hj hL0) (k_lcl2 hj hL0) dL_law_356 ?_
  refine k_lawL (q0 := 0) (As := [.int (xs (7 * j + 1)), .int (xs (7 * j + 2))]) (rest := [.int r1]) S0 (k_MIZ (b_X9_thing l D cI cZ cJ cS y v M M1 (xs (7 * j + 1)) (xs (7 * j + 2)) r1 hM1)) (cwV 2 hts lg_X9_thing rfl rfl rfl hdV_X9_thing ⟨Nat.le_of_ble_eq_true rfl, Nat.le_of_ble_eq_true rfl⟩) hK (k_swapP hP) (k_swapD hD) hS hA hN hZ rfl rfl rfl rfl hl.1 rfl (Nat.le_of_ble_eq_true rfl) k_wM_adr ⟨Nat.le_of_ble_eq_true rfl, Nat.le_of_ble_eq_true rfl⟩ dL_law_357 (fun H locs hP hD hS => ?_)
  replace hP := k_swapP hP
  replace hD := k_swapD hD
  refine lv_icmp_eq (tgt := 956) hx hb dL_law_360 (by decide) (fun _ => ?_) (fun h => absurd rfl h)
  exact next S1 L1 M1 _ _ _ hR1 hP hD hS hl

set_option maxHeartbeats 4000000 in
set_option maxRecDepth 100000 in
theorem law_case_5 {p : Program} {l : Launch} {e : Env} {s : State} {m : MethodId} {args : Array Value} {below : List Frame} {meth : Method} {c : Code} {Q : State → Prop} {D : va_G} {cI cZ cJ cS : ClassId} {b L0 : Nat} {xs : Nat → Int32} {A : Nat → Prop} {x y : Nat} {u v : Nat → Nat} {Rel : (Nat → Nat → Int32) → (Nat → Nat → Int64) → (Nat → Nat → Int32) → Prop} (hx : p.tables.exec = Jvm.exec) (hb : c.code = code) (hml : c.maxLocals = 4) (hown : s.vm.findClass RL = some m.cls) (hts : ∀ w ∈ lw_tbl, w.before args s = true) (hX : va_X b L0 xs s s.heap) (hbl : b < s.heap.size) (hbA : ¬ A b) (hA : ∀ q, s.heap.size ≤ q → A q) (hK : va_K D vwCl (k_tys cI cZ cJ cS) s) (hN : k_Nest s) (hZ : k_Z A s s.heap) {j : Nat} (hj : 7 * j + 7 ≤ L0) (hL0 : L0 ≤ 3584) (hsim : k_Sim_tackle Rel) (next : ∀ (S : Nat → Nat → Int32) (L : Nat → Nat → Int64) (M : Nat → Nat → Int32) (H : Heap) (locs : List Loc) (ls : Array Slot), Rel S L M → va_P D vwCl (k_wX x u cI cZ cJ cS S L ++ k_wM y v cI cZ cJ cS M) H → va_D A (k_wX x u cI cZ cJ cS S L ++ k_wM y v cI cZ cJ cS M) → va_S A s.heap H locs → lv_has ls 4 [(0, .ref b), (1, .ref x), (2, .ref y), (3, .int (nI (7 * j)))] → W p l e room_1 s m args below meth c H locs 112 2248 Q (F0 m 956 ls [])) (S : Nat → Nat → Int32) (L : Nat → Nat → Int64) (M : Nat → Nat → Int32) (H : Heap) (locs : List Loc) (ls : Array Slot) (hR : Rel S L M) (hP : va_P D vwCl (k_wX x u cI cZ cJ cS S L ++ k_wM y v cI cZ cJ cS M) H) (hD : va_D A (k_wX x u cI cZ cJ cS S L ++ k_wM y v cI cZ cJ cS M)) (hS : va_S A s.heap H locs) (hl : lv_has ls 4 [(0, .ref b), (1, .ref x), (2, .ref y), (3, .int (nI (7 * j)))]) : W p l e room_1 s m args below meth c H locs 112 2248 Q (F0 m 365 ls []) := by
  have S0 : CallFix p m c code 4 s args lw_tbl RL := ⟨hx, hb, hml, hown, hts⟩
  refine lv_aload_n hx hb dL_law_365 rfl (lv_at hl 1 rfl) ?_
  refine lv_aload_n hx hb dL_law_366 rfl (lv_at hl 0 rfl) ?_
  refine lv_iload_n hx hb dL_law_367 rfl (lv_at hl 3 rfl) ?_
  refine lv_iconst (v := 1) hx hb dL_law_368 (by decide) ?_
  refine lv_iadd hx hb dL_law_369 ?_
  refine k_sld (k := 7 * j + 1) hx hb hX hbl hbA hS (k_lin1 hj hL0) (k_lcl1 hj hL0) dL_law_370 ?_
  refine lv_aload_n hx hb dL_law_371 rfl (lv_at hl 0 rfl) ?_
  refine lv_iload_n hx hb dL_law_372 rfl (lv_at hl 3 rfl) ?_
  refine lv_iconst (v := 2) hx hb dL_law_373 (by decide) ?_
  refine lv_iadd hx hb dL_law_374 ?_
  refine k_sld (k := 7 * j + 2) hx hb hX hbl hbA hS (k_lin2 hj hL0) (k_lcl2 hj hL0) dL_law_375 ?_
  refine lv_aload_n hx hb dL_law_376 rfl (lv_at hl 0 rfl) ?_
  refine lv_iload_n hx hb dL_law_377 rfl (lv_at hl 3 rfl) ?_
  refine lv_iconst (v := 3) hx hb dL_law_378 (by decide) ?_
  refine lv_iadd hx hb dL_law_379 ?_
  refine k_sld (k := 7 * j + 3) hx hb hX hbl hbA hS (k_lin3 hj hL0) (k_lcl3 hj hL0) dL_law_380 ?_
  obtain ⟨r1, S1, L1, M1, hX1, hM1, hR1⟩ := hsim S L M (xs (7 * j + 1)) (xs (7 * j + 2)) (xs (7 * j + 3)) hR 
  refine k_lawL (q0 := 0) (As := [.int (xs (7 * j + 1)), .int (xs (7 * j + 2)), .int (xs (7 * j + 3))]) (rest := []) S0 (k_MIZ (b_X8_tackle l D cI cZ cJ cS x u S S1 L L1 (xs (7 * j + 1)) (xs (7 * j + 2)) (xs (7 * j + 3)) r1 hX1)) (cwV 3 hts lg_X8_tackle rfl rfl rfl hdV_X8_tackle ⟨Nat.le_of_ble_eq_true rfl, Nat.le_of_ble_eq_true rfl⟩) hK hP hD hS hA hN hZ rfl rfl rfl rfl hl.1 rfl (Nat.le_of_ble_eq_true rfl) k_wX_adr ⟨Nat.le_of_ble_eq_true rfl, Nat.le_of_ble_eq_true rfl⟩ dL_law_381 (fun H locs hP hD hS => ?_)
  refine lv_aload_n hx hb dL_law_384 rfl (lv_at hl 2 rfl) ?_
  refine lv_aload_n hx hb dL_law_385 rfl (lv_at hl 0 rfl) ?_
  refine lv_iload_n hx hb dL_law_386 rfl (lv_at hl 3 rfl) ?_
  refine lv_iconst (v := 1) hx hb dL_law_387 (by decide) ?_
  refine lv_iadd hx hb dL_law_388 ?_
  refine k_sld (k := 7 * j + 1) hx hb hX hbl hbA hS (k_lin1 hj hL0) (k_lcl1 hj hL0) dL_law_389 ?_
  refine lv_aload_n hx hb dL_law_390 rfl (lv_at hl 0 rfl) ?_
  refine lv_iload_n hx hb dL_law_391 rfl (lv_at hl 3 rfl) ?_
  refine lv_iconst (v := 2) hx hb dL_law_392 (by decide) ?_
  refine lv_iadd hx hb dL_law_393 ?_
  refine k_sld (k := 7 * j + 2) hx hb hX hbl hbA hS (k_lin2 hj hL0) (k_lcl2 hj hL0) dL_law_394 ?_
  refine lv_aload_n hx hb dL_law_395 rfl (lv_at hl 0 rfl) ?_
  refine lv_iload_n hx hb dL_law_396 rfl (lv_at hl 3 rfl) ?_
  refine lv_iconst (v := 3) hx hb dL_law_397 (by decide) ?_
  refine lv_iadd hx hb dL_law_398 ?_
  refine k_sld (k := 7 * j + 3) hx hb hX hbl hbA hS (k_lin3 hj hL0) (k_lcl3 hj hL0) dL_law_399 ?_
  refine k_lawL (q0 := 0) (As := [.int (xs (7 * j + 1)), .int (xs (7 * j + 2)), .int (xs (7 * j + 3))]) (rest := [.int r1]) S0 (k_MIZ (b_X9_tackle l D cI cZ cJ cS y v M M1 (xs (7 * j + 1)) (xs (7 * j + 2)) (xs (7 * j + 3)) r1 hM1)) (cwV 3 hts lg_X9_tackle rfl rfl rfl hdV_X9_tackle ⟨Nat.le_of_ble_eq_true rfl, Nat.le_of_ble_eq_true rfl⟩) hK (k_swapP hP) (k_swapD hD) hS hA hN hZ rfl rfl rfl rfl hl.1 rfl (Nat.le_of_ble_eq_true rfl) k_wM_adr ⟨Nat.le_of_ble_eq_true rfl, Nat.le_of_ble_eq_true rfl⟩ dL_law_400 (fun H locs hP hD hS => ?_)
  replace hP := k_swapP hP
  replace hD := k_swapD hD
  refine lv_icmp_eq (tgt := 956) hx hb dL_law_403 (by decide) (fun _ => ?_) (fun h => absurd rfl h)
  exact next S1 L1 M1 _ _ _ hR1 hP hD hS hl

set_option maxHeartbeats 4000000 in
set_option maxRecDepth 100000 in
theorem law_case_6 {p : Program} {l : Launch} {e : Env} {s : State} {m : MethodId} {args : Array Value} {below : List Frame} {meth : Method} {c : Code} {Q : State → Prop} {D : va_G} {cI cZ cJ cS : ClassId} {b L0 : Nat} {xs : Nat → Int32} {A : Nat → Prop} {x y : Nat} {u v : Nat → Nat} {Rel : (Nat → Nat → Int32) → (Nat → Nat → Int64) → (Nat → Nat → Int32) → Prop} (hx : p.tables.exec = Jvm.exec) (hb : c.code = code) (hml : c.maxLocals = 4) (hown : s.vm.findClass RL = some m.cls) (hts : ∀ w ∈ lw_tbl, w.before args s = true) (hX : va_X b L0 xs s s.heap) (hbl : b < s.heap.size) (hbA : ¬ A b) (hA : ∀ q, s.heap.size ≤ q → A q) (hK : va_K D vwCl (k_tys cI cZ cJ cS) s) (hN : k_Nest s) (hZ : k_Z A s s.heap) {j : Nat} (hj : 7 * j + 7 ≤ L0) (hL0 : L0 ≤ 3584) (hsim : k_Sim_seam Rel) (next : ∀ (S : Nat → Nat → Int32) (L : Nat → Nat → Int64) (M : Nat → Nat → Int32) (H : Heap) (locs : List Loc) (ls : Array Slot), Rel S L M → va_P D vwCl (k_wX x u cI cZ cJ cS S L ++ k_wM y v cI cZ cJ cS M) H → va_D A (k_wX x u cI cZ cJ cS S L ++ k_wM y v cI cZ cJ cS M) → va_S A s.heap H locs → lv_has ls 4 [(0, .ref b), (1, .ref x), (2, .ref y), (3, .int (nI (7 * j)))] → W p l e room_1 s m args below meth c H locs 112 2248 Q (F0 m 956 ls [])) (S : Nat → Nat → Int32) (L : Nat → Nat → Int64) (M : Nat → Nat → Int32) (H : Heap) (locs : List Loc) (ls : Array Slot) (hR : Rel S L M) (hP : va_P D vwCl (k_wX x u cI cZ cJ cS S L ++ k_wM y v cI cZ cJ cS M) H) (hD : va_D A (k_wX x u cI cZ cJ cS S L ++ k_wM y v cI cZ cJ cS M)) (hS : va_S A s.heap H locs) (hl : lv_has ls 4 [(0, .ref b), (1, .ref x), (2, .ref y), (3, .int (nI (7 * j)))]) : W p l e room_1 s m args below meth c H locs 112 2248 Q (F0 m 408 ls []) := by
  have S0 : CallFix p m c code 4 s args lw_tbl RL := ⟨hx, hb, hml, hown, hts⟩
  refine lv_aload_n hx hb dL_law_408 rfl (lv_at hl 1 rfl) ?_
  refine lv_aload_n hx hb dL_law_409 rfl (lv_at hl 0 rfl) ?_
  refine lv_iload_n hx hb dL_law_410 rfl (lv_at hl 3 rfl) ?_
  refine lv_iconst (v := 1) hx hb dL_law_411 (by decide) ?_
  refine lv_iadd hx hb dL_law_412 ?_
  refine k_sld (k := 7 * j + 1) hx hb hX hbl hbA hS (k_lin1 hj hL0) (k_lcl1 hj hL0) dL_law_413 ?_
  refine lv_aload_n hx hb dL_law_414 rfl (lv_at hl 0 rfl) ?_
  refine lv_iload_n hx hb dL_law_415 rfl (lv_at hl 3 rfl) ?_
  refine lv_iconst (v := 2) hx hb dL_law_416 (by decide) ?_
  refine lv_iadd hx hb dL_law_417 ?_
  refine k_sld (k := 7 * j + 2) hx hb hX hbl hbA hS (k_lin2 hj hL0) (k_lcl2 hj hL0) dL_law_418 ?_
  refine lv_aload_n hx hb dL_law_419 rfl (lv_at hl 0 rfl) ?_
  refine lv_iload_n hx hb dL_law_420 rfl (lv_at hl 3 rfl) ?_
  refine lv_iconst (v := 3) hx hb dL_law_421 (by decide) ?_
  refine lv_iadd hx hb dL_law_422 ?_
  refine k_sld (k := 7 * j + 3) hx hb hX hbl hbA hS (k_lin3 hj hL0) (k_lcl3 hj hL0) dL_law_423 ?_
  refine lv_aload_n hx hb dL_law_424 rfl (lv_at hl 0 rfl) ?_
  refine lv_iload_n hx hb dL_law_425 rfl (lv_at hl 3 rfl) ?_
  refine lv_iconst (v := 4) hx hb dL_law_426 (by decide) ?_
  refine lv_iadd hx hb dL_law_427 ?_
  refine k_sld (k := 7 * j + 4) hx hb hX hbl hbA hS (k_lin4 hj hL0) (k_lcl4 hj hL0) dL_law_428 ?_
  refine lv_aload_n hx hb dL_law_429 rfl (lv_at hl 0 rfl) ?_
  refine lv_iload_n hx hb dL_law_430 rfl (lv_at hl 3 rfl) ?_
  refine lv_iconst (v := 5) hx hb dL_law_431 (by decide) ?_
  refine lv_iadd hx hb dL_law_432 ?_
  refine k_sld (k := 7 * j + 5) hx hb hX hbl hbA hS (k_lin5 hj hL0) (k_lcl5 hj hL0) dL_law_433 ?_
  refine lv_aload_n hx hb dL_law_434 rfl (lv_at hl 0 rfl) ?_
  refine lv_iload_n hx hb dL_law_435 rfl (lv_at hl 3 rfl) ?_
  refine lv_bipush (v := 6) hx hb dL_law_436 (by decide) ?_
  refine lv_iadd hx hb dL_law_438 ?_
  refine k_sld (k := 7 * j + 6) hx hb hX hbl hbA hS (k_lin6 hj hL0) (k_lcl6 hj hL0) dL_law_439 ?_
  obtain ⟨r1, S1, L1, M1, hX1, hM1, hR1⟩ := hsim S L M (xs (7 * j + 1)) (xs (7 * j + 2)) (xs (7 * j + 3)) (xs (7 * j + 4)) (xs (7 * j + 5)) (xs (7 * j + 6)) hR 
  refine k_lawL (q0 := 0) (As := [.int (xs (7 * j + 1)), .int (xs (7 * j + 2)), .int (xs (7 * j + 3)), .int (xs (7 * j + 4)), .int (xs (7 * j + 5)), .int (xs (7 * j + 6))]) (rest := []) S0 (k_MIZ (b_X8_seam l D cI cZ cJ cS x u S S1 L L1 (xs (7 * j + 1)) (xs (7 * j + 2)) (xs (7 * j + 3)) (xs (7 * j + 4)) (xs (7 * j + 5)) (xs (7 * j + 6)) r1 hX1)) (cwV 6 hts lg_X8_seam rfl rfl rfl hdV_X8_seam ⟨Nat.le_of_ble_eq_true rfl, Nat.le_of_ble_eq_true rfl⟩) hK hP hD hS hA hN hZ rfl rfl rfl rfl hl.1 rfl (Nat.le_of_ble_eq_true rfl) k_wX_adr ⟨Nat.le_of_ble_eq_true rfl, Nat.le_of_ble_eq_true rfl⟩ dL_law_440 (fun H locs hP hD hS => ?_)
  refine lv_aload_n hx hb dL_law_443 rfl (lv_at hl 2 rfl) ?_
  refine lv_aload_n hx hb dL_law_444 rfl (lv_at hl 0 rfl) ?_
  refine lv_iload_n hx hb dL_law_445 rfl (lv_at hl 3 rfl) ?_
  refine lv_iconst (v := 1) hx hb dL_law_446 (by decide) ?_
  refine lv_iadd hx hb dL_law_447 ?_
  refine k_sld (k := 7 * j + 1) hx hb hX hbl hbA hS (k_lin1 hj hL0) (k_lcl1 hj hL0) dL_law_448 ?_
  refine lv_aload_n hx hb dL_law_449 rfl (lv_at hl 0 rfl) ?_
  refine lv_iload_n hx hb dL_law_450 rfl (lv_at hl 3 rfl) ?_
  refine lv_iconst (v := 2) hx hb dL_law_451 (by decide) ?_
  refine lv_iadd hx hb dL_law_452 ?_
  refine k_sld (k := 7 * j + 2) hx hb hX hbl hbA hS (k_lin2 hj hL0) (k_lcl2 hj hL0) dL_law_453 ?_
  refine lv_aload_n hx hb dL_law_454 rfl (lv_at hl 0 rfl) ?_
  refine lv_iload_n hx hb dL_law_455 rfl (lv_at hl 3 rfl) ?_
  refine lv_iconst (v := 3) hx hb dL_law_456 (by decide) ?_
  refine lv_iadd hx hb dL_law_457 ?_
  refine k_sld (k := 7 * j + 3) hx hb hX hbl hbA hS (k_lin3 hj hL0) (k_lcl3 hj hL0) dL_law_458 ?_
  refine lv_aload_n hx hb dL_law_459 rfl (lv_at hl 0 rfl) ?_
  refine lv_iload_n hx hb dL_law_460 rfl (lv_at hl 3 rfl) ?_
  refine lv_iconst (v := 4) hx hb dL_law_461 (by decide) ?_
  refine lv_iadd hx hb dL_law_462 ?_
  refine k_sld (k := 7 * j + 4) hx hb hX hbl hbA hS (k_lin4 hj hL0) (k_lcl4 hj hL0) dL_law_463 ?_
  refine lv_aload_n hx hb dL_law_464 rfl (lv_at hl 0 rfl) ?_
  refine lv_iload_n hx hb dL_law_465 rfl (lv_at hl 3 rfl) ?_
  refine lv_iconst (v := 5) hx hb dL_law_466 (by decide) ?_
  refine lv_iadd hx hb dL_law_467 ?_
  refine k_sld (k := 7 * j + 5) hx hb hX hbl hbA hS (k_lin5 hj hL0) (k_lcl5 hj hL0) dL_law_468 ?_
  refine lv_aload_n hx hb dL_law_469 rfl (lv_at hl 0 rfl) ?_
  refine lv_iload_n hx hb dL_law_470 rfl (lv_at hl 3 rfl) ?_
  refine lv_bipush (v := 6) hx hb dL_law_471 (by decide) ?_
  refine lv_iadd hx hb dL_law_473 ?_
  refine k_sld (k := 7 * j + 6) hx hb hX hbl hbA hS (k_lin6 hj hL0) (k_lcl6 hj hL0) dL_law_474 ?_
  refine k_lawL (q0 := 0) (As := [.int (xs (7 * j + 1)), .int (xs (7 * j + 2)), .int (xs (7 * j + 3)), .int (xs (7 * j + 4)), .int (xs (7 * j + 5)), .int (xs (7 * j + 6))]) (rest := [.int r1]) S0 (k_MIZ (b_X9_seam l D cI cZ cJ cS y v M M1 (xs (7 * j + 1)) (xs (7 * j + 2)) (xs (7 * j + 3)) (xs (7 * j + 4)) (xs (7 * j + 5)) (xs (7 * j + 6)) r1 hM1)) (cwV 6 hts lg_X9_seam rfl rfl rfl hdV_X9_seam ⟨Nat.le_of_ble_eq_true rfl, Nat.le_of_ble_eq_true rfl⟩) hK (k_swapP hP) (k_swapD hD) hS hA hN hZ rfl rfl rfl rfl hl.1 rfl (Nat.le_of_ble_eq_true rfl) k_wM_adr ⟨Nat.le_of_ble_eq_true rfl, Nat.le_of_ble_eq_true rfl⟩ dL_law_475 (fun H locs hP hD hS => ?_)
  replace hP := k_swapP hP
  replace hD := k_swapD hD
  refine lv_icmp_eq (tgt := 956) hx hb dL_law_478 (by decide) (fun _ => ?_) (fun h => absurd rfl h)
  exact next S1 L1 M1 _ _ _ hR1 hP hD hS hl

set_option maxHeartbeats 4000000 in
set_option maxRecDepth 100000 in
theorem law_case_7 {p : Program} {l : Launch} {e : Env} {s : State} {m : MethodId} {args : Array Value} {below : List Frame} {meth : Method} {c : Code} {Q : State → Prop} {D : va_G} {cI cZ cJ cS : ClassId} {b L0 : Nat} {xs : Nat → Int32} {A : Nat → Prop} {x y : Nat} {u v : Nat → Nat} {Rel : (Nat → Nat → Int32) → (Nat → Nat → Int64) → (Nat → Nat → Int32) → Prop} (hx : p.tables.exec = Jvm.exec) (hb : c.code = code) (hml : c.maxLocals = 4) (hown : s.vm.findClass RL = some m.cls) (hts : ∀ w ∈ lw_tbl, w.before args s = true) (hX : va_X b L0 xs s s.heap) (hbl : b < s.heap.size) (hbA : ¬ A b) (hA : ∀ q, s.heap.size ≤ q → A q) (hK : va_K D vwCl (k_tys cI cZ cJ cS) s) (hN : k_Nest s) (hZ : k_Z A s s.heap) {j : Nat} (hj : 7 * j + 7 ≤ L0) (hL0 : L0 ≤ 3584) (hsim : k_Sim_ship Rel) (next : ∀ (S : Nat → Nat → Int32) (L : Nat → Nat → Int64) (M : Nat → Nat → Int32) (H : Heap) (locs : List Loc) (ls : Array Slot), Rel S L M → va_P D vwCl (k_wX x u cI cZ cJ cS S L ++ k_wM y v cI cZ cJ cS M) H → va_D A (k_wX x u cI cZ cJ cS S L ++ k_wM y v cI cZ cJ cS M) → va_S A s.heap H locs → lv_has ls 4 [(0, .ref b), (1, .ref x), (2, .ref y), (3, .int (nI (7 * j)))] → W p l e room_1 s m args below meth c H locs 112 2248 Q (F0 m 956 ls [])) (S : Nat → Nat → Int32) (L : Nat → Nat → Int64) (M : Nat → Nat → Int32) (H : Heap) (locs : List Loc) (ls : Array Slot) (hR : Rel S L M) (hP : va_P D vwCl (k_wX x u cI cZ cJ cS S L ++ k_wM y v cI cZ cJ cS M) H) (hD : va_D A (k_wX x u cI cZ cJ cS S L ++ k_wM y v cI cZ cJ cS M)) (hS : va_S A s.heap H locs) (hl : lv_has ls 4 [(0, .ref b), (1, .ref x), (2, .ref y), (3, .int (nI (7 * j)))]) : W p l e room_1 s m args below meth c H locs 112 2248 Q (F0 m 483 ls []) := by
  have S0 : CallFix p m c code 4 s args lw_tbl RL := ⟨hx, hb, hml, hown, hts⟩
  refine lv_aload_n hx hb dL_law_483 rfl (lv_at hl 1 rfl) ?_
  refine lv_aload_n hx hb dL_law_484 rfl (lv_at hl 0 rfl) ?_
  refine lv_iload_n hx hb dL_law_485 rfl (lv_at hl 3 rfl) ?_
  refine lv_iconst (v := 1) hx hb dL_law_486 (by decide) ?_
  refine lv_iadd hx hb dL_law_487 ?_
  refine k_sld (k := 7 * j + 1) hx hb hX hbl hbA hS (k_lin1 hj hL0) (k_lcl1 hj hL0) dL_law_488 ?_
  obtain ⟨r1, S1, L1, M1, hX1, hM1, hR1⟩ := hsim S L M (xs (7 * j + 1)) hR 
  refine k_lawL (q0 := 0) (As := [.int (xs (7 * j + 1))]) (rest := []) S0 (k_MIZ (b_X8_ship l D cI cZ cJ cS x u S S1 L L1 (xs (7 * j + 1)) r1 hX1)) (cwV 1 hts lg_X8_ship rfl rfl rfl hdV_X8_ship ⟨Nat.le_of_ble_eq_true rfl, Nat.le_of_ble_eq_true rfl⟩) hK hP hD hS hA hN hZ rfl rfl rfl rfl hl.1 rfl (Nat.le_of_ble_eq_true rfl) k_wX_adr ⟨Nat.le_of_ble_eq_true rfl, Nat.le_of_ble_eq_true rfl⟩ dL_law_489 (fun H locs hP hD hS => ?_)
  refine lv_aload_n hx hb dL_law_492 rfl (lv_at hl 2 rfl) ?_
  refine lv_aload_n hx hb dL_law_493 rfl (lv_at hl 0 rfl) ?_
  refine lv_iload_n hx hb dL_law_494 rfl (lv_at hl 3 rfl) ?_
  refine lv_iconst (v := 1) hx hb dL_law_495 (by decide) ?_
  refine lv_iadd hx hb dL_law_496 ?_
  refine k_sld (k := 7 * j + 1) hx hb hX hbl hbA hS (k_lin1 hj hL0) (k_lcl1 hj hL0) dL_law_497 ?_
  refine k_lawL (q0 := 0) (As := [.int (xs (7 * j + 1))]) (rest := [.int r1]) S0 (k_MIZ (b_X9_ship l D cI cZ cJ cS y v M M1 (xs (7 * j + 1)) r1 hM1)) (cwV 1 hts lg_X9_ship rfl rfl rfl hdV_X9_ship ⟨Nat.le_of_ble_eq_true rfl, Nat.le_of_ble_eq_true rfl⟩) hK (k_swapP hP) (k_swapD hD) hS hA hN hZ rfl rfl rfl rfl hl.1 rfl (Nat.le_of_ble_eq_true rfl) k_wM_adr ⟨Nat.le_of_ble_eq_true rfl, Nat.le_of_ble_eq_true rfl⟩ dL_law_498 (fun H locs hP hD hS => ?_)
  replace hP := k_swapP hP
  replace hD := k_swapD hD
  refine lv_icmp_eq (tgt := 956) hx hb dL_law_501 (by decide) (fun _ => ?_) (fun h => absurd rfl h)
  exact next S1 L1 M1 _ _ _ hR1 hP hD hS hl

set_option maxHeartbeats 4000000 in
set_option maxRecDepth 100000 in
theorem law_case_8 {p : Program} {l : Launch} {e : Env} {s : State} {m : MethodId} {args : Array Value} {below : List Frame} {meth : Method} {c : Code} {Q : State → Prop} {D : va_G} {cI cZ cJ cS : ClassId} {b L0 : Nat} {xs : Nat → Int32} {A : Nat → Prop} {x y : Nat} {u v : Nat → Nat} {Rel : (Nat → Nat → Int32) → (Nat → Nat → Int64) → (Nat → Nat → Int32) → Prop} (hx : p.tables.exec = Jvm.exec) (hb : c.code = code) (hml : c.maxLocals = 4) (hown : s.vm.findClass RL = some m.cls) (hts : ∀ w ∈ lw_tbl, w.before args s = true) (hX : va_X b L0 xs s s.heap) (hbl : b < s.heap.size) (hbA : ¬ A b) (hA : ∀ q, s.heap.size ≤ q → A q) (hK : va_K D vwCl (k_tys cI cZ cJ cS) s) (hN : k_Nest s) (hZ : k_Z A s s.heap) {j : Nat} (hj : 7 * j + 7 ≤ L0) (hL0 : L0 ≤ 3584) (hsim : k_Sim_tackleTold Rel) (next : ∀ (S : Nat → Nat → Int32) (L : Nat → Nat → Int64) (M : Nat → Nat → Int32) (H : Heap) (locs : List Loc) (ls : Array Slot), Rel S L M → va_P D vwCl (k_wX x u cI cZ cJ cS S L ++ k_wM y v cI cZ cJ cS M) H → va_D A (k_wX x u cI cZ cJ cS S L ++ k_wM y v cI cZ cJ cS M) → va_S A s.heap H locs → lv_has ls 4 [(0, .ref b), (1, .ref x), (2, .ref y), (3, .int (nI (7 * j)))] → W p l e room_1 s m args below meth c H locs 112 2248 Q (F0 m 956 ls [])) (S : Nat → Nat → Int32) (L : Nat → Nat → Int64) (M : Nat → Nat → Int32) (H : Heap) (locs : List Loc) (ls : Array Slot) (hR : Rel S L M) (hP : va_P D vwCl (k_wX x u cI cZ cJ cS S L ++ k_wM y v cI cZ cJ cS M) H) (hD : va_D A (k_wX x u cI cZ cJ cS S L ++ k_wM y v cI cZ cJ cS M)) (hS : va_S A s.heap H locs) (hl : lv_has ls 4 [(0, .ref b), (1, .ref x), (2, .ref y), (3, .int (nI (7 * j)))]) : W p l e room_1 s m args below meth c H locs 112 2248 Q (F0 m 506 ls []) := by
  have S0 : CallFix p m c code 4 s args lw_tbl RL := ⟨hx, hb, hml, hown, hts⟩
  refine lv_aload_n hx hb dL_law_506 rfl (lv_at hl 1 rfl) ?_
  refine lv_aload_n hx hb dL_law_507 rfl (lv_at hl 0 rfl) ?_
  refine lv_iload_n hx hb dL_law_508 rfl (lv_at hl 3 rfl) ?_
  refine lv_iconst (v := 1) hx hb dL_law_509 (by decide) ?_
  refine lv_iadd hx hb dL_law_510 ?_
  refine k_sld (k := 7 * j + 1) hx hb hX hbl hbA hS (k_lin1 hj hL0) (k_lcl1 hj hL0) dL_law_511 ?_
  refine lv_aload_n hx hb dL_law_512 rfl (lv_at hl 0 rfl) ?_
  refine lv_iload_n hx hb dL_law_513 rfl (lv_at hl 3 rfl) ?_
  refine lv_iconst (v := 2) hx hb dL_law_514 (by decide) ?_
  refine lv_iadd hx hb dL_law_515 ?_
  refine k_sld (k := 7 * j + 2) hx hb hX hbl hbA hS (k_lin2 hj hL0) (k_lcl2 hj hL0) dL_law_516 ?_
  obtain ⟨r1, S1, L1, M1, hX1, hM1, hR1⟩ := hsim S L M (xs (7 * j + 1)) (xs (7 * j + 2)) hR 
  refine k_lawL (q0 := 0) (As := [.int (xs (7 * j + 1)), .int (xs (7 * j + 2))]) (rest := []) S0 (k_MIZ (b_X8_tackleTold l D cI cZ cJ cS x u S S1 L L1 (xs (7 * j + 1)) (xs (7 * j + 2)) r1 hX1)) (cwV 2 hts lg_X8_tackleTold rfl rfl rfl hdV_X8_tackleTold ⟨Nat.le_of_ble_eq_true rfl, Nat.le_of_ble_eq_true rfl⟩) hK hP hD hS hA hN hZ rfl rfl rfl rfl hl.1 rfl (Nat.le_of_ble_eq_true rfl) k_wX_adr ⟨Nat.le_of_ble_eq_true rfl, Nat.le_of_ble_eq_true rfl⟩ dL_law_517 (fun H locs hP hD hS => ?_)
  refine lv_aload_n hx hb dL_law_520 rfl (lv_at hl 2 rfl) ?_
  refine lv_aload_n hx hb dL_law_521 rfl (lv_at hl 0 rfl) ?_
  refine lv_iload_n hx hb dL_law_522 rfl (lv_at hl 3 rfl) ?_
  refine lv_iconst (v := 1) hx hb dL_law_523 (by decide) ?_
  refine lv_iadd hx hb dL_law_524 ?_
  refine k_sld (k := 7 * j + 1) hx hb hX hbl hbA hS (k_lin1 hj hL0) (k_lcl1 hj hL0) dL_law_525 ?_
  refine lv_aload_n hx hb dL_law_526 rfl (lv_at hl 0 rfl) ?_
  refine lv_iload_n hx hb dL_law_527 rfl (lv_at hl 3 rfl) ?_
  refine lv_iconst (v := 2) hx hb dL_law_528 (by decide) ?_
  refine lv_iadd hx hb dL_law_529 ?_
  refine k_sld (k := 7 * j + 2) hx hb hX hbl hbA hS (k_lin2 hj hL0) (k_lcl2 hj hL0) dL_law_530 ?_
  refine k_lawL (q0 := 0) (As := [.int (xs (7 * j + 1)), .int (xs (7 * j + 2))]) (rest := [.int r1]) S0 (k_MIZ (b_X9_tackleTold l D cI cZ cJ cS y v M M1 (xs (7 * j + 1)) (xs (7 * j + 2)) r1 hM1)) (cwV 2 hts lg_X9_tackleTold rfl rfl rfl hdV_X9_tackleTold ⟨Nat.le_of_ble_eq_true rfl, Nat.le_of_ble_eq_true rfl⟩) hK (k_swapP hP) (k_swapD hD) hS hA hN hZ rfl rfl rfl rfl hl.1 rfl (Nat.le_of_ble_eq_true rfl) k_wM_adr ⟨Nat.le_of_ble_eq_true rfl, Nat.le_of_ble_eq_true rfl⟩ dL_law_531 (fun H locs hP hD hS => ?_)
  replace hP := k_swapP hP
  replace hD := k_swapD hD
  refine lv_icmp_eq (tgt := 956) hx hb dL_law_534 (by decide) (fun _ => ?_) (fun h => absurd rfl h)
  exact next S1 L1 M1 _ _ _ hR1 hP hD hS hl

set_option maxHeartbeats 4000000 in
set_option maxRecDepth 100000 in
theorem law_case_9 {p : Program} {l : Launch} {e : Env} {s : State} {m : MethodId} {args : Array Value} {below : List Frame} {meth : Method} {c : Code} {Q : State → Prop} {D : va_G} {cI cZ cJ cS : ClassId} {b L0 : Nat} {xs : Nat → Int32} {A : Nat → Prop} {x y : Nat} {u v : Nat → Nat} {Rel : (Nat → Nat → Int32) → (Nat → Nat → Int64) → (Nat → Nat → Int32) → Prop} (hx : p.tables.exec = Jvm.exec) (hb : c.code = code) (hml : c.maxLocals = 4) (hown : s.vm.findClass RL = some m.cls) (hts : ∀ w ∈ lw_tbl, w.before args s = true) (hX : va_X b L0 xs s s.heap) (hbl : b < s.heap.size) (hbA : ¬ A b) (hA : ∀ q, s.heap.size ≤ q → A q) (hK : va_K D vwCl (k_tys cI cZ cJ cS) s) (hN : k_Nest s) (hZ : k_Z A s s.heap) {j : Nat} (hj : 7 * j + 7 ≤ L0) (hL0 : L0 ≤ 3584) (hsim : k_Sim_greatest Rel) (next : ∀ (S : Nat → Nat → Int32) (L : Nat → Nat → Int64) (M : Nat → Nat → Int32) (H : Heap) (locs : List Loc) (ls : Array Slot), Rel S L M → va_P D vwCl (k_wX x u cI cZ cJ cS S L ++ k_wM y v cI cZ cJ cS M) H → va_D A (k_wX x u cI cZ cJ cS S L ++ k_wM y v cI cZ cJ cS M) → va_S A s.heap H locs → lv_has ls 4 [(0, .ref b), (1, .ref x), (2, .ref y), (3, .int (nI (7 * j)))] → W p l e room_1 s m args below meth c H locs 112 2248 Q (F0 m 956 ls [])) (S : Nat → Nat → Int32) (L : Nat → Nat → Int64) (M : Nat → Nat → Int32) (H : Heap) (locs : List Loc) (ls : Array Slot) (hR : Rel S L M) (hP : va_P D vwCl (k_wX x u cI cZ cJ cS S L ++ k_wM y v cI cZ cJ cS M) H) (hD : va_D A (k_wX x u cI cZ cJ cS S L ++ k_wM y v cI cZ cJ cS M)) (hS : va_S A s.heap H locs) (hl : lv_has ls 4 [(0, .ref b), (1, .ref x), (2, .ref y), (3, .int (nI (7 * j)))]) : W p l e room_1 s m args below meth c H locs 112 2248 Q (F0 m 539 ls []) := by
  have S0 : CallFix p m c code 4 s args lw_tbl RL := ⟨hx, hb, hml, hown, hts⟩
  refine lv_aload_n hx hb dL_law_539 rfl (lv_at hl 1 rfl) ?_
  refine lv_aload_n hx hb dL_law_540 rfl (lv_at hl 0 rfl) ?_
  refine lv_iload_n hx hb dL_law_541 rfl (lv_at hl 3 rfl) ?_
  refine lv_iconst (v := 1) hx hb dL_law_542 (by decide) ?_
  refine lv_iadd hx hb dL_law_543 ?_
  refine k_sld (k := 7 * j + 1) hx hb hX hbl hbA hS (k_lin1 hj hL0) (k_lcl1 hj hL0) dL_law_544 ?_
  refine lv_if_eq (tgt := 552) hx hb dL_law_545 (by decide) (fun hb1 => ?_) (fun hb1 => ?_)
  · skip
    refine lv_iconst (v := 0) hx hb dL_law_552 (by decide) ?_
    obtain ⟨r1, S1, L1, M1, hX1, hM1, hR1⟩ := hsim S L M 0 hR (by decide)
    refine k_lawL (q0 := 0) (As := [.int 0]) (rest := []) S0 (k_MIZ (b_X8_greatest l D cI cZ cJ cS x u S S1 L L1 0 r1 hX1)) (cwV 1 hts lg_X8_greatest rfl rfl rfl hdV_X8_greatest ⟨Nat.le_of_ble_eq_true rfl, Nat.le_of_ble_eq_true rfl⟩) hK hP hD hS hA hN hZ rfl rfl rfl rfl hl.1 rfl (Nat.le_of_ble_eq_true rfl) k_wX_adr ⟨Nat.le_of_ble_eq_true rfl, Nat.le_of_ble_eq_true rfl⟩ dL_law_553 (fun H locs hP hD hS => ?_)
    refine lv_aload_n hx hb dL_law_556 rfl (lv_at hl 2 rfl) ?_
    refine lv_aload_n hx hb dL_law_557 rfl (lv_at hl 0 rfl) ?_
    refine lv_iload_n hx hb dL_law_558 rfl (lv_at hl 3 rfl) ?_
    refine lv_iconst (v := 1) hx hb dL_law_559 (by decide) ?_
    refine lv_iadd hx hb dL_law_560 ?_
    refine k_sld (k := 7 * j + 1) hx hb hX hbl hbA hS (k_lin1 hj hL0) (k_lcl1 hj hL0) dL_law_561 ?_
    refine lv_if_eq (tgt := 569) hx hb dL_law_562 (by decide) (fun _ => ?_) (fun h => absurd hb1 h)
    refine lv_iconst (v := 0) hx hb dL_law_569 (by decide) ?_
    refine k_lawL (q0 := 0) (As := [.int 0]) (rest := [.int r1]) S0 (k_MIZ (b_X9_greatest l D cI cZ cJ cS y v M M1 0 r1 hM1)) (cwV 1 hts lg_X9_greatest rfl rfl rfl hdV_X9_greatest ⟨Nat.le_of_ble_eq_true rfl, Nat.le_of_ble_eq_true rfl⟩) hK (k_swapP hP) (k_swapD hD) hS hA hN hZ rfl rfl rfl rfl hl.1 rfl (Nat.le_of_ble_eq_true rfl) k_wM_adr ⟨Nat.le_of_ble_eq_true rfl, Nat.le_of_ble_eq_true rfl⟩ dL_law_570 (fun H locs hP hD hS => ?_)
    replace hP := k_swapP hP
    replace hD := k_swapD hD
    refine lv_icmp_eq (tgt := 956) hx hb dL_law_573 (by decide) (fun _ => ?_) (fun h => absurd rfl h)
    exact next S1 L1 M1 _ _ _ hR1 hP hD hS hl
  · skip
    refine lv_iconst (v := 1) hx hb dL_law_548 (by decide) ?_
    refine lv_goto (tgt := 553) hx hb dL_law_549 (by decide) ?_
    obtain ⟨r1, S1, L1, M1, hX1, hM1, hR1⟩ := hsim S L M 1 hR (by decide)
    refine k_lawL (q0 := 0) (As := [.int 1]) (rest := []) S0 (k_MIZ (b_X8_greatest l D cI cZ cJ cS x u S S1 L L1 1 r1 hX1)) (cwV 1 hts lg_X8_greatest rfl rfl rfl hdV_X8_greatest ⟨Nat.le_of_ble_eq_true rfl, Nat.le_of_ble_eq_true rfl⟩) hK hP hD hS hA hN hZ rfl rfl rfl rfl hl.1 rfl (Nat.le_of_ble_eq_true rfl) k_wX_adr ⟨Nat.le_of_ble_eq_true rfl, Nat.le_of_ble_eq_true rfl⟩ dL_law_553 (fun H locs hP hD hS => ?_)
    refine lv_aload_n hx hb dL_law_556 rfl (lv_at hl 2 rfl) ?_
    refine lv_aload_n hx hb dL_law_557 rfl (lv_at hl 0 rfl) ?_
    refine lv_iload_n hx hb dL_law_558 rfl (lv_at hl 3 rfl) ?_
    refine lv_iconst (v := 1) hx hb dL_law_559 (by decide) ?_
    refine lv_iadd hx hb dL_law_560 ?_
    refine k_sld (k := 7 * j + 1) hx hb hX hbl hbA hS (k_lin1 hj hL0) (k_lcl1 hj hL0) dL_law_561 ?_
    refine lv_if_eq (tgt := 569) hx hb dL_law_562 (by decide) (fun h => absurd h hb1) (fun _ => ?_)
    refine lv_iconst (v := 1) hx hb dL_law_565 (by decide) ?_
    refine lv_goto (tgt := 570) hx hb dL_law_566 (by decide) ?_
    refine k_lawL (q0 := 0) (As := [.int 1]) (rest := [.int r1]) S0 (k_MIZ (b_X9_greatest l D cI cZ cJ cS y v M M1 1 r1 hM1)) (cwV 1 hts lg_X9_greatest rfl rfl rfl hdV_X9_greatest ⟨Nat.le_of_ble_eq_true rfl, Nat.le_of_ble_eq_true rfl⟩) hK (k_swapP hP) (k_swapD hD) hS hA hN hZ rfl rfl rfl rfl hl.1 rfl (Nat.le_of_ble_eq_true rfl) k_wM_adr ⟨Nat.le_of_ble_eq_true rfl, Nat.le_of_ble_eq_true rfl⟩ dL_law_570 (fun H locs hP hD hS => ?_)
    replace hP := k_swapP hP
    replace hD := k_swapD hD
    refine lv_icmp_eq (tgt := 956) hx hb dL_law_573 (by decide) (fun _ => ?_) (fun h => absurd rfl h)
    exact next S1 L1 M1 _ _ _ hR1 hP hD hS hl

set_option maxHeartbeats 4000000 in
set_option maxRecDepth 100000 in
theorem law_case_10 {p : Program} {l : Launch} {e : Env} {s : State} {m : MethodId} {args : Array Value} {below : List Frame} {meth : Method} {c : Code} {Q : State → Prop} {D : va_G} {cI cZ cJ cS : ClassId} {b L0 : Nat} {xs : Nat → Int32} {A : Nat → Prop} {x y : Nat} {u v : Nat → Nat} {Rel : (Nat → Nat → Int32) → (Nat → Nat → Int64) → (Nat → Nat → Int32) → Prop} (hx : p.tables.exec = Jvm.exec) (hb : c.code = code) (hml : c.maxLocals = 4) (hown : s.vm.findClass RL = some m.cls) (hts : ∀ w ∈ lw_tbl, w.before args s = true) (hX : va_X b L0 xs s s.heap) (hbl : b < s.heap.size) (hbA : ¬ A b) (hA : ∀ q, s.heap.size ≤ q → A q) (hK : va_K D vwCl (k_tys cI cZ cJ cS) s) (hN : k_Nest s) (hZ : k_Z A s s.heap) {j : Nat} (hj : 7 * j + 7 ≤ L0) (hL0 : L0 ≤ 3584) (hsim : k_Sim_seamTold Rel) (next : ∀ (S : Nat → Nat → Int32) (L : Nat → Nat → Int64) (M : Nat → Nat → Int32) (H : Heap) (locs : List Loc) (ls : Array Slot), Rel S L M → va_P D vwCl (k_wX x u cI cZ cJ cS S L ++ k_wM y v cI cZ cJ cS M) H → va_D A (k_wX x u cI cZ cJ cS S L ++ k_wM y v cI cZ cJ cS M) → va_S A s.heap H locs → lv_has ls 4 [(0, .ref b), (1, .ref x), (2, .ref y), (3, .int (nI (7 * j)))] → W p l e room_1 s m args below meth c H locs 112 2248 Q (F0 m 956 ls [])) (S : Nat → Nat → Int32) (L : Nat → Nat → Int64) (M : Nat → Nat → Int32) (H : Heap) (locs : List Loc) (ls : Array Slot) (hR : Rel S L M) (hP : va_P D vwCl (k_wX x u cI cZ cJ cS S L ++ k_wM y v cI cZ cJ cS M) H) (hD : va_D A (k_wX x u cI cZ cJ cS S L ++ k_wM y v cI cZ cJ cS M)) (hS : va_S A s.heap H locs) (hl : lv_has ls 4 [(0, .ref b), (1, .ref x), (2, .ref y), (3, .int (nI (7 * j)))]) : W p l e room_1 s m args below meth c H locs 112 2248 Q (F0 m 578 ls []) := by
  have S0 : CallFix p m c code 4 s args lw_tbl RL := ⟨hx, hb, hml, hown, hts⟩
  refine lv_aload_n hx hb dL_law_578 rfl (lv_at hl 1 rfl) ?_
  refine lv_aload_n hx hb dL_law_579 rfl (lv_at hl 0 rfl) ?_
  refine lv_iload_n hx hb dL_law_580 rfl (lv_at hl 3 rfl) ?_
  refine lv_iconst (v := 1) hx hb dL_law_581 (by decide) ?_
  refine lv_iadd hx hb dL_law_582 ?_
  refine k_sld (k := 7 * j + 1) hx hb hX hbl hbA hS (k_lin1 hj hL0) (k_lcl1 hj hL0) dL_law_583 ?_
  refine lv_aload_n hx hb dL_law_584 rfl (lv_at hl 0 rfl) ?_
  refine lv_iload_n hx hb dL_law_585 rfl (lv_at hl 3 rfl) ?_
  refine lv_iconst (v := 2) hx hb dL_law_586 (by decide) ?_
  refine lv_iadd hx hb dL_law_587 ?_
  refine k_sld (k := 7 * j + 2) hx hb hX hbl hbA hS (k_lin2 hj hL0) (k_lcl2 hj hL0) dL_law_588 ?_
  obtain ⟨r1, S1, L1, M1, hX1, hM1, hR1⟩ := hsim S L M (xs (7 * j + 1)) (xs (7 * j + 2)) hR 
  refine k_lawL (q0 := 0) (As := [.int (xs (7 * j + 1)), .int (xs (7 * j + 2))]) (rest := []) S0 (k_MIZ (b_X8_seamTold l D cI cZ cJ cS x u S S1 L L1 (xs (7 * j + 1)) (xs (7 * j + 2)) r1 hX1)) (cwV 2 hts lg_X8_seamTold rfl rfl rfl hdV_X8_seamTold ⟨Nat.le_of_ble_eq_true rfl, Nat.le_of_ble_eq_true rfl⟩) hK hP hD hS hA hN hZ rfl rfl rfl rfl hl.1 rfl (Nat.le_of_ble_eq_true rfl) k_wX_adr ⟨Nat.le_of_ble_eq_true rfl, Nat.le_of_ble_eq_true rfl⟩ dL_law_589 (fun H locs hP hD hS => ?_)
  refine lv_aload_n hx hb dL_law_592 rfl (lv_at hl 2 rfl) ?_
  refine lv_aload_n hx hb dL_law_593 rfl (lv_at hl 0 rfl) ?_
  refine lv_iload_n hx hb dL_law_594 rfl (lv_at hl 3 rfl) ?_
  refine lv_iconst (v := 1) hx hb dL_law_595 (by decide) ?_
  refine lv_iadd hx hb dL_law_596 ?_
  refine k_sld (k := 7 * j + 1) hx hb hX hbl hbA hS (k_lin1 hj hL0) (k_lcl1 hj hL0) dL_law_597 ?_
  refine lv_aload_n hx hb dL_law_598 rfl (lv_at hl 0 rfl) ?_
  refine lv_iload_n hx hb dL_law_599 rfl (lv_at hl 3 rfl) ?_
  refine lv_iconst (v := 2) hx hb dL_law_600 (by decide) ?_
  refine lv_iadd hx hb dL_law_601 ?_
  refine k_sld (k := 7 * j + 2) hx hb hX hbl hbA hS (k_lin2 hj hL0) (k_lcl2 hj hL0) dL_law_602 ?_
  refine k_lawL (q0 := 0) (As := [.int (xs (7 * j + 1)), .int (xs (7 * j + 2))]) (rest := [.int r1]) S0 (k_MIZ (b_X9_seamTold l D cI cZ cJ cS y v M M1 (xs (7 * j + 1)) (xs (7 * j + 2)) r1 hM1)) (cwV 2 hts lg_X9_seamTold rfl rfl rfl hdV_X9_seamTold ⟨Nat.le_of_ble_eq_true rfl, Nat.le_of_ble_eq_true rfl⟩) hK (k_swapP hP) (k_swapD hD) hS hA hN hZ rfl rfl rfl rfl hl.1 rfl (Nat.le_of_ble_eq_true rfl) k_wM_adr ⟨Nat.le_of_ble_eq_true rfl, Nat.le_of_ble_eq_true rfl⟩ dL_law_603 (fun H locs hP hD hS => ?_)
  replace hP := k_swapP hP
  replace hD := k_swapD hD
  refine lv_icmp_eq (tgt := 956) hx hb dL_law_606 (by decide) (fun _ => ?_) (fun h => absurd rfl h)
  exact next S1 L1 M1 _ _ _ hR1 hP hD hS hl

set_option maxHeartbeats 4000000 in
set_option maxRecDepth 100000 in
theorem law_case_11 {p : Program} {l : Launch} {e : Env} {s : State} {m : MethodId} {args : Array Value} {below : List Frame} {meth : Method} {c : Code} {Q : State → Prop} {D : va_G} {cI cZ cJ cS : ClassId} {b L0 : Nat} {xs : Nat → Int32} {A : Nat → Prop} {x y : Nat} {u v : Nat → Nat} {Rel : (Nat → Nat → Int32) → (Nat → Nat → Int64) → (Nat → Nat → Int32) → Prop} (hx : p.tables.exec = Jvm.exec) (hb : c.code = code) (hml : c.maxLocals = 4) (hown : s.vm.findClass RL = some m.cls) (hts : ∀ w ∈ lw_tbl, w.before args s = true) (hX : va_X b L0 xs s s.heap) (hbl : b < s.heap.size) (hbA : ¬ A b) (hA : ∀ q, s.heap.size ≤ q → A q) (hK : va_K D vwCl (k_tys cI cZ cJ cS) s) (hN : k_Nest s) (hZ : k_Z A s s.heap) {j : Nat} (hj : 7 * j + 7 ≤ L0) (hL0 : L0 ≤ 3584) (hsim : k_Sim_move Rel) (next : ∀ (S : Nat → Nat → Int32) (L : Nat → Nat → Int64) (M : Nat → Nat → Int32) (H : Heap) (locs : List Loc) (ls : Array Slot), Rel S L M → va_P D vwCl (k_wX x u cI cZ cJ cS S L ++ k_wM y v cI cZ cJ cS M) H → va_D A (k_wX x u cI cZ cJ cS S L ++ k_wM y v cI cZ cJ cS M) → va_S A s.heap H locs → lv_has ls 4 [(0, .ref b), (1, .ref x), (2, .ref y), (3, .int (nI (7 * j)))] → W p l e room_1 s m args below meth c H locs 112 2248 Q (F0 m 956 ls [])) (S : Nat → Nat → Int32) (L : Nat → Nat → Int64) (M : Nat → Nat → Int32) (H : Heap) (locs : List Loc) (ls : Array Slot) (hR : Rel S L M) (hP : va_P D vwCl (k_wX x u cI cZ cJ cS S L ++ k_wM y v cI cZ cJ cS M) H) (hD : va_D A (k_wX x u cI cZ cJ cS S L ++ k_wM y v cI cZ cJ cS M)) (hS : va_S A s.heap H locs) (hl : lv_has ls 4 [(0, .ref b), (1, .ref x), (2, .ref y), (3, .int (nI (7 * j)))]) : W p l e room_1 s m args below meth c H locs 112 2248 Q (F0 m 611 ls []) := by
  have S0 : CallFix p m c code 4 s args lw_tbl RL := ⟨hx, hb, hml, hown, hts⟩
  refine lv_aload_n hx hb dL_law_611 rfl (lv_at hl 1 rfl) ?_
  refine lv_aload_n hx hb dL_law_612 rfl (lv_at hl 0 rfl) ?_
  refine lv_iload_n hx hb dL_law_613 rfl (lv_at hl 3 rfl) ?_
  refine lv_iconst (v := 1) hx hb dL_law_614 (by decide) ?_
  refine lv_iadd hx hb dL_law_615 ?_
  refine k_sld (k := 7 * j + 1) hx hb hX hbl hbA hS (k_lin1 hj hL0) (k_lcl1 hj hL0) dL_law_616 ?_
  obtain ⟨r1, S1, L1, M1, hX1, hM1, hR1⟩ := hsim S L M (xs (7 * j + 1)) hR 
  refine k_lawL (q0 := 0) (As := [.int (xs (7 * j + 1))]) (rest := []) S0 (k_MIZ (b_X8_move l D cI cZ cJ cS x u S S1 L L1 (xs (7 * j + 1)) r1 hX1)) (cwV 1 hts lg_X8_move rfl rfl rfl hdV_X8_move ⟨Nat.le_of_ble_eq_true rfl, Nat.le_of_ble_eq_true rfl⟩) hK hP hD hS hA hN hZ rfl rfl rfl rfl hl.1 rfl (Nat.le_of_ble_eq_true rfl) k_wX_adr ⟨Nat.le_of_ble_eq_true rfl, Nat.le_of_ble_eq_true rfl⟩ dL_law_617 (fun H locs hP hD hS => ?_)
  refine lv_aload_n hx hb dL_law_620 rfl (lv_at hl 2 rfl) ?_
  refine lv_aload_n hx hb dL_law_621 rfl (lv_at hl 0 rfl) ?_
  refine lv_iload_n hx hb dL_law_622 rfl (lv_at hl 3 rfl) ?_
  refine lv_iconst (v := 1) hx hb dL_law_623 (by decide) ?_
  refine lv_iadd hx hb dL_law_624 ?_
  refine k_sld (k := 7 * j + 1) hx hb hX hbl hbA hS (k_lin1 hj hL0) (k_lcl1 hj hL0) dL_law_625 ?_
  refine k_lawL (q0 := 0) (As := [.int (xs (7 * j + 1))]) (rest := [.int r1]) S0 (k_MIZ (b_X9_move l D cI cZ cJ cS y v M M1 (xs (7 * j + 1)) r1 hM1)) (cwV 1 hts lg_X9_move rfl rfl rfl hdV_X9_move ⟨Nat.le_of_ble_eq_true rfl, Nat.le_of_ble_eq_true rfl⟩) hK (k_swapP hP) (k_swapD hD) hS hA hN hZ rfl rfl rfl rfl hl.1 rfl (Nat.le_of_ble_eq_true rfl) k_wM_adr ⟨Nat.le_of_ble_eq_true rfl, Nat.le_of_ble_eq_true rfl⟩ dL_law_626 (fun H locs hP hD hS => ?_)
  replace hP := k_swapP hP
  replace hD := k_swapD hD
  refine lv_icmp_eq (tgt := 956) hx hb dL_law_629 (by decide) (fun _ => ?_) (fun h => absurd rfl h)
  exact next S1 L1 M1 _ _ _ hR1 hP hD hS hl

set_option maxHeartbeats 4000000 in
set_option maxRecDepth 100000 in
theorem law_case_12 {p : Program} {l : Launch} {e : Env} {s : State} {m : MethodId} {args : Array Value} {below : List Frame} {meth : Method} {c : Code} {Q : State → Prop} {D : va_G} {cI cZ cJ cS : ClassId} {b L0 : Nat} {xs : Nat → Int32} {A : Nat → Prop} {x y : Nat} {u v : Nat → Nat} {Rel : (Nat → Nat → Int32) → (Nat → Nat → Int64) → (Nat → Nat → Int32) → Prop} (hx : p.tables.exec = Jvm.exec) (hb : c.code = code) (hml : c.maxLocals = 4) (hown : s.vm.findClass RL = some m.cls) (hts : ∀ w ∈ lw_tbl, w.before args s = true) (hX : va_X b L0 xs s s.heap) (hbl : b < s.heap.size) (hbA : ¬ A b) (hA : ∀ q, s.heap.size ≤ q → A q) (hK : va_K D vwCl (k_tys cI cZ cJ cS) s) (hN : k_Nest s) (hZ : k_Z A s s.heap) {j : Nat} (hj : 7 * j + 7 ≤ L0) (hL0 : L0 ≤ 3584) (hsim : k_Sim_heel Rel) (next : ∀ (S : Nat → Nat → Int32) (L : Nat → Nat → Int64) (M : Nat → Nat → Int32) (H : Heap) (locs : List Loc) (ls : Array Slot), Rel S L M → va_P D vwCl (k_wX x u cI cZ cJ cS S L ++ k_wM y v cI cZ cJ cS M) H → va_D A (k_wX x u cI cZ cJ cS S L ++ k_wM y v cI cZ cJ cS M) → va_S A s.heap H locs → lv_has ls 4 [(0, .ref b), (1, .ref x), (2, .ref y), (3, .int (nI (7 * j)))] → W p l e room_1 s m args below meth c H locs 112 2248 Q (F0 m 956 ls [])) (S : Nat → Nat → Int32) (L : Nat → Nat → Int64) (M : Nat → Nat → Int32) (H : Heap) (locs : List Loc) (ls : Array Slot) (hR : Rel S L M) (hP : va_P D vwCl (k_wX x u cI cZ cJ cS S L ++ k_wM y v cI cZ cJ cS M) H) (hD : va_D A (k_wX x u cI cZ cJ cS S L ++ k_wM y v cI cZ cJ cS M)) (hS : va_S A s.heap H locs) (hl : lv_has ls 4 [(0, .ref b), (1, .ref x), (2, .ref y), (3, .int (nI (7 * j)))]) : W p l e room_1 s m args below meth c H locs 112 2248 Q (F0 m 634 ls []) := by
  have S0 : CallFix p m c code 4 s args lw_tbl RL := ⟨hx, hb, hml, hown, hts⟩
  refine lv_aload_n hx hb dL_law_634 rfl (lv_at hl 1 rfl) ?_
  refine lv_aload_n hx hb dL_law_635 rfl (lv_at hl 0 rfl) ?_
  refine lv_iload_n hx hb dL_law_636 rfl (lv_at hl 3 rfl) ?_
  refine lv_iconst (v := 1) hx hb dL_law_637 (by decide) ?_
  refine lv_iadd hx hb dL_law_638 ?_
  refine k_sld (k := 7 * j + 1) hx hb hX hbl hbA hS (k_lin1 hj hL0) (k_lcl1 hj hL0) dL_law_639 ?_
  obtain ⟨r1, S1, L1, M1, hX1, hM1, hR1⟩ := hsim S L M (xs (7 * j + 1)) hR 
  refine k_lawL (q0 := 0) (As := [.int (xs (7 * j + 1))]) (rest := []) S0 (k_MIZ (b_X8_heel l D cI cZ cJ cS x u S S1 L L1 (xs (7 * j + 1)) r1 hX1)) (cwV 1 hts lg_X8_heel rfl rfl rfl hdV_X8_heel ⟨Nat.le_of_ble_eq_true rfl, Nat.le_of_ble_eq_true rfl⟩) hK hP hD hS hA hN hZ rfl rfl rfl rfl hl.1 rfl (Nat.le_of_ble_eq_true rfl) k_wX_adr ⟨Nat.le_of_ble_eq_true rfl, Nat.le_of_ble_eq_true rfl⟩ dL_law_640 (fun H locs hP hD hS => ?_)
  refine lv_aload_n hx hb dL_law_643 rfl (lv_at hl 2 rfl) ?_
  refine lv_aload_n hx hb dL_law_644 rfl (lv_at hl 0 rfl) ?_
  refine lv_iload_n hx hb dL_law_645 rfl (lv_at hl 3 rfl) ?_
  refine lv_iconst (v := 1) hx hb dL_law_646 (by decide) ?_
  refine lv_iadd hx hb dL_law_647 ?_
  refine k_sld (k := 7 * j + 1) hx hb hX hbl hbA hS (k_lin1 hj hL0) (k_lcl1 hj hL0) dL_law_648 ?_
  refine k_lawL (q0 := 0) (As := [.int (xs (7 * j + 1))]) (rest := [.int r1]) S0 (k_MIZ (b_X9_heel l D cI cZ cJ cS y v M M1 (xs (7 * j + 1)) r1 hM1)) (cwV 1 hts lg_X9_heel rfl rfl rfl hdV_X9_heel ⟨Nat.le_of_ble_eq_true rfl, Nat.le_of_ble_eq_true rfl⟩) hK (k_swapP hP) (k_swapD hD) hS hA hN hZ rfl rfl rfl rfl hl.1 rfl (Nat.le_of_ble_eq_true rfl) k_wM_adr ⟨Nat.le_of_ble_eq_true rfl, Nat.le_of_ble_eq_true rfl⟩ dL_law_649 (fun H locs hP hD hS => ?_)
  replace hP := k_swapP hP
  replace hD := k_swapD hD
  refine lv_icmp_eq (tgt := 956) hx hb dL_law_652 (by decide) (fun _ => ?_) (fun h => absurd rfl h)
  exact next S1 L1 M1 _ _ _ hR1 hP hD hS hl

set_option maxHeartbeats 4000000 in
set_option maxRecDepth 100000 in
theorem law_case_13 {p : Program} {l : Launch} {e : Env} {s : State} {m : MethodId} {args : Array Value} {below : List Frame} {meth : Method} {c : Code} {Q : State → Prop} {D : va_G} {cI cZ cJ cS : ClassId} {b L0 : Nat} {xs : Nat → Int32} {A : Nat → Prop} {x y : Nat} {u v : Nat → Nat} {Rel : (Nat → Nat → Int32) → (Nat → Nat → Int64) → (Nat → Nat → Int32) → Prop} (hx : p.tables.exec = Jvm.exec) (hb : c.code = code) (hml : c.maxLocals = 4) (hown : s.vm.findClass RL = some m.cls) (hts : ∀ w ∈ lw_tbl, w.before args s = true) (hX : va_X b L0 xs s s.heap) (hbl : b < s.heap.size) (hbA : ¬ A b) (hA : ∀ q, s.heap.size ≤ q → A q) (hK : va_K D vwCl (k_tys cI cZ cJ cS) s) (hN : k_Nest s) (hZ : k_Z A s s.heap) {j : Nat} (hj : 7 * j + 7 ≤ L0) (hL0 : L0 ≤ 3584) (hsim : k_Sim_hour Rel) (next : ∀ (S : Nat → Nat → Int32) (L : Nat → Nat → Int64) (M : Nat → Nat → Int32) (H : Heap) (locs : List Loc) (ls : Array Slot), Rel S L M → va_P D vwCl (k_wX x u cI cZ cJ cS S L ++ k_wM y v cI cZ cJ cS M) H → va_D A (k_wX x u cI cZ cJ cS S L ++ k_wM y v cI cZ cJ cS M) → va_S A s.heap H locs → lv_has ls 4 [(0, .ref b), (1, .ref x), (2, .ref y), (3, .int (nI (7 * j)))] → W p l e room_1 s m args below meth c H locs 112 2248 Q (F0 m 956 ls [])) (S : Nat → Nat → Int32) (L : Nat → Nat → Int64) (M : Nat → Nat → Int32) (H : Heap) (locs : List Loc) (ls : Array Slot) (hR : Rel S L M) (hP : va_P D vwCl (k_wX x u cI cZ cJ cS S L ++ k_wM y v cI cZ cJ cS M) H) (hD : va_D A (k_wX x u cI cZ cJ cS S L ++ k_wM y v cI cZ cJ cS M)) (hS : va_S A s.heap H locs) (hl : lv_has ls 4 [(0, .ref b), (1, .ref x), (2, .ref y), (3, .int (nI (7 * j)))]) : W p l e room_1 s m args below meth c H locs 112 2248 Q (F0 m 657 ls []) := by
  have S0 : CallFix p m c code 4 s args lw_tbl RL := ⟨hx, hb, hml, hown, hts⟩
  refine lv_aload_n hx hb dL_law_657 rfl (lv_at hl 1 rfl) ?_
  refine lv_aload_n hx hb dL_law_658 rfl (lv_at hl 0 rfl) ?_
  refine lv_iload_n hx hb dL_law_659 rfl (lv_at hl 3 rfl) ?_
  refine lv_iconst (v := 1) hx hb dL_law_660 (by decide) ?_
  refine lv_iadd hx hb dL_law_661 ?_
  refine k_sld (k := 7 * j + 1) hx hb hX hbl hbA hS (k_lin1 hj hL0) (k_lcl1 hj hL0) dL_law_662 ?_
  obtain ⟨r1, S1, L1, M1, hX1, hM1, hR1⟩ := hsim S L M (xs (7 * j + 1)) hR 
  refine k_lawL (q0 := 0) (As := [.int (xs (7 * j + 1))]) (rest := []) S0 (k_MIZ (b_X8_hour l D cI cZ cJ cS x u S S1 L L1 (xs (7 * j + 1)) r1 hX1)) (cwV 1 hts lg_X8_hour rfl rfl rfl hdV_X8_hour ⟨Nat.le_of_ble_eq_true rfl, Nat.le_of_ble_eq_true rfl⟩) hK hP hD hS hA hN hZ rfl rfl rfl rfl hl.1 rfl (Nat.le_of_ble_eq_true rfl) k_wX_adr ⟨Nat.le_of_ble_eq_true rfl, Nat.le_of_ble_eq_true rfl⟩ dL_law_663 (fun H locs hP hD hS => ?_)
  refine lv_aload_n hx hb dL_law_666 rfl (lv_at hl 2 rfl) ?_
  refine lv_aload_n hx hb dL_law_667 rfl (lv_at hl 0 rfl) ?_
  refine lv_iload_n hx hb dL_law_668 rfl (lv_at hl 3 rfl) ?_
  refine lv_iconst (v := 1) hx hb dL_law_669 (by decide) ?_
  refine lv_iadd hx hb dL_law_670 ?_
  refine k_sld (k := 7 * j + 1) hx hb hX hbl hbA hS (k_lin1 hj hL0) (k_lcl1 hj hL0) dL_law_671 ?_
  refine k_lawL (q0 := 0) (As := [.int (xs (7 * j + 1))]) (rest := [.int r1]) S0 (k_MIZ (b_X9_hour l D cI cZ cJ cS y v M M1 (xs (7 * j + 1)) r1 hM1)) (cwV 1 hts lg_X9_hour rfl rfl rfl hdV_X9_hour ⟨Nat.le_of_ble_eq_true rfl, Nat.le_of_ble_eq_true rfl⟩) hK (k_swapP hP) (k_swapD hD) hS hA hN hZ rfl rfl rfl rfl hl.1 rfl (Nat.le_of_ble_eq_true rfl) k_wM_adr ⟨Nat.le_of_ble_eq_true rfl, Nat.le_of_ble_eq_true rfl⟩ dL_law_672 (fun H locs hP hD hS => ?_)
  replace hP := k_swapP hP
  replace hD := k_swapD hD
  refine lv_icmp_eq (tgt := 956) hx hb dL_law_675 (by decide) (fun _ => ?_) (fun h => absurd rfl h)
  exact next S1 L1 M1 _ _ _ hR1 hP hD hS hl

set_option maxHeartbeats 4000000 in
set_option maxRecDepth 100000 in
theorem law_case_14 {p : Program} {l : Launch} {e : Env} {s : State} {m : MethodId} {args : Array Value} {below : List Frame} {meth : Method} {c : Code} {Q : State → Prop} {D : va_G} {cI cZ cJ cS : ClassId} {b L0 : Nat} {xs : Nat → Int32} {A : Nat → Prop} {x y : Nat} {u v : Nat → Nat} {Rel : (Nat → Nat → Int32) → (Nat → Nat → Int64) → (Nat → Nat → Int32) → Prop} (hx : p.tables.exec = Jvm.exec) (hb : c.code = code) (hml : c.maxLocals = 4) (hown : s.vm.findClass RL = some m.cls) (hts : ∀ w ∈ lw_tbl, w.before args s = true) (hX : va_X b L0 xs s s.heap) (hbl : b < s.heap.size) (hbA : ¬ A b) (hA : ∀ q, s.heap.size ≤ q → A q) (hK : va_K D vwCl (k_tys cI cZ cJ cS) s) (hN : k_Nest s) (hZ : k_Z A s s.heap) {j : Nat} (hj : 7 * j + 7 ≤ L0) (hL0 : L0 ≤ 3584) (hsim : k_Sim_rig Rel) (next : ∀ (S : Nat → Nat → Int32) (L : Nat → Nat → Int64) (M : Nat → Nat → Int32) (H : Heap) (locs : List Loc) (ls : Array Slot), Rel S L M → va_P D vwCl (k_wX x u cI cZ cJ cS S L ++ k_wM y v cI cZ cJ cS M) H → va_D A (k_wX x u cI cZ cJ cS S L ++ k_wM y v cI cZ cJ cS M) → va_S A s.heap H locs → lv_has ls 4 [(0, .ref b), (1, .ref x), (2, .ref y), (3, .int (nI (7 * j)))] → W p l e room_1 s m args below meth c H locs 112 2248 Q (F0 m 956 ls [])) (S : Nat → Nat → Int32) (L : Nat → Nat → Int64) (M : Nat → Nat → Int32) (H : Heap) (locs : List Loc) (ls : Array Slot) (hR : Rel S L M) (hP : va_P D vwCl (k_wX x u cI cZ cJ cS S L ++ k_wM y v cI cZ cJ cS M) H) (hD : va_D A (k_wX x u cI cZ cJ cS S L ++ k_wM y v cI cZ cJ cS M)) (hS : va_S A s.heap H locs) (hl : lv_has ls 4 [(0, .ref b), (1, .ref x), (2, .ref y), (3, .int (nI (7 * j)))]) : W p l e room_1 s m args below meth c H locs 112 2248 Q (F0 m 680 ls []) := by
  have S0 : CallFix p m c code 4 s args lw_tbl RL := ⟨hx, hb, hml, hown, hts⟩
  refine lv_aload_n hx hb dL_law_680 rfl (lv_at hl 1 rfl) ?_
  refine lv_aload_n hx hb dL_law_681 rfl (lv_at hl 0 rfl) ?_
  refine lv_iload_n hx hb dL_law_682 rfl (lv_at hl 3 rfl) ?_
  refine lv_iconst (v := 1) hx hb dL_law_683 (by decide) ?_
  refine lv_iadd hx hb dL_law_684 ?_
  refine k_sld (k := 7 * j + 1) hx hb hX hbl hbA hS (k_lin1 hj hL0) (k_lcl1 hj hL0) dL_law_685 ?_
  refine lv_aload_n hx hb dL_law_686 rfl (lv_at hl 0 rfl) ?_
  refine lv_iload_n hx hb dL_law_687 rfl (lv_at hl 3 rfl) ?_
  refine lv_iconst (v := 2) hx hb dL_law_688 (by decide) ?_
  refine lv_iadd hx hb dL_law_689 ?_
  refine k_sld (k := 7 * j + 2) hx hb hX hbl hbA hS (k_lin2 hj hL0) (k_lcl2 hj hL0) dL_law_690 ?_
  refine lv_if_eq (tgt := 698) hx hb dL_law_691 (by decide) (fun hb1 => ?_) (fun hb1 => ?_)
  · skip
    refine lv_iconst (v := 0) hx hb dL_law_698 (by decide) ?_
    obtain ⟨r1, S1, L1, M1, hX1, hM1, hR1⟩ := hsim S L M (xs (7 * j + 1)) 0 hR (by decide)
    refine k_lawL (q0 := 0) (As := [.int (xs (7 * j + 1)), .int 0]) (rest := []) S0 (k_MIZ (b_X8_rig l D cI cZ cJ cS x u S S1 L L1 (xs (7 * j + 1)) 0 r1 hX1)) (cwV 2 hts lg_X8_rig rfl rfl rfl hdV_X8_rig ⟨Nat.le_of_ble_eq_true rfl, Nat.le_of_ble_eq_true rfl⟩) hK hP hD hS hA hN hZ rfl rfl rfl rfl hl.1 rfl (Nat.le_of_ble_eq_true rfl) k_wX_adr ⟨Nat.le_of_ble_eq_true rfl, Nat.le_of_ble_eq_true rfl⟩ dL_law_699 (fun H locs hP hD hS => ?_)
    refine lv_aload_n hx hb dL_law_702 rfl (lv_at hl 2 rfl) ?_
    refine lv_aload_n hx hb dL_law_703 rfl (lv_at hl 0 rfl) ?_
    refine lv_iload_n hx hb dL_law_704 rfl (lv_at hl 3 rfl) ?_
    refine lv_iconst (v := 1) hx hb dL_law_705 (by decide) ?_
    refine lv_iadd hx hb dL_law_706 ?_
    refine k_sld (k := 7 * j + 1) hx hb hX hbl hbA hS (k_lin1 hj hL0) (k_lcl1 hj hL0) dL_law_707 ?_
    refine lv_aload_n hx hb dL_law_708 rfl (lv_at hl 0 rfl) ?_
    refine lv_iload_n hx hb dL_law_709 rfl (lv_at hl 3 rfl) ?_
    refine lv_iconst (v := 2) hx hb dL_law_710 (by decide) ?_
    refine lv_iadd hx hb dL_law_711 ?_
    refine k_sld (k := 7 * j + 2) hx hb hX hbl hbA hS (k_lin2 hj hL0) (k_lcl2 hj hL0) dL_law_712 ?_
    refine lv_if_eq (tgt := 720) hx hb dL_law_713 (by decide) (fun _ => ?_) (fun h => absurd hb1 h)
    refine lv_iconst (v := 0) hx hb dL_law_720 (by decide) ?_
    refine k_lawL (q0 := 0) (As := [.int (xs (7 * j + 1)), .int 0]) (rest := [.int r1]) S0 (k_MIZ (b_X9_rig l D cI cZ cJ cS y v M M1 (xs (7 * j + 1)) 0 r1 hM1)) (cwV 2 hts lg_X9_rig rfl rfl rfl hdV_X9_rig ⟨Nat.le_of_ble_eq_true rfl, Nat.le_of_ble_eq_true rfl⟩) hK (k_swapP hP) (k_swapD hD) hS hA hN hZ rfl rfl rfl rfl hl.1 rfl (Nat.le_of_ble_eq_true rfl) k_wM_adr ⟨Nat.le_of_ble_eq_true rfl, Nat.le_of_ble_eq_true rfl⟩ dL_law_721 (fun H locs hP hD hS => ?_)
    replace hP := k_swapP hP
    replace hD := k_swapD hD
    refine lv_icmp_eq (tgt := 956) hx hb dL_law_724 (by decide) (fun _ => ?_) (fun h => absurd rfl h)
    exact next S1 L1 M1 _ _ _ hR1 hP hD hS hl
  · skip
    refine lv_iconst (v := 1) hx hb dL_law_694 (by decide) ?_
    refine lv_goto (tgt := 699) hx hb dL_law_695 (by decide) ?_
    obtain ⟨r1, S1, L1, M1, hX1, hM1, hR1⟩ := hsim S L M (xs (7 * j + 1)) 1 hR (by decide)
    refine k_lawL (q0 := 0) (As := [.int (xs (7 * j + 1)), .int 1]) (rest := []) S0 (k_MIZ (b_X8_rig l D cI cZ cJ cS x u S S1 L L1 (xs (7 * j + 1)) 1 r1 hX1)) (cwV 2 hts lg_X8_rig rfl rfl rfl hdV_X8_rig ⟨Nat.le_of_ble_eq_true rfl, Nat.le_of_ble_eq_true rfl⟩) hK hP hD hS hA hN hZ rfl rfl rfl rfl hl.1 rfl (Nat.le_of_ble_eq_true rfl) k_wX_adr ⟨Nat.le_of_ble_eq_true rfl, Nat.le_of_ble_eq_true rfl⟩ dL_law_699 (fun H locs hP hD hS => ?_)
    refine lv_aload_n hx hb dL_law_702 rfl (lv_at hl 2 rfl) ?_
    refine lv_aload_n hx hb dL_law_703 rfl (lv_at hl 0 rfl) ?_
    refine lv_iload_n hx hb dL_law_704 rfl (lv_at hl 3 rfl) ?_
    refine lv_iconst (v := 1) hx hb dL_law_705 (by decide) ?_
    refine lv_iadd hx hb dL_law_706 ?_
    refine k_sld (k := 7 * j + 1) hx hb hX hbl hbA hS (k_lin1 hj hL0) (k_lcl1 hj hL0) dL_law_707 ?_
    refine lv_aload_n hx hb dL_law_708 rfl (lv_at hl 0 rfl) ?_
    refine lv_iload_n hx hb dL_law_709 rfl (lv_at hl 3 rfl) ?_
    refine lv_iconst (v := 2) hx hb dL_law_710 (by decide) ?_
    refine lv_iadd hx hb dL_law_711 ?_
    refine k_sld (k := 7 * j + 2) hx hb hX hbl hbA hS (k_lin2 hj hL0) (k_lcl2 hj hL0) dL_law_712 ?_
    refine lv_if_eq (tgt := 720) hx hb dL_law_713 (by decide) (fun h => absurd h hb1) (fun _ => ?_)
    refine lv_iconst (v := 1) hx hb dL_law_716 (by decide) ?_
    refine lv_goto (tgt := 721) hx hb dL_law_717 (by decide) ?_
    refine k_lawL (q0 := 0) (As := [.int (xs (7 * j + 1)), .int 1]) (rest := [.int r1]) S0 (k_MIZ (b_X9_rig l D cI cZ cJ cS y v M M1 (xs (7 * j + 1)) 1 r1 hM1)) (cwV 2 hts lg_X9_rig rfl rfl rfl hdV_X9_rig ⟨Nat.le_of_ble_eq_true rfl, Nat.le_of_ble_eq_true rfl⟩) hK (k_swapP hP) (k_swapD hD) hS hA hN hZ rfl rfl rfl rfl hl.1 rfl (Nat.le_of_ble_eq_true rfl) k_wM_adr ⟨Nat.le_of_ble_eq_true rfl, Nat.le_of_ble_eq_true rfl⟩ dL_law_721 (fun H locs hP hD hS => ?_)
    replace hP := k_swapP hP
    replace hD := k_swapD hD
    refine lv_icmp_eq (tgt := 956) hx hb dL_law_724 (by decide) (fun _ => ?_) (fun h => absurd rfl h)
    exact next S1 L1 M1 _ _ _ hR1 hP hD hS hl

set_option maxHeartbeats 4000000 in
set_option maxRecDepth 100000 in
theorem law_case_15 {p : Program} {l : Launch} {e : Env} {s : State} {m : MethodId} {args : Array Value} {below : List Frame} {meth : Method} {c : Code} {Q : State → Prop} {D : va_G} {cI cZ cJ cS : ClassId} {b L0 : Nat} {xs : Nat → Int32} {A : Nat → Prop} {x y : Nat} {u v : Nat → Nat} {Rel : (Nat → Nat → Int32) → (Nat → Nat → Int64) → (Nat → Nat → Int32) → Prop} (hx : p.tables.exec = Jvm.exec) (hb : c.code = code) (hml : c.maxLocals = 4) (hown : s.vm.findClass RL = some m.cls) (hts : ∀ w ∈ lw_tbl, w.before args s = true) (hX : va_X b L0 xs s s.heap) (hbl : b < s.heap.size) (hbA : ¬ A b) (hA : ∀ q, s.heap.size ≤ q → A q) (hK : va_K D vwCl (k_tys cI cZ cJ cS) s) (hN : k_Nest s) (hZ : k_Z A s s.heap) {j : Nat} (hj : 7 * j + 7 ≤ L0) (hL0 : L0 ≤ 3584) (hsim : k_Sim_plan Rel) (next : ∀ (S : Nat → Nat → Int32) (L : Nat → Nat → Int64) (M : Nat → Nat → Int32) (H : Heap) (locs : List Loc) (ls : Array Slot), Rel S L M → va_P D vwCl (k_wX x u cI cZ cJ cS S L ++ k_wM y v cI cZ cJ cS M) H → va_D A (k_wX x u cI cZ cJ cS S L ++ k_wM y v cI cZ cJ cS M) → va_S A s.heap H locs → lv_has ls 4 [(0, .ref b), (1, .ref x), (2, .ref y), (3, .int (nI (7 * j)))] → W p l e room_1 s m args below meth c H locs 112 2248 Q (F0 m 956 ls [])) (S : Nat → Nat → Int32) (L : Nat → Nat → Int64) (M : Nat → Nat → Int32) (H : Heap) (locs : List Loc) (ls : Array Slot) (hR : Rel S L M) (hP : va_P D vwCl (k_wX x u cI cZ cJ cS S L ++ k_wM y v cI cZ cJ cS M) H) (hD : va_D A (k_wX x u cI cZ cJ cS S L ++ k_wM y v cI cZ cJ cS M)) (hS : va_S A s.heap H locs) (hl : lv_has ls 4 [(0, .ref b), (1, .ref x), (2, .ref y), (3, .int (nI (7 * j)))]) : W p l e room_1 s m args below meth c H locs 112 2248 Q (F0 m 729 ls []) := by
  have S0 : CallFix p m c code 4 s args lw_tbl RL := ⟨hx, hb, hml, hown, hts⟩
  refine lv_aload_n hx hb dL_law_729 rfl (lv_at hl 1 rfl) ?_
  refine lv_aload_n hx hb dL_law_730 rfl (lv_at hl 0 rfl) ?_
  refine lv_iload_n hx hb dL_law_731 rfl (lv_at hl 3 rfl) ?_
  refine lv_iconst (v := 1) hx hb dL_law_732 (by decide) ?_
  refine lv_iadd hx hb dL_law_733 ?_
  refine k_sld (k := 7 * j + 1) hx hb hX hbl hbA hS (k_lin1 hj hL0) (k_lcl1 hj hL0) dL_law_734 ?_
  refine lv_aload_n hx hb dL_law_735 rfl (lv_at hl 0 rfl) ?_
  refine lv_iload_n hx hb dL_law_736 rfl (lv_at hl 3 rfl) ?_
  refine lv_iconst (v := 2) hx hb dL_law_737 (by decide) ?_
  refine lv_iadd hx hb dL_law_738 ?_
  refine k_sld (k := 7 * j + 2) hx hb hX hbl hbA hS (k_lin2 hj hL0) (k_lcl2 hj hL0) dL_law_739 ?_
  obtain ⟨r1, S1, L1, M1, hX1, hM1, hR1⟩ := hsim S L M (xs (7 * j + 1)) (xs (7 * j + 2)) hR 
  refine k_lawL (q0 := 0) (As := [.int (xs (7 * j + 1)), .int (xs (7 * j + 2))]) (rest := []) S0 (k_MIZ (b_X8_plan l D cI cZ cJ cS x u S S1 L L1 (xs (7 * j + 1)) (xs (7 * j + 2)) r1 hX1)) (cwV 2 hts lg_X8_plan rfl rfl rfl hdV_X8_plan ⟨Nat.le_of_ble_eq_true rfl, Nat.le_of_ble_eq_true rfl⟩) hK hP hD hS hA hN hZ rfl rfl rfl rfl hl.1 rfl (Nat.le_of_ble_eq_true rfl) k_wX_adr ⟨Nat.le_of_ble_eq_true rfl, Nat.le_of_ble_eq_true rfl⟩ dL_law_740 (fun H locs hP hD hS => ?_)
  refine lv_aload_n hx hb dL_law_743 rfl (lv_at hl 2 rfl) ?_
  refine lv_aload_n hx hb dL_law_744 rfl (lv_at hl 0 rfl) ?_
  refine lv_iload_n hx hb dL_law_745 rfl (lv_at hl 3 rfl) ?_
  refine lv_iconst (v := 1) hx hb dL_law_746 (by decide) ?_
  refine lv_iadd hx hb dL_law_747 ?_
  refine k_sld (k := 7 * j + 1) hx hb hX hbl hbA hS (k_lin1 hj hL0) (k_lcl1 hj hL0) dL_law_748 ?_
  refine lv_aload_n hx hb dL_law_749 rfl (lv_at hl 0 rfl) ?_
  refine lv_iload_n hx hb dL_law_750 rfl (lv_at hl 3 rfl) ?_
  refine lv_iconst (v := 2) hx hb dL_law_751 (by decide) ?_
  refine lv_iadd hx hb dL_law_752 ?_
  refine k_sld (k := 7 * j + 2) hx hb hX hbl hbA hS (k_lin2 hj hL0) (k_lcl2 hj hL0) dL_law_753 ?_
  refine k_lawL (q0 := 0) (As := [.int (xs (7 * j + 1)), .int (xs (7 * j + 2))]) (rest := [.int r1]) S0 (k_MIZ (b_X9_plan l D cI cZ cJ cS y v M M1 (xs (7 * j + 1)) (xs (7 * j + 2)) r1 hM1)) (cwV 2 hts lg_X9_plan rfl rfl rfl hdV_X9_plan ⟨Nat.le_of_ble_eq_true rfl, Nat.le_of_ble_eq_true rfl⟩) hK (k_swapP hP) (k_swapD hD) hS hA hN hZ rfl rfl rfl rfl hl.1 rfl (Nat.le_of_ble_eq_true rfl) k_wM_adr ⟨Nat.le_of_ble_eq_true rfl, Nat.le_of_ble_eq_true rfl⟩ dL_law_754 (fun H locs hP hD hS => ?_)
  replace hP := k_swapP hP
  replace hD := k_swapD hD
  refine lv_icmp_eq (tgt := 956) hx hb dL_law_757 (by decide) (fun _ => ?_) (fun h => absurd rfl h)
  exact next S1 L1 M1 _ _ _ hR1 hP hD hS hl

set_option maxHeartbeats 4000000 in
set_option maxRecDepth 100000 in
theorem law_case_16 {p : Program} {l : Launch} {e : Env} {s : State} {m : MethodId} {args : Array Value} {below : List Frame} {meth : Method} {c : Code} {Q : State → Prop} {D : va_G} {cI cZ cJ cS : ClassId} {b L0 : Nat} {xs : Nat → Int32} {A : Nat → Prop} {x y : Nat} {u v : Nat → Nat} {Rel : (Nat → Nat → Int32) → (Nat → Nat → Int64) → (Nat → Nat → Int32) → Prop} (hx : p.tables.exec = Jvm.exec) (hb : c.code = code) (hml : c.maxLocals = 4) (hown : s.vm.findClass RL = some m.cls) (hts : ∀ w ∈ lw_tbl, w.before args s = true) (hX : va_X b L0 xs s s.heap) (hbl : b < s.heap.size) (hbA : ¬ A b) (hA : ∀ q, s.heap.size ≤ q → A q) (hK : va_K D vwCl (k_tys cI cZ cJ cS) s) (hN : k_Nest s) (hZ : k_Z A s s.heap) {j : Nat} (hj : 7 * j + 7 ≤ L0) (hL0 : L0 ≤ 3584) (hsim : k_Sim_orders Rel) (next : ∀ (S : Nat → Nat → Int32) (L : Nat → Nat → Int64) (M : Nat → Nat → Int32) (H : Heap) (locs : List Loc) (ls : Array Slot), Rel S L M → va_P D vwCl (k_wX x u cI cZ cJ cS S L ++ k_wM y v cI cZ cJ cS M) H → va_D A (k_wX x u cI cZ cJ cS S L ++ k_wM y v cI cZ cJ cS M) → va_S A s.heap H locs → lv_has ls 4 [(0, .ref b), (1, .ref x), (2, .ref y), (3, .int (nI (7 * j)))] → W p l e room_1 s m args below meth c H locs 112 2248 Q (F0 m 956 ls [])) (S : Nat → Nat → Int32) (L : Nat → Nat → Int64) (M : Nat → Nat → Int32) (H : Heap) (locs : List Loc) (ls : Array Slot) (hR : Rel S L M) (hP : va_P D vwCl (k_wX x u cI cZ cJ cS S L ++ k_wM y v cI cZ cJ cS M) H) (hD : va_D A (k_wX x u cI cZ cJ cS S L ++ k_wM y v cI cZ cJ cS M)) (hS : va_S A s.heap H locs) (hl : lv_has ls 4 [(0, .ref b), (1, .ref x), (2, .ref y), (3, .int (nI (7 * j)))]) : W p l e room_1 s m args below meth c H locs 112 2248 Q (F0 m 762 ls []) := by
  have S0 : CallFix p m c code 4 s args lw_tbl RL := ⟨hx, hb, hml, hown, hts⟩
  refine lv_aload_n hx hb dL_law_762 rfl (lv_at hl 1 rfl) ?_
  refine lv_aload_n hx hb dL_law_763 rfl (lv_at hl 0 rfl) ?_
  refine lv_iload_n hx hb dL_law_764 rfl (lv_at hl 3 rfl) ?_
  refine lv_iconst (v := 1) hx hb dL_law_765 (by decide) ?_
  refine lv_iadd hx hb dL_law_766 ?_
  refine k_sld (k := 7 * j + 1) hx hb hX hbl hbA hS (k_lin1 hj hL0) (k_lcl1 hj hL0) dL_law_767 ?_
  refine lv_aload_n hx hb dL_law_768 rfl (lv_at hl 0 rfl) ?_
  refine lv_iload_n hx hb dL_law_769 rfl (lv_at hl 3 rfl) ?_
  refine lv_iconst (v := 2) hx hb dL_law_770 (by decide) ?_
  refine lv_iadd hx hb dL_law_771 ?_
  refine k_sld (k := 7 * j + 2) hx hb hX hbl hbA hS (k_lin2 hj hL0) (k_lcl2 hj hL0) dL_law_772 ?_
  obtain ⟨r1, S1, L1, M1, hX1, hM1, hR1⟩ := hsim S L M (xs (7 * j + 1)) (xs (7 * j + 2)) hR 
  refine k_lawL (q0 := 0) (As := [.int (xs (7 * j + 1)), .int (xs (7 * j + 2))]) (rest := []) S0 (k_MIZ (b_X8_orders l D cI cZ cJ cS x u S S1 L L1 (xs (7 * j + 1)) (xs (7 * j + 2)) r1 hX1)) (cwV 2 hts lg_X8_orders rfl rfl rfl hdV_X8_orders ⟨Nat.le_of_ble_eq_true rfl, Nat.le_of_ble_eq_true rfl⟩) hK hP hD hS hA hN hZ rfl rfl rfl rfl hl.1 rfl (Nat.le_of_ble_eq_true rfl) k_wX_adr ⟨Nat.le_of_ble_eq_true rfl, Nat.le_of_ble_eq_true rfl⟩ dL_law_773 (fun H locs hP hD hS => ?_)
  refine lv_aload_n hx hb dL_law_776 rfl (lv_at hl 2 rfl) ?_
  refine lv_aload_n hx hb dL_law_777 rfl (lv_at hl 0 rfl) ?_
  refine lv_iload_n hx hb dL_law_778 rfl (lv_at hl 3 rfl) ?_
  refine lv_iconst (v := 1) hx hb dL_law_779 (by decide) ?_
  refine lv_iadd hx hb dL_law_780 ?_
  refine k_sld (k := 7 * j + 1) hx hb hX hbl hbA hS (k_lin1 hj hL0) (k_lcl1 hj hL0) dL_law_781 ?_
  refine lv_aload_n hx hb dL_law_782 rfl (lv_at hl 0 rfl) ?_
  refine lv_iload_n hx hb dL_law_783 rfl (lv_at hl 3 rfl) ?_
  refine lv_iconst (v := 2) hx hb dL_law_784 (by decide) ?_
  refine lv_iadd hx hb dL_law_785 ?_
  refine k_sld (k := 7 * j + 2) hx hb hX hbl hbA hS (k_lin2 hj hL0) (k_lcl2 hj hL0) dL_law_786 ?_
  refine k_lawL (q0 := 0) (As := [.int (xs (7 * j + 1)), .int (xs (7 * j + 2))]) (rest := [.int r1]) S0 (k_MIZ (b_X9_orders l D cI cZ cJ cS y v M M1 (xs (7 * j + 1)) (xs (7 * j + 2)) r1 hM1)) (cwV 2 hts lg_X9_orders rfl rfl rfl hdV_X9_orders ⟨Nat.le_of_ble_eq_true rfl, Nat.le_of_ble_eq_true rfl⟩) hK (k_swapP hP) (k_swapD hD) hS hA hN hZ rfl rfl rfl rfl hl.1 rfl (Nat.le_of_ble_eq_true rfl) k_wM_adr ⟨Nat.le_of_ble_eq_true rfl, Nat.le_of_ble_eq_true rfl⟩ dL_law_787 (fun H locs hP hD hS => ?_)
  replace hP := k_swapP hP
  replace hD := k_swapD hD
  refine lv_icmp_eq (tgt := 956) hx hb dL_law_790 (by decide) (fun _ => ?_) (fun h => absurd rfl h)
  exact next S1 L1 M1 _ _ _ hR1 hP hD hS hl

set_option maxHeartbeats 4000000 in
set_option maxRecDepth 100000 in
theorem law_case_17 {p : Program} {l : Launch} {e : Env} {s : State} {m : MethodId} {args : Array Value} {below : List Frame} {meth : Method} {c : Code} {Q : State → Prop} {D : va_G} {cI cZ cJ cS : ClassId} {b L0 : Nat} {xs : Nat → Int32} {A : Nat → Prop} {x y : Nat} {u v : Nat → Nat} {Rel : (Nat → Nat → Int32) → (Nat → Nat → Int64) → (Nat → Nat → Int32) → Prop} (hx : p.tables.exec = Jvm.exec) (hb : c.code = code) (hml : c.maxLocals = 4) (hown : s.vm.findClass RL = some m.cls) (hts : ∀ w ∈ lw_tbl, w.before args s = true) (hX : va_X b L0 xs s s.heap) (hbl : b < s.heap.size) (hbA : ¬ A b) (hA : ∀ q, s.heap.size ≤ q → A q) (hK : va_K D vwCl (k_tys cI cZ cJ cS) s) (hN : k_Nest s) (hZ : k_Z A s s.heap) {j : Nat} (hj : 7 * j + 7 ≤ L0) (hL0 : L0 ≤ 3584) (hsim : k_Sim_toFloat Rel) (next : ∀ (S : Nat → Nat → Int32) (L : Nat → Nat → Int64) (M : Nat → Nat → Int32) (H : Heap) (locs : List Loc) (ls : Array Slot), Rel S L M → va_P D vwCl (k_wX x u cI cZ cJ cS S L ++ k_wM y v cI cZ cJ cS M) H → va_D A (k_wX x u cI cZ cJ cS S L ++ k_wM y v cI cZ cJ cS M) → va_S A s.heap H locs → lv_has ls 4 [(0, .ref b), (1, .ref x), (2, .ref y), (3, .int (nI (7 * j)))] → W p l e room_1 s m args below meth c H locs 112 2248 Q (F0 m 956 ls [])) (S : Nat → Nat → Int32) (L : Nat → Nat → Int64) (M : Nat → Nat → Int32) (H : Heap) (locs : List Loc) (ls : Array Slot) (hR : Rel S L M) (hP : va_P D vwCl (k_wX x u cI cZ cJ cS S L ++ k_wM y v cI cZ cJ cS M) H) (hD : va_D A (k_wX x u cI cZ cJ cS S L ++ k_wM y v cI cZ cJ cS M)) (hS : va_S A s.heap H locs) (hl : lv_has ls 4 [(0, .ref b), (1, .ref x), (2, .ref y), (3, .int (nI (7 * j)))]) : W p l e room_1 s m args below meth c H locs 112 2248 Q (F0 m 795 ls []) := by
  have S0 : CallFix p m c code 4 s args lw_tbl RL := ⟨hx, hb, hml, hown, hts⟩
  refine lv_aload_n hx hb dL_law_795 rfl (lv_at hl 1 rfl) ?_
  refine lv_aload_n hx hb dL_law_796 rfl (lv_at hl 0 rfl) ?_
  refine lv_iload_n hx hb dL_law_797 rfl (lv_at hl 3 rfl) ?_
  refine lv_iconst (v := 1) hx hb dL_law_798 (by decide) ?_
  refine lv_iadd hx hb dL_law_799 ?_
  refine k_sld (k := 7 * j + 1) hx hb hX hbl hbA hS (k_lin1 hj hL0) (k_lcl1 hj hL0) dL_law_800 ?_
  obtain ⟨r1, S1, L1, M1, hX1, hM1, hR1⟩ := hsim S L M (xs (7 * j + 1)) hR 
  refine k_lawL (q0 := 0) (As := [.int (xs (7 * j + 1))]) (rest := []) S0 (k_MIZ (b_X8_toFloat l D cI cZ cJ cS x u S S1 L L1 (xs (7 * j + 1)) r1 hX1)) (cwV 1 hts lg_X8_toFloat rfl rfl rfl hdV_X8_toFloat ⟨Nat.le_of_ble_eq_true rfl, Nat.le_of_ble_eq_true rfl⟩) hK hP hD hS hA hN hZ rfl rfl rfl rfl hl.1 rfl (Nat.le_of_ble_eq_true rfl) k_wX_adr ⟨Nat.le_of_ble_eq_true rfl, Nat.le_of_ble_eq_true rfl⟩ dL_law_801 (fun H locs hP hD hS => ?_)
  refine lv_aload_n hx hb dL_law_804 rfl (lv_at hl 2 rfl) ?_
  refine lv_aload_n hx hb dL_law_805 rfl (lv_at hl 0 rfl) ?_
  refine lv_iload_n hx hb dL_law_806 rfl (lv_at hl 3 rfl) ?_
  refine lv_iconst (v := 1) hx hb dL_law_807 (by decide) ?_
  refine lv_iadd hx hb dL_law_808 ?_
  refine k_sld (k := 7 * j + 1) hx hb hX hbl hbA hS (k_lin1 hj hL0) (k_lcl1 hj hL0) dL_law_809 ?_
  refine k_lawL (q0 := 0) (As := [.int (xs (7 * j + 1))]) (rest := [.int r1]) S0 (k_MIZ (b_X9_toFloat l D cI cZ cJ cS y v M M1 (xs (7 * j + 1)) r1 hM1)) (cwV 1 hts lg_X9_toFloat rfl rfl rfl hdV_X9_toFloat ⟨Nat.le_of_ble_eq_true rfl, Nat.le_of_ble_eq_true rfl⟩) hK (k_swapP hP) (k_swapD hD) hS hA hN hZ rfl rfl rfl rfl hl.1 rfl (Nat.le_of_ble_eq_true rfl) k_wM_adr ⟨Nat.le_of_ble_eq_true rfl, Nat.le_of_ble_eq_true rfl⟩ dL_law_810 (fun H locs hP hD hS => ?_)
  replace hP := k_swapP hP
  replace hD := k_swapD hD
  refine lv_icmp_eq (tgt := 956) hx hb dL_law_813 (by decide) (fun _ => ?_) (fun h => absurd rfl h)
  exact next S1 L1 M1 _ _ _ hR1 hP hD hS hl

set_option maxHeartbeats 4000000 in
set_option maxRecDepth 100000 in
theorem law_case_18 {p : Program} {l : Launch} {e : Env} {s : State} {m : MethodId} {args : Array Value} {below : List Frame} {meth : Method} {c : Code} {Q : State → Prop} {D : va_G} {cI cZ cJ cS : ClassId} {b L0 : Nat} {xs : Nat → Int32} {A : Nat → Prop} {x y : Nat} {u v : Nat → Nat} {Rel : (Nat → Nat → Int32) → (Nat → Nat → Int64) → (Nat → Nat → Int32) → Prop} (hx : p.tables.exec = Jvm.exec) (hb : c.code = code) (hml : c.maxLocals = 4) (hown : s.vm.findClass RL = some m.cls) (hts : ∀ w ∈ lw_tbl, w.before args s = true) (hX : va_X b L0 xs s s.heap) (hbl : b < s.heap.size) (hbA : ¬ A b) (hA : ∀ q, s.heap.size ≤ q → A q) (hK : va_K D vwCl (k_tys cI cZ cJ cS) s) (hN : k_Nest s) (hZ : k_Z A s s.heap) {j : Nat} (hj : 7 * j + 7 ≤ L0) (hL0 : L0 ≤ 3584) (hsim : k_Sim_tap Rel) (next : ∀ (S : Nat → Nat → Int32) (L : Nat → Nat → Int64) (M : Nat → Nat → Int32) (H : Heap) (locs : List Loc) (ls : Array Slot), Rel S L M → va_P D vwCl (k_wX x u cI cZ cJ cS S L ++ k_wM y v cI cZ cJ cS M) H → va_D A (k_wX x u cI cZ cJ cS S L ++ k_wM y v cI cZ cJ cS M) → va_S A s.heap H locs → lv_has ls 4 [(0, .ref b), (1, .ref x), (2, .ref y), (3, .int (nI (7 * j)))] → W p l e room_1 s m args below meth c H locs 112 2248 Q (F0 m 956 ls [])) (S : Nat → Nat → Int32) (L : Nat → Nat → Int64) (M : Nat → Nat → Int32) (H : Heap) (locs : List Loc) (ls : Array Slot) (hR : Rel S L M) (hP : va_P D vwCl (k_wX x u cI cZ cJ cS S L ++ k_wM y v cI cZ cJ cS M) H) (hD : va_D A (k_wX x u cI cZ cJ cS S L ++ k_wM y v cI cZ cJ cS M)) (hS : va_S A s.heap H locs) (hl : lv_has ls 4 [(0, .ref b), (1, .ref x), (2, .ref y), (3, .int (nI (7 * j)))]) : W p l e room_1 s m args below meth c H locs 112 2248 Q (F0 m 818 ls []) := by
  have S0 : CallFix p m c code 4 s args lw_tbl RL := ⟨hx, hb, hml, hown, hts⟩
  refine lv_aload_n hx hb dL_law_818 rfl (lv_at hl 1 rfl) ?_
  refine lv_aload_n hx hb dL_law_819 rfl (lv_at hl 0 rfl) ?_
  refine lv_iload_n hx hb dL_law_820 rfl (lv_at hl 3 rfl) ?_
  refine lv_iconst (v := 1) hx hb dL_law_821 (by decide) ?_
  refine lv_iadd hx hb dL_law_822 ?_
  refine k_sld (k := 7 * j + 1) hx hb hX hbl hbA hS (k_lin1 hj hL0) (k_lcl1 hj hL0) dL_law_823 ?_
  refine lv_aload_n hx hb dL_law_824 rfl (lv_at hl 0 rfl) ?_
  refine lv_iload_n hx hb dL_law_825 rfl (lv_at hl 3 rfl) ?_
  refine lv_iconst (v := 2) hx hb dL_law_826 (by decide) ?_
  refine lv_iadd hx hb dL_law_827 ?_
  refine k_sld (k := 7 * j + 2) hx hb hX hbl hbA hS (k_lin2 hj hL0) (k_lcl2 hj hL0) dL_law_828 ?_
  obtain ⟨r1, S1, L1, M1, hX1, hM1, hR1⟩ := hsim S L M (xs (7 * j + 1)) (xs (7 * j + 2)) hR 
  refine k_lawL (q0 := 0) (As := [.int (xs (7 * j + 1)), .int (xs (7 * j + 2))]) (rest := []) S0 (k_MIZ (b_X8_tap l D cI cZ cJ cS x u S S1 L L1 (xs (7 * j + 1)) (xs (7 * j + 2)) r1 hX1)) (cwV 2 hts lg_X8_tap rfl rfl rfl hdV_X8_tap ⟨Nat.le_of_ble_eq_true rfl, Nat.le_of_ble_eq_true rfl⟩) hK hP hD hS hA hN hZ rfl rfl rfl rfl hl.1 rfl (Nat.le_of_ble_eq_true rfl) k_wX_adr ⟨Nat.le_of_ble_eq_true rfl, Nat.le_of_ble_eq_true rfl⟩ dL_law_829 (fun H locs hP hD hS => ?_)
  refine lv_aload_n hx hb dL_law_832 rfl (lv_at hl 2 rfl) ?_
  refine lv_aload_n hx hb dL_law_833 rfl (lv_at hl 0 rfl) ?_
  refine lv_iload_n hx hb dL_law_834 rfl (lv_at hl 3 rfl) ?_
  refine lv_iconst (v := 1) hx hb dL_law_835 (by decide) ?_
  refine lv_iadd hx hb dL_law_836 ?_
  refine k_sld (k := 7 * j + 1) hx hb hX hbl hbA hS (k_lin1 hj hL0) (k_lcl1 hj hL0) dL_law_837 ?_
  refine lv_aload_n hx hb dL_law_838 rfl (lv_at hl 0 rfl) ?_
  refine lv_iload_n hx hb dL_law_839 rfl (lv_at hl 3 rfl) ?_
  refine lv_iconst (v := 2) hx hb dL_law_840 (by decide) ?_
  refine lv_iadd hx hb dL_law_841 ?_
  refine k_sld (k := 7 * j + 2) hx hb hX hbl hbA hS (k_lin2 hj hL0) (k_lcl2 hj hL0) dL_law_842 ?_
  refine k_lawL (q0 := 0) (As := [.int (xs (7 * j + 1)), .int (xs (7 * j + 2))]) (rest := [.int r1]) S0 (k_MIZ (b_X9_tap l D cI cZ cJ cS y v M M1 (xs (7 * j + 1)) (xs (7 * j + 2)) r1 hM1)) (cwV 2 hts lg_X9_tap rfl rfl rfl hdV_X9_tap ⟨Nat.le_of_ble_eq_true rfl, Nat.le_of_ble_eq_true rfl⟩) hK (k_swapP hP) (k_swapD hD) hS hA hN hZ rfl rfl rfl rfl hl.1 rfl (Nat.le_of_ble_eq_true rfl) k_wM_adr ⟨Nat.le_of_ble_eq_true rfl, Nat.le_of_ble_eq_true rfl⟩ dL_law_843 (fun H locs hP hD hS => ?_)
  replace hP := k_swapP hP
  replace hD := k_swapD hD
  refine lv_icmp_eq (tgt := 956) hx hb dL_law_846 (by decide) (fun _ => ?_) (fun h => absurd rfl h)
  exact next S1 L1 M1 _ _ _ hR1 hP hD hS hl

set_option maxHeartbeats 4000000 in
set_option maxRecDepth 100000 in
theorem law_case_19 {p : Program} {l : Launch} {e : Env} {s : State} {m : MethodId} {args : Array Value} {below : List Frame} {meth : Method} {c : Code} {Q : State → Prop} {D : va_G} {cI cZ cJ cS : ClassId} {b L0 : Nat} {xs : Nat → Int32} {A : Nat → Prop} {x y : Nat} {u v : Nat → Nat} {Rel : (Nat → Nat → Int32) → (Nat → Nat → Int64) → (Nat → Nat → Int32) → Prop} (hx : p.tables.exec = Jvm.exec) (hb : c.code = code) (hml : c.maxLocals = 4) (hown : s.vm.findClass RL = some m.cls) (hts : ∀ w ∈ lw_tbl, w.before args s = true) (hX : va_X b L0 xs s s.heap) (hbl : b < s.heap.size) (hbA : ¬ A b) (hA : ∀ q, s.heap.size ≤ q → A q) (hK : va_K D vwCl (k_tys cI cZ cJ cS) s) (hN : k_Nest s) (hZ : k_Z A s s.heap) {j : Nat} (hj : 7 * j + 7 ≤ L0) (hL0 : L0 ≤ 3584) (hsim : k_Sim_worm Rel) (next : ∀ (S : Nat → Nat → Int32) (L : Nat → Nat → Int64) (M : Nat → Nat → Int32) (H : Heap) (locs : List Loc) (ls : Array Slot), Rel S L M → va_P D vwCl (k_wX x u cI cZ cJ cS S L ++ k_wM y v cI cZ cJ cS M) H → va_D A (k_wX x u cI cZ cJ cS S L ++ k_wM y v cI cZ cJ cS M) → va_S A s.heap H locs → lv_has ls 4 [(0, .ref b), (1, .ref x), (2, .ref y), (3, .int (nI (7 * j)))] → W p l e room_1 s m args below meth c H locs 112 2248 Q (F0 m 956 ls [])) (S : Nat → Nat → Int32) (L : Nat → Nat → Int64) (M : Nat → Nat → Int32) (H : Heap) (locs : List Loc) (ls : Array Slot) (hR : Rel S L M) (hP : va_P D vwCl (k_wX x u cI cZ cJ cS S L ++ k_wM y v cI cZ cJ cS M) H) (hD : va_D A (k_wX x u cI cZ cJ cS S L ++ k_wM y v cI cZ cJ cS M)) (hS : va_S A s.heap H locs) (hl : lv_has ls 4 [(0, .ref b), (1, .ref x), (2, .ref y), (3, .int (nI (7 * j)))]) : W p l e room_1 s m args below meth c H locs 112 2248 Q (F0 m 851 ls []) := by
  have S0 : CallFix p m c code 4 s args lw_tbl RL := ⟨hx, hb, hml, hown, hts⟩
  refine lv_aload_n hx hb dL_law_851 rfl (lv_at hl 1 rfl) ?_
  refine lv_aload_n hx hb dL_law_852 rfl (lv_at hl 0 rfl) ?_
  refine lv_iload_n hx hb dL_law_853 rfl (lv_at hl 3 rfl) ?_
  refine lv_iconst (v := 1) hx hb dL_law_854 (by decide) ?_
  refine lv_iadd hx hb dL_law_855 ?_
  refine k_sld (k := 7 * j + 1) hx hb hX hbl hbA hS (k_lin1 hj hL0) (k_lcl1 hj hL0) dL_law_856 ?_
  refine lv_aload_n hx hb dL_law_857 rfl (lv_at hl 0 rfl) ?_
  refine lv_iload_n hx hb dL_law_858 rfl (lv_at hl 3 rfl) ?_
  refine lv_iconst (v := 2) hx hb dL_law_859 (by decide) ?_
  refine lv_iadd hx hb dL_law_860 ?_
  refine k_sld (k := 7 * j + 2) hx hb hX hbl hbA hS (k_lin2 hj hL0) (k_lcl2 hj hL0) dL_law_861 ?_
  obtain ⟨r1, S1, L1, M1, hX1, hM1, hR1⟩ := hsim S L M (xs (7 * j + 1)) (xs (7 * j + 2)) hR 
  refine k_lawL (q0 := 0) (As := [.int (xs (7 * j + 1)), .int (xs (7 * j + 2))]) (rest := []) S0 (k_MIZ (b_X8_worm l D cI cZ cJ cS x u S S1 L L1 (xs (7 * j + 1)) (xs (7 * j + 2)) r1 hX1)) (cwV 2 hts lg_X8_worm rfl rfl rfl hdV_X8_worm ⟨Nat.le_of_ble_eq_true rfl, Nat.le_of_ble_eq_true rfl⟩) hK hP hD hS hA hN hZ rfl rfl rfl rfl hl.1 rfl (Nat.le_of_ble_eq_true rfl) k_wX_adr ⟨Nat.le_of_ble_eq_true rfl, Nat.le_of_ble_eq_true rfl⟩ dL_law_862 (fun H locs hP hD hS => ?_)
  refine lv_aload_n hx hb dL_law_865 rfl (lv_at hl 2 rfl) ?_
  refine lv_aload_n hx hb dL_law_866 rfl (lv_at hl 0 rfl) ?_
  refine lv_iload_n hx hb dL_law_867 rfl (lv_at hl 3 rfl) ?_
  refine lv_iconst (v := 1) hx hb dL_law_868 (by decide) ?_
  refine lv_iadd hx hb dL_law_869 ?_
  refine k_sld (k := 7 * j + 1) hx hb hX hbl hbA hS (k_lin1 hj hL0) (k_lcl1 hj hL0) dL_law_870 ?_
  refine lv_aload_n hx hb dL_law_871 rfl (lv_at hl 0 rfl) ?_
  refine lv_iload_n hx hb dL_law_872 rfl (lv_at hl 3 rfl) ?_
  refine lv_iconst (v := 2) hx hb dL_law_873 (by decide) ?_
  refine lv_iadd hx hb dL_law_874 ?_
  refine k_sld (k := 7 * j + 2) hx hb hX hbl hbA hS (k_lin2 hj hL0) (k_lcl2 hj hL0) dL_law_875 ?_
  refine k_lawL (q0 := 0) (As := [.int (xs (7 * j + 1)), .int (xs (7 * j + 2))]) (rest := [.int r1]) S0 (k_MIZ (b_X9_worm l D cI cZ cJ cS y v M M1 (xs (7 * j + 1)) (xs (7 * j + 2)) r1 hM1)) (cwV 2 hts lg_X9_worm rfl rfl rfl hdV_X9_worm ⟨Nat.le_of_ble_eq_true rfl, Nat.le_of_ble_eq_true rfl⟩) hK (k_swapP hP) (k_swapD hD) hS hA hN hZ rfl rfl rfl rfl hl.1 rfl (Nat.le_of_ble_eq_true rfl) k_wM_adr ⟨Nat.le_of_ble_eq_true rfl, Nat.le_of_ble_eq_true rfl⟩ dL_law_876 (fun H locs hP hD hS => ?_)
  replace hP := k_swapP hP
  replace hD := k_swapD hD
  refine lv_icmp_eq (tgt := 956) hx hb dL_law_879 (by decide) (fun _ => ?_) (fun h => absurd rfl h)
  exact next S1 L1 M1 _ _ _ hR1 hP hD hS hl

set_option maxHeartbeats 4000000 in
set_option maxRecDepth 100000 in
theorem law_case_20 {p : Program} {l : Launch} {e : Env} {s : State} {m : MethodId} {args : Array Value} {below : List Frame} {meth : Method} {c : Code} {Q : State → Prop} {D : va_G} {cI cZ cJ cS : ClassId} {b L0 : Nat} {xs : Nat → Int32} {A : Nat → Prop} {x y : Nat} {u v : Nat → Nat} {Rel : (Nat → Nat → Int32) → (Nat → Nat → Int64) → (Nat → Nat → Int32) → Prop} (hx : p.tables.exec = Jvm.exec) (hb : c.code = code) (hml : c.maxLocals = 4) (hown : s.vm.findClass RL = some m.cls) (hts : ∀ w ∈ lw_tbl, w.before args s = true) (hX : va_X b L0 xs s s.heap) (hbl : b < s.heap.size) (hbA : ¬ A b) (hA : ∀ q, s.heap.size ≤ q → A q) (hK : va_K D vwCl (k_tys cI cZ cJ cS) s) (hN : k_Nest s) (hZ : k_Z A s s.heap) {j : Nat} (hj : 7 * j + 7 ≤ L0) (hL0 : L0 ≤ 3584) (hsim : k_Sim_book Rel) (next : ∀ (S : Nat → Nat → Int32) (L : Nat → Nat → Int64) (M : Nat → Nat → Int32) (H : Heap) (locs : List Loc) (ls : Array Slot), Rel S L M → va_P D vwCl (k_wX x u cI cZ cJ cS S L ++ k_wM y v cI cZ cJ cS M) H → va_D A (k_wX x u cI cZ cJ cS S L ++ k_wM y v cI cZ cJ cS M) → va_S A s.heap H locs → lv_has ls 4 [(0, .ref b), (1, .ref x), (2, .ref y), (3, .int (nI (7 * j)))] → W p l e room_1 s m args below meth c H locs 112 2248 Q (F0 m 956 ls [])) (S : Nat → Nat → Int32) (L : Nat → Nat → Int64) (M : Nat → Nat → Int32) (H : Heap) (locs : List Loc) (ls : Array Slot) (hR : Rel S L M) (hP : va_P D vwCl (k_wX x u cI cZ cJ cS S L ++ k_wM y v cI cZ cJ cS M) H) (hD : va_D A (k_wX x u cI cZ cJ cS S L ++ k_wM y v cI cZ cJ cS M)) (hS : va_S A s.heap H locs) (hl : lv_has ls 4 [(0, .ref b), (1, .ref x), (2, .ref y), (3, .int (nI (7 * j)))]) : W p l e room_1 s m args below meth c H locs 112 2248 Q (F0 m 884 ls []) := by
  have S0 : CallFix p m c code 4 s args lw_tbl RL := ⟨hx, hb, hml, hown, hts⟩
  refine lv_aload_n hx hb dL_law_884 rfl (lv_at hl 1 rfl) ?_
  refine lv_aload_n hx hb dL_law_885 rfl (lv_at hl 0 rfl) ?_
  refine lv_iload_n hx hb dL_law_886 rfl (lv_at hl 3 rfl) ?_
  refine lv_iconst (v := 1) hx hb dL_law_887 (by decide) ?_
  refine lv_iadd hx hb dL_law_888 ?_
  refine k_sld (k := 7 * j + 1) hx hb hX hbl hbA hS (k_lin1 hj hL0) (k_lcl1 hj hL0) dL_law_889 ?_
  obtain ⟨r1, S1, L1, M1, hX1, hM1, hR1⟩ := hsim S L M (xs (7 * j + 1)) hR 
  refine k_lawL (q0 := 0) (As := [.int (xs (7 * j + 1))]) (rest := []) S0 (k_MIZ (b_X8_book l D cI cZ cJ cS x u S S1 L L1 (xs (7 * j + 1)) r1 hX1)) (cwV 1 hts lg_X8_book rfl rfl rfl hdV_X8_book ⟨Nat.le_of_ble_eq_true rfl, Nat.le_of_ble_eq_true rfl⟩) hK hP hD hS hA hN hZ rfl rfl rfl rfl hl.1 rfl (Nat.le_of_ble_eq_true rfl) k_wX_adr ⟨Nat.le_of_ble_eq_true rfl, Nat.le_of_ble_eq_true rfl⟩ dL_law_890 (fun H locs hP hD hS => ?_)
  refine lv_aload_n hx hb dL_law_893 rfl (lv_at hl 2 rfl) ?_
  refine lv_aload_n hx hb dL_law_894 rfl (lv_at hl 0 rfl) ?_
  refine lv_iload_n hx hb dL_law_895 rfl (lv_at hl 3 rfl) ?_
  refine lv_iconst (v := 1) hx hb dL_law_896 (by decide) ?_
  refine lv_iadd hx hb dL_law_897 ?_
  refine k_sld (k := 7 * j + 1) hx hb hX hbl hbA hS (k_lin1 hj hL0) (k_lcl1 hj hL0) dL_law_898 ?_
  refine k_lawL (q0 := 0) (As := [.int (xs (7 * j + 1))]) (rest := [.int r1]) S0 (k_MIZ (b_X9_book l D cI cZ cJ cS y v M M1 (xs (7 * j + 1)) r1 hM1)) (cwV 1 hts lg_X9_book rfl rfl rfl hdV_X9_book ⟨Nat.le_of_ble_eq_true rfl, Nat.le_of_ble_eq_true rfl⟩) hK (k_swapP hP) (k_swapD hD) hS hA hN hZ rfl rfl rfl rfl hl.1 rfl (Nat.le_of_ble_eq_true rfl) k_wM_adr ⟨Nat.le_of_ble_eq_true rfl, Nat.le_of_ble_eq_true rfl⟩ dL_law_899 (fun H locs hP hD hS => ?_)
  replace hP := k_swapP hP
  replace hD := k_swapD hD
  refine lv_icmp_eq (tgt := 956) hx hb dL_law_902 (by decide) (fun _ => ?_) (fun h => absurd rfl h)
  exact next S1 L1 M1 _ _ _ hR1 hP hD hS hl

set_option maxHeartbeats 4000000 in
set_option maxRecDepth 100000 in
theorem law_case_21 {p : Program} {l : Launch} {e : Env} {s : State} {m : MethodId} {args : Array Value} {below : List Frame} {meth : Method} {c : Code} {Q : State → Prop} {D : va_G} {cI cZ cJ cS : ClassId} {b L0 : Nat} {xs : Nat → Int32} {A : Nat → Prop} {x y : Nat} {u v : Nat → Nat} {Rel : (Nat → Nat → Int32) → (Nat → Nat → Int64) → (Nat → Nat → Int32) → Prop} (hx : p.tables.exec = Jvm.exec) (hb : c.code = code) (hml : c.maxLocals = 4) (hown : s.vm.findClass RL = some m.cls) (hts : ∀ w ∈ lw_tbl, w.before args s = true) (hX : va_X b L0 xs s s.heap) (hbl : b < s.heap.size) (hbA : ¬ A b) (hA : ∀ q, s.heap.size ≤ q → A q) (hK : va_K D vwCl (k_tys cI cZ cJ cS) s) (hN : k_Nest s) (hZ : k_Z A s s.heap) {j : Nat} (hj : 7 * j + 7 ≤ L0) (hL0 : L0 ≤ 3584) (hsim : k_Sim_keep Rel) (next : ∀ (S : Nat → Nat → Int32) (L : Nat → Nat → Int64) (M : Nat → Nat → Int32) (H : Heap) (locs : List Loc) (ls : Array Slot), Rel S L M → va_P D vwCl (k_wX x u cI cZ cJ cS S L ++ k_wM y v cI cZ cJ cS M) H → va_D A (k_wX x u cI cZ cJ cS S L ++ k_wM y v cI cZ cJ cS M) → va_S A s.heap H locs → lv_has ls 4 [(0, .ref b), (1, .ref x), (2, .ref y), (3, .int (nI (7 * j)))] → W p l e room_1 s m args below meth c H locs 112 2248 Q (F0 m 956 ls [])) (S : Nat → Nat → Int32) (L : Nat → Nat → Int64) (M : Nat → Nat → Int32) (H : Heap) (locs : List Loc) (ls : Array Slot) (hR : Rel S L M) (hP : va_P D vwCl (k_wX x u cI cZ cJ cS S L ++ k_wM y v cI cZ cJ cS M) H) (hD : va_D A (k_wX x u cI cZ cJ cS S L ++ k_wM y v cI cZ cJ cS M)) (hS : va_S A s.heap H locs) (hl : lv_has ls 4 [(0, .ref b), (1, .ref x), (2, .ref y), (3, .int (nI (7 * j)))]) : W p l e room_1 s m args below meth c H locs 112 2248 Q (F0 m 907 ls []) := by
  have S0 : CallFix p m c code 4 s args lw_tbl RL := ⟨hx, hb, hml, hown, hts⟩
  refine lv_aload_n hx hb dL_law_907 rfl (lv_at hl 1 rfl) ?_
  obtain ⟨r1, S1, L1, M1, hX1, hM1, hR1⟩ := hsim S L M  hR 
  refine k_lawL (q0 := 0) (As := []) (rest := []) S0 (k_MIZ (b_X8_keep l D cI cZ cJ cS x u S S1 L L1  r1 hX1)) (cwV 0 hts lg_X8_keep rfl rfl rfl hdV_X8_keep ⟨Nat.le_of_ble_eq_true rfl, Nat.le_of_ble_eq_true rfl⟩) hK hP hD hS hA hN hZ rfl rfl rfl rfl hl.1 rfl (Nat.le_of_ble_eq_true rfl) k_wX_adr ⟨Nat.le_of_ble_eq_true rfl, Nat.le_of_ble_eq_true rfl⟩ dL_law_908 (fun H locs hP hD hS => ?_)
  refine lv_aload_n hx hb dL_law_911 rfl (lv_at hl 2 rfl) ?_
  refine k_lawL (q0 := 0) (As := []) (rest := [.int r1]) S0 (k_MIZ (b_X9_keep l D cI cZ cJ cS y v M M1  r1 hM1)) (cwV 0 hts lg_X9_keep rfl rfl rfl hdV_X9_keep ⟨Nat.le_of_ble_eq_true rfl, Nat.le_of_ble_eq_true rfl⟩) hK (k_swapP hP) (k_swapD hD) hS hA hN hZ rfl rfl rfl rfl hl.1 rfl (Nat.le_of_ble_eq_true rfl) k_wM_adr ⟨Nat.le_of_ble_eq_true rfl, Nat.le_of_ble_eq_true rfl⟩ dL_law_912 (fun H locs hP hD hS => ?_)
  replace hP := k_swapP hP
  replace hD := k_swapD hD
  refine lv_icmp_eq (tgt := 956) hx hb dL_law_915 (by decide) (fun _ => ?_) (fun h => absurd rfl h)
  exact next S1 L1 M1 _ _ _ hR1 hP hD hS hl

set_option maxHeartbeats 4000000 in
set_option maxRecDepth 100000 in
theorem law_case_22 {p : Program} {l : Launch} {e : Env} {s : State} {m : MethodId} {args : Array Value} {below : List Frame} {meth : Method} {c : Code} {Q : State → Prop} {D : va_G} {cI cZ cJ cS : ClassId} {b L0 : Nat} {xs : Nat → Int32} {A : Nat → Prop} {x y : Nat} {u v : Nat → Nat} {Rel : (Nat → Nat → Int32) → (Nat → Nat → Int64) → (Nat → Nat → Int32) → Prop} (hx : p.tables.exec = Jvm.exec) (hb : c.code = code) (hml : c.maxLocals = 4) (hown : s.vm.findClass RL = some m.cls) (hts : ∀ w ∈ lw_tbl, w.before args s = true) (hX : va_X b L0 xs s s.heap) (hbl : b < s.heap.size) (hbA : ¬ A b) (hA : ∀ q, s.heap.size ≤ q → A q) (hK : va_K D vwCl (k_tys cI cZ cJ cS) s) (hN : k_Nest s) (hZ : k_Z A s s.heap) {j : Nat} (hj : 7 * j + 7 ≤ L0) (hL0 : L0 ≤ 3584) (hsim : k_Sim_back Rel) (next : ∀ (S : Nat → Nat → Int32) (L : Nat → Nat → Int64) (M : Nat → Nat → Int32) (H : Heap) (locs : List Loc) (ls : Array Slot), Rel S L M → va_P D vwCl (k_wX x u cI cZ cJ cS S L ++ k_wM y v cI cZ cJ cS M) H → va_D A (k_wX x u cI cZ cJ cS S L ++ k_wM y v cI cZ cJ cS M) → va_S A s.heap H locs → lv_has ls 4 [(0, .ref b), (1, .ref x), (2, .ref y), (3, .int (nI (7 * j)))] → W p l e room_1 s m args below meth c H locs 112 2248 Q (F0 m 956 ls [])) (S : Nat → Nat → Int32) (L : Nat → Nat → Int64) (M : Nat → Nat → Int32) (H : Heap) (locs : List Loc) (ls : Array Slot) (hR : Rel S L M) (hP : va_P D vwCl (k_wX x u cI cZ cJ cS S L ++ k_wM y v cI cZ cJ cS M) H) (hD : va_D A (k_wX x u cI cZ cJ cS S L ++ k_wM y v cI cZ cJ cS M)) (hS : va_S A s.heap H locs) (hl : lv_has ls 4 [(0, .ref b), (1, .ref x), (2, .ref y), (3, .int (nI (7 * j)))]) : W p l e room_1 s m args below meth c H locs 112 2248 Q (F0 m 920 ls []) := by
  have S0 : CallFix p m c code 4 s args lw_tbl RL := ⟨hx, hb, hml, hown, hts⟩
  refine lv_aload_n hx hb dL_law_920 rfl (lv_at hl 1 rfl) ?_
  obtain ⟨r1, S1, L1, M1, hX1, hM1, hR1⟩ := hsim S L M  hR 
  refine k_lawL (q0 := 0) (As := []) (rest := []) S0 (k_MIZ (b_X8_back l D cI cZ cJ cS x u S S1 L L1  r1 hX1)) (cwV 0 hts lg_X8_back rfl rfl rfl hdV_X8_back ⟨Nat.le_of_ble_eq_true rfl, Nat.le_of_ble_eq_true rfl⟩) hK hP hD hS hA hN hZ rfl rfl rfl rfl hl.1 rfl (Nat.le_of_ble_eq_true rfl) k_wX_adr ⟨Nat.le_of_ble_eq_true rfl, Nat.le_of_ble_eq_true rfl⟩ dL_law_921 (fun H locs hP hD hS => ?_)
  refine lv_aload_n hx hb dL_law_924 rfl (lv_at hl 2 rfl) ?_
  refine k_lawL (q0 := 0) (As := []) (rest := [.int r1]) S0 (k_MIZ (b_X9_back l D cI cZ cJ cS y v M M1  r1 hM1)) (cwV 0 hts lg_X9_back rfl rfl rfl hdV_X9_back ⟨Nat.le_of_ble_eq_true rfl, Nat.le_of_ble_eq_true rfl⟩) hK (k_swapP hP) (k_swapD hD) hS hA hN hZ rfl rfl rfl rfl hl.1 rfl (Nat.le_of_ble_eq_true rfl) k_wM_adr ⟨Nat.le_of_ble_eq_true rfl, Nat.le_of_ble_eq_true rfl⟩ dL_law_925 (fun H locs hP hD hS => ?_)
  replace hP := k_swapP hP
  replace hD := k_swapD hD
  refine lv_icmp_eq (tgt := 956) hx hb dL_law_928 (by decide) (fun _ => ?_) (fun h => absurd rfl h)
  exact next S1 L1 M1 _ _ _ hR1 hP hD hS hl

set_option maxHeartbeats 4000000 in
set_option maxRecDepth 100000 in
theorem law_case_23 {p : Program} {l : Launch} {e : Env} {s : State} {m : MethodId} {args : Array Value} {below : List Frame} {meth : Method} {c : Code} {Q : State → Prop} {D : va_G} {cI cZ cJ cS : ClassId} {b L0 : Nat} {xs : Nat → Int32} {A : Nat → Prop} {x y : Nat} {u v : Nat → Nat} {Rel : (Nat → Nat → Int32) → (Nat → Nat → Int64) → (Nat → Nat → Int32) → Prop} (hx : p.tables.exec = Jvm.exec) (hb : c.code = code) (hml : c.maxLocals = 4) (hown : s.vm.findClass RL = some m.cls) (hts : ∀ w ∈ lw_tbl, w.before args s = true) (hX : va_X b L0 xs s s.heap) (hbl : b < s.heap.size) (hbA : ¬ A b) (hA : ∀ q, s.heap.size ≤ q → A q) (hK : va_K D vwCl (k_tys cI cZ cJ cS) s) (hN : k_Nest s) (hZ : k_Z A s s.heap) {j : Nat} (hj : 7 * j + 7 ≤ L0) (hL0 : L0 ≤ 3584) (hsim : k_Sim_count Rel) (next : ∀ (S : Nat → Nat → Int32) (L : Nat → Nat → Int64) (M : Nat → Nat → Int32) (H : Heap) (locs : List Loc) (ls : Array Slot), Rel S L M → va_P D vwCl (k_wX x u cI cZ cJ cS S L ++ k_wM y v cI cZ cJ cS M) H → va_D A (k_wX x u cI cZ cJ cS S L ++ k_wM y v cI cZ cJ cS M) → va_S A s.heap H locs → lv_has ls 4 [(0, .ref b), (1, .ref x), (2, .ref y), (3, .int (nI (7 * j)))] → W p l e room_1 s m args below meth c H locs 112 2248 Q (F0 m 956 ls [])) (S : Nat → Nat → Int32) (L : Nat → Nat → Int64) (M : Nat → Nat → Int32) (H : Heap) (locs : List Loc) (ls : Array Slot) (hR : Rel S L M) (hP : va_P D vwCl (k_wX x u cI cZ cJ cS S L ++ k_wM y v cI cZ cJ cS M) H) (hD : va_D A (k_wX x u cI cZ cJ cS S L ++ k_wM y v cI cZ cJ cS M)) (hS : va_S A s.heap H locs) (hl : lv_has ls 4 [(0, .ref b), (1, .ref x), (2, .ref y), (3, .int (nI (7 * j)))]) : W p l e room_1 s m args below meth c H locs 112 2248 Q (F0 m 933 ls []) := by
  have S0 : CallFix p m c code 4 s args lw_tbl RL := ⟨hx, hb, hml, hown, hts⟩
  refine lv_aload_n hx hb dL_law_933 rfl (lv_at hl 1 rfl) ?_
  refine lv_aload_n hx hb dL_law_934 rfl (lv_at hl 0 rfl) ?_
  refine lv_iload_n hx hb dL_law_935 rfl (lv_at hl 3 rfl) ?_
  refine lv_iconst (v := 1) hx hb dL_law_936 (by decide) ?_
  refine lv_iadd hx hb dL_law_937 ?_
  refine k_sld (k := 7 * j + 1) hx hb hX hbl hbA hS (k_lin1 hj hL0) (k_lcl1 hj hL0) dL_law_938 ?_
  obtain ⟨r1, S1, L1, M1, hX1, hM1, hR1⟩ := hsim S L M (xs (7 * j + 1)) hR 
  refine k_lawL (q0 := 0) (As := [.int (xs (7 * j + 1))]) (rest := []) S0 (k_MIZ (b_X8_count l D cI cZ cJ cS x u S S1 L L1 (xs (7 * j + 1)) r1 hX1)) (cwV 1 hts lg_X8_count rfl rfl rfl hdV_X8_count ⟨Nat.le_of_ble_eq_true rfl, Nat.le_of_ble_eq_true rfl⟩) hK hP hD hS hA hN hZ rfl rfl rfl rfl hl.1 rfl (Nat.le_of_ble_eq_true rfl) k_wX_adr ⟨Nat.le_of_ble_eq_true rfl, Nat.le_of_ble_eq_true rfl⟩ dL_law_939 (fun H locs hP hD hS => ?_)
  refine lv_aload_n hx hb dL_law_942 rfl (lv_at hl 2 rfl) ?_
  refine lv_aload_n hx hb dL_law_943 rfl (lv_at hl 0 rfl) ?_
  refine lv_iload_n hx hb dL_law_944 rfl (lv_at hl 3 rfl) ?_
  refine lv_iconst (v := 1) hx hb dL_law_945 (by decide) ?_
  refine lv_iadd hx hb dL_law_946 ?_
  refine k_sld (k := 7 * j + 1) hx hb hX hbl hbA hS (k_lin1 hj hL0) (k_lcl1 hj hL0) dL_law_947 ?_
  refine k_lawL (q0 := 0) (As := [.int (xs (7 * j + 1))]) (rest := [.int r1]) S0 (k_MIZ (b_X9_count l D cI cZ cJ cS y v M M1 (xs (7 * j + 1)) r1 hM1)) (cwV 1 hts lg_X9_count rfl rfl rfl hdV_X9_count ⟨Nat.le_of_ble_eq_true rfl, Nat.le_of_ble_eq_true rfl⟩) hK (k_swapP hP) (k_swapD hD) hS hA hN hZ rfl rfl rfl rfl hl.1 rfl (Nat.le_of_ble_eq_true rfl) k_wM_adr ⟨Nat.le_of_ble_eq_true rfl, Nat.le_of_ble_eq_true rfl⟩ dL_law_948 (fun H locs hP hD hS => ?_)
  replace hP := k_swapP hP
  replace hD := k_swapD hD
  refine lv_icmp_eq (tgt := 956) hx hb dL_law_951 (by decide) (fun _ => ?_) (fun h => absurd rfl h)
  exact next S1 L1 M1 _ _ _ hR1 hP hD hS hl

