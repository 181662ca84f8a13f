def k_su {α : Type} (S : Nat → Nat → α) (i : Nat) (f : Nat → α) : Nat → Nat → α := fun k => bif Nat.beq k i then f else S k
theorem k_su_eq {α : Type} (S : Nat → Nat → α) (i : Nat) (f : Nat → α) : k_su S i f i = f := by simp [k_su]
theorem k_su_ne {α : Type} (S : Nat → Nat → α) {i k : Nat} (f : Nat → α) (h : k ≠ i) : k_su S i f k = S k := by
  show (bif Nat.beq k i then f else S k) = S k
  cases hb : Nat.beq k i
  · rfl
  · exact absurd (Nat.eq_of_beq_eq_true hb) h
theorem k_weaken {l : Launch} {y : MethodName} {wl : List Cond} {rm : Room} {Pc Pc' : Array Value → State → Prop} {Qc Qc' : Array Value → State → Outcome → State → Prop} {mc ms : Nat} {fr fr' : Addr → Prop} (h : Met l y wl rm Pc Qc mc ms fr) (hp : ∀ a s, Pc' a s → Pc a s) (hq : ∀ a s o t, Pc' a s → Qc a s o t → Qc' a s o t) (hf : ∀ a s, Pc' a s → ∀ q, fr q → fr' q) : Met l y wl rm Pc' Qc' mc ms fr' := by
  intro p e ha h1 h2 s m args below hfr hs hP hK
  obtain ⟨n, o, a, b, c, q, L, d, e'⟩ := h p e ha h1 h2 s m args below hfr hs (hp _ _ hP) trivial
  exact ⟨n, o, a, b, c, hq _ _ _ _ hP q, L, d, fun q hq => hf _ _ hP _ (e' q hq)⟩
theorem k_A_sub {ws wc : va_W} {sz : Nat} (isC : List Nat) (hC : isC.map (fun i => ws[i]?) = wc.map some) {q : Nat} (h : va_A wc sz q) : va_A ws sz q := by
  rcases h with ⟨k, e, h⟩ | h
  · have h3 : (isC.map (fun i => ws[i]?))[k]? = some (some (q, e)) := by rw [hC, List.getElem?_map, h]; rfl
    rw [List.getElem?_map] at h3
    cases hi : isC[k]? with
    | none => rw [hi] at h3; cases h3
    | some i => rw [hi] at h3; exact Or.inl ⟨i, e, Option.some.inj h3⟩
  · exact Or.inr h
theorem k_frameI {l : Launch} {y : MethodName} {wl : List Cond} {rm : Room} {D : va_G} {tys : List (ClassId × FieldType)} {av : List Value} {ws wc w1 ws2 : va_W} {r : Int32} (h : k_MI l y wl rm D tys av wc w1 r) (isC : List Nat) (hC : isC.map (fun i => ws[i]?) = wc.map some) (hnd : va_nd isC = true) (hlen : isC.length = w1.length) (h2 : k_put ws isC w1 = ws2) (hadr : ws2.map (fun q => q.1) = ws.map (fun q => q.1)) : k_MI l y wl rm D tys av ws ws2 r := by
  intro sz
  refine k_weaken (h sz) (fun a s hp => ?_) (fun a s o t hp hq => ?_) (fun a s hp q hq => k_A_sub isC hC hq)
  · obtain ⟨h1, h3, h4, h5, h6, h7⟩ := hp
    exact ⟨h1, h3, k_sub_P h4 isC hC, h5, h6.sub isC hnd hC, h7⟩
  · obtain ⟨h1, h3, h4, h5, h6, h7⟩ := hp
    obtain ⟨⟨r', u, g1, g2, g3, g4, g5⟩, g6, g7⟩ := hq
    subst h3
    exact ⟨⟨r', u, g1, g2, h2 ▸ k_after h4 h6 isC hC g7 g3 hlen, g4, k_D_adr h6.self hadr⟩, g6, fun q hq hn => g7 q hq (fun hc => hn (k_A_sub isC hC hc))⟩
theorem k_frameZ {l : Launch} {y : MethodName} {wl : List Cond} {rm : Room} {D : va_G} {tys : List (ClassId × FieldType)} {av : List Value} {ws wc w1 ws2 : va_W} {r : Int32} (h : k_MZ l y wl rm D tys av wc w1 r) (isC : List Nat) (hC : isC.map (fun i => ws[i]?) = wc.map some) (hnd : va_nd isC = true) (hlen : isC.length = w1.length) (h2 : k_put ws isC w1 = ws2) (hadr : ws2.map (fun q => q.1) = ws.map (fun q => q.1)) : k_MZ l y wl rm D tys av ws ws2 r := by
  intro sz
  refine k_weaken (h sz) (fun a s hp => ?_) (fun a s o t hp hq => ?_) (fun a s hp q hq => k_A_sub isC hC hq)
  · obtain ⟨h1, ⟨h3, h4, h5, h6, h7⟩, h8⟩ := hp
    exact ⟨h1, ⟨h3, k_sub_P h4 isC hC, h5, h6.sub isC hnd hC, h7⟩, h8.narrow (fun q hq => k_A_sub isC hC hq)⟩
  · obtain ⟨h1, ⟨h3, h4, h5, h6, h7⟩, h8⟩ := hp
    obtain ⟨⟨r', u, g1, g2, g3, g4, g5⟩, g6, g7⟩ := hq
    subst h3
    exact ⟨⟨r', u, g1, g2, h2 ▸ k_after h4 h6 isC hC g7 g3 hlen, g4, k_D_adr h6.self hadr⟩, g6, fun q hq hn => g7 q hq (fun hc => hn (k_A_sub isC hC hc))⟩
theorem k_MIZ {l : Launch} {y : MethodName} {wl : List Cond} {rm : Room} {D : va_G} {tys : List (ClassId × FieldType)} {av : List Value} {ws ws2 : va_W} {r : Int32} (h : k_MI l y wl rm D tys av ws ws2 r) : k_MZ l y wl rm D tys av ws ws2 r := fun sz => k_weaken (h sz) (fun _ _ hp => ⟨hp.1, hp.2.1⟩) (fun _ _ _ _ _ hq => hq) (fun _ _ _ _ hq => hq)
theorem k_put_of2 {isC : List Nat} {w1 ws ws2 : va_W} (isR : List Nat) (n : Nat) (hn : ws.length = n) (hnd : va_nd isC = true) (hl1 : isC.length = w1.length) (hlen : ws2.length = ws.length) (h1 : isC.map (fun i => ws2[i]?) = w1.map some) (h2 : isR.map (fun i => ws2[i]?) = isR.map (fun i => ws[i]?)) (hcov : (List.range n).all (fun i => isC.contains i || isR.contains i) = true) : k_put ws isC w1 = ws2 := k_put_of isR hnd hl1 hlen h1 h2 (by rw [hn]; exact hcov)
section KLAW
variable {p : Program} {l : Launch} {e : Env} {R : Room} {s : State} {m : MethodId} {args : Array Value} {below : List Frame} {meth : Method} {c : Code} {H : Heap} {locs : List Loc} {cells slots : Nat} {Q : State → Prop} {D : va_G} {tys : List (ClassId × FieldType)} {A : Nat → Prop} {wa wb wa2 ws wc wr w1 ws2 : va_W} {cc bytes : ByteArray} {pc nL maxL index n ci q0 b mc ms : Nat} {ls : Array Slot} {rest st0 As : List Value} {r : Int32} {wl Ts : List Cond} {own C host : String} {y : MethodName} {ret : Option FieldType} {rm : Room} {fs : List Value} {qc : vw_C}
/-- a call on the first half of the world -/
theorem k_lawL (S : CallFix p m c cc nL s args Ts own) (hM : k_MZ l y wl rm D tys (.ref b :: As) wa wa2 r) (cw : CallW R s args own C index y bytes maxL ret wl rm 0 0 n) (hK : va_K D vwCl tys s) (hP : va_P D vwCl (wa ++ wb) H) (hD : va_D A (wa ++ wb)) (hS : va_S A s.heap H locs) (hA : ∀ q, s.heap.size ≤ q → A q) (hN : k_Nest s) (hZ : k_Z A s s.heap) (hb : wa[q0]? = some (b, .inr (ci, fs))) (hc : vwCl[ci]? = some qc) (hq : qc.1 = C) (hn : As.length = n) (hls : ls.size = nL) (hst : st0 = As.reverse ++ .ref b :: rest) (hW : (rest.map fun v => v.category).sum ≤ 8) (hadr : wa2.map (fun q => q.1) = wa.map (fun q => q.1)) (hroom : cells + 0 ≤ R.cells ∧ slots + 0 ≤ R.slots) (hdg : decode cc pc = .ok (.invokevirtual index, 3))
    (kk : ∀ (H1 : Heap) (locs1 : List Loc), va_P D vwCl (wa2 ++ wb) H1 → va_D A (wa2 ++ wb) → va_S A s.heap H1 locs1 → W p l e R s m args below meth c H1 locs1 cells slots Q (F0 m (pc + 3) ls (.int r :: rest))) : W p l e R s m args below meth c H locs cells slots Q (F0 m pc ls st0) := by
  subst hq
  have hPa : va_P D vwCl wa H := fun k q hk => hP k q (by rw [List.getElem?_append_left (List.getElem?_eq_some_iff.mp hk).1]; exact hk)
  have hPb : ∀ (k : Nat) (q : Nat × va_E), wb[k]? = some q → (wa ++ wb)[wa.length + k]? = some q := fun k q hk => by rw [List.getElem?_append_right (Nat.le_add_right _ _)]; simpa using hk
  have hDa : va_D A wa := ⟨fun i j p q hp hq h => hD.1 i j p q (by rw [List.getElem?_append_left (List.getElem?_eq_some_iff.mp hp).1]; exact hp) (by rw [List.getElem?_append_left (List.getElem?_eq_some_iff.mp hq).1]; exact hq) h, fun k q hk => hD.2 k q (by rw [List.getElem?_append_left (List.getElem?_eq_some_iff.mp hk).1]; exact hk)⟩
  have hF : ∀ q, va_A wa H.size q → A q := by
    intro q h
    rcases h with ⟨k, e, h⟩ | h
    · exact hDa.2 k (q, e) h
    · exact hA q (Nat.le_trans hS.1 h)
  refine va_calli (va_runV S (hM H.size) cw ⟨k_blindZ, va_recv hK hPa hc hb, k_preZ _ hK hPa hDa hN hZ hS hF⟩ rfl hn hls hst (lv_room hW) hdg hroom) hS (fun q _ h => hF q h) hF (fun r' u t H1 locs1 ht hvm hw hB hz1 hk1 hS1 => ?_)
  subst hw
  obtain ⟨hP1, -, -⟩ := hB
  rw [ht] at hP1
  refine kk H1 locs1 (hP1.app (fun k q hq => ?_)) (k_D_adr hD (by rw [List.map_append, List.map_append, hadr])) hS1
  have hlt := (hP _ q (hPb k q hq)).lt
  refine (hP _ q (hPb k q hq)).kept (hk1 q.1 hlt fun hA1 => ?_)
  rcases hA1 with ⟨k2, e, h⟩ | h
  · have hl2 := (List.getElem?_eq_some_iff.mp h).1
    have := hD.1 k2 (wa.length + k) (q.1, e) q (by rw [List.getElem?_append_left hl2]; exact h) (hPb k q hq) rfl
    omega
  · omega
theorem k_swapP {a b : va_W} (h : va_P D vwCl (a ++ b) H) : va_P D vwCl (b ++ a) H := k_P_all.mpr fun q hq => k_P_all.mp h q (by simp only [List.mem_append] at hq ⊢; exact hq.symm)
theorem k_swapD {a b : va_W} (h : va_D A (a ++ b)) : va_D A (b ++ a) := by
  have tr : ∀ (k : Nat) (q : Nat × va_E), (b ++ a)[k]? = some q → ∃ k', (a ++ b)[k']? = some q ∧ k' = (if k < b.length then a.length + k else k - b.length) := by
    intro k q hq
    refine ⟨_, ?_, rfl⟩
    split
    · rename_i hlt
      rw [List.getElem?_append_left hlt] at hq
      rw [List.getElem?_append_right (Nat.le_add_right _ _)]
      simpa using hq
    · rename_i hge
      rw [List.getElem?_append_right (Nat.not_lt.mp hge)] at hq
      rw [List.getElem?_append_left (List.getElem?_eq_some_iff.mp hq).1]
      exact hq
  refine ⟨fun i j p q hp hq hpq => ?_, fun k q hq => ?_⟩
  · obtain ⟨i', h1, h2⟩ := tr i p hp
    obtain ⟨j', h3, h4⟩ := tr j q hq
    have h5 := h.1 i' j' p q h1 h3 hpq
    have hi := (List.getElem?_eq_some_iff.mp hp).1
    have hj := (List.getElem?_eq_some_iff.mp hq).1
    simp only [List.length_append] at hi hj
    split at h2 <;> split at h4 <;> omega
  · obtain ⟨k', h1, -⟩ := tr k q hq
    exact h.2 k' q h1
/-- the script is read -/
theorem k_sld {L b0 : Nat} {xs : Nat → Int32} {k : Nat} {i : Int32} (hx : p.tables.exec = Jvm.exec) (hb : c.code = cc) (hX : va_X b0 L xs s s.heap) (hbl : b0 < s.heap.size) (hbA : ¬ A b0) (hS : va_S A s.heap H locs) (hin : vp_in i L) (hk : i.toNatClampNeg = k) (hdg : decode cc pc = .ok (.iaload, 1)) (kk : W p l e R s m args below meth c H locs cells slots Q (F0 m (pc + 1) ls (.int (xs k) :: rest))) : W p l e R s m args below meth c H locs cells slots Q (F0 m pc ls (.int i :: .ref b0 :: rest)) := by
  subst hk
  exact va_sld hx hb hX hbl hbA hS hin hdg kk
theorem k_tswG {dflt lo hi : Int} {offs : Array Int} {len tgt j : Nat} {x k : Int32} {off : Int} (hx : p.tables.exec = Jvm.exec) (hb : c.code = cc) (hdg : decode cc pc = .ok (.tableswitch dflt lo hi offs, len)) (hxk : x = k) (h1 : ¬ k.toInt < lo) (h2 : ¬ hi < k.toInt) (hj : (k.toInt - lo).toNat = j) (ho : offs[j]? = some off) (ht : (pc : Int) + off = (tgt : Int)) (kk : W p l e R s m args below meth c H locs cells slots Q (F0 m tgt ls rest)) : W p l e R s m args below meth c H locs cells slots Q (F0 m pc ls (.int x :: rest)) := by
  subst hxk
  subst hj
  exact lv_tableIn hx hb hdg h1 h2 ho ht kk
end KLAW
theorem k_cls {s : State} {args : Array Value} {ty : FieldType} (hno : ∀ C, ty ≠ .object C) (h : (Cond.arrayClass ty).before args s = true) : ∃ cA, ArrOfT s cA ty ∧ va_RA s cA ty := by
  obtain ⟨c, k, comp, h1, h2, h3⟩ := Cond.arrayClass_spec h
  refine ⟨c, fun n z => ⟨fun k h => (by cases h), k, h2, comp, h3⟩, ?_⟩
  cases ty with
  | object C => exact absurd rfl (hno C)
  | _ => exact h1
theorem k_clsO {s : State} {args : Array Value} {C : String} (h : (Cond.arrayOver (.object C)).before args s = true) : ∃ cA, ArrOfT s cA (.object C) ∧ va_RA s cA (.object C) := by
  obtain ⟨comp, c, k, h1, h2, h3, h4, h5⟩ := Cond.arrayOver_spec h
  exact ⟨c, fun n z => ⟨fun k h => (by cases h), k, h3, comp, h4⟩, k, comp, h3, h4, h1, h5⟩
