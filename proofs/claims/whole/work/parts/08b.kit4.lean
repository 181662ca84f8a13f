theorem k_put_get (k : Nat) : ∀ (isC : List Nat) (w1 ws : va_W), va_nd isC = true → isC.length = w1.length → (k ∉ isC → (k_put ws isC w1)[k]? = ws[k]?) ∧ (∀ j : Nat, isC[j]? = some k → k < ws.length → (k_put ws isC w1)[k]? = w1[j]?)
  | [], [], ws, _, _ => ⟨fun _ => rfl, fun j h => by simp at h⟩
  | i :: is, c :: cs, ws, hn, hl => by
    have hn' : i ∉ is ∧ va_nd is = true := by simpa [va_nd] using hn
    obtain ⟨h1, h2⟩ := k_put_get k is cs (ws.set i c) hn'.2 (by simpa using hl)
    refine ⟨fun h => ?_, fun j hj hk => ?_⟩
    · have hki : i ≠ k := fun e => h (by rw [e]; exact List.mem_cons_self)
      show (k_put (ws.set i c) is cs)[k]? = _
      rw [h1 (fun e => h (List.mem_cons_of_mem _ e)), List.getElem?_set_ne hki]
    · show (k_put (ws.set i c) is cs)[k]? = _
      cases j with
      | zero =>
        have e : i = k := by simpa using hj
        subst e
        rw [h1 hn'.1, List.getElem?_set_self hk]
        rfl
      | succ j =>
        have hj' : is[j]? = some k := by simpa using hj
        rw [h2 j hj' (by rw [List.length_set]; exact hk)]
        rfl
theorem k_put_len : ∀ (isC : List Nat) (w1 ws : va_W), (k_put ws isC w1).length = ws.length
  | [], [], ws => rfl
  | [], _ :: _, ws => rfl
  | _ :: _, [], ws => rfl
  | i :: is, c :: cs, ws => by
    show (k_put (ws.set i c) is cs).length = _
    rw [k_put_len is cs, List.length_set]
theorem k_put_of {isC : List Nat} {w1 ws ws2 : va_W} (isR : List Nat) (hnd : va_nd isC = true) (hl1 : isC.length = w1.length) (hlen : ws2.length = ws.length) (h1 : isC.map (fun i => ws2[i]?) = w1.map some) (h2 : isR.map (fun i => ws2[i]?) = isR.map (fun i => ws[i]?)) (hcov : (List.range ws.length).all (fun i => isC.contains i || isR.contains i) = true) : k_put ws isC w1 = ws2 := by
  apply List.ext_getElem?
  intro k
  obtain ⟨g1, g2⟩ := k_put_get k isC w1 ws hnd hl1
  by_cases hk : k < ws.length
  · by_cases hc : k ∈ isC
    · obtain ⟨j, hj⟩ := List.getElem?_of_mem hc
      rw [g2 j hj hk]
      have h3 : (isC.map (fun i => ws2[i]?))[j]? = (w1.map some)[j]? := by rw [h1]
      rw [List.getElem?_map, List.getElem?_map, hj] at h3
      cases hw : w1[j]? with
      | none => rw [hw] at h3; simp at h3
      | some z => rw [hw] at h3; simpa using h3.symm
    · rw [g1 hc]
      have h3 := List.all_eq_true.mp hcov k (List.mem_range.mpr hk)
      have hr : k ∈ isR := by
        simp only [Bool.or_eq_true, List.contains_iff_mem] at h3
        exact h3.resolve_left hc
      obtain ⟨j, hj⟩ := List.getElem?_of_mem hr
      have h4 : (isR.map (fun i => ws2[i]?))[j]? = (isR.map (fun i => ws[i]?))[j]? := by rw [h2]
      rw [List.getElem?_map, List.getElem?_map, hj] at h4
      simpa using h4.symm
  · rw [List.getElem?_eq_none (by rw [k_put_len]; omega), List.getElem?_eq_none (by omega)]
def k_kept (k0 k1 k2 : Nat) : Nat → Option Nat := va_up (va_up (va_up (fun _ => none) 0 (some k0)) 1 (some k1)) 2 (some k2)
section KK
variable {p : Program} {l : Launch} {e : Env} {R : Room} {s : State} {m : MethodId} {args : Array Value} {below : List Frame} {meth : Method} {c : Code} {H : Heap} {locs : List Loc} {cells slots : Nat} {Q : State → Prop} {D : va_G} {tys : List (ClassId × FieldType)} {A : Nat → Prop} {ws wc wr w1 ws2 : va_W} {cc bytes : ByteArray} {pc nL maxL index n ci q0 b mc ms : Nat} {ls : Array Slot} {rest st0 As : List Value} {r : Int32} {wl Ts : List Cond} {own C host : String} {y : MethodName} {ret : Option FieldType} {rm : Room} {fs : List Value} {qc : vw_C}
theorem k_kept0 (hx : p.tables.exec = Jvm.exec) (hb : c.code = cc) (hK : va_K D vwCl tys s) (hP : va_P D vwCl ws H) (q0 t0 : Nat) {a k0 k1 k2 : Nat} {cA : ClassId} {C : String} {i : Int32} (ha : ws[q0]? = some (a, .inl (cA, 3, .inr (.inr (.inr (.inr (k_kept k0 k1 k2))))))) (ht : tys[t0]? = some (cA, .object C)) (hi : i = 0) (hdg : decode cc pc = .ok (.aaload, 1))
    (kk : W p l e R s m args below meth c H locs cells slots Q (F0 m (pc + 1) ls (.ref k0 :: rest))) : W p l e R s m args below meth c H locs cells slots Q (F0 m pc ls (.int i :: .ref a :: rest)) := by
  subst hi
  refine va_aldq hx hb hK hP q0 t0 ha ht (by unfold vp_in; decide) hdg ?_
  rw [show (0 : Int32).toNatClampNeg = 0 from by decide]
  exact kk
theorem k_kept1 (hx : p.tables.exec = Jvm.exec) (hb : c.code = cc) (hK : va_K D vwCl tys s) (hP : va_P D vwCl ws H) (q0 t0 : Nat) {a k0 k1 k2 : Nat} {cA : ClassId} {C : String} {i : Int32} (ha : ws[q0]? = some (a, .inl (cA, 3, .inr (.inr (.inr (.inr (k_kept k0 k1 k2))))))) (ht : tys[t0]? = some (cA, .object C)) (hi : i = 1) (hdg : decode cc pc = .ok (.aaload, 1))
    (kk : W p l e R s m args below meth c H locs cells slots Q (F0 m (pc + 1) ls (.ref k1 :: rest))) : W p l e R s m args below meth c H locs cells slots Q (F0 m pc ls (.int i :: .ref a :: rest)) := by
  subst hi
  refine va_aldq hx hb hK hP q0 t0 ha ht (by unfold vp_in; decide) hdg ?_
  rw [show (1 : Int32).toNatClampNeg = 1 from by decide]
  exact kk
theorem k_kept2 (hx : p.tables.exec = Jvm.exec) (hb : c.code = cc) (hK : va_K D vwCl tys s) (hP : va_P D vwCl ws H) (q0 t0 : Nat) {a k0 k1 k2 : Nat} {cA : ClassId} {C : String} {i : Int32} (ha : ws[q0]? = some (a, .inl (cA, 3, .inr (.inr (.inr (.inr (k_kept k0 k1 k2))))))) (ht : tys[t0]? = some (cA, .object C)) (hi : i = 2) (hdg : decode cc pc = .ok (.aaload, 1))
    (kk : W p l e R s m args below meth c H locs cells slots Q (F0 m (pc + 1) ls (.ref k2 :: rest))) : W p l e R s m args below meth c H locs cells slots Q (F0 m pc ls (.int i :: .ref a :: rest)) := by
  subst hi
  refine va_aldq hx hb hK hP q0 t0 ha ht (by unfold vp_in; decide) hdg ?_
  rw [show (2 : Int32).toNatClampNeg = 2 from by decide]
  exact kk
end KK
