/-! ===== the start ===== -/
def s_td0 : Nat → Int32 := q_fold (fun i f => upd f i 30) (fun _ => 0) 96
def s_ru0 : Nat → Int32 := q_fold (fun i f => upd f i (k_r0 i)) (fun _ => 0) 8
def s_pl0 : Nat → Int32 := q_fold (fun i f => upd f i (-1)) (fun _ => 0) 30
theorem x_init : p_X8_init = some (s_td0, s_ru0, s_pl0) := by
  have l1 : k_lp (fun s : Int32 × (Nat → Int32) => lb_X5_init_32 s.1 s.2) k_fuel (0, (fun _ => 0)) = some s_td0 := by
    refine q_run (body := fun s : Int32 × (Nat → Int32) => lb_X5_init_32 s.1 s.2) (fun i => (nI i, q_fold (fun i f => upd f i 30) (fun _ => 0) i)) _ 96 (fun i hi => ?_) ?_ (by omega)
    · show lb_X5_init_32 (nI i) (q_fold (fun i f => upd f i 30) (fun _ => 0) i) = some (.inl (nI (i + 1), upd (q_fold (fun i f => upd f i 30) (fun _ => 0) i) i 30))
      unfold lb_X5_init_32
      rw [show (96 : Int32) = nI 96 from rfl, q_ifge _ _ hi (by omega), q_ix _ (by omega) (by omega), q_cl (by omega), nI_1]
    · show lb_X5_init_32 (nI 96) _ = _
      unfold lb_X5_init_32
      rw [show (96 : Int32) = nI 96 from rfl, q_ifle _ _ (Nat.le_refl _) (by omega)]; rfl
  have l2 : k_lp (fun s : Int32 × (Nat → Int32) => lb_X5_init_54 s.1 s.2) k_fuel (0, (fun _ => 0)) = some s_ru0 := by
    refine q_run (body := fun s : Int32 × (Nat → Int32) => lb_X5_init_54 s.1 s.2) (fun i => (nI i, q_fold (fun i f => upd f i (k_r0 i)) (fun _ => 0) i)) _ 8 (fun i hi => ?_) ?_ (by omega)
    · show lb_X5_init_54 (nI i) (q_fold (fun i f => upd f i (k_r0 i)) (fun _ => 0) i) = some (.inl (nI (i + 1), upd (q_fold (fun i f => upd f i (k_r0 i)) (fun _ => 0) i) i (k_r0 i)))
      unfold lb_X5_init_54
      rw [show (8 : Int32) = nI 8 from rfl, q_ifge _ _ hi (by omega), q_ix _ (by omega) (by omega), q_ix _ (by omega) (by omega), q_cl (by omega), nI_1]
    · show lb_X5_init_54 (nI 8) _ = _
      unfold lb_X5_init_54
      rw [show (8 : Int32) = nI 8 from rfl, q_ifle _ _ (Nat.le_refl _) (by omega)]; rfl
  have l3 : k_lp (fun s : Int32 × (Nat → Int32) => lb_X1_init_14 s.1 s.2) k_fuel (0, (fun _ => 0)) = some s_pl0 := by
    refine q_run (body := fun s : Int32 × (Nat → Int32) => lb_X1_init_14 s.1 s.2) (fun i => (nI i, q_fold (fun i f => upd f i (-1)) (fun _ => 0) i)) _ 30 (fun i hi => ?_) ?_ (by omega)
    · show lb_X1_init_14 (nI i) (q_fold (fun i f => upd f i (-1)) (fun _ => 0) i) = some (.inl (nI (i + 1), upd (q_fold (fun i f => upd f i (-1)) (fun _ => 0) i) i (-1)))
      unfold lb_X1_init_14
      rw [show (30 : Int32) = nI 30 from rfl, q_ifge _ _ hi (by omega), q_ix _ (by omega) (by omega), q_cl (by omega), nI_1]
    · show lb_X1_init_14 (nI 30) _ = _
      unfold lb_X1_init_14
      rw [show (30 : Int32) = nI 30 from rfl, q_ifle _ _ (Nat.le_refl _) (by omega)]; rfl
  unfold p_X8_init p_X5_init p_X1_init
  rw [l1, q_b1, l2, q_b1, q_b2, l3, q_b1, q_b1]
theorem y_init : p_X9_init = some s_td0 := by
  have l1 : k_lp (fun s : Int32 × (Nat → Int32) => lb_X9_init_275 s.1 s.2) k_fuel (0, (fun _ => 0)) = some s_td0 := by
    refine q_run (body := fun s : Int32 × (Nat → Int32) => lb_X9_init_275 s.1 s.2) (fun i => (nI i, q_fold (fun i f => upd f i 30) (fun _ => 0) i)) _ 96 (fun i hi => ?_) ?_ (by omega)
    · show lb_X9_init_275 (nI i) (q_fold (fun i f => upd f i 30) (fun _ => 0) i) = some (.inl (nI (i + 1), upd (q_fold (fun i f => upd f i 30) (fun _ => 0) i) i 30))
      unfold lb_X9_init_275
      rw [show (96 : Int32) = nI 96 from rfl, q_ifge _ _ hi (by omega), q_ix _ (by omega) (by omega), q_cl (by omega), nI_1]
    · show lb_X9_init_275 (nI 96) _ = _
      unfold lb_X9_init_275
      rw [show (96 : Int32) = nI 96 from rfl, q_ifle _ _ (Nat.le_refl _) (by omega)]; rfl
  unfold p_X9_init
  rw [l1, q_b1]
def m_0 : Nat → Int32 := upd (fun _ => 0) 5 100
theorem m_0_rng : ∀ k, k < 169 → (k_lo k ≤ (m_0 k).toInt ∧ (m_0 k).toInt ≤ k_hi k) := by decide +kernel
theorem m_0_inv : k_Inv m_0 := by
  have z : ∀ i : Nat, ¬ ((i : Int) < (0 : Int32).toInt) := fun i h => by
    rw [show (0 : Int32).toInt = 0 from by decide] at h; omega
  exact ⟨fun k hk => m_0_rng k hk, fun i hi => absurd hi (z i), fun i hi => absurd hi (z i), fun i hi => absurd hi (z i)⟩
theorem m_0_out : k_out m_0 = 0 ∧ k_wh m_0 = 0 := by decide +kernel
theorem s_pl0_all : ∀ p, p < 30 → s_pl0 p = -1 := by decide +kernel
theorem R_start : R_all (k_S0 s_td0 s_ru0 s_pl0) k_L0 (k_M0 s_td0) := by
  have n0 : ∀ k : Int, 0 ≤ k → ¬ (k < (0 : Int32).toInt) := fun k hk h => by
    rw [show (0 : Int32).toInt = 0 from by decide] at h; omega
  refine ⟨⟨rfl, ⟨by decide, by decide⟩⟩, rfl, ⟨rfl, fun h hh => ⟨by show (0 : Int) ≤ (0 : Int32).toInt; decide, by show (0 : Int32).toInt ≤ 1; decide⟩⟩, ⟨⟨rfl, rfl, rfl, rfl, rfl, rfl, rfl⟩, ⟨by decide, by decide⟩, ⟨by decide, by decide⟩, ⟨by decide, by decide⟩, ⟨by decide, by decide⟩, ⟨by decide, by decide⟩, ⟨by decide, by decide⟩, ⟨by decide, by decide⟩⟩, ⟨⟨rfl, rfl, rfl, rfl, rfl, rfl, rfl, rfl, rfl, rfl, ?_, rfl, ?_, rfl, rfl⟩, fun i hi => ⟨?_, ?_⟩, fun i hi => ⟨?_, ?_, ?_⟩, fun i hi => ⟨?_, ?_, ?_, ?_, ?_, ?_, ?_, ?_⟩, m_0_inv⟩, fun h => absurd h (n0 0 (by omega)), fun h => absurd h (n0 1 (by omega)), fun h => absurd h (n0 2 (by omega)), ⟨rfl, fun p hp => ?_⟩⟩
  · show (0 : Int32) = nI (k_out m_0); rw [m_0_out.1]; rfl
  · show (0 : Int32) = nI (k_wh m_0); rw [m_0_out.2]; rfl
  all_goals first
    | (show (0 : Int32) = m_0 _; unfold m_0; rw [upd_n (by omega)])
    | (show kr (s_pl0 p) (-1) 1; rw [s_pl0_all p hp]; exact ⟨by decide, by decide⟩)
