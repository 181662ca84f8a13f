def pM_tide (S : Nat → Nat → Int32) (a1 : Int32) (a2 : Int32) : Option (Int32 × (Nat → Nat → Int32)) := k_b3 (p_X9_tide (S 12) a1 a2) fun r w0 w1 => some (r, (k_su (k_su S 0 (fun _ => w0)) 12 w1))
set_option maxHeartbeats 4000000 in
set_option maxRecDepth 100000 in
theorem b_X9_tide (l : Launch) (D : va_G) (cI cZ cJ cS : ClassId) (y : Nat) (v : Nat → Nat) (S S' : Nat → Nat → Int32) (a1 : Int32) (a2 : Int32) (r : Int32) (hf : pM_tide S a1 a2 = some (r, S')) : k_MI l yX9_tide wsX9_tide rm_X9_tide D (k_tys cI cZ cJ cS) [.ref y, .int a1, .int a2] (k_wM y v cI cZ cJ cS S) (k_wM y v cI cZ cJ cS S') r := by
  obtain ⟨r_, w0, w1, hc, hf⟩ := k_b3_some hf
  cases hf
  exact k_frameI (c_X9_tide l D cI cZ cJ cS y (v 0) (v 1) (v 2) (v 3) (v 4) (v 5) (v 6) (v 7) (v 8) (v 9) (S 0 0) (S 1 0) (S 2 0) (S 3 0) (S 4 0) (S 5 0) (S 6 0) (S 7 0) (S 8 0) (S 12) a1 a2 r w0 w1 hc) [0, 4] rfl (by decide) rfl (k_put_of2 [1, 2, 3, 5, 6, 7, 8, 9, 10] 11 rfl (by decide) rfl rfl rfl rfl (by decide)) rfl
def pM_tides (S : Nat → Nat → Int32) (a1 : Int32) (a2 : Int32) (a3 : Int64) : Option (Int32 × (Nat → Nat → Int32)) := k_b3 (p_X9_tides (S 12) a1 a2 a3) fun r w0 w1 => some (r, (k_su (k_su S 0 (fun _ => w0)) 12 w1))
set_option maxHeartbeats 4000000 in
set_option maxRecDepth 100000 in
theorem b_X9_tides (l : Launch) (D : va_G) (cI cZ cJ cS : ClassId) (y : Nat) (v : Nat → Nat) (S S' : Nat → Nat → Int32) (a1 : Int32) (a2 : Int32) (a3 : Int64) (r : Int32) (hf : pM_tides S a1 a2 a3 = some (r, S')) : k_MI l yX9_tides wsX9_tides rm_X9_tides D (k_tys cI cZ cJ cS) [.ref y, .int a1, .int a2, .long a3] (k_wM y v cI cZ cJ cS S) (k_wM y v cI cZ cJ cS S') r := by
  obtain ⟨r_, w0, w1, hc, hf⟩ := k_b3_some hf
  cases hf
  exact k_frameI (c_X9_tides l D cI cZ cJ cS y (v 0) (v 1) (v 2) (v 3) (v 4) (v 5) (v 6) (v 7) (v 8) (v 9) (S 0 0) (S 1 0) (S 2 0) (S 3 0) (S 4 0) (S 5 0) (S 6 0) (S 7 0) (S 8 0) (S 12) a1 a2 a3 r w0 w1 hc) [0, 4] rfl (by decide) rfl (k_put_of2 [1, 2, 3, 5, 6, 7, 8, 9, 10] 11 rfl (by decide) rfl rfl rfl rfl (by decide)) rfl
def pM_rain (S : Nat → Nat → Int32) (a1 : Int32) (a2 : Int32) : Option (Int32 × (Nat → Nat → Int32)) := k_b3 (p_X9_rain (S 13) a1 a2) fun r w0 w1 => some (r, (k_su (k_su S 0 (fun _ => w0)) 13 w1))
set_option maxHeartbeats 4000000 in
set_option maxRecDepth 100000 in
theorem b_X9_rain (l : Launch) (D : va_G) (cI cZ cJ cS : ClassId) (y : Nat) (v : Nat → Nat) (S S' : Nat → Nat → Int32) (a1 : Int32) (a2 : Int32) (r : Int32) (hf : pM_rain S a1 a2 = some (r, S')) : k_MI l yX9_rain wsX9_rain rm_X9_rain D (k_tys cI cZ cJ cS) [.ref y, .int a1, .int a2] (k_wM y v cI cZ cJ cS S) (k_wM y v cI cZ cJ cS S') r := by
  obtain ⟨r_, w0, w1, hc, hf⟩ := k_b3_some hf
  cases hf
  exact k_frameI (c_X9_rain l D cI cZ cJ cS y (v 0) (v 1) (v 2) (v 3) (v 4) (v 5) (v 6) (v 7) (v 8) (v 9) (S 0 0) (S 1 0) (S 2 0) (S 3 0) (S 4 0) (S 5 0) (S 6 0) (S 7 0) (S 8 0) (S 13) a1 a2 r w0 w1 hc) [0, 5] rfl (by decide) rfl (k_put_of2 [1, 2, 3, 4, 6, 7, 8, 9, 10] 11 rfl (by decide) rfl rfl rfl rfl (by decide)) rfl
def pM_rule (S : Nat → Nat → Int32) (a1 : Int32) (a2 : Int32) : Option (Int32 × (Nat → Nat → Int32)) := k_b4 (p_X9_rule (S 14) (S 9) a1 a2) fun r w0 w1 w2 => some (r, (k_su (k_su (k_su S 0 (fun _ => w0)) 14 w1) 9 w2))
set_option maxHeartbeats 4000000 in
set_option maxRecDepth 100000 in
theorem b_X9_rule (l : Launch) (D : va_G) (cI cZ cJ cS : ClassId) (y : Nat) (v : Nat → Nat) (S S' : Nat → Nat → Int32) (a1 : Int32) (a2 : Int32) (r : Int32) (hf : pM_rule S a1 a2 = some (r, S')) : k_MI l yX9_rule wsX9_rule rm_X9_rule D (k_tys cI cZ cJ cS) [.ref y, .int a1, .int a2] (k_wM y v cI cZ cJ cS S) (k_wM y v cI cZ cJ cS S') r := by
  obtain ⟨r_, w0, w1, w2, hc, hf⟩ := k_b4_some hf
  cases hf
  exact k_frameI (c_X9_rule l D cI cZ cJ cS y (v 0) (v 1) (v 2) (v 3) (v 4) (v 5) (v 6) (v 7) (v 8) (v 9) (S 0 0) (S 1 0) (S 2 0) (S 3 0) (S 4 0) (S 5 0) (S 6 0) (S 7 0) (S 8 0) (S 14) (S 9) a1 a2 r w0 w1 w2 hc) [0, 6, 1] rfl (by decide) rfl (k_put_of2 [2, 3, 4, 5, 7, 8, 9, 10] 11 rfl (by decide) rfl rfl rfl rfl (by decide)) rfl
def pM_thing (S : Nat → Nat → Int32) (a1 : Int32) (a2 : Int32) : Option (Int32 × (Nat → Nat → Int32)) := k_b3 (p_X9_thing (S 9) a1 a2) fun r w0 w1 => some (r, (k_su (k_su S 0 (fun _ => w0)) 9 w1))
set_option maxHeartbeats 4000000 in
set_option maxRecDepth 100000 in
theorem b_X9_thing (l : Launch) (D : va_G) (cI cZ cJ cS : ClassId) (y : Nat) (v : Nat → Nat) (S S' : Nat → Nat → Int32) (a1 : Int32) (a2 : Int32) (r : Int32) (hf : pM_thing S a1 a2 = some (r, S')) : k_MI l yX9_thing wsX9_thing rm_X9_thing D (k_tys cI cZ cJ cS) [.ref y, .int a1, .int a2] (k_wM y v cI cZ cJ cS S) (k_wM y v cI cZ cJ cS S') r := by
  obtain ⟨r_, w0, w1, hc, hf⟩ := k_b3_some hf
  cases hf
  exact k_frameI (c_X9_thing l D cI cZ cJ cS y (v 0) (v 1) (v 2) (v 3) (v 4) (v 5) (v 6) (v 7) (v 8) (v 9) (S 0 0) (S 1 0) (S 2 0) (S 3 0) (S 4 0) (S 5 0) (S 6 0) (S 7 0) (S 8 0) (S 9) a1 a2 r w0 w1 hc) [0, 1] rfl (by decide) rfl (k_put_of2 [2, 3, 4, 5, 6, 7, 8, 9, 10] 11 rfl (by decide) rfl rfl rfl rfl (by decide)) rfl
def pM_tackle (S : Nat → Nat → Int32) (a1 : Int32) (a2 : Int32) (a3 : Int32) : Option (Int32 × (Nat → Nat → Int32)) := k_b3 (p_X9_tackle (S 9) a1 a2 a3) fun r w0 w1 => some (r, (k_su (k_su S 0 (fun _ => w0)) 9 w1))
set_option maxHeartbeats 4000000 in
set_option maxRecDepth 100000 in
theorem b_X9_tackle (l : Launch) (D : va_G) (cI cZ cJ cS : ClassId) (y : Nat) (v : Nat → Nat) (S S' : Nat → Nat → Int32) (a1 : Int32) (a2 : Int32) (a3 : Int32) (r : Int32) (hf : pM_tackle S a1 a2 a3 = some (r, S')) : k_MI l yX9_tackle wsX9_tackle rm_X9_tackle D (k_tys cI cZ cJ cS) [.ref y, .int a1, .int a2, .int a3] (k_wM y v cI cZ cJ cS S) (k_wM y v cI cZ cJ cS S') r := by
  obtain ⟨r_, w0, w1, hc, hf⟩ := k_b3_some hf
  cases hf
  exact k_frameI (c_X9_tackle l D cI cZ cJ cS y (v 0) (v 1) (v 2) (v 3) (v 4) (v 5) (v 6) (v 7) (v 8) (v 9) (S 0 0) (S 1 0) (S 2 0) (S 3 0) (S 4 0) (S 5 0) (S 6 0) (S 7 0) (S 8 0) (S 9) a1 a2 a3 r w0 w1 hc) [0, 1] rfl (by decide) rfl (k_put_of2 [2, 3, 4, 5, 6, 7, 8, 9, 10] 11 rfl (by decide) rfl rfl rfl rfl (by decide)) rfl
def pM_seam (S : Nat → Nat → Int32) (a1 : Int32) (a2 : Int32) (a3 : Int32) (a4 : Int32) (a5 : Int32) (a6 : Int32) : Option (Int32 × (Nat → Nat → Int32)) := k_b3 (p_X9_seam (S 9) a1 a2 a3 a4 a5 a6) fun r w0 w1 => some (r, (k_su (k_su S 0 (fun _ => w0)) 9 w1))
set_option maxHeartbeats 4000000 in
set_option maxRecDepth 100000 in
theorem b_X9_seam (l : Launch) (D : va_G) (cI cZ cJ cS : ClassId) (y : Nat) (v : Nat → Nat) (S S' : Nat → Nat → Int32) (a1 : Int32) (a2 : Int32) (a3 : Int32) (a4 : Int32) (a5 : Int32) (a6 : Int32) (r : Int32) (hf : pM_seam S a1 a2 a3 a4 a5 a6 = some (r, S')) : k_MI l yX9_seam wsX9_seam rm_X9_seam D (k_tys cI cZ cJ cS) [.ref y, .int a1, .int a2, .int a3, .int a4, .int a5, .int a6] (k_wM y v cI cZ cJ cS S) (k_wM y v cI cZ cJ cS S') r := by
  obtain ⟨r_, w0, w1, hc, hf⟩ := k_b3_some hf
  cases hf
  exact k_frameI (c_X9_seam l D cI cZ cJ cS y (v 0) (v 1) (v 2) (v 3) (v 4) (v 5) (v 6) (v 7) (v 8) (v 9) (S 0 0) (S 1 0) (S 2 0) (S 3 0) (S 4 0) (S 5 0) (S 6 0) (S 7 0) (S 8 0) (S 9) a1 a2 a3 a4 a5 a6 r w0 w1 hc) [0, 1] rfl (by decide) rfl (k_put_of2 [2, 3, 4, 5, 6, 7, 8, 9, 10] 11 rfl (by decide) rfl rfl rfl rfl (by decide)) rfl
def pM_ship (S : Nat → Nat → Int32) (a1 : Int32) : Option (Int32 × (Nat → Nat → Int32)) := k_b2 (p_X9_ship (S 14) (S 9) (S 12) (S 13) a1) fun r w0 => some (r, (k_su S 0 (fun _ => w0)))
set_option maxHeartbeats 4000000 in
set_option maxRecDepth 100000 in
theorem b_X9_ship (l : Launch) (D : va_G) (cI cZ cJ cS : ClassId) (y : Nat) (v : Nat → Nat) (S S' : Nat → Nat → Int32) (a1 : Int32) (r : Int32) (hf : pM_ship S a1 = some (r, S')) : k_MI l yX9_ship wsX9_ship rm_X9_ship D (k_tys cI cZ cJ cS) [.ref y, .int a1] (k_wM y v cI cZ cJ cS S) (k_wM y v cI cZ cJ cS S') r := by
  obtain ⟨r_, w0, hc, hf⟩ := k_b2_some hf
  cases hf
  exact k_frameI (c_X9_ship l D cI cZ cJ cS y (v 0) (v 1) (v 2) (v 3) (v 4) (v 5) (v 6) (v 7) (v 8) (v 9) (S 0 0) (S 1 0) (S 2 0) (S 3 0) (S 4 0) (S 5 0) (S 6 0) (S 7 0) (S 8 0) (S 14) (S 9) (S 12) (S 13) a1 r w0 hc) [0, 6, 1, 4, 5] rfl (by decide) rfl (k_put_of2 [2, 3, 7, 8, 9, 10] 11 rfl (by decide) rfl rfl rfl rfl (by decide)) rfl
def pM_tackleTold (S : Nat → Nat → Int32) (a1 : Int32) (a2 : Int32) : Option (Int32 × (Nat → Nat → Int32)) := k_b2 (p_X9_tackleTold (S 9) (S 13) (S 14) a1 a2) fun r w0 => some (r, (k_su S 0 (fun _ => w0)))
set_option maxHeartbeats 4000000 in
set_option maxRecDepth 100000 in
theorem b_X9_tackleTold (l : Launch) (D : va_G) (cI cZ cJ cS : ClassId) (y : Nat) (v : Nat → Nat) (S S' : Nat → Nat → Int32) (a1 : Int32) (a2 : Int32) (r : Int32) (hf : pM_tackleTold S a1 a2 = some (r, S')) : k_MI l yX9_tackleTold wsX9_tackleTold rm_X9_tackleTold D (k_tys cI cZ cJ cS) [.ref y, .int a1, .int a2] (k_wM y v cI cZ cJ cS S) (k_wM y v cI cZ cJ cS S') r := by
  obtain ⟨r_, w0, hc, hf⟩ := k_b2_some hf
  cases hf
  exact k_frameI (c_X9_tackleTold l D cI cZ cJ cS y (v 0) (v 1) (v 2) (v 3) (v 4) (v 5) (v 6) (v 7) (v 8) (v 9) (S 0 0) (S 1 0) (S 2 0) (S 3 0) (S 4 0) (S 5 0) (S 6 0) (S 7 0) (S 8 0) (S 9) (S 13) (S 14) a1 a2 r w0 hc) [0, 1, 5, 6] rfl (by decide) rfl (k_put_of2 [2, 3, 4, 7, 8, 9, 10] 11 rfl (by decide) rfl rfl rfl rfl (by decide)) rfl
def pM_greatest (S : Nat → Nat → Int32) (a1 : Int32) : Option (Int32 × (Nat → Nat → Int32)) := k_b2 (p_X9_greatest (S 9) (S 14) a1) fun r w0 => some (r, (k_su S 0 (fun _ => w0)))
set_option maxHeartbeats 4000000 in
set_option maxRecDepth 100000 in
theorem b_X9_greatest (l : Launch) (D : va_G) (cI cZ cJ cS : ClassId) (y : Nat) (v : Nat → Nat) (S S' : Nat → Nat → Int32) (a1 : Int32) (r : Int32) (hf : pM_greatest S a1 = some (r, S')) : k_MI l yX9_greatest wsX9_greatest rm_X9_greatest D (k_tys cI cZ cJ cS) [.ref y, .int a1] (k_wM y v cI cZ cJ cS S) (k_wM y v cI cZ cJ cS S') r := by
  obtain ⟨r_, w0, hc, hf⟩ := k_b2_some hf
  cases hf
  exact k_frameI (c_X9_greatest l D cI cZ cJ cS y (v 0) (v 1) (v 2) (v 3) (v 4) (v 5) (v 6) (v 7) (v 8) (v 9) (S 0 0) (S 1 0) (S 2 0) (S 3 0) (S 4 0) (S 5 0) (S 6 0) (S 7 0) (S 8 0) (S 9) (S 14) a1 r w0 hc) [0, 1, 6] rfl (by decide) rfl (k_put_of2 [2, 3, 4, 5, 7, 8, 9, 10] 11 rfl (by decide) rfl rfl rfl rfl (by decide)) rfl
def pM_seamTold (S : Nat → Nat → Int32) (a1 : Int32) (a2 : Int32) : Option (Int32 × (Nat → Nat → Int32)) := k_b2 (p_X9_seamTold (S 9) (S 12) a1 a2) fun r w0 => some (r, (k_su S 0 (fun _ => w0)))
set_option maxHeartbeats 4000000 in
set_option maxRecDepth 100000 in
theorem b_X9_seamTold (l : Launch) (D : va_G) (cI cZ cJ cS : ClassId) (y : Nat) (v : Nat → Nat) (S S' : Nat → Nat → Int32) (a1 : Int32) (a2 : Int32) (r : Int32) (hf : pM_seamTold S a1 a2 = some (r, S')) : k_MI l yX9_seamTold wsX9_seamTold rm_X9_seamTold D (k_tys cI cZ cJ cS) [.ref y, .int a1, .int a2] (k_wM y v cI cZ cJ cS S) (k_wM y v cI cZ cJ cS S') r := by
  obtain ⟨r_, w0, hc, hf⟩ := k_b2_some hf
  cases hf
  exact k_frameI (c_X9_seamTold l D cI cZ cJ cS y (v 0) (v 1) (v 2) (v 3) (v 4) (v 5) (v 6) (v 7) (v 8) (v 9) (S 0 0) (S 1 0) (S 2 0) (S 3 0) (S 4 0) (S 5 0) (S 6 0) (S 7 0) (S 8 0) (S 9) (S 12) a1 a2 r w0 hc) [0, 1, 4] rfl (by decide) rfl (k_put_of2 [2, 3, 5, 6, 7, 8, 9, 10] 11 rfl (by decide) rfl rfl rfl rfl (by decide)) rfl
def pM_move (S : Nat → Nat → Int32) (a1 : Int32) : Option (Int32 × (Nat → Nat → Int32)) := k_b3 (p_X9_move (S 9) (S 14) a1) fun r w0 w1 => some (r, (k_su (k_su S 0 (fun _ => w0)) 9 w1))
set_option maxHeartbeats 4000000 in
set_option maxRecDepth 100000 in
theorem b_X9_move (l : Launch) (D : va_G) (cI cZ cJ cS : ClassId) (y : Nat) (v : Nat → Nat) (S S' : Nat → Nat → Int32) (a1 : Int32) (r : Int32) (hf : pM_move S a1 = some (r, S')) : k_MI l yX9_move wsX9_move rm_X9_move D (k_tys cI cZ cJ cS) [.ref y, .int a1] (k_wM y v cI cZ cJ cS S) (k_wM y v cI cZ cJ cS S') r := by
  obtain ⟨r_, w0, w1, hc, hf⟩ := k_b3_some hf
  cases hf
  exact k_frameI (c_X9_move l D cI cZ cJ cS y (v 0) (v 1) (v 2) (v 3) (v 4) (v 5) (v 6) (v 7) (v 8) (v 9) (S 0 0) (S 1 0) (S 2 0) (S 3 0) (S 4 0) (S 5 0) (S 6 0) (S 7 0) (S 8 0) (S 9) (S 14) a1 r w0 w1 hc) [0, 1, 6] rfl (by decide) rfl (k_put_of2 [2, 3, 4, 5, 7, 8, 9, 10] 11 rfl (by decide) rfl rfl rfl rfl (by decide)) rfl
def pM_heel (S : Nat → Nat → Int32) (a1 : Int32) : Option (Int32 × (Nat → Nat → Int32)) := k_b3 (p_X9_heel (S 9) (S 13) (S 14) a1) fun r w0 w1 => some (r, (k_su (k_su S 0 (fun _ => w0)) 9 w1))
set_option maxHeartbeats 4000000 in
set_option maxRecDepth 100000 in
theorem b_X9_heel (l : Launch) (D : va_G) (cI cZ cJ cS : ClassId) (y : Nat) (v : Nat → Nat) (S S' : Nat → Nat → Int32) (a1 : Int32) (r : Int32) (hf : pM_heel S a1 = some (r, S')) : k_MI l yX9_heel wsX9_heel rm_X9_heel D (k_tys cI cZ cJ cS) [.ref y, .int a1] (k_wM y v cI cZ cJ cS S) (k_wM y v cI cZ cJ cS S') r := by
  obtain ⟨r_, w0, w1, hc, hf⟩ := k_b3_some hf
  cases hf
  exact k_frameI (c_X9_heel l D cI cZ cJ cS y (v 0) (v 1) (v 2) (v 3) (v 4) (v 5) (v 6) (v 7) (v 8) (v 9) (S 0 0) (S 1 0) (S 2 0) (S 3 0) (S 4 0) (S 5 0) (S 6 0) (S 7 0) (S 8 0) (S 9) (S 13) (S 14) a1 r w0 w1 hc) [0, 1, 5, 6] rfl (by decide) rfl (k_put_of2 [2, 3, 4, 7, 8, 9, 10] 11 rfl (by decide) rfl rfl rfl rfl (by decide)) rfl
def pM_hour (S : Nat → Nat → Int32) (a1 : Int32) : Option (Int32 × (Nat → Nat → Int32)) := k_b3 (p_X9_hour (S 9) (S 13) (S 14) (S 12) a1) fun r w0 w1 => some (r, (k_su (k_su S 0 (fun _ => w0)) 9 w1))
set_option maxHeartbeats 4000000 in
set_option maxRecDepth 100000 in
theorem b_X9_hour (l : Launch) (D : va_G) (cI cZ cJ cS : ClassId) (y : Nat) (v : Nat → Nat) (S S' : Nat → Nat → Int32) (a1 : Int32) (r : Int32) (hf : pM_hour S a1 = some (r, S')) : k_MI l yX9_hour wsX9_hour rm_X9_hour D (k_tys cI cZ cJ cS) [.ref y, .int a1] (k_wM y v cI cZ cJ cS S) (k_wM y v cI cZ cJ cS S') r := by
  obtain ⟨r_, w0, w1, hc, hf⟩ := k_b3_some hf
  cases hf
  exact k_frameI (c_X9_hour l D cI cZ cJ cS y (v 0) (v 1) (v 2) (v 3) (v 4) (v 5) (v 6) (v 7) (v 8) (v 9) (S 0 0) (S 1 0) (S 2 0) (S 3 0) (S 4 0) (S 5 0) (S 6 0) (S 7 0) (S 8 0) (S 9) (S 13) (S 14) (S 12) a1 r w0 w1 hc) [0, 1, 5, 6, 4] rfl (by decide) rfl (k_put_of2 [2, 3, 7, 8, 9, 10] 11 rfl (by decide) rfl rfl rfl rfl (by decide)) rfl
def pM_rig (S : Nat → Nat → Int32) (a1 : Int32) (a2 : Int32) : Option (Int32 × (Nat → Nat → Int32)) := k_b3 (p_X9_rig (S 9) (S 13) (S 14) a1 a2) fun r w0 w1 => some (r, (k_su (k_su S 0 (fun _ => w0)) 9 w1))
set_option maxHeartbeats 4000000 in
set_option maxRecDepth 100000 in
theorem b_X9_rig (l : Launch) (D : va_G) (cI cZ cJ cS : ClassId) (y : Nat) (v : Nat → Nat) (S S' : Nat → Nat → Int32) (a1 : Int32) (a2 : Int32) (r : Int32) (hf : pM_rig S a1 a2 = some (r, S')) : k_MI l yX9_rig wsX9_rig rm_X9_rig D (k_tys cI cZ cJ cS) [.ref y, .int a1, .int a2] (k_wM y v cI cZ cJ cS S) (k_wM y v cI cZ cJ cS S') r := by
  obtain ⟨r_, w0, w1, hc, hf⟩ := k_b3_some hf
  cases hf
  exact k_frameI (c_X9_rig l D cI cZ cJ cS y (v 0) (v 1) (v 2) (v 3) (v 4) (v 5) (v 6) (v 7) (v 8) (v 9) (S 0 0) (S 1 0) (S 2 0) (S 3 0) (S 4 0) (S 5 0) (S 6 0) (S 7 0) (S 8 0) (S 9) (S 13) (S 14) a1 a2 r w0 w1 hc) [0, 1, 5, 6] rfl (by decide) rfl (k_put_of2 [2, 3, 4, 7, 8, 9, 10] 11 rfl (by decide) rfl rfl rfl rfl (by decide)) rfl
def pM_plan (S : Nat → Nat → Int32) (a1 : Int32) (a2 : Int32) : Option (Int32 × (Nat → Nat → Int32)) := k_b9 (p_X9_plan (S 2 0) (S 3 0) (S 4 0) (S 5 0) (S 9) (S 15) (S 16) (S 13) (S 12) (S 14) (S 17) a1 a2) fun r w0 w1 w2 w3 w4 w5 w6 w7 => some (r, (k_su (k_su (k_su (k_su (k_su (k_su (k_su (k_su S 0 (fun _ => w0)) 2 (fun _ => w1)) 3 (fun _ => w2)) 4 (fun _ => w3)) 5 (fun _ => w4)) 15 w5) 16 w6) 17 w7))
set_option maxHeartbeats 4000000 in
set_option maxRecDepth 100000 in
theorem b_X9_plan (l : Launch) (D : va_G) (cI cZ cJ cS : ClassId) (y : Nat) (v : Nat → Nat) (S S' : Nat → Nat → Int32) (a1 : Int32) (a2 : Int32) (r : Int32) (hf : pM_plan S a1 a2 = some (r, S')) : k_MI l yX9_plan wsX9_plan rm_X9_plan D (k_tys cI cZ cJ cS) [.ref y, .int a1, .int a2] (k_wM y v cI cZ cJ cS S) (k_wM y v cI cZ cJ cS S') r := by
  obtain ⟨r_, w0, w1, w2, w3, w4, w5, w6, w7, hc, hf⟩ := k_b9_some hf
  cases hf
  exact k_frameI (c_X9_plan l D cI cZ cJ cS y (v 0) (v 1) (v 2) (v 3) (v 4) (v 5) (v 6) (v 7) (v 8) (v 9) (S 0 0) (S 1 0) (S 2 0) (S 3 0) (S 4 0) (S 5 0) (S 6 0) (S 7 0) (S 8 0) (S 9) (S 15) (S 16) (S 13) (S 12) (S 14) (S 17) a1 a2 r w0 w1 w2 w3 w4 w5 w6 w7 hc) [0, 1, 7, 8, 5, 4, 6, 9] rfl (by decide) rfl (k_put_of2 [2, 3, 10] 11 rfl (by decide) rfl rfl rfl rfl (by decide)) rfl
def pM_orders (S : Nat → Nat → Int32) (a1 : Int32) (a2 : Int32) : Option (Int32 × (Nat → Nat → Int32)) := k_b9 (p_X9_orders (S 2 0) (S 3 0) (S 4 0) (S 5 0) (S 9) (S 15) (S 16) (S 13) (S 12) (S 14) (S 17) a1 a2) fun r w0 w1 w2 w3 w4 w5 w6 w7 => some (r, (k_su (k_su (k_su (k_su (k_su (k_su (k_su (k_su S 0 (fun _ => w0)) 2 (fun _ => w1)) 3 (fun _ => w2)) 4 (fun _ => w3)) 5 (fun _ => w4)) 15 w5) 16 w6) 17 w7))
set_option maxHeartbeats 4000000 in
set_option maxRecDepth 100000 in
theorem b_X9_orders (l : Launch) (D : va_G) (cI cZ cJ cS : ClassId) (y : Nat) (v : Nat → Nat) (S S' : Nat → Nat → Int32) (a1 : Int32) (a2 : Int32) (r : Int32) (hf : pM_orders S a1 a2 = some (r, S')) : k_MI l yX9_orders wsX9_orders rm_X9_orders D (k_tys cI cZ cJ cS) [.ref y, .int a1, .int a2] (k_wM y v cI cZ cJ cS S) (k_wM y v cI cZ cJ cS S') r := by
  obtain ⟨r_, w0, w1, w2, w3, w4, w5, w6, w7, hc, hf⟩ := k_b9_some hf
  cases hf
  exact k_frameI (c_X9_orders l D cI cZ cJ cS y (v 0) (v 1) (v 2) (v 3) (v 4) (v 5) (v 6) (v 7) (v 8) (v 9) (S 0 0) (S 1 0) (S 2 0) (S 3 0) (S 4 0) (S 5 0) (S 6 0) (S 7 0) (S 8 0) (S 9) (S 15) (S 16) (S 13) (S 12) (S 14) (S 17) a1 a2 r w0 w1 w2 w3 w4 w5 w6 w7 hc) [0, 1, 7, 8, 5, 4, 6, 9] rfl (by decide) rfl (k_put_of2 [2, 3, 10] 11 rfl (by decide) rfl rfl rfl rfl (by decide)) rfl
def pM_toFloat (S : Nat → Nat → Int32) (a1 : Int32) : Option (Int32 × (Nat → Nat → Int32)) := k_b7 (p_X9_toFloat (S 6 0) (S 7 0) (S 8 0) (S 9) (S 10) (S 13) (S 14) (S 12) a1) fun r w0 w1 w2 w3 w4 w5 => some (r, (k_su (k_su (k_su (k_su (k_su (k_su S 0 (fun _ => w0)) 6 (fun _ => w1)) 7 (fun _ => w2)) 8 (fun _ => w3)) 9 w4) 10 w5))
set_option maxHeartbeats 4000000 in
set_option maxRecDepth 100000 in
theorem b_X9_toFloat (l : Launch) (D : va_G) (cI cZ cJ cS : ClassId) (y : Nat) (v : Nat → Nat) (S S' : Nat → Nat → Int32) (a1 : Int32) (r : Int32) (hf : pM_toFloat S a1 = some (r, S')) : k_MI l yX9_toFloat wsX9_toFloat rm_X9_toFloat D (k_tys cI cZ cJ cS) [.ref y, .int a1] (k_wM y v cI cZ cJ cS S) (k_wM y v cI cZ cJ cS S') r := by
  obtain ⟨r_, w0, w1, w2, w3, w4, w5, hc, hf⟩ := k_b7_some hf
  cases hf
  exact k_frameI (c_X9_toFloat l D cI cZ cJ cS y (v 0) (v 1) (v 2) (v 3) (v 4) (v 5) (v 6) (v 7) (v 8) (v 9) (S 0 0) (S 1 0) (S 2 0) (S 3 0) (S 4 0) (S 5 0) (S 6 0) (S 7 0) (S 8 0) (S 9) (S 10) (S 13) (S 14) (S 12) a1 r w0 w1 w2 w3 w4 w5 hc) [0, 1, 2, 5, 6, 4] rfl (by decide) rfl (k_put_of2 [3, 7, 8, 9, 10] 11 rfl (by decide) rfl rfl rfl rfl (by decide)) rfl
def pM_tap (S : Nat → Nat → Int32) (a1 : Int32) (a2 : Int32) : Option (Int32 × (Nat → Nat → Int32)) := k_b3 (p_X9_tap (S 18) a1 a2) fun r w0 w1 => some (r, (k_su (k_su S 0 (fun _ => w0)) 18 w1))
set_option maxHeartbeats 4000000 in
set_option maxRecDepth 100000 in
theorem b_X9_tap (l : Launch) (D : va_G) (cI cZ cJ cS : ClassId) (y : Nat) (v : Nat → Nat) (S S' : Nat → Nat → Int32) (a1 : Int32) (a2 : Int32) (r : Int32) (hf : pM_tap S a1 a2 = some (r, S')) : k_MI l yX9_tap wsX9_tap rm_X9_tap D (k_tys cI cZ cJ cS) [.ref y, .int a1, .int a2] (k_wM y v cI cZ cJ cS S) (k_wM y v cI cZ cJ cS S') r := by
  obtain ⟨r_, w0, w1, hc, hf⟩ := k_b3_some hf
  cases hf
  exact k_frameI (c_X9_tap l D cI cZ cJ cS y (v 0) (v 1) (v 2) (v 3) (v 4) (v 5) (v 6) (v 7) (v 8) (v 9) (S 0 0) (S 1 0) (S 2 0) (S 3 0) (S 4 0) (S 5 0) (S 6 0) (S 7 0) (S 8 0) (S 18) a1 a2 r w0 w1 hc) [0, 10] rfl (by decide) rfl (k_put_of2 [1, 2, 3, 4, 5, 6, 7, 8, 9] 11 rfl (by decide) rfl rfl rfl rfl (by decide)) rfl
def pM_worm (S : Nat → Nat → Int32) (a1 : Int32) (a2 : Int32) : Option (Int32 × (Nat → Nat → Int32)) := k_b2 (p_X9_worm (S 18) a1 a2) fun r w0 => some (r, (k_su S 0 (fun _ => w0)))
set_option maxHeartbeats 4000000 in
set_option maxRecDepth 100000 in
theorem b_X9_worm (l : Launch) (D : va_G) (cI cZ cJ cS : ClassId) (y : Nat) (v : Nat → Nat) (S S' : Nat → Nat → Int32) (a1 : Int32) (a2 : Int32) (r : Int32) (hf : pM_worm S a1 a2 = some (r, S')) : k_MI l yX9_worm wsX9_worm rm_X9_worm D (k_tys cI cZ cJ cS) [.ref y, .int a1, .int a2] (k_wM y v cI cZ cJ cS S) (k_wM y v cI cZ cJ cS S') r := by
  obtain ⟨r_, w0, hc, hf⟩ := k_b2_some hf
  cases hf
  exact k_frameI (c_X9_worm l D cI cZ cJ cS y (v 0) (v 1) (v 2) (v 3) (v 4) (v 5) (v 6) (v 7) (v 8) (v 9) (S 0 0) (S 1 0) (S 2 0) (S 3 0) (S 4 0) (S 5 0) (S 6 0) (S 7 0) (S 8 0) (S 18) a1 a2 r w0 hc) [0, 10] rfl (by decide) rfl (k_put_of2 [1, 2, 3, 4, 5, 6, 7, 8, 9] 11 rfl (by decide) rfl rfl rfl rfl (by decide)) rfl
def pM_book (S : Nat → Nat → Int32) (a1 : Int32) : Option (Int32 × (Nat → Nat → Int32)) := k_b2 (p_X9_book (S 9) a1) fun r w0 => some (r, (k_su S 0 (fun _ => w0)))
set_option maxHeartbeats 4000000 in
set_option maxRecDepth 100000 in
theorem b_X9_book (l : Launch) (D : va_G) (cI cZ cJ cS : ClassId) (y : Nat) (v : Nat → Nat) (S S' : Nat → Nat → Int32) (a1 : Int32) (r : Int32) (hf : pM_book S a1 = some (r, S')) : k_MI l yX9_book wsX9_book rm_X9_book D (k_tys cI cZ cJ cS) [.ref y, .int a1] (k_wM y v cI cZ cJ cS S) (k_wM y v cI cZ cJ cS S') r := by
  obtain ⟨r_, w0, hc, hf⟩ := k_b2_some hf
  cases hf
  exact k_frameI (c_X9_book l D cI cZ cJ cS y (v 0) (v 1) (v 2) (v 3) (v 4) (v 5) (v 6) (v 7) (v 8) (v 9) (S 0 0) (S 1 0) (S 2 0) (S 3 0) (S 4 0) (S 5 0) (S 6 0) (S 7 0) (S 8 0) (S 9) a1 r w0 hc) [0, 1] rfl (by decide) rfl (k_put_of2 [2, 3, 4, 5, 6, 7, 8, 9, 10] 11 rfl (by decide) rfl rfl rfl rfl (by decide)) rfl
def pM_keep (S : Nat → Nat → Int32) : Option (Int32 × (Nat → Nat → Int32)) := k_b4 (p_X9_keep (S 1 0) (S 9) (S 11)) fun r w0 w1 w2 => some (r, (k_su (k_su (k_su S 0 (fun _ => w0)) 1 (fun _ => w1)) 11 w2))
set_option maxHeartbeats 4000000 in
set_option maxRecDepth 100000 in
theorem b_X9_keep (l : Launch) (D : va_G) (cI cZ cJ cS : ClassId) (y : Nat) (v : Nat → Nat) (S S' : Nat → Nat → Int32) (r : Int32) (hf : pM_keep S = some (r, S')) : k_MI l yX9_keep wsX9_keep rm_X9_keep D (k_tys cI cZ cJ cS) [.ref y] (k_wM y v cI cZ cJ cS S) (k_wM y v cI cZ cJ cS S') r := by
  obtain ⟨r_, w0, w1, w2, hc, hf⟩ := k_b4_some hf
  cases hf
  exact k_frameI (c_X9_keep l D cI cZ cJ cS y (v 0) (v 1) (v 2) (v 3) (v 4) (v 5) (v 6) (v 7) (v 8) (v 9) (S 0 0) (S 1 0) (S 2 0) (S 3 0) (S 4 0) (S 5 0) (S 6 0) (S 7 0) (S 8 0) (S 9) (S 11) r w0 w1 w2 hc) [0, 1, 3] rfl (by decide) rfl (k_put_of2 [2, 4, 5, 6, 7, 8, 9, 10] 11 rfl (by decide) rfl rfl rfl rfl (by decide)) rfl
def pM_back (S : Nat → Nat → Int32) : Option (Int32 × (Nat → Nat → Int32)) := k_b4 (p_X9_back (S 1 0) (S 11) (S 9)) fun r w0 w1 w2 => some (r, (k_su (k_su (k_su S 0 (fun _ => w0)) 1 (fun _ => w1)) 9 w2))
set_option maxHeartbeats 4000000 in
set_option maxRecDepth 100000 in
theorem b_X9_back (l : Launch) (D : va_G) (cI cZ cJ cS : ClassId) (y : Nat) (v : Nat → Nat) (S S' : Nat → Nat → Int32) (r : Int32) (hf : pM_back S = some (r, S')) : k_MI l yX9_back wsX9_back rm_X9_back D (k_tys cI cZ cJ cS) [.ref y] (k_wM y v cI cZ cJ cS S) (k_wM y v cI cZ cJ cS S') r := by
  obtain ⟨r_, w0, w1, w2, hc, hf⟩ := k_b4_some hf
  cases hf
  exact k_frameI (c_X9_back l D cI cZ cJ cS y (v 0) (v 1) (v 2) (v 3) (v 4) (v 5) (v 6) (v 7) (v 8) (v 9) (S 0 0) (S 1 0) (S 2 0) (S 3 0) (S 4 0) (S 5 0) (S 6 0) (S 7 0) (S 8 0) (S 11) (S 9) r w0 w1 w2 hc) [0, 3, 1] rfl (by decide) rfl (k_put_of2 [2, 4, 5, 6, 7, 8, 9, 10] 11 rfl (by decide) rfl rfl rfl rfl (by decide)) rfl
def pM_count (S : Nat → Nat → Int32) (a1 : Int32) : Option (Int32 × (Nat → Nat → Int32)) := k_b2 (p_X9_count (S 1 0) (S 9) a1) fun r w0 => some (r, (k_su S 0 (fun _ => w0)))
set_option maxHeartbeats 4000000 in
set_option maxRecDepth 100000 in
theorem b_X9_count (l : Launch) (D : va_G) (cI cZ cJ cS : ClassId) (y : Nat) (v : Nat → Nat) (S S' : Nat → Nat → Int32) (a1 : Int32) (r : Int32) (hf : pM_count S a1 = some (r, S')) : k_MI l yX9_count wsX9_count rm_X9_count D (k_tys cI cZ cJ cS) [.ref y, .int a1] (k_wM y v cI cZ cJ cS S) (k_wM y v cI cZ cJ cS S') r := by
  obtain ⟨r_, w0, hc, hf⟩ := k_b2_some hf
  cases hf
  exact k_frameI (c_X9_count l D cI cZ cJ cS y (v 0) (v 1) (v 2) (v 3) (v 4) (v 5) (v 6) (v 7) (v 8) (v 9) (S 0 0) (S 1 0) (S 2 0) (S 3 0) (S 4 0) (S 5 0) (S 6 0) (S 7 0) (S 8 0) (S 9) a1 r w0 hc) [0, 1] rfl (by decide) rfl (k_put_of2 [2, 3, 4, 5, 6, 7, 8, 9, 10] 11 rfl (by decide) rfl rfl rfl rfl (by decide)) rfl
def k_Sim_tide (Rel : (Nat → Nat → Int32) → (Nat → Nat → Int64) → (Nat → Nat → Int32) → Prop) : Prop := ∀ (S : Nat → Nat → Int32) (L : Nat → Nat → Int64) (M : Nat → Nat → Int32) (a1 : Int32) (a2 : Int32), Rel S L M → ∃ (r : Int32) (S' : Nat → Nat → Int32) (L' : Nat → Nat → Int64) (M' : Nat → Nat → Int32), pX_tide S L a1 a2 = some (r, S', L') ∧ pM_tide M a1 a2 = some (r, M') ∧ Rel S' L' M'
def k_Sim_tides (Rel : (Nat → Nat → Int32) → (Nat → Nat → Int64) → (Nat → Nat → Int32) → Prop) : Prop := ∀ (S : Nat → Nat → Int32) (L : Nat → Nat → Int64) (M : Nat → Nat → Int32) (a1 : Int32) (a2 : Int32) (a3 : Int64), Rel S L M → ∃ (r : Int32) (S' : Nat → Nat → Int32) (L' : Nat → Nat → Int64) (M' : Nat → Nat → Int32), pX_tides S L a1 a2 a3 = some (r, S', L') ∧ pM_tides M a1 a2 a3 = some (r, M') ∧ Rel S' L' M'
def k_Sim_rain (Rel : (Nat → Nat → Int32) → (Nat → Nat → Int64) → (Nat → Nat → Int32) → Prop) : Prop := ∀ (S : Nat → Nat → Int32) (L : Nat → Nat → Int64) (M : Nat → Nat → Int32) (a1 : Int32) (a2 : Int32), Rel S L M → (a2 = 0 ∨ a2 = 1) → ∃ (r : Int32) (S' : Nat → Nat → Int32) (L' : Nat → Nat → Int64) (M' : Nat → Nat → Int32), pX_rain S L a1 a2 = some (r, S', L') ∧ pM_rain M a1 a2 = some (r, M') ∧ Rel S' L' M'
def k_Sim_rule (Rel : (Nat → Nat → Int32) → (Nat → Nat → Int64) → (Nat → Nat → Int32) → Prop) : Prop := ∀ (S : Nat → Nat → Int32) (L : Nat → Nat → Int64) (M : Nat → Nat → Int32) (a1 : Int32) (a2 : Int32), Rel S L M → ∃ (r : Int32) (S' : Nat → Nat → Int32) (L' : Nat → Nat → Int64) (M' : Nat → Nat → Int32), pX_rule S L a1 a2 = some (r, S', L') ∧ pM_rule M a1 a2 = some (r, M') ∧ Rel S' L' M'
def k_Sim_thing (Rel : (Nat → Nat → Int32) → (Nat → Nat → Int64) → (Nat → Nat → Int32) → Prop) : Prop := ∀ (S : Nat → Nat → Int32) (L : Nat → Nat → Int64) (M : Nat → Nat → Int32) (a1 : Int32) (a2 : Int32), Rel S L M → ∃ (r : Int32) (S' : Nat → Nat → Int32) (L' : Nat → Nat → Int64) (M' : Nat → Nat → Int32), pX_thing S L a1 a2 = some (r, S', L') ∧ pM_thing M a1 a2 = some (r, M') ∧ Rel S' L' M'
def k_Sim_tackle (Rel : (Nat → Nat → Int32) → (Nat → Nat → Int64) → (Nat → Nat → Int32) → Prop) : Prop := ∀ (S : Nat → Nat → Int32) (L : Nat → Nat → Int64) (M : Nat → Nat → Int32) (a1 : Int32) (a2 : Int32) (a3 : Int32), Rel S L M → ∃ (r : Int32) (S' : Nat → Nat → Int32) (L' : Nat → Nat → Int64) (M' : Nat → Nat → Int32), pX_tackle S L a1 a2 a3 = some (r, S', L') ∧ pM_tackle M a1 a2 a3 = some (r, M') ∧ Rel S' L' M'
def k_Sim_seam (Rel : (Nat → Nat → Int32) → (Nat → Nat → Int64) → (Nat → Nat → Int32) → Prop) : Prop := ∀ (S : Nat → Nat → Int32) (L : Nat → Nat → Int64) (M : Nat → Nat → Int32) (a1 : Int32) (a2 : Int32) (a3 : Int32) (a4 : Int32) (a5 : Int32) (a6 : Int32), Rel S L M → ∃ (r : Int32) (S' : Nat → Nat → Int32) (L' : Nat → Nat → Int64) (M' : Nat → Nat → Int32), pX_seam S L a1 a2 a3 a4 a5 a6 = some (r, S', L') ∧ pM_seam M a1 a2 a3 a4 a5 a6 = some (r, M') ∧ Rel S' L' M'
def k_Sim_ship (Rel : (Nat → Nat → Int32) → (Nat → Nat → Int64) → (Nat → Nat → Int32) → Prop) : Prop := ∀ (S : Nat → Nat → Int32) (L : Nat → Nat → Int64) (M : Nat → Nat → Int32) (a1 : Int32), Rel S L M → ∃ (r : Int32) (S' : Nat → Nat → Int32) (L' : Nat → Nat → Int64) (M' : Nat → Nat → Int32), pX_ship S L a1 = some (r, S', L') ∧ pM_ship M a1 = some (r, M') ∧ Rel S' L' M'
def k_Sim_tackleTold (Rel : (Nat → Nat → Int32) → (Nat → Nat → Int64) → (Nat → Nat → Int32) → Prop) : Prop := ∀ (S : Nat → Nat → Int32) (L : Nat → Nat → Int64) (M : Nat → Nat → Int32) (a1 : Int32) (a2 : Int32), Rel S L M → ∃ (r : Int32) (S' : Nat → Nat → Int32) (L' : Nat → Nat → Int64) (M' : Nat → Nat → Int32), pX_tackleTold S L a1 a2 = some (r, S', L') ∧ pM_tackleTold M a1 a2 = some (r, M') ∧ Rel S' L' M'
def k_Sim_greatest (Rel : (Nat → Nat → Int32) → (Nat → Nat → Int64) → (Nat → Nat → Int32) → Prop) : Prop := ∀ (S : Nat → Nat → Int32) (L : Nat → Nat → Int64) (M : Nat → Nat → Int32) (a1 : Int32), Rel S L M → (a1 = 0 ∨ a1 = 1) → ∃ (r : Int32) (S' : Nat → Nat → Int32) (L' : Nat → Nat → Int64) (M' : Nat → Nat → Int32), pX_greatest S L a1 = some (r, S', L') ∧ pM_greatest M a1 = some (r, M') ∧ Rel S' L' M'
def k_Sim_seamTold (Rel : (Nat → Nat → Int32) → (Nat → Nat → Int64) → (Nat → Nat → Int32) → Prop) : Prop := ∀ (S : Nat → Nat → Int32) (L : Nat → Nat → Int64) (M : Nat → Nat → Int32) (a1 : Int32) (a2 : Int32), Rel S L M → ∃ (r : Int32) (S' : Nat → Nat → Int32) (L' : Nat → Nat → Int64) (M' : Nat → Nat → Int32), pX_seamTold S L a1 a2 = some (r, S', L') ∧ pM_seamTold M a1 a2 = some (r, M') ∧ Rel S' L' M'
def k_Sim_move (Rel : (Nat → Nat → Int32) → (Nat → Nat → Int64) → (Nat → Nat → Int32) → Prop) : Prop := ∀ (S : Nat → Nat → Int32) (L : Nat → Nat → Int64) (M : Nat → Nat → Int32) (a1 : Int32), Rel S L M → ∃ (r : Int32) (S' : Nat → Nat → Int32) (L' : Nat → Nat → Int64) (M' : Nat → Nat → Int32), pX_move S L a1 = some (r, S', L') ∧ pM_move M a1 = some (r, M') ∧ Rel S' L' M'
def k_Sim_heel (Rel : (Nat → Nat → Int32) → (Nat → Nat → Int64) → (Nat → Nat → Int32) → Prop) : Prop := ∀ (S : Nat → Nat → Int32) (L : Nat → Nat → Int64) (M : Nat → Nat → Int32) (a1 : Int32), Rel S L M → ∃ (r : Int32) (S' : Nat → Nat → Int32) (L' : Nat → Nat → Int64) (M' : Nat → Nat → Int32), pX_heel S L a1 = some (r, S', L') ∧ pM_heel M a1 = some (r, M') ∧ Rel S' L' M'
def k_Sim_hour (Rel : (Nat → Nat → Int32) → (Nat → Nat → Int64) → (Nat → Nat → Int32) → Prop) : Prop := ∀ (S : Nat → Nat → Int32) (L : Nat → Nat → Int64) (M : Nat → Nat → Int32) (a1 : Int32), Rel S L M → ∃ (r : Int32) (S' : Nat → Nat → Int32) (L' : Nat → Nat → Int64) (M' : Nat → Nat → Int32), pX_hour S L a1 = some (r, S', L') ∧ pM_hour M a1 = some (r, M') ∧ Rel S' L' M'
def k_Sim_rig (Rel : (Nat → Nat → Int32) → (Nat → Nat → Int64) → (Nat → Nat → Int32) → Prop) : Prop := ∀ (S : Nat → Nat → Int32) (L : Nat → Nat → Int64) (M : Nat → Nat → Int32) (a1 : Int32) (a2 : Int32), Rel S L M → (a2 = 0 ∨ a2 = 1) → ∃ (r : Int32) (S' : Nat → Nat → Int32) (L' : Nat → Nat → Int64) (M' : Nat → Nat → Int32), pX_rig S L a1 a2 = some (r, S', L') ∧ pM_rig M a1 a2 = some (r, M') ∧ Rel S' L' M'
def k_Sim_plan (Rel : (Nat → Nat → Int32) → (Nat → Nat → Int64) → (Nat → Nat → Int32) → Prop) : Prop := ∀ (S : Nat → Nat → Int32) (L : Nat → Nat → Int64) (M : Nat → Nat → Int32) (a1 : Int32) (a2 : Int32), Rel S L M → ∃ (r : Int32) (S' : Nat → Nat → Int32) (L' : Nat → Nat → Int64) (M' : Nat → Nat → Int32), pX_plan S L a1 a2 = some (r, S', L') ∧ pM_plan M a1 a2 = some (r, M') ∧ Rel S' L' M'
def k_Sim_orders (Rel : (Nat → Nat → Int32) → (Nat → Nat → Int64) → (Nat → Nat → Int32) → Prop) : Prop := ∀ (S : Nat → Nat → Int32) (L : Nat → Nat → Int64) (M : Nat → Nat → Int32) (a1 : Int32) (a2 : Int32), Rel S L M → ∃ (r : Int32) (S' : Nat → Nat → Int32) (L' : Nat → Nat → Int64) (M' : Nat → Nat → Int32), pX_orders S L a1 a2 = some (r, S', L') ∧ pM_orders M a1 a2 = some (r, M') ∧ Rel S' L' M'
def k_Sim_toFloat (Rel : (Nat → Nat → Int32) → (Nat → Nat → Int64) → (Nat → Nat → Int32) → Prop) : Prop := ∀ (S : Nat → Nat → Int32) (L : Nat → Nat → Int64) (M : Nat → Nat → Int32) (a1 : Int32), Rel S L M → ∃ (r : Int32) (S' : Nat → Nat → Int32) (L' : Nat → Nat → Int64) (M' : Nat → Nat → Int32), pX_toFloat S L a1 = some (r, S', L') ∧ pM_toFloat M a1 = some (r, M') ∧ Rel S' L' M'
def k_Sim_tap (Rel : (Nat → Nat → Int32) → (Nat → Nat → Int64) → (Nat → Nat → Int32) → Prop) : Prop := ∀ (S : Nat → Nat → Int32) (L : Nat → Nat → Int64) (M : Nat → Nat → Int32) (a1 : Int32) (a2 : Int32), Rel S L M → ∃ (r : Int32) (S' : Nat → Nat → Int32) (L' : Nat → Nat → Int64) (M' : Nat → Nat → Int32), pX_tap S L a1 a2 = some (r, S', L') ∧ pM_tap M a1 a2 = some (r, M') ∧ Rel S' L' M'
def k_Sim_worm (Rel : (Nat → Nat → Int32) → (Nat → Nat → Int64) → (Nat → Nat → Int32) → Prop) : Prop := ∀ (S : Nat → Nat → Int32) (L : Nat → Nat → Int64) (M : Nat → Nat → Int32) (a1 : Int32) (a2 : Int32), Rel S L M → ∃ (r : Int32) (S' : Nat → Nat → Int32) (L' : Nat → Nat → Int64) (M' : Nat → Nat → Int32), pX_worm S L a1 a2 = some (r, S', L') ∧ pM_worm M a1 a2 = some (r, M') ∧ Rel S' L' M'
def k_Sim_book (Rel : (Nat → Nat → Int32) → (Nat → Nat → Int64) → (Nat → Nat → Int32) → Prop) : Prop := ∀ (S : Nat → Nat → Int32) (L : Nat → Nat → Int64) (M : Nat → Nat → Int32) (a1 : Int32), Rel S L M → ∃ (r : Int32) (S' : Nat → Nat → Int32) (L' : Nat → Nat → Int64) (M' : Nat → Nat → Int32), pX_book S L a1 = some (r, S', L') ∧ pM_book M a1 = some (r, M') ∧ Rel S' L' M'
def k_Sim_keep (Rel : (Nat → Nat → Int32) → (Nat → Nat → Int64) → (Nat → Nat → Int32) → Prop) : Prop := ∀ (S : Nat → Nat → Int32) (L : Nat → Nat → Int64) (M : Nat → Nat → Int32), Rel S L M → ∃ (r : Int32) (S' : Nat → Nat → Int32) (L' : Nat → Nat → Int64) (M' : Nat → Nat → Int32), pX_keep S L = some (r, S', L') ∧ pM_keep M = some (r, M') ∧ Rel S' L' M'
def k_Sim_back (Rel : (Nat → Nat → Int32) → (Nat → Nat → Int64) → (Nat → Nat → Int32) → Prop) : Prop := ∀ (S : Nat → Nat → Int32) (L : Nat → Nat → Int64) (M : Nat → Nat → Int32), Rel S L M → ∃ (r : Int32) (S' : Nat → Nat → Int32) (L' : Nat → Nat → Int64) (M' : Nat → Nat → Int32), pX_back S L = some (r, S', L') ∧ pM_back M = some (r, M') ∧ Rel S' L' M'
def k_Sim_count (Rel : (Nat → Nat → Int32) → (Nat → Nat → Int64) → (Nat → Nat → Int32) → Prop) : Prop := ∀ (S : Nat → Nat → Int32) (L : Nat → Nat → Int64) (M : Nat → Nat → Int32) (a1 : Int32), Rel S L M → ∃ (r : Int32) (S' : Nat → Nat → Int32) (L' : Nat → Nat → Int64) (M' : Nat → Nat → Int32), pX_count S L a1 = some (r, S', L') ∧ pM_count M a1 = some (r, M') ∧ Rel S' L' M'
